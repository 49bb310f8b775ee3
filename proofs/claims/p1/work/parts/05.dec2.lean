theorem kd_R_init_0 : decode kb_R_init 0 = .ok (.aload_n 0, 1) := by decide +kernel
theorem kd_R_init_1 : decode kb_R_init 1 = .ok (.invokespecial 3, 3) := by decide +kernel
theorem kd_R_init_4 : decode kb_R_init 4 = .ok (.aload_n 0, 1) := by decide +kernel
theorem kd_R_init_5 : decode kb_R_init 5 = .ok (.bipush 10, 2) := by decide +kernel
theorem kd_R_init_7 : decode kb_R_init 7 = .ok (.newarray .int, 2) := by decide +kernel
theorem kd_R_init_9 : decode kb_R_init 9 = .ok (.putfield 9, 3) := by decide +kernel
theorem kd_R_init_12 : decode kb_R_init 12 = .ok (.aload_n 0, 1) := by decide +kernel
theorem kd_R_init_13 : decode kb_R_init 13 = .ok (.bipush 10, 2) := by decide +kernel
theorem kd_R_init_15 : decode kb_R_init 15 = .ok (.newarray .int, 2) := by decide +kernel
theorem kd_R_init_17 : decode kb_R_init 17 = .ok (.putfield 15, 3) := by decide +kernel
theorem kd_R_init_20 : decode kb_R_init 20 = .ok (.aload_n 0, 1) := by decide +kernel
theorem kd_R_init_21 : decode kb_R_init 21 = .ok (.aload_n 1, 1) := by decide +kernel
theorem kd_R_init_22 : decode kb_R_init 22 = .ok (.putfield 18, 3) := by decide +kernel
theorem kd_R_init_25 : decode kb_R_init 25 = .ok (.aload_n 0, 1) := by decide +kernel
theorem kd_R_init_26 : decode kb_R_init 26 = .ok (.aload_n 2, 1) := by decide +kernel
theorem kd_R_init_27 : decode kb_R_init 27 = .ok (.putfield 22, 3) := by decide +kernel
theorem kd_R_init_30 : decode kb_R_init 30 = .ok (.return_, 1) := by decide +kernel
theorem kd_R_partsOfNet_0 : decode kb_R_partsOfNet 0 = .ok (.aload_n 0, 1) := by decide +kernel
theorem kd_R_partsOfNet_1 : decode kb_R_partsOfNet 1 = .ok (.getfield 18, 3) := by decide +kernel
theorem kd_R_partsOfNet_4 : decode kb_R_partsOfNet 4 = .ok (.aload_n 0, 1) := by decide +kernel
theorem kd_R_partsOfNet_5 : decode kb_R_partsOfNet 5 = .ok (.getfield 22, 3) := by decide +kernel
theorem kd_R_partsOfNet_8 : decode kb_R_partsOfNet 8 = .ok (.invokevirtual 26, 3) := by decide +kernel
theorem kd_R_partsOfNet_11 : decode kb_R_partsOfNet 11 = .ok (.pop, 1) := by decide +kernel
theorem kd_R_partsOfNet_12 : decode kb_R_partsOfNet 12 = .ok (.aload_n 0, 1) := by decide +kernel
theorem kd_R_partsOfNet_13 : decode kb_R_partsOfNet 13 = .ok (.getfield 22, 3) := by decide +kernel
theorem kd_R_partsOfNet_16 : decode kb_R_partsOfNet 16 = .ok (.getfield 32, 3) := by decide +kernel
theorem kd_R_partsOfNet_19 : decode kb_R_partsOfNet 19 = .ok (.ireturn, 1) := by decide +kernel
theorem kd_R_count_0 : decode kb_R_count 0 = .ok (.aload_n 0, 1) := by decide +kernel
theorem kd_R_count_1 : decode kb_R_count 1 = .ok (.getfield 18, 3) := by decide +kernel
theorem kd_R_count_4 : decode kb_R_count 4 = .ok (.getfield 38, 3) := by decide +kernel
theorem kd_R_count_7 : decode kb_R_count 7 = .ok (.aload_n 0, 1) := by decide +kernel
theorem kd_R_count_8 : decode kb_R_count 8 = .ok (.getfield 18, 3) := by decide +kernel
theorem kd_R_count_11 : decode kb_R_count 11 = .ok (.aload_n 0, 1) := by decide +kernel
theorem kd_R_count_12 : decode kb_R_count 12 = .ok (.getfield 22, 3) := by decide +kernel
theorem kd_R_count_15 : decode kb_R_count 15 = .ok (.invokevirtual 26, 3) := by decide +kernel
theorem kd_R_count_18 : decode kb_R_count 18 = .ok (.invokestatic 41, 3) := by decide +kernel
theorem kd_R_count_21 : decode kb_R_count 21 = .ok (.isub, 1) := by decide +kernel
theorem kd_R_count_22 : decode kb_R_count 22 = .ok (.ireturn, 1) := by decide +kernel
theorem kd_R_lay_0 : decode kb_R_lay 0 = .ok (.aload_n 0, 1) := by decide +kernel
theorem kd_R_lay_1 : decode kb_R_lay 1 = .ok (.iconst 0, 1) := by decide +kernel
theorem kd_R_lay_2 : decode kb_R_lay 2 = .ok (.putfield 47, 3) := by decide +kernel
theorem kd_R_lay_5 : decode kb_R_lay 5 = .ok (.aload_n 0, 1) := by decide +kernel
theorem kd_R_lay_6 : decode kb_R_lay 6 = .ok (.getfield 18, 3) := by decide +kernel
theorem kd_R_lay_9 : decode kb_R_lay 9 = .ok (.aload_n 0, 1) := by decide +kernel
theorem kd_R_lay_10 : decode kb_R_lay 10 = .ok (.getfield 22, 3) := by decide +kernel
theorem kd_R_lay_13 : decode kb_R_lay 13 = .ok (.invokevirtual 26, 3) := by decide +kernel
theorem kd_R_lay_16 : decode kb_R_lay 16 = .ok (.istore_n 2, 1) := by decide +kernel
theorem kd_R_lay_17 : decode kb_R_lay 17 = .ok (.aload_n 0, 1) := by decide +kernel
theorem kd_R_lay_18 : decode kb_R_lay 18 = .ok (.iload_n 2, 1) := by decide +kernel
theorem kd_R_lay_19 : decode kb_R_lay 19 = .ok (.iload_n 1, 1) := by decide +kernel
theorem kd_R_lay_20 : decode kb_R_lay 20 = .ok (.invokevirtual 50, 3) := by decide +kernel
theorem kd_R_lay_23 : decode kb_R_lay 23 = .ok (.istore_n 3, 1) := by decide +kernel
theorem kd_R_lay_24 : decode kb_R_lay 24 = .ok (.iload_n 3, 1) := by decide +kernel
theorem kd_R_lay_25 : decode kb_R_lay 25 = .ok (.iconst (-1), 1) := by decide +kernel
theorem kd_R_lay_26 : decode kb_R_lay 26 = .ok (.if_icmp .ne 4, 3) := by decide +kernel
theorem kd_R_lay_29 : decode kb_R_lay 29 = .ok (.return_, 1) := by decide +kernel
theorem kd_R_lay_30 : decode kb_R_lay 30 = .ok (.aload_n 0, 1) := by decide +kernel
theorem kd_R_lay_31 : decode kb_R_lay 31 = .ok (.getfield 9, 3) := by decide +kernel
theorem kd_R_lay_34 : decode kb_R_lay 34 = .ok (.aload_n 0, 1) := by decide +kernel
theorem kd_R_lay_35 : decode kb_R_lay 35 = .ok (.dup, 1) := by decide +kernel
theorem kd_R_lay_36 : decode kb_R_lay 36 = .ok (.getfield 47, 3) := by decide +kernel
theorem kd_R_lay_39 : decode kb_R_lay 39 = .ok (.dup_x1, 1) := by decide +kernel
theorem kd_R_lay_40 : decode kb_R_lay 40 = .ok (.iconst 1, 1) := by decide +kernel
theorem kd_R_lay_41 : decode kb_R_lay 41 = .ok (.iadd, 1) := by decide +kernel
theorem kd_R_lay_42 : decode kb_R_lay 42 = .ok (.putfield 47, 3) := by decide +kernel
theorem kd_R_lay_45 : decode kb_R_lay 45 = .ok (.iload_n 3, 1) := by decide +kernel
theorem kd_R_lay_46 : decode kb_R_lay 46 = .ok (.iastore, 1) := by decide +kernel
theorem kd_R_lay_47 : decode kb_R_lay 47 = .ok (.aload_n 0, 1) := by decide +kernel
theorem kd_R_lay_48 : decode kb_R_lay 48 = .ok (.getfield 18, 3) := by decide +kernel
theorem kd_R_lay_51 : decode kb_R_lay 51 = .ok (.getfield 54, 3) := by decide +kernel
theorem kd_R_lay_54 : decode kb_R_lay 54 = .ok (.iload_n 3, 1) := by decide +kernel
theorem kd_R_lay_55 : decode kb_R_lay 55 = .ok (.iaload, 1) := by decide +kernel
theorem kd_R_lay_56 : decode kb_R_lay 56 = .ok (.istore 4, 2) := by decide +kernel
theorem kd_R_lay_58 : decode kb_R_lay 58 = .ok (.aload_n 0, 1) := by decide +kernel
theorem kd_R_lay_59 : decode kb_R_lay 59 = .ok (.iload_n 2, 1) := by decide +kernel
theorem kd_R_lay_60 : decode kb_R_lay 60 = .ok (.iload 4, 2) := by decide +kernel
theorem kd_R_lay_62 : decode kb_R_lay 62 = .ok (.invokevirtual 57, 3) := by decide +kernel
theorem kd_R_lay_65 : decode kb_R_lay 65 = .ok (.aload_n 0, 1) := by decide +kernel
theorem kd_R_lay_66 : decode kb_R_lay 66 = .ok (.getfield 18, 3) := by decide +kernel
theorem kd_R_lay_69 : decode kb_R_lay 69 = .ok (.getfield 61, 3) := by decide +kernel
theorem kd_R_lay_72 : decode kb_R_lay 72 = .ok (.iload_n 3, 1) := by decide +kernel
theorem kd_R_lay_73 : decode kb_R_lay 73 = .ok (.iaload, 1) := by decide +kernel
theorem kd_R_lay_74 : decode kb_R_lay 74 = .ok (.istore 5, 2) := by decide +kernel
theorem kd_R_lay_76 : decode kb_R_lay 76 = .ok (.iload 5, 2) := by decide +kernel
theorem kd_R_lay_78 : decode kb_R_lay 78 = .ok (.iload 4, 2) := by decide +kernel
theorem kd_R_lay_80 : decode kb_R_lay 80 = .ok (.if_icmp .eq 96, 3) := by decide +kernel
theorem kd_R_lay_83 : decode kb_R_lay 83 = .ok (.aload_n 0, 1) := by decide +kernel
theorem kd_R_lay_84 : decode kb_R_lay 84 = .ok (.getfield 15, 3) := by decide +kernel
theorem kd_R_lay_87 : decode kb_R_lay 87 = .ok (.iload 5, 2) := by decide +kernel
theorem kd_R_lay_89 : decode kb_R_lay 89 = .ok (.iaload, 1) := by decide +kernel
theorem kd_R_lay_90 : decode kb_R_lay 90 = .ok (.iconst (-1), 1) := by decide +kernel
theorem kd_R_lay_91 : decode kb_R_lay 91 = .ok (.if_icmp .eq 85, 3) := by decide +kernel
theorem kd_R_lay_94 : decode kb_R_lay 94 = .ok (.aload_n 0, 1) := by decide +kernel
theorem kd_R_lay_95 : decode kb_R_lay 95 = .ok (.getfield 47, 3) := by decide +kernel
theorem kd_R_lay_98 : decode kb_R_lay 98 = .ok (.aload_n 0, 1) := by decide +kernel
theorem kd_R_lay_99 : decode kb_R_lay 99 = .ok (.getfield 9, 3) := by decide +kernel
theorem kd_R_lay_102 : decode kb_R_lay 102 = .ok (.arraylength, 1) := by decide +kernel
theorem kd_R_lay_103 : decode kb_R_lay 103 = .ok (.if_icmp .ge 73, 3) := by decide +kernel
theorem kd_R_lay_106 : decode kb_R_lay 106 = .ok (.aload_n 0, 1) := by decide +kernel
theorem kd_R_lay_107 : decode kb_R_lay 107 = .ok (.getfield 15, 3) := by decide +kernel
theorem kd_R_lay_110 : decode kb_R_lay 110 = .ok (.iload 5, 2) := by decide +kernel
theorem kd_R_lay_112 : decode kb_R_lay 112 = .ok (.iaload, 1) := by decide +kernel
theorem kd_R_lay_113 : decode kb_R_lay 113 = .ok (.istore 6, 2) := by decide +kernel
theorem kd_R_lay_115 : decode kb_R_lay 115 = .ok (.aload_n 0, 1) := by decide +kernel
theorem kd_R_lay_116 : decode kb_R_lay 116 = .ok (.getfield 9, 3) := by decide +kernel
theorem kd_R_lay_119 : decode kb_R_lay 119 = .ok (.aload_n 0, 1) := by decide +kernel
theorem kd_R_lay_120 : decode kb_R_lay 120 = .ok (.dup, 1) := by decide +kernel
theorem kd_R_lay_121 : decode kb_R_lay 121 = .ok (.getfield 47, 3) := by decide +kernel
theorem kd_R_lay_124 : decode kb_R_lay 124 = .ok (.dup_x1, 1) := by decide +kernel
theorem kd_R_lay_125 : decode kb_R_lay 125 = .ok (.iconst 1, 1) := by decide +kernel
theorem kd_R_lay_126 : decode kb_R_lay 126 = .ok (.iadd, 1) := by decide +kernel
theorem kd_R_lay_127 : decode kb_R_lay 127 = .ok (.putfield 47, 3) := by decide +kernel
theorem kd_R_lay_130 : decode kb_R_lay 130 = .ok (.iload 6, 2) := by decide +kernel
theorem kd_R_lay_132 : decode kb_R_lay 132 = .ok (.iastore, 1) := by decide +kernel
theorem kd_R_lay_133 : decode kb_R_lay 133 = .ok (.aload_n 0, 1) := by decide +kernel
theorem kd_R_lay_134 : decode kb_R_lay 134 = .ok (.getfield 18, 3) := by decide +kernel
theorem kd_R_lay_137 : decode kb_R_lay 137 = .ok (.getfield 54, 3) := by decide +kernel
theorem kd_R_lay_140 : decode kb_R_lay 140 = .ok (.iload 6, 2) := by decide +kernel
theorem kd_R_lay_142 : decode kb_R_lay 142 = .ok (.iaload, 1) := by decide +kernel
theorem kd_R_lay_143 : decode kb_R_lay 143 = .ok (.iload 5, 2) := by decide +kernel
theorem kd_R_lay_145 : decode kb_R_lay 145 = .ok (.if_icmp .ne 16, 3) := by decide +kernel
theorem kd_R_lay_148 : decode kb_R_lay 148 = .ok (.aload_n 0, 1) := by decide +kernel
theorem kd_R_lay_149 : decode kb_R_lay 149 = .ok (.getfield 18, 3) := by decide +kernel
theorem kd_R_lay_152 : decode kb_R_lay 152 = .ok (.getfield 61, 3) := by decide +kernel
theorem kd_R_lay_155 : decode kb_R_lay 155 = .ok (.iload 6, 2) := by decide +kernel
theorem kd_R_lay_157 : decode kb_R_lay 157 = .ok (.iaload, 1) := by decide +kernel
theorem kd_R_lay_158 : decode kb_R_lay 158 = .ok (.goto 13, 3) := by decide +kernel
theorem kd_R_lay_161 : decode kb_R_lay 161 = .ok (.aload_n 0, 1) := by decide +kernel
theorem kd_R_lay_162 : decode kb_R_lay 162 = .ok (.getfield 18, 3) := by decide +kernel
theorem kd_R_lay_165 : decode kb_R_lay 165 = .ok (.getfield 54, 3) := by decide +kernel
theorem kd_R_lay_168 : decode kb_R_lay 168 = .ok (.iload 6, 2) := by decide +kernel
theorem kd_R_lay_170 : decode kb_R_lay 170 = .ok (.iaload, 1) := by decide +kernel
theorem kd_R_lay_171 : decode kb_R_lay 171 = .ok (.istore 5, 2) := by decide +kernel
theorem kd_R_lay_173 : decode kb_R_lay 173 = .ok (.goto (-97), 3) := by decide +kernel
theorem kd_R_lay_176 : decode kb_R_lay 176 = .ok (.return_, 1) := by decide +kernel
theorem kd_R_untaken_0 : decode kb_R_untaken 0 = .ok (.iconst 0, 1) := by decide +kernel
theorem kd_R_untaken_1 : decode kb_R_untaken 1 = .ok (.istore_n 3, 1) := by decide +kernel
theorem kd_R_untaken_2 : decode kb_R_untaken 2 = .ok (.iconst 0, 1) := by decide +kernel
theorem kd_R_untaken_3 : decode kb_R_untaken 3 = .ok (.istore 4, 2) := by decide +kernel
theorem kd_R_untaken_5 : decode kb_R_untaken 5 = .ok (.iload 4, 2) := by decide +kernel
theorem kd_R_untaken_7 : decode kb_R_untaken 7 = .ok (.aload_n 0, 1) := by decide +kernel
theorem kd_R_untaken_8 : decode kb_R_untaken 8 = .ok (.getfield 18, 3) := by decide +kernel
theorem kd_R_untaken_11 : decode kb_R_untaken 11 = .ok (.getfield 38, 3) := by decide +kernel
theorem kd_R_untaken_14 : decode kb_R_untaken 14 = .ok (.if_icmp .ge 29, 3) := by decide +kernel
theorem kd_R_untaken_17 : decode kb_R_untaken 17 = .ok (.iload_n 1, 1) := by decide +kernel
theorem kd_R_untaken_18 : decode kb_R_untaken 18 = .ok (.iload 4, 2) := by decide +kernel
theorem kd_R_untaken_20 : decode kb_R_untaken 20 = .ok (.ishr, 1) := by decide +kernel
theorem kd_R_untaken_21 : decode kb_R_untaken 21 = .ok (.iconst 1, 1) := by decide +kernel
theorem kd_R_untaken_22 : decode kb_R_untaken 22 = .ok (.iand, 1) := by decide +kernel
theorem kd_R_untaken_23 : decode kb_R_untaken 23 = .ok (.ifCond .ne 14, 3) := by decide +kernel
theorem kd_R_untaken_26 : decode kb_R_untaken 26 = .ok (.iload_n 3, 1) := by decide +kernel
theorem kd_R_untaken_27 : decode kb_R_untaken 27 = .ok (.iload_n 2, 1) := by decide +kernel
theorem kd_R_untaken_28 : decode kb_R_untaken 28 = .ok (.if_icmp .ne 6, 3) := by decide +kernel
theorem kd_R_untaken_31 : decode kb_R_untaken 31 = .ok (.iload 4, 2) := by decide +kernel
theorem kd_R_untaken_33 : decode kb_R_untaken 33 = .ok (.ireturn, 1) := by decide +kernel
theorem kd_R_untaken_34 : decode kb_R_untaken 34 = .ok (.iinc 3 1, 3) := by decide +kernel
theorem kd_R_untaken_37 : decode kb_R_untaken 37 = .ok (.iinc 4 1, 3) := by decide +kernel
theorem kd_R_untaken_40 : decode kb_R_untaken 40 = .ok (.goto (-35), 3) := by decide +kernel
theorem kd_R_untaken_43 : decode kb_R_untaken 43 = .ok (.iconst (-1), 1) := by decide +kernel
theorem kd_R_untaken_44 : decode kb_R_untaken 44 = .ok (.ireturn, 1) := by decide +kernel
theorem kd_R_findWaysBack_0 : decode kb_R_findWaysBack 0 = .ok (.iconst 0, 1) := by decide +kernel
theorem kd_R_findWaysBack_1 : decode kb_R_findWaysBack 1 = .ok (.istore_n 3, 1) := by decide +kernel
theorem kd_R_findWaysBack_2 : decode kb_R_findWaysBack 2 = .ok (.iload_n 3, 1) := by decide +kernel
theorem kd_R_findWaysBack_3 : decode kb_R_findWaysBack 3 = .ok (.aload_n 0, 1) := by decide +kernel
theorem kd_R_findWaysBack_4 : decode kb_R_findWaysBack 4 = .ok (.getfield 18, 3) := by decide +kernel
theorem kd_R_findWaysBack_7 : decode kb_R_findWaysBack 7 = .ok (.getfield 64, 3) := by decide +kernel
theorem kd_R_findWaysBack_10 : decode kb_R_findWaysBack 10 = .ok (.if_icmp .ge 16, 3) := by decide +kernel
theorem kd_R_findWaysBack_13 : decode kb_R_findWaysBack 13 = .ok (.aload_n 0, 1) := by decide +kernel
theorem kd_R_findWaysBack_14 : decode kb_R_findWaysBack 14 = .ok (.getfield 15, 3) := by decide +kernel
theorem kd_R_findWaysBack_17 : decode kb_R_findWaysBack 17 = .ok (.iload_n 3, 1) := by decide +kernel
theorem kd_R_findWaysBack_18 : decode kb_R_findWaysBack 18 = .ok (.iconst (-1), 1) := by decide +kernel
theorem kd_R_findWaysBack_19 : decode kb_R_findWaysBack 19 = .ok (.iastore, 1) := by decide +kernel
theorem kd_R_findWaysBack_20 : decode kb_R_findWaysBack 20 = .ok (.iinc 3 1, 3) := by decide +kernel
theorem kd_R_findWaysBack_23 : decode kb_R_findWaysBack 23 = .ok (.goto (-21), 3) := by decide +kernel
theorem kd_R_findWaysBack_26 : decode kb_R_findWaysBack 26 = .ok (.iconst 1, 1) := by decide +kernel
theorem kd_R_findWaysBack_27 : decode kb_R_findWaysBack 27 = .ok (.iload_n 2, 1) := by decide +kernel
theorem kd_R_findWaysBack_28 : decode kb_R_findWaysBack 28 = .ok (.ishl, 1) := by decide +kernel
theorem kd_R_findWaysBack_29 : decode kb_R_findWaysBack 29 = .ok (.istore_n 3, 1) := by decide +kernel
theorem kd_R_findWaysBack_30 : decode kb_R_findWaysBack 30 = .ok (.iconst 1, 1) := by decide +kernel
theorem kd_R_findWaysBack_31 : decode kb_R_findWaysBack 31 = .ok (.istore 4, 2) := by decide +kernel
theorem kd_R_findWaysBack_33 : decode kb_R_findWaysBack 33 = .ok (.iload 4, 2) := by decide +kernel
theorem kd_R_findWaysBack_35 : decode kb_R_findWaysBack 35 = .ok (.aload_n 0, 1) := by decide +kernel
theorem kd_R_findWaysBack_36 : decode kb_R_findWaysBack 36 = .ok (.getfield 18, 3) := by decide +kernel
theorem kd_R_findWaysBack_39 : decode kb_R_findWaysBack 39 = .ok (.getfield 64, 3) := by decide +kernel
theorem kd_R_findWaysBack_42 : decode kb_R_findWaysBack 42 = .ok (.if_icmp .ge 48, 3) := by decide +kernel
theorem kd_R_findWaysBack_45 : decode kb_R_findWaysBack 45 = .ok (.iconst 0, 1) := by decide +kernel
theorem kd_R_findWaysBack_46 : decode kb_R_findWaysBack 46 = .ok (.istore 5, 2) := by decide +kernel
theorem kd_R_findWaysBack_48 : decode kb_R_findWaysBack 48 = .ok (.iload 5, 2) := by decide +kernel
theorem kd_R_findWaysBack_50 : decode kb_R_findWaysBack 50 = .ok (.aload_n 0, 1) := by decide +kernel
theorem kd_R_findWaysBack_51 : decode kb_R_findWaysBack 51 = .ok (.getfield 18, 3) := by decide +kernel
theorem kd_R_findWaysBack_54 : decode kb_R_findWaysBack 54 = .ok (.getfield 38, 3) := by decide +kernel
theorem kd_R_findWaysBack_57 : decode kb_R_findWaysBack 57 = .ok (.if_icmp .ge 27, 3) := by decide +kernel
theorem kd_R_findWaysBack_60 : decode kb_R_findWaysBack 60 = .ok (.iload_n 1, 1) := by decide +kernel
theorem kd_R_findWaysBack_61 : decode kb_R_findWaysBack 61 = .ok (.iload 5, 2) := by decide +kernel
theorem kd_R_findWaysBack_63 : decode kb_R_findWaysBack 63 = .ok (.ishr, 1) := by decide +kernel
theorem kd_R_findWaysBack_64 : decode kb_R_findWaysBack 64 = .ok (.iconst 1, 1) := by decide +kernel
theorem kd_R_findWaysBack_65 : decode kb_R_findWaysBack 65 = .ok (.iand, 1) := by decide +kernel
theorem kd_R_findWaysBack_66 : decode kb_R_findWaysBack 66 = .ok (.iconst 1, 1) := by decide +kernel
theorem kd_R_findWaysBack_67 : decode kb_R_findWaysBack 67 = .ok (.if_icmp .ne 11, 3) := by decide +kernel
theorem kd_R_findWaysBack_70 : decode kb_R_findWaysBack 70 = .ok (.aload_n 0, 1) := by decide +kernel
theorem kd_R_findWaysBack_71 : decode kb_R_findWaysBack 71 = .ok (.iload 5, 2) := by decide +kernel
theorem kd_R_findWaysBack_73 : decode kb_R_findWaysBack 73 = .ok (.iload_n 3, 1) := by decide +kernel
theorem kd_R_findWaysBack_74 : decode kb_R_findWaysBack 74 = .ok (.invokevirtual 67, 3) := by decide +kernel
theorem kd_R_findWaysBack_77 : decode kb_R_findWaysBack 77 = .ok (.istore_n 3, 1) := by decide +kernel
theorem kd_R_findWaysBack_78 : decode kb_R_findWaysBack 78 = .ok (.iinc 5 1, 3) := by decide +kernel
theorem kd_R_findWaysBack_81 : decode kb_R_findWaysBack 81 = .ok (.goto (-33), 3) := by decide +kernel
theorem kd_R_findWaysBack_84 : decode kb_R_findWaysBack 84 = .ok (.iinc 4 1, 3) := by decide +kernel
theorem kd_R_findWaysBack_87 : decode kb_R_findWaysBack 87 = .ok (.goto (-54), 3) := by decide +kernel
theorem kd_R_findWaysBack_90 : decode kb_R_findWaysBack 90 = .ok (.return_, 1) := by decide +kernel
theorem kd_R_reach_0 : decode kb_R_reach 0 = .ok (.iload_n 2, 1) := by decide +kernel
theorem kd_R_reach_1 : decode kb_R_reach 1 = .ok (.aload_n 0, 1) := by decide +kernel
theorem kd_R_reach_2 : decode kb_R_reach 2 = .ok (.getfield 18, 3) := by decide +kernel
theorem kd_R_reach_5 : decode kb_R_reach 5 = .ok (.getfield 54, 3) := by decide +kernel
theorem kd_R_reach_8 : decode kb_R_reach 8 = .ok (.iload_n 1, 1) := by decide +kernel
theorem kd_R_reach_9 : decode kb_R_reach 9 = .ok (.iaload, 1) := by decide +kernel
theorem kd_R_reach_10 : decode kb_R_reach 10 = .ok (.ishr, 1) := by decide +kernel
theorem kd_R_reach_11 : decode kb_R_reach 11 = .ok (.iconst 1, 1) := by decide +kernel
theorem kd_R_reach_12 : decode kb_R_reach 12 = .ok (.iand, 1) := by decide +kernel
theorem kd_R_reach_13 : decode kb_R_reach 13 = .ok (.iconst 1, 1) := by decide +kernel
theorem kd_R_reach_14 : decode kb_R_reach 14 = .ok (.if_icmp .ne 7, 3) := by decide +kernel
theorem kd_R_reach_17 : decode kb_R_reach 17 = .ok (.iconst 1, 1) := by decide +kernel
theorem kd_R_reach_18 : decode kb_R_reach 18 = .ok (.goto 4, 3) := by decide +kernel
theorem kd_R_reach_21 : decode kb_R_reach 21 = .ok (.iconst 0, 1) := by decide +kernel
theorem kd_R_reach_22 : decode kb_R_reach 22 = .ok (.istore_n 3, 1) := by decide +kernel
theorem kd_R_reach_23 : decode kb_R_reach 23 = .ok (.iload_n 2, 1) := by decide +kernel
theorem kd_R_reach_24 : decode kb_R_reach 24 = .ok (.aload_n 0, 1) := by decide +kernel
theorem kd_R_reach_25 : decode kb_R_reach 25 = .ok (.getfield 18, 3) := by decide +kernel
theorem kd_R_reach_28 : decode kb_R_reach 28 = .ok (.getfield 61, 3) := by decide +kernel
theorem kd_R_reach_31 : decode kb_R_reach 31 = .ok (.iload_n 1, 1) := by decide +kernel
theorem kd_R_reach_32 : decode kb_R_reach 32 = .ok (.iaload, 1) := by decide +kernel
theorem kd_R_reach_33 : decode kb_R_reach 33 = .ok (.ishr, 1) := by decide +kernel
theorem kd_R_reach_34 : decode kb_R_reach 34 = .ok (.iconst 1, 1) := by decide +kernel
theorem kd_R_reach_35 : decode kb_R_reach 35 = .ok (.iand, 1) := by decide +kernel
theorem kd_R_reach_36 : decode kb_R_reach 36 = .ok (.iconst 1, 1) := by decide +kernel
theorem kd_R_reach_37 : decode kb_R_reach 37 = .ok (.if_icmp .ne 7, 3) := by decide +kernel
theorem kd_R_reach_40 : decode kb_R_reach 40 = .ok (.iconst 1, 1) := by decide +kernel
theorem kd_R_reach_41 : decode kb_R_reach 41 = .ok (.goto 4, 3) := by decide +kernel
theorem kd_R_reach_44 : decode kb_R_reach 44 = .ok (.iconst 0, 1) := by decide +kernel
theorem kd_R_reach_45 : decode kb_R_reach 45 = .ok (.istore 4, 2) := by decide +kernel
theorem kd_R_reach_47 : decode kb_R_reach 47 = .ok (.iload_n 3, 1) := by decide +kernel
theorem kd_R_reach_48 : decode kb_R_reach 48 = .ok (.iload 4, 2) := by decide +kernel
theorem kd_R_reach_50 : decode kb_R_reach 50 = .ok (.if_icmp .ne 5, 3) := by decide +kernel
theorem kd_R_reach_53 : decode kb_R_reach 53 = .ok (.iload_n 2, 1) := by decide +kernel
theorem kd_R_reach_54 : decode kb_R_reach 54 = .ok (.ireturn, 1) := by decide +kernel
theorem kd_R_reach_55 : decode kb_R_reach 55 = .ok (.iload_n 3, 1) := by decide +kernel
theorem kd_R_reach_56 : decode kb_R_reach 56 = .ok (.ifCond .eq 15, 3) := by decide +kernel
theorem kd_R_reach_59 : decode kb_R_reach 59 = .ok (.aload_n 0, 1) := by decide +kernel
theorem kd_R_reach_60 : decode kb_R_reach 60 = .ok (.getfield 18, 3) := by decide +kernel
theorem kd_R_reach_63 : decode kb_R_reach 63 = .ok (.getfield 61, 3) := by decide +kernel
theorem kd_R_reach_66 : decode kb_R_reach 66 = .ok (.iload_n 1, 1) := by decide +kernel
theorem kd_R_reach_67 : decode kb_R_reach 67 = .ok (.iaload, 1) := by decide +kernel
theorem kd_R_reach_68 : decode kb_R_reach 68 = .ok (.goto 12, 3) := by decide +kernel
theorem kd_R_reach_71 : decode kb_R_reach 71 = .ok (.aload_n 0, 1) := by decide +kernel
theorem kd_R_reach_72 : decode kb_R_reach 72 = .ok (.getfield 18, 3) := by decide +kernel
theorem kd_R_reach_75 : decode kb_R_reach 75 = .ok (.getfield 54, 3) := by decide +kernel
theorem kd_R_reach_78 : decode kb_R_reach 78 = .ok (.iload_n 1, 1) := by decide +kernel
theorem kd_R_reach_79 : decode kb_R_reach 79 = .ok (.iaload, 1) := by decide +kernel
theorem kd_R_reach_80 : decode kb_R_reach 80 = .ok (.istore 5, 2) := by decide +kernel
theorem kd_R_reach_82 : decode kb_R_reach 82 = .ok (.aload_n 0, 1) := by decide +kernel
theorem kd_R_reach_83 : decode kb_R_reach 83 = .ok (.getfield 15, 3) := by decide +kernel
theorem kd_R_reach_86 : decode kb_R_reach 86 = .ok (.iload 5, 2) := by decide +kernel
theorem kd_R_reach_88 : decode kb_R_reach 88 = .ok (.iload_n 1, 1) := by decide +kernel
theorem kd_R_reach_89 : decode kb_R_reach 89 = .ok (.iastore, 1) := by decide +kernel
theorem kd_R_reach_90 : decode kb_R_reach 90 = .ok (.iload_n 2, 1) := by decide +kernel
theorem kd_R_reach_91 : decode kb_R_reach 91 = .ok (.iconst 1, 1) := by decide +kernel
theorem kd_R_reach_92 : decode kb_R_reach 92 = .ok (.iload 5, 2) := by decide +kernel
theorem kd_R_reach_94 : decode kb_R_reach 94 = .ok (.ishl, 1) := by decide +kernel
theorem kd_R_reach_95 : decode kb_R_reach 95 = .ok (.ior, 1) := by decide +kernel
theorem kd_R_reach_96 : decode kb_R_reach 96 = .ok (.ireturn, 1) := by decide +kernel
theorem kd_U_init_0 : decode kb_U_init 0 = .ok (.aload_n 0, 1) := by decide +kernel
theorem kd_U_init_1 : decode kb_U_init 1 = .ok (.invokespecial 3, 3) := by decide +kernel
theorem kd_U_init_4 : decode kb_U_init 4 = .ok (.aload_n 0, 1) := by decide +kernel
theorem kd_U_init_5 : decode kb_U_init 5 = .ok (.bipush 10, 2) := by decide +kernel
theorem kd_U_init_7 : decode kb_U_init 7 = .ok (.newarray .long, 2) := by decide +kernel
theorem kd_U_init_9 : decode kb_U_init 9 = .ok (.putfield 9, 3) := by decide +kernel
theorem kd_U_init_12 : decode kb_U_init 12 = .ok (.aload_n 0, 1) := by decide +kernel
theorem kd_U_init_13 : decode kb_U_init 13 = .ok (.aload_n 1, 1) := by decide +kernel
theorem kd_U_init_14 : decode kb_U_init 14 = .ok (.putfield 15, 3) := by decide +kernel
theorem kd_U_init_17 : decode kb_U_init 17 = .ok (.aload_n 0, 1) := by decide +kernel
theorem kd_U_init_18 : decode kb_U_init 18 = .ok (.aload_n 2, 1) := by decide +kernel
theorem kd_U_init_19 : decode kb_U_init 19 = .ok (.putfield 19, 3) := by decide +kernel
theorem kd_U_init_22 : decode kb_U_init 22 = .ok (.aload_n 0, 1) := by decide +kernel
theorem kd_U_init_23 : decode kb_U_init 23 = .ok (.aload_n 3, 1) := by decide +kernel
theorem kd_U_init_24 : decode kb_U_init 24 = .ok (.putfield 23, 3) := by decide +kernel
theorem kd_U_init_27 : decode kb_U_init 27 = .ok (.return_, 1) := by decide +kernel
theorem kd_U_round_0 : decode kb_U_round 0 = .ok (.aload_n 0, 1) := by decide +kernel
theorem kd_U_round_1 : decode kb_U_round 1 = .ok (.getfield 9, 3) := by decide +kernel
theorem kd_U_round_4 : decode kb_U_round 4 = .ok (.aload_n 0, 1) := by decide +kernel
theorem kd_U_round_5 : decode kb_U_round 5 = .ok (.getfield 15, 3) := by decide +kernel
theorem kd_U_round_8 : decode kb_U_round 8 = .ok (.getfield 27, 3) := by decide +kernel
theorem kd_U_round_11 : decode kb_U_round 11 = .ok (.aload_n 0, 1) := by decide +kernel
theorem kd_U_round_12 : decode kb_U_round 12 = .ok (.getfield 33, 3) := by decide +kernel
theorem kd_U_round_15 : decode kb_U_round 15 = .ok (.isub, 1) := by decide +kernel
theorem kd_U_round_16 : decode kb_U_round 16 = .ok (.iload_n 1, 1) := by decide +kernel
theorem kd_U_round_17 : decode kb_U_round 17 = .ok (.iadd, 1) := by decide +kernel
theorem kd_U_round_18 : decode kb_U_round 18 = .ok (.laload, 1) := by decide +kernel
theorem kd_U_round_19 : decode kb_U_round 19 = .ok (.lreturn, 1) := by decide +kernel
theorem kd_U_find_0 : decode kb_U_find 0 = .ok (.aload_n 0, 1) := by decide +kernel
theorem kd_U_find_1 : decode kb_U_find 1 = .ok (.iconst 0, 1) := by decide +kernel
theorem kd_U_find_2 : decode kb_U_find 2 = .ok (.putfield 33, 3) := by decide +kernel
theorem kd_U_find_5 : decode kb_U_find 5 = .ok (.aload_n 0, 1) := by decide +kernel
theorem kd_U_find_6 : decode kb_U_find 6 = .ok (.aload_n 0, 1) := by decide +kernel
theorem kd_U_find_7 : decode kb_U_find 7 = .ok (.getfield 19, 3) := by decide +kernel
theorem kd_U_find_10 : decode kb_U_find 10 = .ok (.invokevirtual 36, 3) := by decide +kernel
theorem kd_U_find_13 : decode kb_U_find 13 = .ok (.putfield 42, 3) := by decide +kernel
theorem kd_U_find_16 : decode kb_U_find 16 = .ok (.aload_n 0, 1) := by decide +kernel
theorem kd_U_find_17 : decode kb_U_find 17 = .ok (.getfield 42, 3) := by decide +kernel
theorem kd_U_find_20 : decode kb_U_find 20 = .ok (.ldc2_w 46, 3) := by decide +kernel
theorem kd_U_find_23 : decode kb_U_find 23 = .ok (.lcmp, 1) := by decide +kernel
theorem kd_U_find_24 : decode kb_U_find 24 = .ok (.ifCond .ge 4, 3) := by decide +kernel
theorem kd_U_find_27 : decode kb_U_find 27 = .ok (.return_, 1) := by decide +kernel
theorem kd_U_find_28 : decode kb_U_find 28 = .ok (.aload_n 0, 1) := by decide +kernel
theorem kd_U_find_29 : decode kb_U_find 29 = .ok (.getfield 23, 3) := by decide +kernel
theorem kd_U_find_32 : decode kb_U_find 32 = .ok (.aload_n 0, 1) := by decide +kernel
theorem kd_U_find_33 : decode kb_U_find 33 = .ok (.getfield 15, 3) := by decide +kernel
theorem kd_U_find_36 : decode kb_U_find 36 = .ok (.invokevirtual 48, 3) := by decide +kernel
theorem kd_U_find_39 : decode kb_U_find 39 = .ok (.aload_n 0, 1) := by decide +kernel
theorem kd_U_find_40 : decode kb_U_find 40 = .ok (.getfield 23, 3) := by decide +kernel
theorem kd_U_find_43 : decode kb_U_find 43 = .ok (.iconst 0, 1) := by decide +kernel
theorem kd_U_find_44 : decode kb_U_find 44 = .ok (.invokevirtual 54, 3) := by decide +kernel
theorem kd_U_find_47 : decode kb_U_find 47 = .ok (.aload_n 0, 1) := by decide +kernel
theorem kd_U_find_48 : decode kb_U_find 48 = .ok (.invokevirtual 58, 3) := by decide +kernel
theorem kd_U_find_51 : decode kb_U_find 51 = .ok (.iconst 0, 1) := by decide +kernel
theorem kd_U_find_52 : decode kb_U_find 52 = .ok (.istore_n 1, 1) := by decide +kernel
theorem kd_U_find_53 : decode kb_U_find 53 = .ok (.iload_n 1, 1) := by decide +kernel
theorem kd_U_find_54 : decode kb_U_find 54 = .ok (.aload_n 0, 1) := by decide +kernel
theorem kd_U_find_55 : decode kb_U_find 55 = .ok (.getfield 23, 3) := by decide +kernel
theorem kd_U_find_58 : decode kb_U_find 58 = .ok (.getfield 61, 3) := by decide +kernel
theorem kd_U_find_61 : decode kb_U_find 61 = .ok (.if_icmp .ge 38, 3) := by decide +kernel
theorem kd_U_find_64 : decode kb_U_find 64 = .ok (.aload_n 0, 1) := by decide +kernel
theorem kd_U_find_65 : decode kb_U_find 65 = .ok (.iload_n 1, 1) := by decide +kernel
theorem kd_U_find_66 : decode kb_U_find 66 = .ok (.invokevirtual 64, 3) := by decide +kernel
theorem kd_U_find_69 : decode kb_U_find 69 = .ok (.aload_n 0, 1) := by decide +kernel
theorem kd_U_find_70 : decode kb_U_find 70 = .ok (.getfield 9, 3) := by decide +kernel
theorem kd_U_find_73 : decode kb_U_find 73 = .ok (.iload_n 1, 1) := by decide +kernel
theorem kd_U_find_74 : decode kb_U_find 74 = .ok (.aload_n 0, 1) := by decide +kernel
theorem kd_U_find_75 : decode kb_U_find 75 = .ok (.getfield 23, 3) := by decide +kernel
theorem kd_U_find_78 : decode kb_U_find 78 = .ok (.getfield 67, 3) := by decide +kernel
theorem kd_U_find_81 : decode kb_U_find 81 = .ok (.iload_n 1, 1) := by decide +kernel
theorem kd_U_find_82 : decode kb_U_find 82 = .ok (.aaload, 1) := by decide +kernel
theorem kd_U_find_83 : decode kb_U_find 83 = .ok (.iload_n 1, 1) := by decide +kernel
theorem kd_U_find_84 : decode kb_U_find 84 = .ok (.laload, 1) := by decide +kernel
theorem kd_U_find_85 : decode kb_U_find 85 = .ok (.aload_n 0, 1) := by decide +kernel
theorem kd_U_find_86 : decode kb_U_find 86 = .ok (.getfield 42, 3) := by decide +kernel
theorem kd_U_find_89 : decode kb_U_find 89 = .ok (.invokestatic 71, 3) := by decide +kernel
theorem kd_U_find_92 : decode kb_U_find 92 = .ok (.lastore, 1) := by decide +kernel
theorem kd_U_find_93 : decode kb_U_find 93 = .ok (.iinc 1 1, 3) := by decide +kernel
theorem kd_U_find_96 : decode kb_U_find 96 = .ok (.goto (-43), 3) := by decide +kernel
theorem kd_U_find_99 : decode kb_U_find 99 = .ok (.aload_n 0, 1) := by decide +kernel
theorem kd_U_find_100 : decode kb_U_find 100 = .ok (.invokevirtual 75, 3) := by decide +kernel
theorem kd_U_find_103 : decode kb_U_find 103 = .ok (.iconst 0, 1) := by decide +kernel
theorem kd_U_find_104 : decode kb_U_find 104 = .ok (.istore_n 1, 1) := by decide +kernel
theorem kd_U_find_105 : decode kb_U_find 105 = .ok (.iload_n 1, 1) := by decide +kernel
theorem kd_U_find_106 : decode kb_U_find 106 = .ok (.aload_n 0, 1) := by decide +kernel
theorem kd_U_find_107 : decode kb_U_find 107 = .ok (.getfield 23, 3) := by decide +kernel
theorem kd_U_find_110 : decode kb_U_find 110 = .ok (.getfield 61, 3) := by decide +kernel
theorem kd_U_find_113 : decode kb_U_find 113 = .ok (.if_icmp .ge 34, 3) := by decide +kernel
theorem kd_U_find_116 : decode kb_U_find 116 = .ok (.aload_n 0, 1) := by decide +kernel
theorem kd_U_find_117 : decode kb_U_find 117 = .ok (.dup, 1) := by decide +kernel
theorem kd_U_find_118 : decode kb_U_find 118 = .ok (.getfield 33, 3) := by decide +kernel
theorem kd_U_find_121 : decode kb_U_find 121 = .ok (.aload_n 0, 1) := by decide +kernel
theorem kd_U_find_122 : decode kb_U_find 122 = .ok (.getfield 9, 3) := by decide +kernel
theorem kd_U_find_125 : decode kb_U_find 125 = .ok (.iload_n 1, 1) := by decide +kernel
theorem kd_U_find_126 : decode kb_U_find 126 = .ok (.laload, 1) := by decide +kernel
theorem kd_U_find_127 : decode kb_U_find 127 = .ok (.lconst 1, 1) := by decide +kernel
theorem kd_U_find_128 : decode kb_U_find 128 = .ok (.lcmp, 1) := by decide +kernel
theorem kd_U_find_129 : decode kb_U_find 129 = .ok (.ifCond .le 7, 3) := by decide +kernel
theorem kd_U_find_132 : decode kb_U_find 132 = .ok (.iconst 1, 1) := by decide +kernel
theorem kd_U_find_133 : decode kb_U_find 133 = .ok (.goto 4, 3) := by decide +kernel
theorem kd_U_find_136 : decode kb_U_find 136 = .ok (.iconst 0, 1) := by decide +kernel
theorem kd_U_find_137 : decode kb_U_find 137 = .ok (.iadd, 1) := by decide +kernel
theorem kd_U_find_138 : decode kb_U_find 138 = .ok (.putfield 33, 3) := by decide +kernel
theorem kd_U_find_141 : decode kb_U_find 141 = .ok (.iinc 1 1, 3) := by decide +kernel
theorem kd_U_find_144 : decode kb_U_find 144 = .ok (.goto (-39), 3) := by decide +kernel
theorem kd_U_find_147 : decode kb_U_find 147 = .ok (.return_, 1) := by decide +kernel
theorem kd_U_reduceAll_0 : decode kb_U_reduceAll 0 = .ok (.iconst 0, 1) := by decide +kernel
theorem kd_U_reduceAll_1 : decode kb_U_reduceAll 1 = .ok (.istore_n 1, 1) := by decide +kernel
theorem kd_U_reduceAll_2 : decode kb_U_reduceAll 2 = .ok (.iload_n 1, 1) := by decide +kernel
theorem kd_U_reduceAll_3 : decode kb_U_reduceAll 3 = .ok (.aload_n 0, 1) := by decide +kernel
theorem kd_U_reduceAll_4 : decode kb_U_reduceAll 4 = .ok (.getfield 23, 3) := by decide +kernel
theorem kd_U_reduceAll_7 : decode kb_U_reduceAll 7 = .ok (.getfield 61, 3) := by decide +kernel
theorem kd_U_reduceAll_10 : decode kb_U_reduceAll 10 = .ok (.if_icmp .ge 54, 3) := by decide +kernel
theorem kd_U_reduceAll_13 : decode kb_U_reduceAll 13 = .ok (.iconst 0, 1) := by decide +kernel
theorem kd_U_reduceAll_14 : decode kb_U_reduceAll 14 = .ok (.istore_n 2, 1) := by decide +kernel
theorem kd_U_reduceAll_15 : decode kb_U_reduceAll 15 = .ok (.iload_n 2, 1) := by decide +kernel
theorem kd_U_reduceAll_16 : decode kb_U_reduceAll 16 = .ok (.aload_n 0, 1) := by decide +kernel
theorem kd_U_reduceAll_17 : decode kb_U_reduceAll 17 = .ok (.getfield 23, 3) := by decide +kernel
theorem kd_U_reduceAll_20 : decode kb_U_reduceAll 20 = .ok (.getfield 61, 3) := by decide +kernel
theorem kd_U_reduceAll_23 : decode kb_U_reduceAll 23 = .ok (.if_icmp .ge 35, 3) := by decide +kernel
theorem kd_U_reduceAll_26 : decode kb_U_reduceAll 26 = .ok (.aload_n 0, 1) := by decide +kernel
theorem kd_U_reduceAll_27 : decode kb_U_reduceAll 27 = .ok (.getfield 23, 3) := by decide +kernel
theorem kd_U_reduceAll_30 : decode kb_U_reduceAll 30 = .ok (.getfield 67, 3) := by decide +kernel
theorem kd_U_reduceAll_33 : decode kb_U_reduceAll 33 = .ok (.iload_n 1, 1) := by decide +kernel
theorem kd_U_reduceAll_34 : decode kb_U_reduceAll 34 = .ok (.aaload, 1) := by decide +kernel
theorem kd_U_reduceAll_35 : decode kb_U_reduceAll 35 = .ok (.iload_n 2, 1) := by decide +kernel
theorem kd_U_reduceAll_36 : decode kb_U_reduceAll 36 = .ok (.aload_n 0, 1) := by decide +kernel
theorem kd_U_reduceAll_37 : decode kb_U_reduceAll 37 = .ok (.aload_n 0, 1) := by decide +kernel
theorem kd_U_reduceAll_38 : decode kb_U_reduceAll 38 = .ok (.getfield 23, 3) := by decide +kernel
theorem kd_U_reduceAll_41 : decode kb_U_reduceAll 41 = .ok (.getfield 67, 3) := by decide +kernel
theorem kd_U_reduceAll_44 : decode kb_U_reduceAll 44 = .ok (.iload_n 1, 1) := by decide +kernel
theorem kd_U_reduceAll_45 : decode kb_U_reduceAll 45 = .ok (.aaload, 1) := by decide +kernel
theorem kd_U_reduceAll_46 : decode kb_U_reduceAll 46 = .ok (.iload_n 2, 1) := by decide +kernel
theorem kd_U_reduceAll_47 : decode kb_U_reduceAll 47 = .ok (.laload, 1) := by decide +kernel
theorem kd_U_reduceAll_48 : decode kb_U_reduceAll 48 = .ok (.invokevirtual 78, 3) := by decide +kernel
theorem kd_U_reduceAll_51 : decode kb_U_reduceAll 51 = .ok (.lastore, 1) := by decide +kernel
theorem kd_U_reduceAll_52 : decode kb_U_reduceAll 52 = .ok (.iinc 2 1, 3) := by decide +kernel
theorem kd_U_reduceAll_55 : decode kb_U_reduceAll 55 = .ok (.goto (-40), 3) := by decide +kernel
theorem kd_U_reduceAll_58 : decode kb_U_reduceAll 58 = .ok (.iinc 1 1, 3) := by decide +kernel
theorem kd_U_reduceAll_61 : decode kb_U_reduceAll 61 = .ok (.goto (-59), 3) := by decide +kernel
theorem kd_U_reduceAll_64 : decode kb_U_reduceAll 64 = .ok (.return_, 1) := by decide +kernel
theorem kd_U_reduced_0 : decode kb_U_reduced 0 = .ok (.aload_n 0, 1) := by decide +kernel
theorem kd_U_reduced_1 : decode kb_U_reduced 1 = .ok (.getfield 42, 3) := by decide +kernel
theorem kd_U_reduced_4 : decode kb_U_reduced 4 = .ok (.lconst 1, 1) := by decide +kernel
theorem kd_U_reduced_5 : decode kb_U_reduced 5 = .ok (.lcmp, 1) := by decide +kernel
theorem kd_U_reduced_6 : decode kb_U_reduced 6 = .ok (.ifCond .ge 5, 3) := by decide +kernel
theorem kd_U_reduced_9 : decode kb_U_reduced 9 = .ok (.lconst 0, 1) := by decide +kernel
theorem kd_U_reduced_10 : decode kb_U_reduced 10 = .ok (.lreturn, 1) := by decide +kernel
theorem kd_U_reduced_11 : decode kb_U_reduced 11 = .ok (.lload_n 1, 1) := by decide +kernel
theorem kd_U_reduced_12 : decode kb_U_reduced 12 = .ok (.aload_n 0, 1) := by decide +kernel
theorem kd_U_reduced_13 : decode kb_U_reduced 13 = .ok (.getfield 42, 3) := by decide +kernel
theorem kd_U_reduced_16 : decode kb_U_reduced 16 = .ok (.lrem, 1) := by decide +kernel
theorem kd_U_reduced_17 : decode kb_U_reduced 17 = .ok (.lstore_n 3, 1) := by decide +kernel
theorem kd_U_reduced_18 : decode kb_U_reduced 18 = .ok (.lload_n 3, 1) := by decide +kernel
theorem kd_U_reduced_19 : decode kb_U_reduced 19 = .ok (.lconst 0, 1) := by decide +kernel
theorem kd_U_reduced_20 : decode kb_U_reduced 20 = .ok (.lcmp, 1) := by decide +kernel
theorem kd_U_reduced_21 : decode kb_U_reduced 21 = .ok (.ifCond .ge 12, 3) := by decide +kernel
theorem kd_U_reduced_24 : decode kb_U_reduced 24 = .ok (.lload_n 3, 1) := by decide +kernel
theorem kd_U_reduced_25 : decode kb_U_reduced 25 = .ok (.aload_n 0, 1) := by decide +kernel
theorem kd_U_reduced_26 : decode kb_U_reduced 26 = .ok (.getfield 42, 3) := by decide +kernel
theorem kd_U_reduced_29 : decode kb_U_reduced 29 = .ok (.ladd, 1) := by decide +kernel
theorem kd_U_reduced_30 : decode kb_U_reduced 30 = .ok (.goto 4, 3) := by decide +kernel
theorem kd_U_reduced_33 : decode kb_U_reduced 33 = .ok (.lload_n 3, 1) := by decide +kernel
theorem kd_U_reduced_34 : decode kb_U_reduced 34 = .ok (.lreturn, 1) := by decide +kernel
theorem kd_U_clearLine_0 : decode kb_U_clearLine 0 = .ok (.iconst 0, 1) := by decide +kernel
theorem kd_U_clearLine_1 : decode kb_U_clearLine 1 = .ok (.istore_n 2, 1) := by decide +kernel
theorem kd_U_clearLine_2 : decode kb_U_clearLine 2 = .ok (.iload_n 2, 1) := by decide +kernel
theorem kd_U_clearLine_3 : decode kb_U_clearLine 3 = .ok (.sipush 128, 3) := by decide +kernel
theorem kd_U_clearLine_6 : decode kb_U_clearLine 6 = .ok (.if_icmp .ge 66, 3) := by decide +kernel
theorem kd_U_clearLine_9 : decode kb_U_clearLine 9 = .ok (.iload_n 1, 1) := by decide +kernel
theorem kd_U_clearLine_10 : decode kb_U_clearLine 10 = .ok (.iconst 1, 1) := by decide +kernel
theorem kd_U_clearLine_11 : decode kb_U_clearLine 11 = .ok (.iadd, 1) := by decide +kernel
theorem kd_U_clearLine_12 : decode kb_U_clearLine 12 = .ok (.istore_n 3, 1) := by decide +kernel
theorem kd_U_clearLine_13 : decode kb_U_clearLine 13 = .ok (.iload_n 3, 1) := by decide +kernel
theorem kd_U_clearLine_14 : decode kb_U_clearLine 14 = .ok (.aload_n 0, 1) := by decide +kernel
theorem kd_U_clearLine_15 : decode kb_U_clearLine 15 = .ok (.getfield 23, 3) := by decide +kernel
theorem kd_U_clearLine_18 : decode kb_U_clearLine 18 = .ok (.getfield 61, 3) := by decide +kernel
theorem kd_U_clearLine_21 : decode kb_U_clearLine 21 = .ok (.if_icmp .ge 31, 3) := by decide +kernel
theorem kd_U_clearLine_24 : decode kb_U_clearLine 24 = .ok (.aload_n 0, 1) := by decide +kernel
theorem kd_U_clearLine_25 : decode kb_U_clearLine 25 = .ok (.getfield 23, 3) := by decide +kernel
theorem kd_U_clearLine_28 : decode kb_U_clearLine 28 = .ok (.getfield 67, 3) := by decide +kernel
theorem kd_U_clearLine_31 : decode kb_U_clearLine 31 = .ok (.iload_n 3, 1) := by decide +kernel
theorem kd_U_clearLine_32 : decode kb_U_clearLine 32 = .ok (.aaload, 1) := by decide +kernel
theorem kd_U_clearLine_33 : decode kb_U_clearLine 33 = .ok (.iload_n 1, 1) := by decide +kernel
theorem kd_U_clearLine_34 : decode kb_U_clearLine 34 = .ok (.laload, 1) := by decide +kernel
theorem kd_U_clearLine_35 : decode kb_U_clearLine 35 = .ok (.lconst 0, 1) := by decide +kernel
theorem kd_U_clearLine_36 : decode kb_U_clearLine 36 = .ok (.lcmp, 1) := by decide +kernel
theorem kd_U_clearLine_37 : decode kb_U_clearLine 37 = .ok (.ifCond .eq 9, 3) := by decide +kernel
theorem kd_U_clearLine_40 : decode kb_U_clearLine 40 = .ok (.aload_n 0, 1) := by decide +kernel
theorem kd_U_clearLine_41 : decode kb_U_clearLine 41 = .ok (.iload_n 1, 1) := by decide +kernel
theorem kd_U_clearLine_42 : decode kb_U_clearLine 42 = .ok (.iload_n 3, 1) := by decide +kernel
theorem kd_U_clearLine_43 : decode kb_U_clearLine 43 = .ok (.invokevirtual 82, 3) := by decide +kernel
theorem kd_U_clearLine_46 : decode kb_U_clearLine 46 = .ok (.iinc 3 1, 3) := by decide +kernel
theorem kd_U_clearLine_49 : decode kb_U_clearLine 49 = .ok (.goto (-36), 3) := by decide +kernel
theorem kd_U_clearLine_52 : decode kb_U_clearLine 52 = .ok (.aload_n 0, 1) := by decide +kernel
theorem kd_U_clearLine_53 : decode kb_U_clearLine 53 = .ok (.iload_n 1, 1) := by decide +kernel
theorem kd_U_clearLine_54 : decode kb_U_clearLine 54 = .ok (.invokevirtual 86, 3) := by decide +kernel
theorem kd_U_clearLine_57 : decode kb_U_clearLine 57 = .ok (.ifCond .eq 4, 3) := by decide +kernel
theorem kd_U_clearLine_60 : decode kb_U_clearLine 60 = .ok (.return_, 1) := by decide +kernel
theorem kd_U_clearLine_61 : decode kb_U_clearLine 61 = .ok (.aload_n 0, 1) := by decide +kernel
theorem kd_U_clearLine_62 : decode kb_U_clearLine 62 = .ok (.iload_n 1, 1) := by decide +kernel
theorem kd_U_clearLine_63 : decode kb_U_clearLine 63 = .ok (.invokevirtual 90, 3) := by decide +kernel
theorem kd_U_clearLine_66 : decode kb_U_clearLine 66 = .ok (.iinc 2 1, 3) := by decide +kernel
theorem kd_U_clearLine_69 : decode kb_U_clearLine 69 = .ok (.goto (-67), 3) := by decide +kernel
theorem kd_U_clearLine_72 : decode kb_U_clearLine 72 = .ok (.return_, 1) := by decide +kernel
theorem kd_U_isRowClear_0 : decode kb_U_isRowClear 0 = .ok (.iload_n 1, 1) := by decide +kernel
theorem kd_U_isRowClear_1 : decode kb_U_isRowClear 1 = .ok (.iconst 1, 1) := by decide +kernel
theorem kd_U_isRowClear_2 : decode kb_U_isRowClear 2 = .ok (.iadd, 1) := by decide +kernel
theorem kd_U_isRowClear_3 : decode kb_U_isRowClear 3 = .ok (.istore_n 2, 1) := by decide +kernel
theorem kd_U_isRowClear_4 : decode kb_U_isRowClear 4 = .ok (.iload_n 2, 1) := by decide +kernel
theorem kd_U_isRowClear_5 : decode kb_U_isRowClear 5 = .ok (.aload_n 0, 1) := by decide +kernel
theorem kd_U_isRowClear_6 : decode kb_U_isRowClear 6 = .ok (.getfield 23, 3) := by decide +kernel
theorem kd_U_isRowClear_9 : decode kb_U_isRowClear 9 = .ok (.getfield 61, 3) := by decide +kernel
theorem kd_U_isRowClear_12 : decode kb_U_isRowClear 12 = .ok (.if_icmp .ge 27, 3) := by decide +kernel
theorem kd_U_isRowClear_15 : decode kb_U_isRowClear 15 = .ok (.aload_n 0, 1) := by decide +kernel
theorem kd_U_isRowClear_16 : decode kb_U_isRowClear 16 = .ok (.getfield 23, 3) := by decide +kernel
theorem kd_U_isRowClear_19 : decode kb_U_isRowClear 19 = .ok (.getfield 67, 3) := by decide +kernel
theorem kd_U_isRowClear_22 : decode kb_U_isRowClear 22 = .ok (.iload_n 1, 1) := by decide +kernel
theorem kd_U_isRowClear_23 : decode kb_U_isRowClear 23 = .ok (.aaload, 1) := by decide +kernel
theorem kd_U_isRowClear_24 : decode kb_U_isRowClear 24 = .ok (.iload_n 2, 1) := by decide +kernel
theorem kd_U_isRowClear_25 : decode kb_U_isRowClear 25 = .ok (.laload, 1) := by decide +kernel
theorem kd_U_isRowClear_26 : decode kb_U_isRowClear 26 = .ok (.lconst 0, 1) := by decide +kernel
theorem kd_U_isRowClear_27 : decode kb_U_isRowClear 27 = .ok (.lcmp, 1) := by decide +kernel
theorem kd_U_isRowClear_28 : decode kb_U_isRowClear 28 = .ok (.ifCond .eq 5, 3) := by decide +kernel
theorem kd_U_isRowClear_31 : decode kb_U_isRowClear 31 = .ok (.iconst 0, 1) := by decide +kernel
theorem kd_U_isRowClear_32 : decode kb_U_isRowClear 32 = .ok (.ireturn, 1) := by decide +kernel
theorem kd_U_isRowClear_33 : decode kb_U_isRowClear 33 = .ok (.iinc 2 1, 3) := by decide +kernel
theorem kd_U_isRowClear_36 : decode kb_U_isRowClear 36 = .ok (.goto (-32), 3) := by decide +kernel
theorem kd_U_isRowClear_39 : decode kb_U_isRowClear 39 = .ok (.iconst 1, 1) := by decide +kernel
theorem kd_U_isRowClear_40 : decode kb_U_isRowClear 40 = .ok (.ireturn, 1) := by decide +kernel
theorem kd_U_transpose_0 : decode kb_U_transpose 0 = .ok (.iload_n 1, 1) := by decide +kernel
theorem kd_U_transpose_1 : decode kb_U_transpose 1 = .ok (.istore_n 2, 1) := by decide +kernel
theorem kd_U_transpose_2 : decode kb_U_transpose 2 = .ok (.iload_n 2, 1) := by decide +kernel
theorem kd_U_transpose_3 : decode kb_U_transpose 3 = .ok (.aload_n 0, 1) := by decide +kernel
theorem kd_U_transpose_4 : decode kb_U_transpose 4 = .ok (.getfield 23, 3) := by decide +kernel
theorem kd_U_transpose_7 : decode kb_U_transpose 7 = .ok (.getfield 61, 3) := by decide +kernel
theorem kd_U_transpose_10 : decode kb_U_transpose 10 = .ok (.if_icmp .ge 78, 3) := by decide +kernel
theorem kd_U_transpose_13 : decode kb_U_transpose 13 = .ok (.iload_n 2, 1) := by decide +kernel
theorem kd_U_transpose_14 : decode kb_U_transpose 14 = .ok (.iconst 1, 1) := by decide +kernel
theorem kd_U_transpose_15 : decode kb_U_transpose 15 = .ok (.iadd, 1) := by decide +kernel
theorem kd_U_transpose_16 : decode kb_U_transpose 16 = .ok (.istore_n 3, 1) := by decide +kernel
theorem kd_U_transpose_17 : decode kb_U_transpose 17 = .ok (.iload_n 3, 1) := by decide +kernel
theorem kd_U_transpose_18 : decode kb_U_transpose 18 = .ok (.aload_n 0, 1) := by decide +kernel
theorem kd_U_transpose_19 : decode kb_U_transpose 19 = .ok (.getfield 23, 3) := by decide +kernel
theorem kd_U_transpose_22 : decode kb_U_transpose 22 = .ok (.getfield 61, 3) := by decide +kernel
theorem kd_U_transpose_25 : decode kb_U_transpose 25 = .ok (.if_icmp .ge 57, 3) := by decide +kernel
theorem kd_U_transpose_28 : decode kb_U_transpose 28 = .ok (.aload_n 0, 1) := by decide +kernel
theorem kd_U_transpose_29 : decode kb_U_transpose 29 = .ok (.getfield 23, 3) := by decide +kernel
theorem kd_U_transpose_32 : decode kb_U_transpose 32 = .ok (.getfield 67, 3) := by decide +kernel
theorem kd_U_transpose_35 : decode kb_U_transpose 35 = .ok (.iload_n 2, 1) := by decide +kernel
theorem kd_U_transpose_36 : decode kb_U_transpose 36 = .ok (.aaload, 1) := by decide +kernel
theorem kd_U_transpose_37 : decode kb_U_transpose 37 = .ok (.iload_n 3, 1) := by decide +kernel
theorem kd_U_transpose_38 : decode kb_U_transpose 38 = .ok (.laload, 1) := by decide +kernel
theorem kd_U_transpose_39 : decode kb_U_transpose 39 = .ok (.lstore 4, 2) := by decide +kernel
theorem kd_U_transpose_41 : decode kb_U_transpose 41 = .ok (.aload_n 0, 1) := by decide +kernel
theorem kd_U_transpose_42 : decode kb_U_transpose 42 = .ok (.getfield 23, 3) := by decide +kernel
theorem kd_U_transpose_45 : decode kb_U_transpose 45 = .ok (.getfield 67, 3) := by decide +kernel
theorem kd_U_transpose_48 : decode kb_U_transpose 48 = .ok (.iload_n 2, 1) := by decide +kernel
theorem kd_U_transpose_49 : decode kb_U_transpose 49 = .ok (.aaload, 1) := by decide +kernel
theorem kd_U_transpose_50 : decode kb_U_transpose 50 = .ok (.iload_n 3, 1) := by decide +kernel
theorem kd_U_transpose_51 : decode kb_U_transpose 51 = .ok (.aload_n 0, 1) := by decide +kernel
theorem kd_U_transpose_52 : decode kb_U_transpose 52 = .ok (.getfield 23, 3) := by decide +kernel
theorem kd_U_transpose_55 : decode kb_U_transpose 55 = .ok (.getfield 67, 3) := by decide +kernel
theorem kd_U_transpose_58 : decode kb_U_transpose 58 = .ok (.iload_n 3, 1) := by decide +kernel
theorem kd_U_transpose_59 : decode kb_U_transpose 59 = .ok (.aaload, 1) := by decide +kernel
theorem kd_U_transpose_60 : decode kb_U_transpose 60 = .ok (.iload_n 2, 1) := by decide +kernel
theorem kd_U_transpose_61 : decode kb_U_transpose 61 = .ok (.laload, 1) := by decide +kernel
theorem kd_U_transpose_62 : decode kb_U_transpose 62 = .ok (.lastore, 1) := by decide +kernel
theorem kd_U_transpose_63 : decode kb_U_transpose 63 = .ok (.aload_n 0, 1) := by decide +kernel
theorem kd_U_transpose_64 : decode kb_U_transpose 64 = .ok (.getfield 23, 3) := by decide +kernel
theorem kd_U_transpose_67 : decode kb_U_transpose 67 = .ok (.getfield 67, 3) := by decide +kernel
theorem kd_U_transpose_70 : decode kb_U_transpose 70 = .ok (.iload_n 3, 1) := by decide +kernel
theorem kd_U_transpose_71 : decode kb_U_transpose 71 = .ok (.aaload, 1) := by decide +kernel
theorem kd_U_transpose_72 : decode kb_U_transpose 72 = .ok (.iload_n 2, 1) := by decide +kernel
theorem kd_U_transpose_73 : decode kb_U_transpose 73 = .ok (.lload 4, 2) := by decide +kernel
theorem kd_U_transpose_75 : decode kb_U_transpose 75 = .ok (.lastore, 1) := by decide +kernel
theorem kd_U_transpose_76 : decode kb_U_transpose 76 = .ok (.iinc 3 1, 3) := by decide +kernel
theorem kd_U_transpose_79 : decode kb_U_transpose 79 = .ok (.goto (-62), 3) := by decide +kernel
theorem kd_U_transpose_82 : decode kb_U_transpose 82 = .ok (.iinc 2 1, 3) := by decide +kernel
theorem kd_U_transpose_85 : decode kb_U_transpose 85 = .ok (.goto (-83), 3) := by decide +kernel
theorem kd_U_transpose_88 : decode kb_U_transpose 88 = .ok (.return_, 1) := by decide +kernel
theorem kd_U_mixRows_0 : decode kb_U_mixRows 0 = .ok (.aload_n 0, 1) := by decide +kernel
theorem kd_U_mixRows_1 : decode kb_U_mixRows 1 = .ok (.getfield 23, 3) := by decide +kernel
theorem kd_U_mixRows_4 : decode kb_U_mixRows 4 = .ok (.getfield 67, 3) := by decide +kernel
theorem kd_U_mixRows_7 : decode kb_U_mixRows 7 = .ok (.iload_n 1, 1) := by decide +kernel
theorem kd_U_mixRows_8 : decode kb_U_mixRows 8 = .ok (.aaload, 1) := by decide +kernel
theorem kd_U_mixRows_9 : decode kb_U_mixRows 9 = .ok (.iload_n 1, 1) := by decide +kernel
theorem kd_U_mixRows_10 : decode kb_U_mixRows 10 = .ok (.laload, 1) := by decide +kernel
theorem kd_U_mixRows_11 : decode kb_U_mixRows 11 = .ok (.lstore_n 3, 1) := by decide +kernel
theorem kd_U_mixRows_12 : decode kb_U_mixRows 12 = .ok (.aload_n 0, 1) := by decide +kernel
theorem kd_U_mixRows_13 : decode kb_U_mixRows 13 = .ok (.getfield 23, 3) := by decide +kernel
theorem kd_U_mixRows_16 : decode kb_U_mixRows 16 = .ok (.getfield 67, 3) := by decide +kernel
theorem kd_U_mixRows_19 : decode kb_U_mixRows 19 = .ok (.iload_n 2, 1) := by decide +kernel
theorem kd_U_mixRows_20 : decode kb_U_mixRows 20 = .ok (.aaload, 1) := by decide +kernel
theorem kd_U_mixRows_21 : decode kb_U_mixRows 21 = .ok (.iload_n 1, 1) := by decide +kernel
theorem kd_U_mixRows_22 : decode kb_U_mixRows 22 = .ok (.laload, 1) := by decide +kernel
theorem kd_U_mixRows_23 : decode kb_U_mixRows 23 = .ok (.lstore 5, 2) := by decide +kernel
theorem kd_U_mixRows_25 : decode kb_U_mixRows 25 = .ok (.aload_n 0, 1) := by decide +kernel
theorem kd_U_mixRows_26 : decode kb_U_mixRows 26 = .ok (.lload_n 3, 1) := by decide +kernel
theorem kd_U_mixRows_27 : decode kb_U_mixRows 27 = .ok (.lload 5, 2) := by decide +kernel
theorem kd_U_mixRows_29 : decode kb_U_mixRows 29 = .ok (.invokevirtual 93, 3) := by decide +kernel
theorem kd_U_mixRows_32 : decode kb_U_mixRows 32 = .ok (.aload_n 0, 1) := by decide +kernel
theorem kd_U_mixRows_33 : decode kb_U_mixRows 33 = .ok (.getfield 97, 3) := by decide +kernel
theorem kd_U_mixRows_36 : decode kb_U_mixRows 36 = .ok (.lconst 0, 1) := by decide +kernel
theorem kd_U_mixRows_37 : decode kb_U_mixRows 37 = .ok (.lcmp, 1) := by decide +kernel
theorem kd_U_mixRows_38 : decode kb_U_mixRows 38 = .ok (.ifCond .ne 4, 3) := by decide +kernel
theorem kd_U_mixRows_41 : decode kb_U_mixRows 41 = .ok (.return_, 1) := by decide +kernel
theorem kd_U_mixRows_42 : decode kb_U_mixRows 42 = .ok (.lload_n 3, 1) := by decide +kernel
theorem kd_U_mixRows_43 : decode kb_U_mixRows 43 = .ok (.aload_n 0, 1) := by decide +kernel
theorem kd_U_mixRows_44 : decode kb_U_mixRows 44 = .ok (.getfield 97, 3) := by decide +kernel
theorem kd_U_mixRows_47 : decode kb_U_mixRows 47 = .ok (.ldiv, 1) := by decide +kernel
theorem kd_U_mixRows_48 : decode kb_U_mixRows 48 = .ok (.lstore 7, 2) := by decide +kernel
theorem kd_U_mixRows_50 : decode kb_U_mixRows 50 = .ok (.lload 5, 2) := by decide +kernel
theorem kd_U_mixRows_52 : decode kb_U_mixRows 52 = .ok (.aload_n 0, 1) := by decide +kernel
theorem kd_U_mixRows_53 : decode kb_U_mixRows 53 = .ok (.getfield 97, 3) := by decide +kernel
theorem kd_U_mixRows_56 : decode kb_U_mixRows 56 = .ok (.ldiv, 1) := by decide +kernel
theorem kd_U_mixRows_57 : decode kb_U_mixRows 57 = .ok (.lstore 9, 2) := by decide +kernel
theorem kd_U_mixRows_59 : decode kb_U_mixRows 59 = .ok (.iload_n 1, 1) := by decide +kernel
theorem kd_U_mixRows_60 : decode kb_U_mixRows 60 = .ok (.istore 11, 2) := by decide +kernel
theorem kd_U_mixRows_62 : decode kb_U_mixRows 62 = .ok (.iload 11, 2) := by decide +kernel
theorem kd_U_mixRows_64 : decode kb_U_mixRows 64 = .ok (.aload_n 0, 1) := by decide +kernel
theorem kd_U_mixRows_65 : decode kb_U_mixRows 65 = .ok (.getfield 23, 3) := by decide +kernel
theorem kd_U_mixRows_68 : decode kb_U_mixRows 68 = .ok (.getfield 61, 3) := by decide +kernel
theorem kd_U_mixRows_71 : decode kb_U_mixRows 71 = .ok (.if_icmp .ge 107, 3) := by decide +kernel
theorem kd_U_mixRows_74 : decode kb_U_mixRows 74 = .ok (.aload_n 0, 1) := by decide +kernel
theorem kd_U_mixRows_75 : decode kb_U_mixRows 75 = .ok (.getfield 23, 3) := by decide +kernel
theorem kd_U_mixRows_78 : decode kb_U_mixRows 78 = .ok (.getfield 67, 3) := by decide +kernel
theorem kd_U_mixRows_81 : decode kb_U_mixRows 81 = .ok (.iload_n 1, 1) := by decide +kernel
theorem kd_U_mixRows_82 : decode kb_U_mixRows 82 = .ok (.aaload, 1) := by decide +kernel
theorem kd_U_mixRows_83 : decode kb_U_mixRows 83 = .ok (.iload 11, 2) := by decide +kernel
theorem kd_U_mixRows_85 : decode kb_U_mixRows 85 = .ok (.laload, 1) := by decide +kernel
theorem kd_U_mixRows_86 : decode kb_U_mixRows 86 = .ok (.lstore 12, 2) := by decide +kernel
theorem kd_U_mixRows_88 : decode kb_U_mixRows 88 = .ok (.aload_n 0, 1) := by decide +kernel
theorem kd_U_mixRows_89 : decode kb_U_mixRows 89 = .ok (.getfield 23, 3) := by decide +kernel
theorem kd_U_mixRows_92 : decode kb_U_mixRows 92 = .ok (.getfield 67, 3) := by decide +kernel
theorem kd_U_mixRows_95 : decode kb_U_mixRows 95 = .ok (.iload_n 2, 1) := by decide +kernel
theorem kd_U_mixRows_96 : decode kb_U_mixRows 96 = .ok (.aaload, 1) := by decide +kernel
theorem kd_U_mixRows_97 : decode kb_U_mixRows 97 = .ok (.iload 11, 2) := by decide +kernel
theorem kd_U_mixRows_99 : decode kb_U_mixRows 99 = .ok (.laload, 1) := by decide +kernel
theorem kd_U_mixRows_100 : decode kb_U_mixRows 100 = .ok (.lstore 14, 2) := by decide +kernel
theorem kd_U_mixRows_102 : decode kb_U_mixRows 102 = .ok (.aload_n 0, 1) := by decide +kernel
theorem kd_U_mixRows_103 : decode kb_U_mixRows 103 = .ok (.getfield 23, 3) := by decide +kernel
theorem kd_U_mixRows_106 : decode kb_U_mixRows 106 = .ok (.getfield 67, 3) := by decide +kernel
theorem kd_U_mixRows_109 : decode kb_U_mixRows 109 = .ok (.iload_n 1, 1) := by decide +kernel
theorem kd_U_mixRows_110 : decode kb_U_mixRows 110 = .ok (.aaload, 1) := by decide +kernel
theorem kd_U_mixRows_111 : decode kb_U_mixRows 111 = .ok (.iload 11, 2) := by decide +kernel
theorem kd_U_mixRows_113 : decode kb_U_mixRows 113 = .ok (.aload_n 0, 1) := by decide +kernel
theorem kd_U_mixRows_114 : decode kb_U_mixRows 114 = .ok (.aload_n 0, 1) := by decide +kernel
theorem kd_U_mixRows_115 : decode kb_U_mixRows 115 = .ok (.aload_n 0, 1) := by decide +kernel
theorem kd_U_mixRows_116 : decode kb_U_mixRows 116 = .ok (.getfield 100, 3) := by decide +kernel
theorem kd_U_mixRows_119 : decode kb_U_mixRows 119 = .ok (.lload 12, 2) := by decide +kernel
theorem kd_U_mixRows_121 : decode kb_U_mixRows 121 = .ok (.invokevirtual 103, 3) := by decide +kernel
theorem kd_U_mixRows_124 : decode kb_U_mixRows 124 = .ok (.aload_n 0, 1) := by decide +kernel
theorem kd_U_mixRows_125 : decode kb_U_mixRows 125 = .ok (.aload_n 0, 1) := by decide +kernel
theorem kd_U_mixRows_126 : decode kb_U_mixRows 126 = .ok (.getfield 106, 3) := by decide +kernel
theorem kd_U_mixRows_129 : decode kb_U_mixRows 129 = .ok (.lload 14, 2) := by decide +kernel
theorem kd_U_mixRows_131 : decode kb_U_mixRows 131 = .ok (.invokevirtual 103, 3) := by decide +kernel
theorem kd_U_mixRows_134 : decode kb_U_mixRows 134 = .ok (.ladd, 1) := by decide +kernel
theorem kd_U_mixRows_135 : decode kb_U_mixRows 135 = .ok (.invokevirtual 78, 3) := by decide +kernel
theorem kd_U_mixRows_138 : decode kb_U_mixRows 138 = .ok (.lastore, 1) := by decide +kernel
theorem kd_U_mixRows_139 : decode kb_U_mixRows 139 = .ok (.aload_n 0, 1) := by decide +kernel
theorem kd_U_mixRows_140 : decode kb_U_mixRows 140 = .ok (.getfield 23, 3) := by decide +kernel
theorem kd_U_mixRows_143 : decode kb_U_mixRows 143 = .ok (.getfield 67, 3) := by decide +kernel
theorem kd_U_mixRows_146 : decode kb_U_mixRows 146 = .ok (.iload_n 2, 1) := by decide +kernel
theorem kd_U_mixRows_147 : decode kb_U_mixRows 147 = .ok (.aaload, 1) := by decide +kernel
theorem kd_U_mixRows_148 : decode kb_U_mixRows 148 = .ok (.iload 11, 2) := by decide +kernel
theorem kd_U_mixRows_150 : decode kb_U_mixRows 150 = .ok (.aload_n 0, 1) := by decide +kernel
theorem kd_U_mixRows_151 : decode kb_U_mixRows 151 = .ok (.aload_n 0, 1) := by decide +kernel
theorem kd_U_mixRows_152 : decode kb_U_mixRows 152 = .ok (.lload 7, 2) := by decide +kernel
theorem kd_U_mixRows_154 : decode kb_U_mixRows 154 = .ok (.lload 14, 2) := by decide +kernel
theorem kd_U_mixRows_156 : decode kb_U_mixRows 156 = .ok (.invokevirtual 103, 3) := by decide +kernel
theorem kd_U_mixRows_159 : decode kb_U_mixRows 159 = .ok (.aload_n 0, 1) := by decide +kernel
theorem kd_U_mixRows_160 : decode kb_U_mixRows 160 = .ok (.lload 9, 2) := by decide +kernel
theorem kd_U_mixRows_162 : decode kb_U_mixRows 162 = .ok (.lload 12, 2) := by decide +kernel
theorem kd_U_mixRows_164 : decode kb_U_mixRows 164 = .ok (.invokevirtual 103, 3) := by decide +kernel
theorem kd_U_mixRows_167 : decode kb_U_mixRows 167 = .ok (.lsub, 1) := by decide +kernel
theorem kd_U_mixRows_168 : decode kb_U_mixRows 168 = .ok (.invokevirtual 78, 3) := by decide +kernel
theorem kd_U_mixRows_171 : decode kb_U_mixRows 171 = .ok (.lastore, 1) := by decide +kernel
theorem kd_U_mixRows_172 : decode kb_U_mixRows 172 = .ok (.iinc 11 1, 3) := by decide +kernel
theorem kd_U_mixRows_175 : decode kb_U_mixRows 175 = .ok (.goto (-113), 3) := by decide +kernel
theorem kd_U_mixRows_178 : decode kb_U_mixRows 178 = .ok (.return_, 1) := by decide +kernel
theorem kd_U_measure_0 : decode kb_U_measure 0 = .ok (.lload_n 1, 1) := by decide +kernel
theorem kd_U_measure_1 : decode kb_U_measure 1 = .ok (.lstore 5, 2) := by decide +kernel
theorem kd_U_measure_3 : decode kb_U_measure 3 = .ok (.lconst 0, 1) := by decide +kernel
theorem kd_U_measure_4 : decode kb_U_measure 4 = .ok (.lstore 7, 2) := by decide +kernel
theorem kd_U_measure_6 : decode kb_U_measure 6 = .ok (.lconst 1, 1) := by decide +kernel
theorem kd_U_measure_7 : decode kb_U_measure 7 = .ok (.lstore 9, 2) := by decide +kernel
theorem kd_U_measure_9 : decode kb_U_measure 9 = .ok (.aload_n 0, 1) := by decide +kernel
theorem kd_U_measure_10 : decode kb_U_measure 10 = .ok (.lload_n 3, 1) := by decide +kernel
theorem kd_U_measure_11 : decode kb_U_measure 11 = .ok (.putfield 97, 3) := by decide +kernel
theorem kd_U_measure_14 : decode kb_U_measure 14 = .ok (.aload_n 0, 1) := by decide +kernel
theorem kd_U_measure_15 : decode kb_U_measure 15 = .ok (.lconst 1, 1) := by decide +kernel
theorem kd_U_measure_16 : decode kb_U_measure 16 = .ok (.putfield 106, 3) := by decide +kernel
theorem kd_U_measure_19 : decode kb_U_measure 19 = .ok (.aload_n 0, 1) := by decide +kernel
theorem kd_U_measure_20 : decode kb_U_measure 20 = .ok (.lconst 0, 1) := by decide +kernel
theorem kd_U_measure_21 : decode kb_U_measure 21 = .ok (.putfield 100, 3) := by decide +kernel
theorem kd_U_measure_24 : decode kb_U_measure 24 = .ok (.iconst 0, 1) := by decide +kernel
theorem kd_U_measure_25 : decode kb_U_measure 25 = .ok (.istore 11, 2) := by decide +kernel
theorem kd_U_measure_27 : decode kb_U_measure 27 = .ok (.iload 11, 2) := by decide +kernel
theorem kd_U_measure_29 : decode kb_U_measure 29 = .ok (.sipush 128, 3) := by decide +kernel
theorem kd_U_measure_32 : decode kb_U_measure 32 = .ok (.if_icmp .ge 91, 3) := by decide +kernel
theorem kd_U_measure_35 : decode kb_U_measure 35 = .ok (.lload 5, 2) := by decide +kernel
theorem kd_U_measure_37 : decode kb_U_measure 37 = .ok (.lconst 0, 1) := by decide +kernel
theorem kd_U_measure_38 : decode kb_U_measure 38 = .ok (.lcmp, 1) := by decide +kernel
theorem kd_U_measure_39 : decode kb_U_measure 39 = .ok (.ifCond .eq 84, 3) := by decide +kernel
theorem kd_U_measure_42 : decode kb_U_measure 42 = .ok (.aload_n 0, 1) := by decide +kernel
theorem kd_U_measure_43 : decode kb_U_measure 43 = .ok (.getfield 97, 3) := by decide +kernel
theorem kd_U_measure_46 : decode kb_U_measure 46 = .ok (.lload 5, 2) := by decide +kernel
theorem kd_U_measure_48 : decode kb_U_measure 48 = .ok (.ldiv, 1) := by decide +kernel
theorem kd_U_measure_49 : decode kb_U_measure 49 = .ok (.lstore 12, 2) := by decide +kernel
theorem kd_U_measure_51 : decode kb_U_measure 51 = .ok (.aload_n 0, 1) := by decide +kernel
theorem kd_U_measure_52 : decode kb_U_measure 52 = .ok (.getfield 97, 3) := by decide +kernel
theorem kd_U_measure_55 : decode kb_U_measure 55 = .ok (.lload 12, 2) := by decide +kernel
theorem kd_U_measure_57 : decode kb_U_measure 57 = .ok (.lload 5, 2) := by decide +kernel
theorem kd_U_measure_59 : decode kb_U_measure 59 = .ok (.lmul, 1) := by decide +kernel
theorem kd_U_measure_60 : decode kb_U_measure 60 = .ok (.lsub, 1) := by decide +kernel
theorem kd_U_measure_61 : decode kb_U_measure 61 = .ok (.lstore 14, 2) := by decide +kernel
theorem kd_U_measure_63 : decode kb_U_measure 63 = .ok (.aload_n 0, 1) := by decide +kernel
theorem kd_U_measure_64 : decode kb_U_measure 64 = .ok (.getfield 106, 3) := by decide +kernel
theorem kd_U_measure_67 : decode kb_U_measure 67 = .ok (.lload 12, 2) := by decide +kernel
theorem kd_U_measure_69 : decode kb_U_measure 69 = .ok (.lload 7, 2) := by decide +kernel
theorem kd_U_measure_71 : decode kb_U_measure 71 = .ok (.lmul, 1) := by decide +kernel
theorem kd_U_measure_72 : decode kb_U_measure 72 = .ok (.lsub, 1) := by decide +kernel
theorem kd_U_measure_73 : decode kb_U_measure 73 = .ok (.lstore 16, 2) := by decide +kernel
theorem kd_U_measure_75 : decode kb_U_measure 75 = .ok (.aload_n 0, 1) := by decide +kernel
theorem kd_U_measure_76 : decode kb_U_measure 76 = .ok (.getfield 100, 3) := by decide +kernel
theorem kd_U_measure_79 : decode kb_U_measure 79 = .ok (.lload 12, 2) := by decide +kernel
theorem kd_U_measure_81 : decode kb_U_measure 81 = .ok (.lload 9, 2) := by decide +kernel
theorem kd_U_measure_83 : decode kb_U_measure 83 = .ok (.lmul, 1) := by decide +kernel
theorem kd_U_measure_84 : decode kb_U_measure 84 = .ok (.lsub, 1) := by decide +kernel
theorem kd_U_measure_85 : decode kb_U_measure 85 = .ok (.lstore 18, 2) := by decide +kernel
theorem kd_U_measure_87 : decode kb_U_measure 87 = .ok (.aload_n 0, 1) := by decide +kernel
theorem kd_U_measure_88 : decode kb_U_measure 88 = .ok (.lload 5, 2) := by decide +kernel
theorem kd_U_measure_90 : decode kb_U_measure 90 = .ok (.putfield 97, 3) := by decide +kernel
theorem kd_U_measure_93 : decode kb_U_measure 93 = .ok (.aload_n 0, 1) := by decide +kernel
theorem kd_U_measure_94 : decode kb_U_measure 94 = .ok (.lload 7, 2) := by decide +kernel
theorem kd_U_measure_96 : decode kb_U_measure 96 = .ok (.putfield 106, 3) := by decide +kernel
theorem kd_U_measure_99 : decode kb_U_measure 99 = .ok (.aload_n 0, 1) := by decide +kernel
theorem kd_U_measure_100 : decode kb_U_measure 100 = .ok (.lload 9, 2) := by decide +kernel
theorem kd_U_measure_102 : decode kb_U_measure 102 = .ok (.putfield 100, 3) := by decide +kernel
theorem kd_U_measure_105 : decode kb_U_measure 105 = .ok (.lload 14, 2) := by decide +kernel
theorem kd_U_measure_107 : decode kb_U_measure 107 = .ok (.lstore 5, 2) := by decide +kernel
theorem kd_U_measure_109 : decode kb_U_measure 109 = .ok (.lload 16, 2) := by decide +kernel
theorem kd_U_measure_111 : decode kb_U_measure 111 = .ok (.lstore 7, 2) := by decide +kernel
theorem kd_U_measure_113 : decode kb_U_measure 113 = .ok (.lload 18, 2) := by decide +kernel
theorem kd_U_measure_115 : decode kb_U_measure 115 = .ok (.lstore 9, 2) := by decide +kernel
theorem kd_U_measure_117 : decode kb_U_measure 117 = .ok (.iinc 11 1, 3) := by decide +kernel
theorem kd_U_measure_120 : decode kb_U_measure 120 = .ok (.goto (-93), 3) := by decide +kernel
theorem kd_U_measure_123 : decode kb_U_measure 123 = .ok (.aload_n 0, 1) := by decide +kernel
theorem kd_U_measure_124 : decode kb_U_measure 124 = .ok (.aload_n 0, 1) := by decide +kernel
theorem kd_U_measure_125 : decode kb_U_measure 125 = .ok (.aload_n 0, 1) := by decide +kernel
theorem kd_U_measure_126 : decode kb_U_measure 126 = .ok (.getfield 100, 3) := by decide +kernel
theorem kd_U_measure_129 : decode kb_U_measure 129 = .ok (.invokevirtual 78, 3) := by decide +kernel
theorem kd_U_measure_132 : decode kb_U_measure 132 = .ok (.putfield 100, 3) := by decide +kernel
theorem kd_U_measure_135 : decode kb_U_measure 135 = .ok (.aload_n 0, 1) := by decide +kernel
theorem kd_U_measure_136 : decode kb_U_measure 136 = .ok (.aload_n 0, 1) := by decide +kernel
theorem kd_U_measure_137 : decode kb_U_measure 137 = .ok (.aload_n 0, 1) := by decide +kernel
theorem kd_U_measure_138 : decode kb_U_measure 138 = .ok (.getfield 106, 3) := by decide +kernel
theorem kd_U_measure_141 : decode kb_U_measure 141 = .ok (.invokevirtual 78, 3) := by decide +kernel
theorem kd_U_measure_144 : decode kb_U_measure 144 = .ok (.putfield 106, 3) := by decide +kernel
theorem kd_U_measure_147 : decode kb_U_measure 147 = .ok (.return_, 1) := by decide +kernel
theorem kd_U_times_0 : decode kb_U_times 0 = .ok (.lconst 0, 1) := by decide +kernel
theorem kd_U_times_1 : decode kb_U_times 1 = .ok (.lstore 5, 2) := by decide +kernel
theorem kd_U_times_3 : decode kb_U_times 3 = .ok (.bipush 48, 2) := by decide +kernel
theorem kd_U_times_5 : decode kb_U_times 5 = .ok (.istore 7, 2) := by decide +kernel
theorem kd_U_times_7 : decode kb_U_times 7 = .ok (.iload 7, 2) := by decide +kernel
theorem kd_U_times_9 : decode kb_U_times 9 = .ok (.ifCond .lt 32, 3) := by decide +kernel
theorem kd_U_times_12 : decode kb_U_times 12 = .ok (.aload_n 0, 1) := by decide +kernel
theorem kd_U_times_13 : decode kb_U_times 13 = .ok (.lload 5, 2) := by decide +kernel
theorem kd_U_times_15 : decode kb_U_times 15 = .ok (.ldc2_w 109, 3) := by decide +kernel
theorem kd_U_times_18 : decode kb_U_times 18 = .ok (.lmul, 1) := by decide +kernel
theorem kd_U_times_19 : decode kb_U_times 19 = .ok (.lload_n 1, 1) := by decide +kernel
theorem kd_U_times_20 : decode kb_U_times 20 = .ok (.lload_n 3, 1) := by decide +kernel
theorem kd_U_times_21 : decode kb_U_times 21 = .ok (.iload 7, 2) := by decide +kernel
theorem kd_U_times_23 : decode kb_U_times 23 = .ok (.lshr, 1) := by decide +kernel
theorem kd_U_times_24 : decode kb_U_times 24 = .ok (.ldc2_w 111, 3) := by decide +kernel
theorem kd_U_times_27 : decode kb_U_times 27 = .ok (.land, 1) := by decide +kernel
theorem kd_U_times_28 : decode kb_U_times 28 = .ok (.lmul, 1) := by decide +kernel
theorem kd_U_times_29 : decode kb_U_times 29 = .ok (.ladd, 1) := by decide +kernel
theorem kd_U_times_30 : decode kb_U_times 30 = .ok (.invokevirtual 78, 3) := by decide +kernel
theorem kd_U_times_33 : decode kb_U_times 33 = .ok (.lstore 5, 2) := by decide +kernel
theorem kd_U_times_35 : decode kb_U_times 35 = .ok (.iinc 7 (-12), 3) := by decide +kernel
theorem kd_U_times_38 : decode kb_U_times 38 = .ok (.goto (-31), 3) := by decide +kernel
theorem kd_U_times_41 : decode kb_U_times 41 = .ok (.lload 5, 2) := by decide +kernel
theorem kd_U_times_43 : decode kb_U_times 43 = .ok (.lreturn, 1) := by decide +kernel
theorem kd_U_makeChain_0 : decode kb_U_makeChain 0 = .ok (.iconst 0, 1) := by decide +kernel
theorem kd_U_makeChain_1 : decode kb_U_makeChain 1 = .ok (.istore_n 1, 1) := by decide +kernel
theorem kd_U_makeChain_2 : decode kb_U_makeChain 2 = .ok (.iload_n 1, 1) := by decide +kernel
theorem kd_U_makeChain_3 : decode kb_U_makeChain 3 = .ok (.aload_n 0, 1) := by decide +kernel
theorem kd_U_makeChain_4 : decode kb_U_makeChain 4 = .ok (.getfield 23, 3) := by decide +kernel
theorem kd_U_makeChain_7 : decode kb_U_makeChain 7 = .ok (.getfield 61, 3) := by decide +kernel
theorem kd_U_makeChain_10 : decode kb_U_makeChain 10 = .ok (.if_icmp .ge 80, 3) := by decide +kernel
theorem kd_U_makeChain_13 : decode kb_U_makeChain 13 = .ok (.iload_n 1, 1) := by decide +kernel
theorem kd_U_makeChain_14 : decode kb_U_makeChain 14 = .ok (.iconst 1, 1) := by decide +kernel
theorem kd_U_makeChain_15 : decode kb_U_makeChain 15 = .ok (.iadd, 1) := by decide +kernel
theorem kd_U_makeChain_16 : decode kb_U_makeChain 16 = .ok (.istore_n 2, 1) := by decide +kernel
theorem kd_U_makeChain_17 : decode kb_U_makeChain 17 = .ok (.iload_n 2, 1) := by decide +kernel
theorem kd_U_makeChain_18 : decode kb_U_makeChain 18 = .ok (.aload_n 0, 1) := by decide +kernel
theorem kd_U_makeChain_19 : decode kb_U_makeChain 19 = .ok (.getfield 23, 3) := by decide +kernel
theorem kd_U_makeChain_22 : decode kb_U_makeChain 22 = .ok (.getfield 61, 3) := by decide +kernel
theorem kd_U_makeChain_25 : decode kb_U_makeChain 25 = .ok (.if_icmp .ge 59, 3) := by decide +kernel
theorem kd_U_makeChain_28 : decode kb_U_makeChain 28 = .ok (.aload_n 0, 1) := by decide +kernel
theorem kd_U_makeChain_29 : decode kb_U_makeChain 29 = .ok (.getfield 9, 3) := by decide +kernel
theorem kd_U_makeChain_32 : decode kb_U_makeChain 32 = .ok (.iload_n 1, 1) := by decide +kernel
theorem kd_U_makeChain_33 : decode kb_U_makeChain 33 = .ok (.laload, 1) := by decide +kernel
theorem kd_U_makeChain_34 : decode kb_U_makeChain 34 = .ok (.aload_n 0, 1) := by decide +kernel
theorem kd_U_makeChain_35 : decode kb_U_makeChain 35 = .ok (.getfield 9, 3) := by decide +kernel
theorem kd_U_makeChain_38 : decode kb_U_makeChain 38 = .ok (.iload_n 2, 1) := by decide +kernel
theorem kd_U_makeChain_39 : decode kb_U_makeChain 39 = .ok (.laload, 1) := by decide +kernel
theorem kd_U_makeChain_40 : decode kb_U_makeChain 40 = .ok (.invokestatic 71, 3) := by decide +kernel
theorem kd_U_makeChain_43 : decode kb_U_makeChain 43 = .ok (.lstore_n 3, 1) := by decide +kernel
theorem kd_U_makeChain_44 : decode kb_U_makeChain 44 = .ok (.lload_n 3, 1) := by decide +kernel
theorem kd_U_makeChain_45 : decode kb_U_makeChain 45 = .ok (.lconst 0, 1) := by decide +kernel
theorem kd_U_makeChain_46 : decode kb_U_makeChain 46 = .ok (.lcmp, 1) := by decide +kernel
theorem kd_U_makeChain_47 : decode kb_U_makeChain 47 = .ok (.ifCond .le 31, 3) := by decide +kernel
theorem kd_U_makeChain_50 : decode kb_U_makeChain 50 = .ok (.aload_n 0, 1) := by decide +kernel
theorem kd_U_makeChain_51 : decode kb_U_makeChain 51 = .ok (.getfield 9, 3) := by decide +kernel
theorem kd_U_makeChain_54 : decode kb_U_makeChain 54 = .ok (.iload_n 2, 1) := by decide +kernel
theorem kd_U_makeChain_55 : decode kb_U_makeChain 55 = .ok (.aload_n 0, 1) := by decide +kernel
theorem kd_U_makeChain_56 : decode kb_U_makeChain 56 = .ok (.getfield 9, 3) := by decide +kernel
theorem kd_U_makeChain_59 : decode kb_U_makeChain 59 = .ok (.iload_n 1, 1) := by decide +kernel
theorem kd_U_makeChain_60 : decode kb_U_makeChain 60 = .ok (.laload, 1) := by decide +kernel
theorem kd_U_makeChain_61 : decode kb_U_makeChain 61 = .ok (.lload_n 3, 1) := by decide +kernel
theorem kd_U_makeChain_62 : decode kb_U_makeChain 62 = .ok (.ldiv, 1) := by decide +kernel
theorem kd_U_makeChain_63 : decode kb_U_makeChain 63 = .ok (.aload_n 0, 1) := by decide +kernel
theorem kd_U_makeChain_64 : decode kb_U_makeChain 64 = .ok (.getfield 9, 3) := by decide +kernel
theorem kd_U_makeChain_67 : decode kb_U_makeChain 67 = .ok (.iload_n 2, 1) := by decide +kernel
theorem kd_U_makeChain_68 : decode kb_U_makeChain 68 = .ok (.laload, 1) := by decide +kernel
theorem kd_U_makeChain_69 : decode kb_U_makeChain 69 = .ok (.lmul, 1) := by decide +kernel
theorem kd_U_makeChain_70 : decode kb_U_makeChain 70 = .ok (.lastore, 1) := by decide +kernel
theorem kd_U_makeChain_71 : decode kb_U_makeChain 71 = .ok (.aload_n 0, 1) := by decide +kernel
theorem kd_U_makeChain_72 : decode kb_U_makeChain 72 = .ok (.getfield 9, 3) := by decide +kernel
theorem kd_U_makeChain_75 : decode kb_U_makeChain 75 = .ok (.iload_n 1, 1) := by decide +kernel
theorem kd_U_makeChain_76 : decode kb_U_makeChain 76 = .ok (.lload_n 3, 1) := by decide +kernel
theorem kd_U_makeChain_77 : decode kb_U_makeChain 77 = .ok (.lastore, 1) := by decide +kernel
theorem kd_U_makeChain_78 : decode kb_U_makeChain 78 = .ok (.iinc 2 1, 3) := by decide +kernel
theorem kd_U_makeChain_81 : decode kb_U_makeChain 81 = .ok (.goto (-64), 3) := by decide +kernel
theorem kd_U_makeChain_84 : decode kb_U_makeChain 84 = .ok (.iinc 1 1, 3) := by decide +kernel
theorem kd_U_makeChain_87 : decode kb_U_makeChain 87 = .ok (.goto (-85), 3) := by decide +kernel
theorem kd_U_makeChain_90 : decode kb_U_makeChain 90 = .ok (.return_, 1) := by decide +kernel
theorem kd_L_init_0 : decode kb_L_init 0 = .ok (.aload_n 0, 1) := by decide +kernel
theorem kd_L_init_1 : decode kb_L_init 1 = .ok (.invokespecial 3, 3) := by decide +kernel
theorem kd_L_init_4 : decode kb_L_init 4 = .ok (.aload_n 0, 1) := by decide +kernel
theorem kd_L_init_5 : decode kb_L_init 5 = .ok (.bipush 10, 2) := by decide +kernel
theorem kd_L_init_7 : decode kb_L_init 7 = .ok (.newarray .long, 2) := by decide +kernel
theorem kd_L_init_9 : decode kb_L_init 9 = .ok (.putfield 9, 3) := by decide +kernel
theorem kd_L_init_12 : decode kb_L_init 12 = .ok (.aload_n 0, 1) := by decide +kernel
theorem kd_L_init_13 : decode kb_L_init 13 = .ok (.bipush 10, 2) := by decide +kernel
theorem kd_L_init_15 : decode kb_L_init 15 = .ok (.newarray .long, 2) := by decide +kernel
theorem kd_L_init_17 : decode kb_L_init 17 = .ok (.putfield 15, 3) := by decide +kernel
theorem kd_L_init_20 : decode kb_L_init 20 = .ok (.aload_n 0, 1) := by decide +kernel
theorem kd_L_init_21 : decode kb_L_init 21 = .ok (.bipush 10, 2) := by decide +kernel
theorem kd_L_init_23 : decode kb_L_init 23 = .ok (.newarray .long, 2) := by decide +kernel
theorem kd_L_init_25 : decode kb_L_init 25 = .ok (.putfield 18, 3) := by decide +kernel
theorem kd_L_init_28 : decode kb_L_init 28 = .ok (.aload_n 0, 1) := by decide +kernel
theorem kd_L_init_29 : decode kb_L_init 29 = .ok (.bipush 10, 2) := by decide +kernel
theorem kd_L_init_31 : decode kb_L_init 31 = .ok (.newarray .long, 2) := by decide +kernel
theorem kd_L_init_33 : decode kb_L_init 33 = .ok (.putfield 21, 3) := by decide +kernel
theorem kd_L_init_36 : decode kb_L_init 36 = .ok (.aload_n 0, 1) := by decide +kernel
theorem kd_L_init_37 : decode kb_L_init 37 = .ok (.aload_n 1, 1) := by decide +kernel
theorem kd_L_init_38 : decode kb_L_init 38 = .ok (.putfield 24, 3) := by decide +kernel
theorem kd_L_init_41 : decode kb_L_init 41 = .ok (.aload_n 0, 1) := by decide +kernel
theorem kd_L_init_42 : decode kb_L_init 42 = .ok (.aload_n 2, 1) := by decide +kernel
theorem kd_L_init_43 : decode kb_L_init 43 = .ok (.putfield 28, 3) := by decide +kernel
theorem kd_L_init_46 : decode kb_L_init 46 = .ok (.return_, 1) := by decide +kernel
theorem kd_L_empty_0 : decode kb_L_empty 0 = .ok (.iconst 0, 1) := by decide +kernel
theorem kd_L_empty_1 : decode kb_L_empty 1 = .ok (.istore_n 1, 1) := by decide +kernel
theorem kd_L_empty_2 : decode kb_L_empty 2 = .ok (.iload_n 1, 1) := by decide +kernel
theorem kd_L_empty_3 : decode kb_L_empty 3 = .ok (.bipush 10, 2) := by decide +kernel
theorem kd_L_empty_5 : decode kb_L_empty 5 = .ok (.if_icmp .ge 23, 3) := by decide +kernel
theorem kd_L_empty_8 : decode kb_L_empty 8 = .ok (.aload_n 0, 1) := by decide +kernel
theorem kd_L_empty_9 : decode kb_L_empty 9 = .ok (.getfield 9, 3) := by decide +kernel
theorem kd_L_empty_12 : decode kb_L_empty 12 = .ok (.iload_n 1, 1) := by decide +kernel
theorem kd_L_empty_13 : decode kb_L_empty 13 = .ok (.lconst 0, 1) := by decide +kernel
theorem kd_L_empty_14 : decode kb_L_empty 14 = .ok (.lastore, 1) := by decide +kernel
theorem kd_L_empty_15 : decode kb_L_empty 15 = .ok (.aload_n 0, 1) := by decide +kernel
theorem kd_L_empty_16 : decode kb_L_empty 16 = .ok (.getfield 15, 3) := by decide +kernel
theorem kd_L_empty_19 : decode kb_L_empty 19 = .ok (.iload_n 1, 1) := by decide +kernel
theorem kd_L_empty_20 : decode kb_L_empty 20 = .ok (.lconst 0, 1) := by decide +kernel
theorem kd_L_empty_21 : decode kb_L_empty 21 = .ok (.lastore, 1) := by decide +kernel
theorem kd_L_empty_22 : decode kb_L_empty 22 = .ok (.iinc 1 1, 3) := by decide +kernel
theorem kd_L_empty_25 : decode kb_L_empty 25 = .ok (.goto (-23), 3) := by decide +kernel
theorem kd_L_empty_28 : decode kb_L_empty 28 = .ok (.return_, 1) := by decide +kernel
theorem kd_L_settleAll_0 : decode kb_L_settleAll 0 = .ok (.aload_n 0, 1) := by decide +kernel
theorem kd_L_settleAll_1 : decode kb_L_settleAll 1 = .ok (.getfield 28, 3) := by decide +kernel
theorem kd_L_settleAll_4 : decode kb_L_settleAll 4 = .ok (.aload_n 0, 1) := by decide +kernel
theorem kd_L_settleAll_5 : decode kb_L_settleAll 5 = .ok (.getfield 24, 3) := by decide +kernel
theorem kd_L_settleAll_8 : decode kb_L_settleAll 8 = .ok (.invokevirtual 32, 3) := by decide +kernel
theorem kd_L_settleAll_11 : decode kb_L_settleAll 11 = .ok (.aload_n 0, 1) := by decide +kernel
theorem kd_L_settleAll_12 : decode kb_L_settleAll 12 = .ok (.aload_n 0, 1) := by decide +kernel
theorem kd_L_settleAll_13 : decode kb_L_settleAll 13 = .ok (.getfield 9, 3) := by decide +kernel
theorem kd_L_settleAll_16 : decode kb_L_settleAll 16 = .ok (.aload_n 0, 1) := by decide +kernel
theorem kd_L_settleAll_17 : decode kb_L_settleAll 17 = .ok (.getfield 15, 3) := by decide +kernel
theorem kd_L_settleAll_20 : decode kb_L_settleAll 20 = .ok (.iload_n 1, 1) := by decide +kernel
theorem kd_L_settleAll_21 : decode kb_L_settleAll 21 = .ok (.invokevirtual 38, 3) := by decide +kernel
theorem kd_L_settleAll_24 : decode kb_L_settleAll 24 = .ok (.lconst 0, 1) := by decide +kernel
theorem kd_L_settleAll_25 : decode kb_L_settleAll 25 = .ok (.lstore_n 2, 1) := by decide +kernel
theorem kd_L_settleAll_26 : decode kb_L_settleAll 26 = .ok (.iconst 0, 1) := by decide +kernel
theorem kd_L_settleAll_27 : decode kb_L_settleAll 27 = .ok (.istore 4, 2) := by decide +kernel
theorem kd_L_settleAll_29 : decode kb_L_settleAll 29 = .ok (.iload 4, 2) := by decide +kernel
theorem kd_L_settleAll_31 : decode kb_L_settleAll 31 = .ok (.aload_n 0, 1) := by decide +kernel
theorem kd_L_settleAll_32 : decode kb_L_settleAll 32 = .ok (.getfield 24, 3) := by decide +kernel
theorem kd_L_settleAll_35 : decode kb_L_settleAll 35 = .ok (.getfield 42, 3) := by decide +kernel
theorem kd_L_settleAll_38 : decode kb_L_settleAll 38 = .ok (.if_icmp .ge 19, 3) := by decide +kernel
theorem kd_L_settleAll_41 : decode kb_L_settleAll 41 = .ok (.lload_n 2, 1) := by decide +kernel
theorem kd_L_settleAll_42 : decode kb_L_settleAll 42 = .ok (.aload_n 0, 1) := by decide +kernel
theorem kd_L_settleAll_43 : decode kb_L_settleAll 43 = .ok (.getfield 15, 3) := by decide +kernel
theorem kd_L_settleAll_46 : decode kb_L_settleAll 46 = .ok (.iload 4, 2) := by decide +kernel
theorem kd_L_settleAll_48 : decode kb_L_settleAll 48 = .ok (.laload, 1) := by decide +kernel
theorem kd_L_settleAll_49 : decode kb_L_settleAll 49 = .ok (.ladd, 1) := by decide +kernel
theorem kd_L_settleAll_50 : decode kb_L_settleAll 50 = .ok (.lstore_n 2, 1) := by decide +kernel
theorem kd_L_settleAll_51 : decode kb_L_settleAll 51 = .ok (.iinc 4 1, 3) := by decide +kernel
theorem kd_L_settleAll_54 : decode kb_L_settleAll 54 = .ok (.goto (-25), 3) := by decide +kernel
theorem kd_L_settleAll_57 : decode kb_L_settleAll 57 = .ok (.lload_n 2, 1) := by decide +kernel
theorem kd_L_settleAll_58 : decode kb_L_settleAll 58 = .ok (.lreturn, 1) := by decide +kernel
theorem kd_L_comeBack_0 : decode kb_L_comeBack 0 = .ok (.aload_n 0, 1) := by decide +kernel
theorem kd_L_comeBack_1 : decode kb_L_comeBack 1 = .ok (.getfield 28, 3) := by decide +kernel
theorem kd_L_comeBack_4 : decode kb_L_comeBack 4 = .ok (.aload_n 0, 1) := by decide +kernel
theorem kd_L_comeBack_5 : decode kb_L_comeBack 5 = .ok (.getfield 24, 3) := by decide +kernel
theorem kd_L_comeBack_8 : decode kb_L_comeBack 8 = .ok (.invokevirtual 32, 3) := by decide +kernel
theorem kd_L_comeBack_11 : decode kb_L_comeBack 11 = .ok (.iconst 0, 1) := by decide +kernel
theorem kd_L_comeBack_12 : decode kb_L_comeBack 12 = .ok (.istore_n 2, 1) := by decide +kernel
theorem kd_L_comeBack_13 : decode kb_L_comeBack 13 = .ok (.iload_n 2, 1) := by decide +kernel
theorem kd_L_comeBack_14 : decode kb_L_comeBack 14 = .ok (.aload_n 0, 1) := by decide +kernel
theorem kd_L_comeBack_15 : decode kb_L_comeBack 15 = .ok (.getfield 24, 3) := by decide +kernel
theorem kd_L_comeBack_18 : decode kb_L_comeBack 18 = .ok (.getfield 42, 3) := by decide +kernel
theorem kd_L_comeBack_21 : decode kb_L_comeBack 21 = .ok (.if_icmp .ge 49, 3) := by decide +kernel
theorem kd_L_comeBack_24 : decode kb_L_comeBack 24 = .ok (.iload_n 2, 1) := by decide +kernel
theorem kd_L_comeBack_25 : decode kb_L_comeBack 25 = .ok (.iload_n 1, 1) := by decide +kernel
theorem kd_L_comeBack_26 : decode kb_L_comeBack 26 = .ok (.if_icmp .eq 26, 3) := by decide +kernel
theorem kd_L_comeBack_29 : decode kb_L_comeBack 29 = .ok (.aload_n 0, 1) := by decide +kernel
theorem kd_L_comeBack_30 : decode kb_L_comeBack 30 = .ok (.getfield 9, 3) := by decide +kernel
theorem kd_L_comeBack_33 : decode kb_L_comeBack 33 = .ok (.iload_n 2, 1) := by decide +kernel
theorem kd_L_comeBack_34 : decode kb_L_comeBack 34 = .ok (.laload, 1) := by decide +kernel
theorem kd_L_comeBack_35 : decode kb_L_comeBack 35 = .ok (.aload_n 0, 1) := by decide +kernel
theorem kd_L_comeBack_36 : decode kb_L_comeBack 36 = .ok (.getfield 28, 3) := by decide +kernel
theorem kd_L_comeBack_39 : decode kb_L_comeBack 39 = .ok (.getfield 48, 3) := by decide +kernel
theorem kd_L_comeBack_42 : decode kb_L_comeBack 42 = .ok (.iload_n 2, 1) := by decide +kernel
theorem kd_L_comeBack_43 : decode kb_L_comeBack 43 = .ok (.aaload, 1) := by decide +kernel
theorem kd_L_comeBack_44 : decode kb_L_comeBack 44 = .ok (.iload_n 2, 1) := by decide +kernel
theorem kd_L_comeBack_45 : decode kb_L_comeBack 45 = .ok (.laload, 1) := by decide +kernel
theorem kd_L_comeBack_46 : decode kb_L_comeBack 46 = .ok (.lcmp, 1) := by decide +kernel
theorem kd_L_comeBack_47 : decode kb_L_comeBack 47 = .ok (.ifCond .lt 5, 3) := by decide +kernel
theorem kd_L_comeBack_50 : decode kb_L_comeBack 50 = .ok (.iconst 0, 1) := by decide +kernel
theorem kd_L_comeBack_51 : decode kb_L_comeBack 51 = .ok (.ireturn, 1) := by decide +kernel
theorem kd_L_comeBack_52 : decode kb_L_comeBack 52 = .ok (.aload_n 0, 1) := by decide +kernel
theorem kd_L_comeBack_53 : decode kb_L_comeBack 53 = .ok (.getfield 18, 3) := by decide +kernel
theorem kd_L_comeBack_56 : decode kb_L_comeBack 56 = .ok (.iload_n 2, 1) := by decide +kernel
theorem kd_L_comeBack_57 : decode kb_L_comeBack 57 = .ok (.aload_n 0, 1) := by decide +kernel
theorem kd_L_comeBack_58 : decode kb_L_comeBack 58 = .ok (.getfield 9, 3) := by decide +kernel
theorem kd_L_comeBack_61 : decode kb_L_comeBack 61 = .ok (.iload_n 2, 1) := by decide +kernel
theorem kd_L_comeBack_62 : decode kb_L_comeBack 62 = .ok (.laload, 1) := by decide +kernel
theorem kd_L_comeBack_63 : decode kb_L_comeBack 63 = .ok (.lastore, 1) := by decide +kernel
theorem kd_L_comeBack_64 : decode kb_L_comeBack 64 = .ok (.iinc 2 1, 3) := by decide +kernel
theorem kd_L_comeBack_67 : decode kb_L_comeBack 67 = .ok (.goto (-54), 3) := by decide +kernel
theorem kd_L_comeBack_70 : decode kb_L_comeBack 70 = .ok (.aload_n 0, 1) := by decide +kernel
theorem kd_L_comeBack_71 : decode kb_L_comeBack 71 = .ok (.aload_n 0, 1) := by decide +kernel
theorem kd_L_comeBack_72 : decode kb_L_comeBack 72 = .ok (.getfield 18, 3) := by decide +kernel
theorem kd_L_comeBack_75 : decode kb_L_comeBack 75 = .ok (.iload_n 1, 1) := by decide +kernel
theorem kd_L_comeBack_76 : decode kb_L_comeBack 76 = .ok (.lconst 1, 1) := by decide +kernel
theorem kd_L_comeBack_77 : decode kb_L_comeBack 77 = .ok (.invokevirtual 52, 3) := by decide +kernel
theorem kd_L_comeBack_80 : decode kb_L_comeBack 80 = .ok (.aload_n 0, 1) := by decide +kernel
theorem kd_L_comeBack_81 : decode kb_L_comeBack 81 = .ok (.aload_n 0, 1) := by decide +kernel
theorem kd_L_comeBack_82 : decode kb_L_comeBack 82 = .ok (.getfield 18, 3) := by decide +kernel
theorem kd_L_comeBack_85 : decode kb_L_comeBack 85 = .ok (.aload_n 0, 1) := by decide +kernel
theorem kd_L_comeBack_86 : decode kb_L_comeBack 86 = .ok (.getfield 21, 3) := by decide +kernel
theorem kd_L_comeBack_89 : decode kb_L_comeBack 89 = .ok (.iload_n 1, 1) := by decide +kernel
theorem kd_L_comeBack_90 : decode kb_L_comeBack 90 = .ok (.invokevirtual 38, 3) := by decide +kernel
theorem kd_L_comeBack_93 : decode kb_L_comeBack 93 = .ok (.iconst 0, 1) := by decide +kernel
theorem kd_L_comeBack_94 : decode kb_L_comeBack 94 = .ok (.istore_n 2, 1) := by decide +kernel
theorem kd_L_comeBack_95 : decode kb_L_comeBack 95 = .ok (.iload_n 2, 1) := by decide +kernel
theorem kd_L_comeBack_96 : decode kb_L_comeBack 96 = .ok (.aload_n 0, 1) := by decide +kernel
theorem kd_L_comeBack_97 : decode kb_L_comeBack 97 = .ok (.getfield 24, 3) := by decide +kernel
theorem kd_L_comeBack_100 : decode kb_L_comeBack 100 = .ok (.getfield 42, 3) := by decide +kernel
theorem kd_L_comeBack_103 : decode kb_L_comeBack 103 = .ok (.if_icmp .ge 27, 3) := by decide +kernel
theorem kd_L_comeBack_106 : decode kb_L_comeBack 106 = .ok (.iload_n 2, 1) := by decide +kernel
theorem kd_L_comeBack_107 : decode kb_L_comeBack 107 = .ok (.iload_n 1, 1) := by decide +kernel
theorem kd_L_comeBack_108 : decode kb_L_comeBack 108 = .ok (.if_icmp .eq 16, 3) := by decide +kernel
theorem kd_L_comeBack_111 : decode kb_L_comeBack 111 = .ok (.aload_n 0, 1) := by decide +kernel
theorem kd_L_comeBack_112 : decode kb_L_comeBack 112 = .ok (.getfield 21, 3) := by decide +kernel
theorem kd_L_comeBack_115 : decode kb_L_comeBack 115 = .ok (.iload_n 2, 1) := by decide +kernel
theorem kd_L_comeBack_116 : decode kb_L_comeBack 116 = .ok (.laload, 1) := by decide +kernel
theorem kd_L_comeBack_117 : decode kb_L_comeBack 117 = .ok (.lconst 1, 1) := by decide +kernel
theorem kd_L_comeBack_118 : decode kb_L_comeBack 118 = .ok (.lcmp, 1) := by decide +kernel
theorem kd_L_comeBack_119 : decode kb_L_comeBack 119 = .ok (.ifCond .eq 5, 3) := by decide +kernel
theorem kd_L_comeBack_122 : decode kb_L_comeBack 122 = .ok (.iconst 0, 1) := by decide +kernel
theorem kd_L_comeBack_123 : decode kb_L_comeBack 123 = .ok (.ireturn, 1) := by decide +kernel
theorem kd_L_comeBack_124 : decode kb_L_comeBack 124 = .ok (.iinc 2 1, 3) := by decide +kernel
theorem kd_L_comeBack_127 : decode kb_L_comeBack 127 = .ok (.goto (-32), 3) := by decide +kernel
theorem kd_L_comeBack_130 : decode kb_L_comeBack 130 = .ok (.iconst 1, 1) := by decide +kernel
theorem kd_L_comeBack_131 : decode kb_L_comeBack 131 = .ok (.ireturn, 1) := by decide +kernel
theorem kd_L_run_0 : decode kb_L_run 0 = .ok (.iconst 0, 1) := by decide +kernel
theorem kd_L_run_1 : decode kb_L_run 1 = .ok (.istore 4, 2) := by decide +kernel
theorem kd_L_run_3 : decode kb_L_run 3 = .ok (.iload 4, 2) := by decide +kernel
theorem kd_L_run_5 : decode kb_L_run 5 = .ok (.bipush 10, 2) := by decide +kernel
theorem kd_L_run_7 : decode kb_L_run 7 = .ok (.if_icmp .ge 14, 3) := by decide +kernel
theorem kd_L_run_10 : decode kb_L_run 10 = .ok (.aload_n 2, 1) := by decide +kernel
theorem kd_L_run_11 : decode kb_L_run 11 = .ok (.iload 4, 2) := by decide +kernel
theorem kd_L_run_13 : decode kb_L_run 13 = .ok (.lconst 0, 1) := by decide +kernel
theorem kd_L_run_14 : decode kb_L_run 14 = .ok (.lastore, 1) := by decide +kernel
theorem kd_L_run_15 : decode kb_L_run 15 = .ok (.iinc 4 1, 3) := by decide +kernel
theorem kd_L_run_18 : decode kb_L_run 18 = .ok (.goto (-15), 3) := by decide +kernel
theorem kd_L_run_21 : decode kb_L_run 21 = .ok (.iconst 1, 1) := by decide +kernel
theorem kd_L_run_22 : decode kb_L_run 22 = .ok (.istore 4, 2) := by decide +kernel
theorem kd_L_run_24 : decode kb_L_run 24 = .ok (.iconst 0, 1) := by decide +kernel
theorem kd_L_run_25 : decode kb_L_run 25 = .ok (.istore 5, 2) := by decide +kernel
theorem kd_L_run_27 : decode kb_L_run 27 = .ok (.iload 5, 2) := by decide +kernel
theorem kd_L_run_29 : decode kb_L_run 29 = .ok (.ldc 56, 2) := by decide +kernel
theorem kd_L_run_31 : decode kb_L_run 31 = .ok (.if_icmp .ge 106, 3) := by decide +kernel
theorem kd_L_run_34 : decode kb_L_run 34 = .ok (.iload 4, 2) := by decide +kernel
theorem kd_L_run_36 : decode kb_L_run 36 = .ok (.ifCond .eq 101, 3) := by decide +kernel
theorem kd_L_run_39 : decode kb_L_run 39 = .ok (.iconst 0, 1) := by decide +kernel
theorem kd_L_run_40 : decode kb_L_run 40 = .ok (.istore 4, 2) := by decide +kernel
theorem kd_L_run_42 : decode kb_L_run 42 = .ok (.iconst 0, 1) := by decide +kernel
theorem kd_L_run_43 : decode kb_L_run 43 = .ok (.istore 6, 2) := by decide +kernel
theorem kd_L_run_45 : decode kb_L_run 45 = .ok (.iload 6, 2) := by decide +kernel
theorem kd_L_run_47 : decode kb_L_run 47 = .ok (.aload_n 0, 1) := by decide +kernel
theorem kd_L_run_48 : decode kb_L_run 48 = .ok (.getfield 24, 3) := by decide +kernel
theorem kd_L_run_51 : decode kb_L_run 51 = .ok (.getfield 42, 3) := by decide +kernel
theorem kd_L_run_54 : decode kb_L_run 54 = .ok (.if_icmp .ge 77, 3) := by decide +kernel
theorem kd_L_run_57 : decode kb_L_run 57 = .ok (.aload_n 0, 1) := by decide +kernel
theorem kd_L_run_58 : decode kb_L_run 58 = .ok (.getfield 28, 3) := by decide +kernel
theorem kd_L_run_61 : decode kb_L_run 61 = .ok (.getfield 48, 3) := by decide +kernel
theorem kd_L_run_64 : decode kb_L_run 64 = .ok (.iload 6, 2) := by decide +kernel
theorem kd_L_run_66 : decode kb_L_run 66 = .ok (.aaload, 1) := by decide +kernel
theorem kd_L_run_67 : decode kb_L_run 67 = .ok (.iload 6, 2) := by decide +kernel
theorem kd_L_run_69 : decode kb_L_run 69 = .ok (.laload, 1) := by decide +kernel
theorem kd_L_run_70 : decode kb_L_run 70 = .ok (.lstore 7, 2) := by decide +kernel
theorem kd_L_run_72 : decode kb_L_run 72 = .ok (.iload 6, 2) := by decide +kernel
theorem kd_L_run_74 : decode kb_L_run 74 = .ok (.iload_n 3, 1) := by decide +kernel
theorem kd_L_run_75 : decode kb_L_run 75 = .ok (.if_icmp .eq 50, 3) := by decide +kernel
theorem kd_L_run_78 : decode kb_L_run 78 = .ok (.lload 7, 2) := by decide +kernel
theorem kd_L_run_80 : decode kb_L_run 80 = .ok (.lconst 0, 1) := by decide +kernel
theorem kd_L_run_81 : decode kb_L_run 81 = .ok (.lcmp, 1) := by decide +kernel
theorem kd_L_run_82 : decode kb_L_run 82 = .ok (.ifCond .le 43, 3) := by decide +kernel
theorem kd_L_run_85 : decode kb_L_run 85 = .ok (.aload_n 1, 1) := by decide +kernel
theorem kd_L_run_86 : decode kb_L_run 86 = .ok (.iload 6, 2) := by decide +kernel
theorem kd_L_run_88 : decode kb_L_run 88 = .ok (.laload, 1) := by decide +kernel
theorem kd_L_run_89 : decode kb_L_run 89 = .ok (.lload 7, 2) := by decide +kernel
theorem kd_L_run_91 : decode kb_L_run 91 = .ok (.lcmp, 1) := by decide +kernel
theorem kd_L_run_92 : decode kb_L_run 92 = .ok (.ifCond .lt 33, 3) := by decide +kernel
theorem kd_L_run_95 : decode kb_L_run 95 = .ok (.aload_n 1, 1) := by decide +kernel
theorem kd_L_run_96 : decode kb_L_run 96 = .ok (.iload 6, 2) := by decide +kernel
theorem kd_L_run_98 : decode kb_L_run 98 = .ok (.laload, 1) := by decide +kernel
theorem kd_L_run_99 : decode kb_L_run 99 = .ok (.lload 7, 2) := by decide +kernel
theorem kd_L_run_101 : decode kb_L_run 101 = .ok (.ldiv, 1) := by decide +kernel
theorem kd_L_run_102 : decode kb_L_run 102 = .ok (.lstore 9, 2) := by decide +kernel
theorem kd_L_run_104 : decode kb_L_run 104 = .ok (.aload_n 0, 1) := by decide +kernel
theorem kd_L_run_105 : decode kb_L_run 105 = .ok (.aload_n 1, 1) := by decide +kernel
theorem kd_L_run_106 : decode kb_L_run 106 = .ok (.iload 6, 2) := by decide +kernel
theorem kd_L_run_108 : decode kb_L_run 108 = .ok (.lload 9, 2) := by decide +kernel
theorem kd_L_run_110 : decode kb_L_run 110 = .ok (.invokevirtual 52, 3) := by decide +kernel
theorem kd_L_run_113 : decode kb_L_run 113 = .ok (.aload_n 2, 1) := by decide +kernel
theorem kd_L_run_114 : decode kb_L_run 114 = .ok (.iload 6, 2) := by decide +kernel
theorem kd_L_run_116 : decode kb_L_run 116 = .ok (.dup2, 1) := by decide +kernel
theorem kd_L_run_117 : decode kb_L_run 117 = .ok (.laload, 1) := by decide +kernel
theorem kd_L_run_118 : decode kb_L_run 118 = .ok (.lload 9, 2) := by decide +kernel
theorem kd_L_run_120 : decode kb_L_run 120 = .ok (.ladd, 1) := by decide +kernel
theorem kd_L_run_121 : decode kb_L_run 121 = .ok (.lastore, 1) := by decide +kernel
theorem kd_L_run_122 : decode kb_L_run 122 = .ok (.iconst 1, 1) := by decide +kernel
theorem kd_L_run_123 : decode kb_L_run 123 = .ok (.istore 4, 2) := by decide +kernel
theorem kd_L_run_125 : decode kb_L_run 125 = .ok (.iinc 6 1, 3) := by decide +kernel
theorem kd_L_run_128 : decode kb_L_run 128 = .ok (.goto (-83), 3) := by decide +kernel
theorem kd_L_run_131 : decode kb_L_run 131 = .ok (.iinc 5 1, 3) := by decide +kernel
theorem kd_L_run_134 : decode kb_L_run 134 = .ok (.goto (-107), 3) := by decide +kernel
theorem kd_L_run_137 : decode kb_L_run 137 = .ok (.return_, 1) := by decide +kernel
theorem kd_L_fire_0 : decode kb_L_fire 0 = .ok (.iconst 0, 1) := by decide +kernel
theorem kd_L_fire_1 : decode kb_L_fire 1 = .ok (.istore 5, 2) := by decide +kernel
theorem kd_L_fire_3 : decode kb_L_fire 3 = .ok (.iload 5, 2) := by decide +kernel
theorem kd_L_fire_5 : decode kb_L_fire 5 = .ok (.aload_n 0, 1) := by decide +kernel
theorem kd_L_fire_6 : decode kb_L_fire 6 = .ok (.getfield 24, 3) := by decide +kernel
theorem kd_L_fire_9 : decode kb_L_fire 9 = .ok (.getfield 42, 3) := by decide +kernel
theorem kd_L_fire_12 : decode kb_L_fire 12 = .ok (.if_icmp .ge 30, 3) := by decide +kernel
theorem kd_L_fire_15 : decode kb_L_fire 15 = .ok (.aload_n 1, 1) := by decide +kernel
theorem kd_L_fire_16 : decode kb_L_fire 16 = .ok (.iload 5, 2) := by decide +kernel
theorem kd_L_fire_18 : decode kb_L_fire 18 = .ok (.dup2, 1) := by decide +kernel
theorem kd_L_fire_19 : decode kb_L_fire 19 = .ok (.laload, 1) := by decide +kernel
theorem kd_L_fire_20 : decode kb_L_fire 20 = .ok (.lload_n 3, 1) := by decide +kernel
theorem kd_L_fire_21 : decode kb_L_fire 21 = .ok (.aload_n 0, 1) := by decide +kernel
theorem kd_L_fire_22 : decode kb_L_fire 22 = .ok (.getfield 28, 3) := by decide +kernel
theorem kd_L_fire_25 : decode kb_L_fire 25 = .ok (.getfield 48, 3) := by decide +kernel
theorem kd_L_fire_28 : decode kb_L_fire 28 = .ok (.iload_n 2, 1) := by decide +kernel
theorem kd_L_fire_29 : decode kb_L_fire 29 = .ok (.aaload, 1) := by decide +kernel
theorem kd_L_fire_30 : decode kb_L_fire 30 = .ok (.iload 5, 2) := by decide +kernel
theorem kd_L_fire_32 : decode kb_L_fire 32 = .ok (.laload, 1) := by decide +kernel
theorem kd_L_fire_33 : decode kb_L_fire 33 = .ok (.lmul, 1) := by decide +kernel
theorem kd_L_fire_34 : decode kb_L_fire 34 = .ok (.lsub, 1) := by decide +kernel
theorem kd_L_fire_35 : decode kb_L_fire 35 = .ok (.lastore, 1) := by decide +kernel
theorem kd_L_fire_36 : decode kb_L_fire 36 = .ok (.iinc 5 1, 3) := by decide +kernel
theorem kd_L_fire_39 : decode kb_L_fire 39 = .ok (.goto (-36), 3) := by decide +kernel
theorem kd_L_fire_42 : decode kb_L_fire 42 = .ok (.return_, 1) := by decide +kernel
theorem kd_S_init_0 : decode kb_S_init 0 = .ok (.aload_n 0, 1) := by decide +kernel
theorem kd_S_init_1 : decode kb_S_init 1 = .ok (.invokespecial 3, 3) := by decide +kernel
theorem kd_S_init_4 : decode kb_S_init 4 = .ok (.aload_n 0, 1) := by decide +kernel
theorem kd_S_init_5 : decode kb_S_init 5 = .ok (.bipush 10, 2) := by decide +kernel
theorem kd_S_init_7 : decode kb_S_init 7 = .ok (.anewarray 9, 3) := by decide +kernel
theorem kd_S_init_10 : decode kb_S_init 10 = .ok (.putfield 11, 3) := by decide +kernel
theorem kd_S_init_13 : decode kb_S_init 13 = .ok (.aload_n 0, 1) := by decide +kernel
theorem kd_S_init_14 : decode kb_S_init 14 = .ok (.bipush 11, 2) := by decide +kernel
theorem kd_S_init_16 : decode kb_S_init 16 = .ok (.newarray .long, 2) := by decide +kernel
theorem kd_S_init_18 : decode kb_S_init 18 = .ok (.putfield 17, 3) := by decide +kernel
theorem kd_S_init_21 : decode kb_S_init 21 = .ok (.aload_n 0, 1) := by decide +kernel
theorem kd_S_init_22 : decode kb_S_init 22 = .ok (.bipush 15, 2) := by decide +kernel
theorem kd_S_init_24 : decode kb_S_init 24 = .ok (.newarray .long, 2) := by decide +kernel
theorem kd_S_init_26 : decode kb_S_init 26 = .ok (.putfield 21, 3) := by decide +kernel
theorem kd_S_init_29 : decode kb_S_init 29 = .ok (.aload_n 0, 1) := by decide +kernel
theorem kd_S_init_30 : decode kb_S_init 30 = .ok (.aload_n 1, 1) := by decide +kernel
theorem kd_S_init_31 : decode kb_S_init 31 = .ok (.putfield 24, 3) := by decide +kernel
theorem kd_S_init_34 : decode kb_S_init 34 = .ok (.aload_n 0, 1) := by decide +kernel
theorem kd_S_init_35 : decode kb_S_init 35 = .ok (.aload_n 2, 1) := by decide +kernel
theorem kd_S_init_36 : decode kb_S_init 36 = .ok (.putfield 28, 3) := by decide +kernel
theorem kd_S_init_39 : decode kb_S_init 39 = .ok (.iconst 0, 1) := by decide +kernel
theorem kd_S_init_40 : decode kb_S_init 40 = .ok (.istore_n 3, 1) := by decide +kernel
theorem kd_S_init_41 : decode kb_S_init 41 = .ok (.iload_n 3, 1) := by decide +kernel
theorem kd_S_init_42 : decode kb_S_init 42 = .ok (.bipush 10, 2) := by decide +kernel
theorem kd_S_init_44 : decode kb_S_init 44 = .ok (.if_icmp .ge 22, 3) := by decide +kernel
theorem kd_S_init_47 : decode kb_S_init 47 = .ok (.aload_n 0, 1) := by decide +kernel
theorem kd_S_init_48 : decode kb_S_init 48 = .ok (.getfield 11, 3) := by decide +kernel
theorem kd_S_init_51 : decode kb_S_init 51 = .ok (.iload_n 3, 1) := by decide +kernel
theorem kd_S_init_52 : decode kb_S_init 52 = .ok (.new 9, 3) := by decide +kernel
theorem kd_S_init_55 : decode kb_S_init 55 = .ok (.dup, 1) := by decide +kernel
theorem kd_S_init_56 : decode kb_S_init 56 = .ok (.invokespecial 32, 3) := by decide +kernel
theorem kd_S_init_59 : decode kb_S_init 59 = .ok (.aastore, 1) := by decide +kernel
theorem kd_S_init_60 : decode kb_S_init 60 = .ok (.iinc 3 1, 3) := by decide +kernel
theorem kd_S_init_63 : decode kb_S_init 63 = .ok (.goto (-22), 3) := by decide +kernel
theorem kd_S_init_66 : decode kb_S_init 66 = .ok (.return_, 1) := by decide +kernel
theorem kd_S_sumAt_0 : decode kb_S_sumAt 0 = .ok (.aload_n 0, 1) := by decide +kernel
theorem kd_S_sumAt_1 : decode kb_S_sumAt 1 = .ok (.getfield 17, 3) := by decide +kernel
theorem kd_S_sumAt_4 : decode kb_S_sumAt 4 = .ok (.lload_n 1, 1) := by decide +kernel
theorem kd_S_sumAt_5 : decode kb_S_sumAt 5 = .ok (.lconst 1, 1) := by decide +kernel
theorem kd_S_sumAt_6 : decode kb_S_sumAt 6 = .ok (.lsub, 1) := by decide +kernel
theorem kd_S_sumAt_7 : decode kb_S_sumAt 7 = .ok (.invokestatic 33, 3) := by decide +kernel
theorem kd_S_sumAt_10 : decode kb_S_sumAt 10 = .ok (.aload_n 0, 1) := by decide +kernel
theorem kd_S_sumAt_11 : decode kb_S_sumAt 11 = .ok (.getfield 21, 3) := by decide +kernel
theorem kd_S_sumAt_14 : decode kb_S_sumAt 14 = .ok (.lload_n 3, 1) := by decide +kernel
theorem kd_S_sumAt_15 : decode kb_S_sumAt 15 = .ok (.invokestatic 33, 3) := by decide +kernel
theorem kd_S_sumAt_18 : decode kb_S_sumAt 18 = .ok (.aload_n 0, 1) := by decide +kernel
theorem kd_S_sumAt_19 : decode kb_S_sumAt 19 = .ok (.getfield 24, 3) := by decide +kernel
theorem kd_S_sumAt_22 : decode kb_S_sumAt 22 = .ok (.aload_n 0, 1) := by decide +kernel
theorem kd_S_sumAt_23 : decode kb_S_sumAt 23 = .ok (.getfield 28, 3) := by decide +kernel
theorem kd_S_sumAt_26 : decode kb_S_sumAt 26 = .ok (.invokevirtual 37, 3) := by decide +kernel
theorem kd_S_sumAt_29 : decode kb_S_sumAt 29 = .ok (.pop, 1) := by decide +kernel
theorem kd_S_sumAt_30 : decode kb_S_sumAt 30 = .ok (.aload_n 0, 1) := by decide +kernel
theorem kd_S_sumAt_31 : decode kb_S_sumAt 31 = .ok (.aload_n 0, 1) := by decide +kernel
theorem kd_S_sumAt_32 : decode kb_S_sumAt 32 = .ok (.getfield 28, 3) := by decide +kernel
theorem kd_S_sumAt_35 : decode kb_S_sumAt 35 = .ok (.getfield 43, 3) := by decide +kernel
theorem kd_S_sumAt_38 : decode kb_S_sumAt 38 = .ok (.putfield 47, 3) := by decide +kernel
theorem kd_S_sumAt_41 : decode kb_S_sumAt 41 = .ok (.aload_n 0, 1) := by decide +kernel
theorem kd_S_sumAt_42 : decode kb_S_sumAt 42 = .ok (.getfield 11, 3) := by decide +kernel
theorem kd_S_sumAt_45 : decode kb_S_sumAt 45 = .ok (.iconst 0, 1) := by decide +kernel
theorem kd_S_sumAt_46 : decode kb_S_sumAt 46 = .ok (.aaload, 1) := by decide +kernel
theorem kd_S_sumAt_47 : decode kb_S_sumAt 47 = .ok (.aload_n 0, 1) := by decide +kernel
theorem kd_S_sumAt_48 : decode kb_S_sumAt 48 = .ok (.getfield 24, 3) := by decide +kernel
theorem kd_S_sumAt_51 : decode kb_S_sumAt 51 = .ok (.getfield 50, 3) := by decide +kernel
theorem kd_S_sumAt_54 : decode kb_S_sumAt 54 = .ok (.invokevirtual 53, 3) := by decide +kernel
theorem kd_S_sumAt_57 : decode kb_S_sumAt 57 = .ok (.aload_n 0, 1) := by decide +kernel
theorem kd_S_sumAt_58 : decode kb_S_sumAt 58 = .ok (.iconst 0, 1) := by decide +kernel
theorem kd_S_sumAt_59 : decode kb_S_sumAt 59 = .ok (.iconst 0, 1) := by decide +kernel
theorem kd_S_sumAt_60 : decode kb_S_sumAt 60 = .ok (.invokestatic 57, 3) := by decide +kernel
theorem kd_S_sumAt_63 : decode kb_S_sumAt 63 = .ok (.lreturn, 1) := by decide +kernel
theorem kd_S_fillPowers_0 : decode kb_S_fillPowers 0 = .ok (.lconst 1, 1) := by decide +kernel
theorem kd_S_fillPowers_1 : decode kb_S_fillPowers 1 = .ok (.lstore_n 3, 1) := by decide +kernel
theorem kd_S_fillPowers_2 : decode kb_S_fillPowers 2 = .ok (.iconst 0, 1) := by decide +kernel
theorem kd_S_fillPowers_3 : decode kb_S_fillPowers 3 = .ok (.istore 5, 2) := by decide +kernel
theorem kd_S_fillPowers_5 : decode kb_S_fillPowers 5 = .ok (.iload 5, 2) := by decide +kernel
theorem kd_S_fillPowers_7 : decode kb_S_fillPowers 7 = .ok (.aload_n 0, 1) := by decide +kernel
theorem kd_S_fillPowers_8 : decode kb_S_fillPowers 8 = .ok (.arraylength, 1) := by decide +kernel
theorem kd_S_fillPowers_9 : decode kb_S_fillPowers 9 = .ok (.if_icmp .ge 18, 3) := by decide +kernel
theorem kd_S_fillPowers_12 : decode kb_S_fillPowers 12 = .ok (.aload_n 0, 1) := by decide +kernel
theorem kd_S_fillPowers_13 : decode kb_S_fillPowers 13 = .ok (.iload 5, 2) := by decide +kernel
theorem kd_S_fillPowers_15 : decode kb_S_fillPowers 15 = .ok (.lload_n 3, 1) := by decide +kernel
theorem kd_S_fillPowers_16 : decode kb_S_fillPowers 16 = .ok (.lastore, 1) := by decide +kernel
theorem kd_S_fillPowers_17 : decode kb_S_fillPowers 17 = .ok (.lload_n 3, 1) := by decide +kernel
theorem kd_S_fillPowers_18 : decode kb_S_fillPowers 18 = .ok (.lload_n 1, 1) := by decide +kernel
theorem kd_S_fillPowers_19 : decode kb_S_fillPowers 19 = .ok (.lmul, 1) := by decide +kernel
theorem kd_S_fillPowers_20 : decode kb_S_fillPowers 20 = .ok (.lstore_n 3, 1) := by decide +kernel
theorem kd_S_fillPowers_21 : decode kb_S_fillPowers 21 = .ok (.iinc 5 1, 3) := by decide +kernel
theorem kd_S_fillPowers_24 : decode kb_S_fillPowers 24 = .ok (.goto (-19), 3) := by decide +kernel
theorem kd_S_fillPowers_27 : decode kb_S_fillPowers 27 = .ok (.return_, 1) := by decide +kernel
theorem kd_S_sumFrom_0 : decode kb_S_sumFrom 0 = .ok (.aload_n 0, 1) := by decide +kernel
theorem kd_S_sumFrom_1 : decode kb_S_sumFrom 1 = .ok (.getfield 24, 3) := by decide +kernel
theorem kd_S_sumFrom_4 : decode kb_S_sumFrom 4 = .ok (.astore_n 3, 1) := by decide +kernel
theorem kd_S_sumFrom_5 : decode kb_S_sumFrom 5 = .ok (.aload_n 0, 1) := by decide +kernel
theorem kd_S_sumFrom_6 : decode kb_S_sumFrom 6 = .ok (.getfield 11, 3) := by decide +kernel
theorem kd_S_sumFrom_9 : decode kb_S_sumFrom 9 = .ok (.iload_n 2, 1) := by decide +kernel
theorem kd_S_sumFrom_10 : decode kb_S_sumFrom 10 = .ok (.aaload, 1) := by decide +kernel
theorem kd_S_sumFrom_11 : decode kb_S_sumFrom 11 = .ok (.astore 4, 2) := by decide +kernel
theorem kd_S_sumFrom_13 : decode kb_S_sumFrom 13 = .ok (.aload 4, 2) := by decide +kernel
theorem kd_S_sumFrom_15 : decode kb_S_sumFrom 15 = .ok (.getfield 43, 3) := by decide +kernel
theorem kd_S_sumFrom_18 : decode kb_S_sumFrom 18 = .ok (.aload_n 0, 1) := by decide +kernel
theorem kd_S_sumFrom_19 : decode kb_S_sumFrom 19 = .ok (.getfield 47, 3) := by decide +kernel
theorem kd_S_sumFrom_22 : decode kb_S_sumFrom 22 = .ok (.isub, 1) := by decide +kernel
theorem kd_S_sumFrom_23 : decode kb_S_sumFrom 23 = .ok (.istore 5, 2) := by decide +kernel
theorem kd_S_sumFrom_25 : decode kb_S_sumFrom 25 = .ok (.iload 5, 2) := by decide +kernel
theorem kd_S_sumFrom_27 : decode kb_S_sumFrom 27 = .ok (.ifCond .ne 15, 3) := by decide +kernel
theorem kd_S_sumFrom_30 : decode kb_S_sumFrom 30 = .ok (.aload_n 0, 1) := by decide +kernel
theorem kd_S_sumFrom_31 : decode kb_S_sumFrom 31 = .ok (.getfield 21, 3) := by decide +kernel
theorem kd_S_sumFrom_34 : decode kb_S_sumFrom 34 = .ok (.aload_n 3, 1) := by decide +kernel
theorem kd_S_sumFrom_35 : decode kb_S_sumFrom 35 = .ok (.getfield 61, 3) := by decide +kernel
theorem kd_S_sumFrom_38 : decode kb_S_sumFrom 38 = .ok (.iload_n 1, 1) := by decide +kernel
theorem kd_S_sumFrom_39 : decode kb_S_sumFrom 39 = .ok (.isub, 1) := by decide +kernel
theorem kd_S_sumFrom_40 : decode kb_S_sumFrom 40 = .ok (.laload, 1) := by decide +kernel
theorem kd_S_sumFrom_41 : decode kb_S_sumFrom 41 = .ok (.lreturn, 1) := by decide +kernel
theorem kd_S_sumFrom_42 : decode kb_S_sumFrom 42 = .ok (.iload_n 1, 1) := by decide +kernel
theorem kd_S_sumFrom_43 : decode kb_S_sumFrom 43 = .ok (.aload_n 3, 1) := by decide +kernel
theorem kd_S_sumFrom_44 : decode kb_S_sumFrom 44 = .ok (.getfield 61, 3) := by decide +kernel
theorem kd_S_sumFrom_47 : decode kb_S_sumFrom 47 = .ok (.if_icmp .lt 11, 3) := by decide +kernel
theorem kd_S_sumFrom_50 : decode kb_S_sumFrom 50 = .ok (.aload_n 0, 1) := by decide +kernel
theorem kd_S_sumFrom_51 : decode kb_S_sumFrom 51 = .ok (.getfield 17, 3) := by decide +kernel
theorem kd_S_sumFrom_54 : decode kb_S_sumFrom 54 = .ok (.iload 5, 2) := by decide +kernel
theorem kd_S_sumFrom_56 : decode kb_S_sumFrom 56 = .ok (.laload, 1) := by decide +kernel
theorem kd_S_sumFrom_57 : decode kb_S_sumFrom 57 = .ok (.lreturn, 1) := by decide +kernel
theorem kd_S_sumFrom_58 : decode kb_S_sumFrom 58 = .ok (.aload_n 3, 1) := by decide +kernel
theorem kd_S_sumFrom_59 : decode kb_S_sumFrom 59 = .ok (.getfield 64, 3) := by decide +kernel
theorem kd_S_sumFrom_62 : decode kb_S_sumFrom 62 = .ok (.iload_n 1, 1) := by decide +kernel
theorem kd_S_sumFrom_63 : decode kb_S_sumFrom 63 = .ok (.iaload, 1) := by decide +kernel
theorem kd_S_sumFrom_64 : decode kb_S_sumFrom 64 = .ok (.istore 6, 2) := by decide +kernel
theorem kd_S_sumFrom_66 : decode kb_S_sumFrom 66 = .ok (.aload_n 3, 1) := by decide +kernel
theorem kd_S_sumFrom_67 : decode kb_S_sumFrom 67 = .ok (.getfield 68, 3) := by decide +kernel
theorem kd_S_sumFrom_70 : decode kb_S_sumFrom 70 = .ok (.iload_n 1, 1) := by decide +kernel
theorem kd_S_sumFrom_71 : decode kb_S_sumFrom 71 = .ok (.iaload, 1) := by decide +kernel
theorem kd_S_sumFrom_72 : decode kb_S_sumFrom 72 = .ok (.istore 7, 2) := by decide +kernel
theorem kd_S_sumFrom_74 : decode kb_S_sumFrom 74 = .ok (.aload 4, 2) := by decide +kernel
theorem kd_S_sumFrom_76 : decode kb_S_sumFrom 76 = .ok (.iload 6, 2) := by decide +kernel
theorem kd_S_sumFrom_78 : decode kb_S_sumFrom 78 = .ok (.iload 7, 2) := by decide +kernel
theorem kd_S_sumFrom_80 : decode kb_S_sumFrom 80 = .ok (.invokevirtual 71, 3) := by decide +kernel
theorem kd_S_sumFrom_83 : decode kb_S_sumFrom 83 = .ok (.ifCond .eq 19, 3) := by decide +kernel
theorem kd_S_sumFrom_86 : decode kb_S_sumFrom 86 = .ok (.aload_n 0, 1) := by decide +kernel
theorem kd_S_sumFrom_87 : decode kb_S_sumFrom 87 = .ok (.getfield 21, 3) := by decide +kernel
theorem kd_S_sumFrom_90 : decode kb_S_sumFrom 90 = .ok (.iconst 1, 1) := by decide +kernel
theorem kd_S_sumFrom_91 : decode kb_S_sumFrom 91 = .ok (.laload, 1) := by decide +kernel
theorem kd_S_sumFrom_92 : decode kb_S_sumFrom 92 = .ok (.aload_n 0, 1) := by decide +kernel
theorem kd_S_sumFrom_93 : decode kb_S_sumFrom 93 = .ok (.iload_n 1, 1) := by decide +kernel
theorem kd_S_sumFrom_94 : decode kb_S_sumFrom 94 = .ok (.iconst 1, 1) := by decide +kernel
theorem kd_S_sumFrom_95 : decode kb_S_sumFrom 95 = .ok (.iadd, 1) := by decide +kernel
theorem kd_S_sumFrom_96 : decode kb_S_sumFrom 96 = .ok (.iload_n 2, 1) := by decide +kernel
theorem kd_S_sumFrom_97 : decode kb_S_sumFrom 97 = .ok (.invokestatic 57, 3) := by decide +kernel
theorem kd_S_sumFrom_100 : decode kb_S_sumFrom 100 = .ok (.lmul, 1) := by decide +kernel
theorem kd_S_sumFrom_101 : decode kb_S_sumFrom 101 = .ok (.lreturn, 1) := by decide +kernel
theorem kd_S_sumFrom_102 : decode kb_S_sumFrom 102 = .ok (.aload_n 0, 1) := by decide +kernel
theorem kd_S_sumFrom_103 : decode kb_S_sumFrom 103 = .ok (.iload_n 1, 1) := by decide +kernel
theorem kd_S_sumFrom_104 : decode kb_S_sumFrom 104 = .ok (.iconst 1, 1) := by decide +kernel
theorem kd_S_sumFrom_105 : decode kb_S_sumFrom 105 = .ok (.iadd, 1) := by decide +kernel
theorem kd_S_sumFrom_106 : decode kb_S_sumFrom 106 = .ok (.iload_n 2, 1) := by decide +kernel
theorem kd_S_sumFrom_107 : decode kb_S_sumFrom 107 = .ok (.invokestatic 57, 3) := by decide +kernel
theorem kd_S_sumFrom_110 : decode kb_S_sumFrom 110 = .ok (.lstore 8, 2) := by decide +kernel
theorem kd_S_sumFrom_112 : decode kb_S_sumFrom 112 = .ok (.aload_n 0, 1) := by decide +kernel
theorem kd_S_sumFrom_113 : decode kb_S_sumFrom 113 = .ok (.getfield 11, 3) := by decide +kernel
theorem kd_S_sumFrom_116 : decode kb_S_sumFrom 116 = .ok (.iload_n 2, 1) := by decide +kernel
theorem kd_S_sumFrom_117 : decode kb_S_sumFrom 117 = .ok (.iconst 1, 1) := by decide +kernel
theorem kd_S_sumFrom_118 : decode kb_S_sumFrom 118 = .ok (.iadd, 1) := by decide +kernel
theorem kd_S_sumFrom_119 : decode kb_S_sumFrom 119 = .ok (.aaload, 1) := by decide +kernel
theorem kd_S_sumFrom_120 : decode kb_S_sumFrom 120 = .ok (.astore 10, 2) := by decide +kernel
theorem kd_S_sumFrom_122 : decode kb_S_sumFrom 122 = .ok (.aload 10, 2) := by decide +kernel
theorem kd_S_sumFrom_124 : decode kb_S_sumFrom 124 = .ok (.aload 4, 2) := by decide +kernel
theorem kd_S_sumFrom_126 : decode kb_S_sumFrom 126 = .ok (.invokevirtual 75, 3) := by decide +kernel
theorem kd_S_sumFrom_129 : decode kb_S_sumFrom 129 = .ok (.aload 10, 2) := by decide +kernel
theorem kd_S_sumFrom_131 : decode kb_S_sumFrom 131 = .ok (.iload 6, 2) := by decide +kernel
theorem kd_S_sumFrom_133 : decode kb_S_sumFrom 133 = .ok (.iload 7, 2) := by decide +kernel
theorem kd_S_sumFrom_135 : decode kb_S_sumFrom 135 = .ok (.invokevirtual 79, 3) := by decide +kernel
theorem kd_S_sumFrom_138 : decode kb_S_sumFrom 138 = .ok (.pop, 1) := by decide +kernel
theorem kd_S_sumFrom_139 : decode kb_S_sumFrom 139 = .ok (.lload 8, 2) := by decide +kernel
theorem kd_S_sumFrom_141 : decode kb_S_sumFrom 141 = .ok (.aload_n 0, 1) := by decide +kernel
theorem kd_S_sumFrom_142 : decode kb_S_sumFrom 142 = .ok (.iload_n 1, 1) := by decide +kernel
theorem kd_S_sumFrom_143 : decode kb_S_sumFrom 143 = .ok (.iconst 1, 1) := by decide +kernel
theorem kd_S_sumFrom_144 : decode kb_S_sumFrom 144 = .ok (.iadd, 1) := by decide +kernel
theorem kd_S_sumFrom_145 : decode kb_S_sumFrom 145 = .ok (.iload_n 2, 1) := by decide +kernel
theorem kd_S_sumFrom_146 : decode kb_S_sumFrom 146 = .ok (.iconst 1, 1) := by decide +kernel
theorem kd_S_sumFrom_147 : decode kb_S_sumFrom 147 = .ok (.iadd, 1) := by decide +kernel
theorem kd_S_sumFrom_148 : decode kb_S_sumFrom 148 = .ok (.invokestatic 57, 3) := by decide +kernel
theorem kd_S_sumFrom_151 : decode kb_S_sumFrom 151 = .ok (.ladd, 1) := by decide +kernel
theorem kd_S_sumFrom_152 : decode kb_S_sumFrom 152 = .ok (.lreturn, 1) := by decide +kernel
abbrev kb_W_point : ByteArray := method_3_code
theorem kd_W_point_0 : decode kb_W_point 0 = .ok (.aload 5, 2) := by decide +kernel
theorem kd_W_point_2 : decode kb_W_point 2 = .ok (.iconst 0, 1) := by decide +kernel
theorem kd_W_point_3 : decode kb_W_point 3 = .ok (.aload_n 0, 1) := by decide +kernel
theorem kd_W_point_4 : decode kb_W_point 4 = .ok (.lload_n 1, 1) := by decide +kernel
theorem kd_W_point_5 : decode kb_W_point 5 = .ok (.lload_n 3, 1) := by decide +kernel
theorem kd_W_point_6 : decode kb_W_point 6 = .ok (.invokevirtual 7, 3) := by decide +kernel
theorem kd_W_point_9 : decode kb_W_point 9 = .ok (.lastore, 1) := by decide +kernel
theorem kd_W_point_10 : decode kb_W_point 10 = .ok (.goto 7, 3) := by decide +kernel
theorem kd_W_point_13 : decode kb_W_point 13 = .ok (.astore 6, 2) := by decide +kernel
theorem kd_W_point_15 : decode kb_W_point 15 = .ok (.iconst 1, 1) := by decide +kernel
theorem kd_W_point_16 : decode kb_W_point 16 = .ok (.ireturn, 1) := by decide +kernel
theorem kd_W_point_17 : decode kb_W_point 17 = .ok (.iconst 0, 1) := by decide +kernel
theorem kd_W_point_18 : decode kb_W_point 18 = .ok (.ireturn, 1) := by decide +kernel
theorem kd_W_law_0 : decode code 0 = .ok (.new 8, 3) := by decide +kernel
theorem kd_W_law_3 : decode code 3 = .ok (.dup, 1) := by decide +kernel
theorem kd_W_law_4 : decode code 4 = .ok (.invokespecial 15, 3) := by decide +kernel
theorem kd_W_law_7 : decode code 7 = .ok (.astore_n 1, 1) := by decide +kernel
theorem kd_W_law_8 : decode code 8 = .ok (.new 16, 3) := by decide +kernel
theorem kd_W_law_11 : decode code 11 = .ok (.dup, 1) := by decide +kernel
theorem kd_W_law_12 : decode code 12 = .ok (.invokespecial 18, 3) := by decide +kernel
theorem kd_W_law_15 : decode code 15 = .ok (.astore_n 2, 1) := by decide +kernel
theorem kd_W_law_16 : decode code 16 = .ok (.iconst 1, 1) := by decide +kernel
theorem kd_W_law_17 : decode code 17 = .ok (.newarray .long, 2) := by decide +kernel
theorem kd_W_law_19 : decode code 19 = .ok (.astore_n 3, 1) := by decide +kernel
theorem kd_W_law_20 : decode code 20 = .ok (.iconst 0, 1) := by decide +kernel
theorem kd_W_law_21 : decode code 21 = .ok (.istore 4, 2) := by decide +kernel
theorem kd_W_law_23 : decode code 23 = .ok (.iload 4, 2) := by decide +kernel
theorem kd_W_law_25 : decode code 25 = .ok (.aload_n 0, 1) := by decide +kernel
theorem kd_W_law_26 : decode code 26 = .ok (.arraylength, 1) := by decide +kernel
theorem kd_W_law_27 : decode code 27 = .ok (.iconst 5, 1) := by decide +kernel
theorem kd_W_law_28 : decode code 28 = .ok (.isub, 1) := by decide +kernel
theorem kd_W_law_29 : decode code 29 = .ok (.if_icmp .gt 869, 3) := by decide +kernel
theorem kd_W_law_32 : decode code 32 = .ok (.aload_n 0, 1) := by decide +kernel
theorem kd_W_law_33 : decode code 33 = .ok (.iload 4, 2) := by decide +kernel
theorem kd_W_law_35 : decode code 35 = .ok (.iaload, 1) := by decide +kernel
theorem kd_W_law_36 : decode code 36 = .ok (.bipush 31, 2) := by decide +kernel
theorem kd_W_law_38 : decode code 38 = .ok (.iand, 1) := by decide +kernel
theorem kd_W_law_39 : decode code 39 = .ok (.tableswitch 853 0 22 #[105, 118, 167, 204, 217, 231, 257, 283, 297, 335, 385, 399, 456, 482, 519, 545, 583, 609, 635, 661, 686, 817, 842], 105) := by decide +kernel
theorem kd_W_law_144 : decode code 144 = .ok (.aload_n 1, 1) := by decide +kernel
theorem kd_W_law_145 : decode code 145 = .ok (.invokevirtual 19, 3) := by decide +kernel
theorem kd_W_law_148 : decode code 148 = .ok (.aload_n 2, 1) := by decide +kernel
theorem kd_W_law_149 : decode code 149 = .ok (.invokevirtual 23, 3) := by decide +kernel
theorem kd_W_law_152 : decode code 152 = .ok (.if_icmp .eq 740, 3) := by decide +kernel
theorem kd_W_law_155 : decode code 155 = .ok (.iconst 0, 1) := by decide +kernel
theorem kd_W_law_156 : decode code 156 = .ok (.ireturn, 1) := by decide +kernel
theorem kd_W_law_157 : decode code 157 = .ok (.aload_n 1, 1) := by decide +kernel
theorem kd_W_law_158 : decode code 158 = .ok (.aload_n 0, 1) := by decide +kernel
theorem kd_W_law_159 : decode code 159 = .ok (.iload 4, 2) := by decide +kernel
theorem kd_W_law_161 : decode code 161 = .ok (.iconst 1, 1) := by decide +kernel
theorem kd_W_law_162 : decode code 162 = .ok (.iadd, 1) := by decide +kernel
theorem kd_W_law_163 : decode code 163 = .ok (.iaload, 1) := by decide +kernel
theorem kd_W_law_164 : decode code 164 = .ok (.aload_n 0, 1) := by decide +kernel
theorem kd_W_law_165 : decode code 165 = .ok (.iload 4, 2) := by decide +kernel
theorem kd_W_law_167 : decode code 167 = .ok (.iconst 2, 1) := by decide +kernel
theorem kd_W_law_168 : decode code 168 = .ok (.iadd, 1) := by decide +kernel
theorem kd_W_law_169 : decode code 169 = .ok (.iaload, 1) := by decide +kernel
theorem kd_W_law_170 : decode code 170 = .ok (.aload_n 0, 1) := by decide +kernel
theorem kd_W_law_171 : decode code 171 = .ok (.iload 4, 2) := by decide +kernel
theorem kd_W_law_173 : decode code 173 = .ok (.iconst 3, 1) := by decide +kernel
theorem kd_W_law_174 : decode code 174 = .ok (.iadd, 1) := by decide +kernel
theorem kd_W_law_175 : decode code 175 = .ok (.iaload, 1) := by decide +kernel
theorem kd_W_law_176 : decode code 176 = .ok (.invokevirtual 24, 3) := by decide +kernel
theorem kd_W_law_179 : decode code 179 = .ok (.aload_n 2, 1) := by decide +kernel
theorem kd_W_law_180 : decode code 180 = .ok (.aload_n 0, 1) := by decide +kernel
theorem kd_W_law_181 : decode code 181 = .ok (.iload 4, 2) := by decide +kernel
theorem kd_W_law_183 : decode code 183 = .ok (.iconst 1, 1) := by decide +kernel
theorem kd_W_law_184 : decode code 184 = .ok (.iadd, 1) := by decide +kernel
theorem kd_W_law_185 : decode code 185 = .ok (.iaload, 1) := by decide +kernel
theorem kd_W_law_186 : decode code 186 = .ok (.aload_n 0, 1) := by decide +kernel
theorem kd_W_law_187 : decode code 187 = .ok (.iload 4, 2) := by decide +kernel
theorem kd_W_law_189 : decode code 189 = .ok (.iconst 2, 1) := by decide +kernel
theorem kd_W_law_190 : decode code 190 = .ok (.iadd, 1) := by decide +kernel
theorem kd_W_law_191 : decode code 191 = .ok (.iaload, 1) := by decide +kernel
theorem kd_W_law_192 : decode code 192 = .ok (.aload_n 0, 1) := by decide +kernel
theorem kd_W_law_193 : decode code 193 = .ok (.iload 4, 2) := by decide +kernel
theorem kd_W_law_195 : decode code 195 = .ok (.iconst 3, 1) := by decide +kernel
theorem kd_W_law_196 : decode code 196 = .ok (.iadd, 1) := by decide +kernel
theorem kd_W_law_197 : decode code 197 = .ok (.iaload, 1) := by decide +kernel
theorem kd_W_law_198 : decode code 198 = .ok (.invokevirtual 28, 3) := by decide +kernel
theorem kd_W_law_201 : decode code 201 = .ok (.if_icmp .eq 691, 3) := by decide +kernel
theorem kd_W_law_204 : decode code 204 = .ok (.iconst 0, 1) := by decide +kernel
theorem kd_W_law_205 : decode code 205 = .ok (.ireturn, 1) := by decide +kernel
theorem kd_W_law_206 : decode code 206 = .ok (.aload_n 1, 1) := by decide +kernel
theorem kd_W_law_207 : decode code 207 = .ok (.aload_n 0, 1) := by decide +kernel
theorem kd_W_law_208 : decode code 208 = .ok (.iload 4, 2) := by decide +kernel
theorem kd_W_law_210 : decode code 210 = .ok (.iconst 1, 1) := by decide +kernel
theorem kd_W_law_211 : decode code 211 = .ok (.iadd, 1) := by decide +kernel
theorem kd_W_law_212 : decode code 212 = .ok (.iaload, 1) := by decide +kernel
theorem kd_W_law_213 : decode code 213 = .ok (.aload_n 0, 1) := by decide +kernel
theorem kd_W_law_214 : decode code 214 = .ok (.iload 4, 2) := by decide +kernel
theorem kd_W_law_216 : decode code 216 = .ok (.iconst 2, 1) := by decide +kernel
theorem kd_W_law_217 : decode code 217 = .ok (.iadd, 1) := by decide +kernel
theorem kd_W_law_218 : decode code 218 = .ok (.iaload, 1) := by decide +kernel
theorem kd_W_law_219 : decode code 219 = .ok (.invokevirtual 29, 3) := by decide +kernel
theorem kd_W_law_222 : decode code 222 = .ok (.aload_n 2, 1) := by decide +kernel
theorem kd_W_law_223 : decode code 223 = .ok (.aload_n 0, 1) := by decide +kernel
theorem kd_W_law_224 : decode code 224 = .ok (.iload 4, 2) := by decide +kernel
theorem kd_W_law_226 : decode code 226 = .ok (.iconst 1, 1) := by decide +kernel
theorem kd_W_law_227 : decode code 227 = .ok (.iadd, 1) := by decide +kernel
theorem kd_W_law_228 : decode code 228 = .ok (.iaload, 1) := by decide +kernel
theorem kd_W_law_229 : decode code 229 = .ok (.aload_n 0, 1) := by decide +kernel
theorem kd_W_law_230 : decode code 230 = .ok (.iload 4, 2) := by decide +kernel
theorem kd_W_law_232 : decode code 232 = .ok (.iconst 2, 1) := by decide +kernel
theorem kd_W_law_233 : decode code 233 = .ok (.iadd, 1) := by decide +kernel
theorem kd_W_law_234 : decode code 234 = .ok (.iaload, 1) := by decide +kernel
theorem kd_W_law_235 : decode code 235 = .ok (.invokevirtual 33, 3) := by decide +kernel
theorem kd_W_law_238 : decode code 238 = .ok (.if_icmp .eq 654, 3) := by decide +kernel
theorem kd_W_law_241 : decode code 241 = .ok (.iconst 0, 1) := by decide +kernel
theorem kd_W_law_242 : decode code 242 = .ok (.ireturn, 1) := by decide +kernel
theorem kd_W_law_243 : decode code 243 = .ok (.aload_n 1, 1) := by decide +kernel
theorem kd_W_law_244 : decode code 244 = .ok (.invokevirtual 34, 3) := by decide +kernel
theorem kd_W_law_247 : decode code 247 = .ok (.aload_n 2, 1) := by decide +kernel
theorem kd_W_law_248 : decode code 248 = .ok (.invokevirtual 38, 3) := by decide +kernel
theorem kd_W_law_251 : decode code 251 = .ok (.if_icmp .eq 641, 3) := by decide +kernel
theorem kd_W_law_254 : decode code 254 = .ok (.iconst 0, 1) := by decide +kernel
theorem kd_W_law_255 : decode code 255 = .ok (.ireturn, 1) := by decide +kernel
theorem kd_W_law_256 : decode code 256 = .ok (.aload_n 1, 1) := by decide +kernel
theorem kd_W_law_257 : decode code 257 = .ok (.invokevirtual 39, 3) := by decide +kernel
theorem kd_W_law_260 : decode code 260 = .ok (.aload_n 2, 1) := by decide +kernel
theorem kd_W_law_261 : decode code 261 = .ok (.invokevirtual 43, 3) := by decide +kernel
theorem kd_W_law_264 : decode code 264 = .ok (.lcmp, 1) := by decide +kernel
theorem kd_W_law_265 : decode code 265 = .ok (.ifCond .eq 627, 3) := by decide +kernel
theorem kd_W_law_268 : decode code 268 = .ok (.iconst 0, 1) := by decide +kernel
theorem kd_W_law_269 : decode code 269 = .ok (.ireturn, 1) := by decide +kernel
theorem kd_W_law_270 : decode code 270 = .ok (.aload_n 1, 1) := by decide +kernel
theorem kd_W_law_271 : decode code 271 = .ok (.aload_n 0, 1) := by decide +kernel
theorem kd_W_law_272 : decode code 272 = .ok (.iload 4, 2) := by decide +kernel
theorem kd_W_law_274 : decode code 274 = .ok (.iconst 1, 1) := by decide +kernel
theorem kd_W_law_275 : decode code 275 = .ok (.iadd, 1) := by decide +kernel
theorem kd_W_law_276 : decode code 276 = .ok (.iaload, 1) := by decide +kernel
theorem kd_W_law_277 : decode code 277 = .ok (.invokevirtual 44, 3) := by decide +kernel
theorem kd_W_law_280 : decode code 280 = .ok (.aload_n 2, 1) := by decide +kernel
theorem kd_W_law_281 : decode code 281 = .ok (.aload_n 0, 1) := by decide +kernel
theorem kd_W_law_282 : decode code 282 = .ok (.iload 4, 2) := by decide +kernel
theorem kd_W_law_284 : decode code 284 = .ok (.iconst 1, 1) := by decide +kernel
theorem kd_W_law_285 : decode code 285 = .ok (.iadd, 1) := by decide +kernel
theorem kd_W_law_286 : decode code 286 = .ok (.iaload, 1) := by decide +kernel
theorem kd_W_law_287 : decode code 287 = .ok (.invokevirtual 48, 3) := by decide +kernel
theorem kd_W_law_290 : decode code 290 = .ok (.lcmp, 1) := by decide +kernel
theorem kd_W_law_291 : decode code 291 = .ok (.ifCond .eq 601, 3) := by decide +kernel
theorem kd_W_law_294 : decode code 294 = .ok (.iconst 0, 1) := by decide +kernel
theorem kd_W_law_295 : decode code 295 = .ok (.ireturn, 1) := by decide +kernel
theorem kd_W_law_296 : decode code 296 = .ok (.aload_n 1, 1) := by decide +kernel
theorem kd_W_law_297 : decode code 297 = .ok (.aload_n 0, 1) := by decide +kernel
theorem kd_W_law_298 : decode code 298 = .ok (.iload 4, 2) := by decide +kernel
theorem kd_W_law_300 : decode code 300 = .ok (.iconst 1, 1) := by decide +kernel
theorem kd_W_law_301 : decode code 301 = .ok (.iadd, 1) := by decide +kernel
theorem kd_W_law_302 : decode code 302 = .ok (.iaload, 1) := by decide +kernel
theorem kd_W_law_303 : decode code 303 = .ok (.invokevirtual 49, 3) := by decide +kernel
theorem kd_W_law_306 : decode code 306 = .ok (.aload_n 2, 1) := by decide +kernel
theorem kd_W_law_307 : decode code 307 = .ok (.aload_n 0, 1) := by decide +kernel
theorem kd_W_law_308 : decode code 308 = .ok (.iload 4, 2) := by decide +kernel
theorem kd_W_law_310 : decode code 310 = .ok (.iconst 1, 1) := by decide +kernel
theorem kd_W_law_311 : decode code 311 = .ok (.iadd, 1) := by decide +kernel
theorem kd_W_law_312 : decode code 312 = .ok (.iaload, 1) := by decide +kernel
theorem kd_W_law_313 : decode code 313 = .ok (.invokevirtual 52, 3) := by decide +kernel
theorem kd_W_law_316 : decode code 316 = .ok (.lcmp, 1) := by decide +kernel
theorem kd_W_law_317 : decode code 317 = .ok (.ifCond .eq 575, 3) := by decide +kernel
theorem kd_W_law_320 : decode code 320 = .ok (.iconst 0, 1) := by decide +kernel
theorem kd_W_law_321 : decode code 321 = .ok (.ireturn, 1) := by decide +kernel
theorem kd_W_law_322 : decode code 322 = .ok (.aload_n 1, 1) := by decide +kernel
theorem kd_W_law_323 : decode code 323 = .ok (.invokevirtual 53, 3) := by decide +kernel
theorem kd_W_law_326 : decode code 326 = .ok (.aload_n 2, 1) := by decide +kernel
theorem kd_W_law_327 : decode code 327 = .ok (.invokevirtual 56, 3) := by decide +kernel
theorem kd_W_law_330 : decode code 330 = .ok (.lcmp, 1) := by decide +kernel
theorem kd_W_law_331 : decode code 331 = .ok (.ifCond .eq 561, 3) := by decide +kernel
theorem kd_W_law_334 : decode code 334 = .ok (.iconst 0, 1) := by decide +kernel
theorem kd_W_law_335 : decode code 335 = .ok (.ireturn, 1) := by decide +kernel
theorem kd_W_law_336 : decode code 336 = .ok (.aload_n 1, 1) := by decide +kernel
theorem kd_W_law_337 : decode code 337 = .ok (.aload_n 0, 1) := by decide +kernel
theorem kd_W_law_338 : decode code 338 = .ok (.iload 4, 2) := by decide +kernel
theorem kd_W_law_340 : decode code 340 = .ok (.iconst 1, 1) := by decide +kernel
theorem kd_W_law_341 : decode code 341 = .ok (.iadd, 1) := by decide +kernel
theorem kd_W_law_342 : decode code 342 = .ok (.iaload, 1) := by decide +kernel
theorem kd_W_law_343 : decode code 343 = .ok (.aload_n 0, 1) := by decide +kernel
theorem kd_W_law_344 : decode code 344 = .ok (.iload 4, 2) := by decide +kernel
theorem kd_W_law_346 : decode code 346 = .ok (.iconst 2, 1) := by decide +kernel
theorem kd_W_law_347 : decode code 347 = .ok (.iadd, 1) := by decide +kernel
theorem kd_W_law_348 : decode code 348 = .ok (.iaload, 1) := by decide +kernel
theorem kd_W_law_349 : decode code 349 = .ok (.invokevirtual 57, 3) := by decide +kernel
theorem kd_W_law_352 : decode code 352 = .ok (.aload_n 2, 1) := by decide +kernel
theorem kd_W_law_353 : decode code 353 = .ok (.aload_n 0, 1) := by decide +kernel
theorem kd_W_law_354 : decode code 354 = .ok (.iload 4, 2) := by decide +kernel
theorem kd_W_law_356 : decode code 356 = .ok (.iconst 1, 1) := by decide +kernel
theorem kd_W_law_357 : decode code 357 = .ok (.iadd, 1) := by decide +kernel
theorem kd_W_law_358 : decode code 358 = .ok (.iaload, 1) := by decide +kernel
theorem kd_W_law_359 : decode code 359 = .ok (.aload_n 0, 1) := by decide +kernel
theorem kd_W_law_360 : decode code 360 = .ok (.iload 4, 2) := by decide +kernel
theorem kd_W_law_362 : decode code 362 = .ok (.iconst 2, 1) := by decide +kernel
theorem kd_W_law_363 : decode code 363 = .ok (.iadd, 1) := by decide +kernel
theorem kd_W_law_364 : decode code 364 = .ok (.iaload, 1) := by decide +kernel
theorem kd_W_law_365 : decode code 365 = .ok (.invokevirtual 61, 3) := by decide +kernel
theorem kd_W_law_368 : decode code 368 = .ok (.lcmp, 1) := by decide +kernel
theorem kd_W_law_369 : decode code 369 = .ok (.ifCond .eq 523, 3) := by decide +kernel
theorem kd_W_law_372 : decode code 372 = .ok (.iconst 0, 1) := by decide +kernel
theorem kd_W_law_373 : decode code 373 = .ok (.ireturn, 1) := by decide +kernel
theorem kd_W_law_374 : decode code 374 = .ok (.aload_n 1, 1) := by decide +kernel
theorem kd_W_law_375 : decode code 375 = .ok (.aload_n 0, 1) := by decide +kernel
theorem kd_W_law_376 : decode code 376 = .ok (.iload 4, 2) := by decide +kernel
theorem kd_W_law_378 : decode code 378 = .ok (.iconst 1, 1) := by decide +kernel
theorem kd_W_law_379 : decode code 379 = .ok (.iadd, 1) := by decide +kernel
theorem kd_W_law_380 : decode code 380 = .ok (.iaload, 1) := by decide +kernel
theorem kd_W_law_381 : decode code 381 = .ok (.aload_n 0, 1) := by decide +kernel
theorem kd_W_law_382 : decode code 382 = .ok (.iload 4, 2) := by decide +kernel
theorem kd_W_law_384 : decode code 384 = .ok (.iconst 2, 1) := by decide +kernel
theorem kd_W_law_385 : decode code 385 = .ok (.iadd, 1) := by decide +kernel
theorem kd_W_law_386 : decode code 386 = .ok (.iaload, 1) := by decide +kernel
theorem kd_W_law_387 : decode code 387 = .ok (.aload_n 0, 1) := by decide +kernel
theorem kd_W_law_388 : decode code 388 = .ok (.iload 4, 2) := by decide +kernel
theorem kd_W_law_390 : decode code 390 = .ok (.iconst 3, 1) := by decide +kernel
theorem kd_W_law_391 : decode code 391 = .ok (.iadd, 1) := by decide +kernel
theorem kd_W_law_392 : decode code 392 = .ok (.iaload, 1) := by decide +kernel
theorem kd_W_law_393 : decode code 393 = .ok (.invokevirtual 62, 3) := by decide +kernel
theorem kd_W_law_396 : decode code 396 = .ok (.aload_n 2, 1) := by decide +kernel
theorem kd_W_law_397 : decode code 397 = .ok (.aload_n 0, 1) := by decide +kernel
theorem kd_W_law_398 : decode code 398 = .ok (.iload 4, 2) := by decide +kernel
theorem kd_W_law_400 : decode code 400 = .ok (.iconst 1, 1) := by decide +kernel
theorem kd_W_law_401 : decode code 401 = .ok (.iadd, 1) := by decide +kernel
theorem kd_W_law_402 : decode code 402 = .ok (.iaload, 1) := by decide +kernel
theorem kd_W_law_403 : decode code 403 = .ok (.aload_n 0, 1) := by decide +kernel
theorem kd_W_law_404 : decode code 404 = .ok (.iload 4, 2) := by decide +kernel
theorem kd_W_law_406 : decode code 406 = .ok (.iconst 2, 1) := by decide +kernel
theorem kd_W_law_407 : decode code 407 = .ok (.iadd, 1) := by decide +kernel
theorem kd_W_law_408 : decode code 408 = .ok (.iaload, 1) := by decide +kernel
theorem kd_W_law_409 : decode code 409 = .ok (.aload_n 0, 1) := by decide +kernel
theorem kd_W_law_410 : decode code 410 = .ok (.iload 4, 2) := by decide +kernel
theorem kd_W_law_412 : decode code 412 = .ok (.iconst 3, 1) := by decide +kernel
theorem kd_W_law_413 : decode code 413 = .ok (.iadd, 1) := by decide +kernel
theorem kd_W_law_414 : decode code 414 = .ok (.iaload, 1) := by decide +kernel
theorem kd_W_law_415 : decode code 415 = .ok (.invokevirtual 66, 3) := by decide +kernel
theorem kd_W_law_418 : decode code 418 = .ok (.lcmp, 1) := by decide +kernel
theorem kd_W_law_419 : decode code 419 = .ok (.ifCond .eq 473, 3) := by decide +kernel
theorem kd_W_law_422 : decode code 422 = .ok (.iconst 0, 1) := by decide +kernel
theorem kd_W_law_423 : decode code 423 = .ok (.ireturn, 1) := by decide +kernel
theorem kd_W_law_424 : decode code 424 = .ok (.aload_n 1, 1) := by decide +kernel
theorem kd_W_law_425 : decode code 425 = .ok (.invokevirtual 67, 3) := by decide +kernel
theorem kd_W_law_428 : decode code 428 = .ok (.aload_n 2, 1) := by decide +kernel
theorem kd_W_law_429 : decode code 429 = .ok (.invokevirtual 70, 3) := by decide +kernel
theorem kd_W_law_432 : decode code 432 = .ok (.lcmp, 1) := by decide +kernel
theorem kd_W_law_433 : decode code 433 = .ok (.ifCond .eq 459, 3) := by decide +kernel
theorem kd_W_law_436 : decode code 436 = .ok (.iconst 0, 1) := by decide +kernel
theorem kd_W_law_437 : decode code 437 = .ok (.ireturn, 1) := by decide +kernel
theorem kd_W_law_438 : decode code 438 = .ok (.aload_n 1, 1) := by decide +kernel
theorem kd_W_law_439 : decode code 439 = .ok (.aload_n 0, 1) := by decide +kernel
theorem kd_W_law_440 : decode code 440 = .ok (.iload 4, 2) := by decide +kernel
theorem kd_W_law_442 : decode code 442 = .ok (.iconst 1, 1) := by decide +kernel
theorem kd_W_law_443 : decode code 443 = .ok (.iadd, 1) := by decide +kernel
theorem kd_W_law_444 : decode code 444 = .ok (.iaload, 1) := by decide +kernel
theorem kd_W_law_445 : decode code 445 = .ok (.i2l, 1) := by decide +kernel
theorem kd_W_law_446 : decode code 446 = .ok (.bipush 32, 2) := by decide +kernel
theorem kd_W_law_448 : decode code 448 = .ok (.lshl, 1) := by decide +kernel
theorem kd_W_law_449 : decode code 449 = .ok (.aload_n 0, 1) := by decide +kernel
theorem kd_W_law_450 : decode code 450 = .ok (.iload 4, 2) := by decide +kernel
theorem kd_W_law_452 : decode code 452 = .ok (.iconst 2, 1) := by decide +kernel
theorem kd_W_law_453 : decode code 453 = .ok (.iadd, 1) := by decide +kernel
theorem kd_W_law_454 : decode code 454 = .ok (.iaload, 1) := by decide +kernel
theorem kd_W_law_455 : decode code 455 = .ok (.i2l, 1) := by decide +kernel
theorem kd_W_law_456 : decode code 456 = .ok (.ldc2_w 71, 3) := by decide +kernel
theorem kd_W_law_459 : decode code 459 = .ok (.land, 1) := by decide +kernel
theorem kd_W_law_460 : decode code 460 = .ok (.lor, 1) := by decide +kernel
theorem kd_W_law_461 : decode code 461 = .ok (.invokevirtual 73, 3) := by decide +kernel
theorem kd_W_law_464 : decode code 464 = .ok (.aload_n 2, 1) := by decide +kernel
theorem kd_W_law_465 : decode code 465 = .ok (.aload_n 0, 1) := by decide +kernel
theorem kd_W_law_466 : decode code 466 = .ok (.iload 4, 2) := by decide +kernel
theorem kd_W_law_468 : decode code 468 = .ok (.iconst 1, 1) := by decide +kernel
theorem kd_W_law_469 : decode code 469 = .ok (.iadd, 1) := by decide +kernel
theorem kd_W_law_470 : decode code 470 = .ok (.iaload, 1) := by decide +kernel
theorem kd_W_law_471 : decode code 471 = .ok (.i2l, 1) := by decide +kernel
theorem kd_W_law_472 : decode code 472 = .ok (.bipush 32, 2) := by decide +kernel
theorem kd_W_law_474 : decode code 474 = .ok (.lshl, 1) := by decide +kernel
theorem kd_W_law_475 : decode code 475 = .ok (.aload_n 0, 1) := by decide +kernel
theorem kd_W_law_476 : decode code 476 = .ok (.iload 4, 2) := by decide +kernel
theorem kd_W_law_478 : decode code 478 = .ok (.iconst 2, 1) := by decide +kernel
theorem kd_W_law_479 : decode code 479 = .ok (.iadd, 1) := by decide +kernel
theorem kd_W_law_480 : decode code 480 = .ok (.iaload, 1) := by decide +kernel
theorem kd_W_law_481 : decode code 481 = .ok (.i2l, 1) := by decide +kernel
theorem kd_W_law_482 : decode code 482 = .ok (.ldc2_w 71, 3) := by decide +kernel
theorem kd_W_law_485 : decode code 485 = .ok (.land, 1) := by decide +kernel
theorem kd_W_law_486 : decode code 486 = .ok (.lor, 1) := by decide +kernel
theorem kd_W_law_487 : decode code 487 = .ok (.invokevirtual 77, 3) := by decide +kernel
theorem kd_W_law_490 : decode code 490 = .ok (.if_icmp .eq 402, 3) := by decide +kernel
theorem kd_W_law_493 : decode code 493 = .ok (.iconst 0, 1) := by decide +kernel
theorem kd_W_law_494 : decode code 494 = .ok (.ireturn, 1) := by decide +kernel
theorem kd_W_law_495 : decode code 495 = .ok (.aload_n 1, 1) := by decide +kernel
theorem kd_W_law_496 : decode code 496 = .ok (.aload_n 0, 1) := by decide +kernel
theorem kd_W_law_497 : decode code 497 = .ok (.iload 4, 2) := by decide +kernel
theorem kd_W_law_499 : decode code 499 = .ok (.iconst 1, 1) := by decide +kernel
theorem kd_W_law_500 : decode code 500 = .ok (.iadd, 1) := by decide +kernel
theorem kd_W_law_501 : decode code 501 = .ok (.iaload, 1) := by decide +kernel
theorem kd_W_law_502 : decode code 502 = .ok (.invokevirtual 78, 3) := by decide +kernel
theorem kd_W_law_505 : decode code 505 = .ok (.aload_n 2, 1) := by decide +kernel
theorem kd_W_law_506 : decode code 506 = .ok (.aload_n 0, 1) := by decide +kernel
theorem kd_W_law_507 : decode code 507 = .ok (.iload 4, 2) := by decide +kernel
theorem kd_W_law_509 : decode code 509 = .ok (.iconst 1, 1) := by decide +kernel
theorem kd_W_law_510 : decode code 510 = .ok (.iadd, 1) := by decide +kernel
theorem kd_W_law_511 : decode code 511 = .ok (.iaload, 1) := by decide +kernel
theorem kd_W_law_512 : decode code 512 = .ok (.invokevirtual 81, 3) := by decide +kernel
theorem kd_W_law_515 : decode code 515 = .ok (.lcmp, 1) := by decide +kernel
theorem kd_W_law_516 : decode code 516 = .ok (.ifCond .eq 376, 3) := by decide +kernel
theorem kd_W_law_519 : decode code 519 = .ok (.iconst 0, 1) := by decide +kernel
theorem kd_W_law_520 : decode code 520 = .ok (.ireturn, 1) := by decide +kernel
theorem kd_W_law_521 : decode code 521 = .ok (.aload_n 1, 1) := by decide +kernel
theorem kd_W_law_522 : decode code 522 = .ok (.aload_n 0, 1) := by decide +kernel
theorem kd_W_law_523 : decode code 523 = .ok (.iload 4, 2) := by decide +kernel
theorem kd_W_law_525 : decode code 525 = .ok (.iconst 1, 1) := by decide +kernel
theorem kd_W_law_526 : decode code 526 = .ok (.iadd, 1) := by decide +kernel
theorem kd_W_law_527 : decode code 527 = .ok (.iaload, 1) := by decide +kernel
theorem kd_W_law_528 : decode code 528 = .ok (.aload_n 0, 1) := by decide +kernel
theorem kd_W_law_529 : decode code 529 = .ok (.iload 4, 2) := by decide +kernel
theorem kd_W_law_531 : decode code 531 = .ok (.iconst 2, 1) := by decide +kernel
theorem kd_W_law_532 : decode code 532 = .ok (.iadd, 1) := by decide +kernel
theorem kd_W_law_533 : decode code 533 = .ok (.iaload, 1) := by decide +kernel
theorem kd_W_law_534 : decode code 534 = .ok (.invokevirtual 82, 3) := by decide +kernel
theorem kd_W_law_537 : decode code 537 = .ok (.aload_n 2, 1) := by decide +kernel
theorem kd_W_law_538 : decode code 538 = .ok (.aload_n 0, 1) := by decide +kernel
theorem kd_W_law_539 : decode code 539 = .ok (.iload 4, 2) := by decide +kernel
theorem kd_W_law_541 : decode code 541 = .ok (.iconst 1, 1) := by decide +kernel
theorem kd_W_law_542 : decode code 542 = .ok (.iadd, 1) := by decide +kernel
theorem kd_W_law_543 : decode code 543 = .ok (.iaload, 1) := by decide +kernel
theorem kd_W_law_544 : decode code 544 = .ok (.aload_n 0, 1) := by decide +kernel
theorem kd_W_law_545 : decode code 545 = .ok (.iload 4, 2) := by decide +kernel
theorem kd_W_law_547 : decode code 547 = .ok (.iconst 2, 1) := by decide +kernel
theorem kd_W_law_548 : decode code 548 = .ok (.iadd, 1) := by decide +kernel
theorem kd_W_law_549 : decode code 549 = .ok (.iaload, 1) := by decide +kernel
theorem kd_W_law_550 : decode code 550 = .ok (.invokevirtual 85, 3) := by decide +kernel
theorem kd_W_law_553 : decode code 553 = .ok (.if_icmp .eq 339, 3) := by decide +kernel
theorem kd_W_law_556 : decode code 556 = .ok (.iconst 0, 1) := by decide +kernel
theorem kd_W_law_557 : decode code 557 = .ok (.ireturn, 1) := by decide +kernel
theorem kd_W_law_558 : decode code 558 = .ok (.aload_n 1, 1) := by decide +kernel
theorem kd_W_law_559 : decode code 559 = .ok (.aload_n 0, 1) := by decide +kernel
theorem kd_W_law_560 : decode code 560 = .ok (.iload 4, 2) := by decide +kernel
theorem kd_W_law_562 : decode code 562 = .ok (.iconst 1, 1) := by decide +kernel
theorem kd_W_law_563 : decode code 563 = .ok (.iadd, 1) := by decide +kernel
theorem kd_W_law_564 : decode code 564 = .ok (.iaload, 1) := by decide +kernel
theorem kd_W_law_565 : decode code 565 = .ok (.invokevirtual 86, 3) := by decide +kernel
theorem kd_W_law_568 : decode code 568 = .ok (.aload_n 2, 1) := by decide +kernel
theorem kd_W_law_569 : decode code 569 = .ok (.aload_n 0, 1) := by decide +kernel
theorem kd_W_law_570 : decode code 570 = .ok (.iload 4, 2) := by decide +kernel
theorem kd_W_law_572 : decode code 572 = .ok (.iconst 1, 1) := by decide +kernel
theorem kd_W_law_573 : decode code 573 = .ok (.iadd, 1) := by decide +kernel
theorem kd_W_law_574 : decode code 574 = .ok (.iaload, 1) := by decide +kernel
theorem kd_W_law_575 : decode code 575 = .ok (.invokevirtual 89, 3) := by decide +kernel
theorem kd_W_law_578 : decode code 578 = .ok (.lcmp, 1) := by decide +kernel
theorem kd_W_law_579 : decode code 579 = .ok (.ifCond .eq 313, 3) := by decide +kernel
theorem kd_W_law_582 : decode code 582 = .ok (.iconst 0, 1) := by decide +kernel
theorem kd_W_law_583 : decode code 583 = .ok (.ireturn, 1) := by decide +kernel
theorem kd_W_law_584 : decode code 584 = .ok (.aload_n 1, 1) := by decide +kernel
theorem kd_W_law_585 : decode code 585 = .ok (.aload_n 0, 1) := by decide +kernel
theorem kd_W_law_586 : decode code 586 = .ok (.iload 4, 2) := by decide +kernel
theorem kd_W_law_588 : decode code 588 = .ok (.iconst 1, 1) := by decide +kernel
theorem kd_W_law_589 : decode code 589 = .ok (.iadd, 1) := by decide +kernel
theorem kd_W_law_590 : decode code 590 = .ok (.iaload, 1) := by decide +kernel
theorem kd_W_law_591 : decode code 591 = .ok (.aload_n 0, 1) := by decide +kernel
theorem kd_W_law_592 : decode code 592 = .ok (.iload 4, 2) := by decide +kernel
theorem kd_W_law_594 : decode code 594 = .ok (.iconst 2, 1) := by decide +kernel
theorem kd_W_law_595 : decode code 595 = .ok (.iadd, 1) := by decide +kernel
theorem kd_W_law_596 : decode code 596 = .ok (.iaload, 1) := by decide +kernel
theorem kd_W_law_597 : decode code 597 = .ok (.invokevirtual 90, 3) := by decide +kernel
theorem kd_W_law_600 : decode code 600 = .ok (.aload_n 2, 1) := by decide +kernel
theorem kd_W_law_601 : decode code 601 = .ok (.aload_n 0, 1) := by decide +kernel
theorem kd_W_law_602 : decode code 602 = .ok (.iload 4, 2) := by decide +kernel
theorem kd_W_law_604 : decode code 604 = .ok (.iconst 1, 1) := by decide +kernel
theorem kd_W_law_605 : decode code 605 = .ok (.iadd, 1) := by decide +kernel
theorem kd_W_law_606 : decode code 606 = .ok (.iaload, 1) := by decide +kernel
theorem kd_W_law_607 : decode code 607 = .ok (.aload_n 0, 1) := by decide +kernel
theorem kd_W_law_608 : decode code 608 = .ok (.iload 4, 2) := by decide +kernel
theorem kd_W_law_610 : decode code 610 = .ok (.iconst 2, 1) := by decide +kernel
theorem kd_W_law_611 : decode code 611 = .ok (.iadd, 1) := by decide +kernel
theorem kd_W_law_612 : decode code 612 = .ok (.iaload, 1) := by decide +kernel
theorem kd_W_law_613 : decode code 613 = .ok (.invokevirtual 93, 3) := by decide +kernel
theorem kd_W_law_616 : decode code 616 = .ok (.lcmp, 1) := by decide +kernel
theorem kd_W_law_617 : decode code 617 = .ok (.ifCond .eq 275, 3) := by decide +kernel
theorem kd_W_law_620 : decode code 620 = .ok (.iconst 0, 1) := by decide +kernel
theorem kd_W_law_621 : decode code 621 = .ok (.ireturn, 1) := by decide +kernel
theorem kd_W_law_622 : decode code 622 = .ok (.aload_n 1, 1) := by decide +kernel
theorem kd_W_law_623 : decode code 623 = .ok (.aload_n 0, 1) := by decide +kernel
theorem kd_W_law_624 : decode code 624 = .ok (.iload 4, 2) := by decide +kernel
theorem kd_W_law_626 : decode code 626 = .ok (.iconst 1, 1) := by decide +kernel
theorem kd_W_law_627 : decode code 627 = .ok (.iadd, 1) := by decide +kernel
theorem kd_W_law_628 : decode code 628 = .ok (.iaload, 1) := by decide +kernel
theorem kd_W_law_629 : decode code 629 = .ok (.invokevirtual 94, 3) := by decide +kernel
theorem kd_W_law_632 : decode code 632 = .ok (.aload_n 2, 1) := by decide +kernel
theorem kd_W_law_633 : decode code 633 = .ok (.aload_n 0, 1) := by decide +kernel
theorem kd_W_law_634 : decode code 634 = .ok (.iload 4, 2) := by decide +kernel
theorem kd_W_law_636 : decode code 636 = .ok (.iconst 1, 1) := by decide +kernel
theorem kd_W_law_637 : decode code 637 = .ok (.iadd, 1) := by decide +kernel
theorem kd_W_law_638 : decode code 638 = .ok (.iaload, 1) := by decide +kernel
theorem kd_W_law_639 : decode code 639 = .ok (.invokevirtual 97, 3) := by decide +kernel
theorem kd_W_law_642 : decode code 642 = .ok (.lcmp, 1) := by decide +kernel
theorem kd_W_law_643 : decode code 643 = .ok (.ifCond .eq 249, 3) := by decide +kernel
theorem kd_W_law_646 : decode code 646 = .ok (.iconst 0, 1) := by decide +kernel
theorem kd_W_law_647 : decode code 647 = .ok (.ireturn, 1) := by decide +kernel
theorem kd_W_law_648 : decode code 648 = .ok (.aload_n 1, 1) := by decide +kernel
theorem kd_W_law_649 : decode code 649 = .ok (.aload_n 0, 1) := by decide +kernel
theorem kd_W_law_650 : decode code 650 = .ok (.iload 4, 2) := by decide +kernel
theorem kd_W_law_652 : decode code 652 = .ok (.iconst 1, 1) := by decide +kernel
theorem kd_W_law_653 : decode code 653 = .ok (.iadd, 1) := by decide +kernel
theorem kd_W_law_654 : decode code 654 = .ok (.iaload, 1) := by decide +kernel
theorem kd_W_law_655 : decode code 655 = .ok (.invokevirtual 98, 3) := by decide +kernel
theorem kd_W_law_658 : decode code 658 = .ok (.aload_n 2, 1) := by decide +kernel
theorem kd_W_law_659 : decode code 659 = .ok (.aload_n 0, 1) := by decide +kernel
theorem kd_W_law_660 : decode code 660 = .ok (.iload 4, 2) := by decide +kernel
theorem kd_W_law_662 : decode code 662 = .ok (.iconst 1, 1) := by decide +kernel
theorem kd_W_law_663 : decode code 663 = .ok (.iadd, 1) := by decide +kernel
theorem kd_W_law_664 : decode code 664 = .ok (.iaload, 1) := by decide +kernel
theorem kd_W_law_665 : decode code 665 = .ok (.invokevirtual 101, 3) := by decide +kernel
theorem kd_W_law_668 : decode code 668 = .ok (.lcmp, 1) := by decide +kernel
theorem kd_W_law_669 : decode code 669 = .ok (.ifCond .eq 223, 3) := by decide +kernel
theorem kd_W_law_672 : decode code 672 = .ok (.iconst 0, 1) := by decide +kernel
theorem kd_W_law_673 : decode code 673 = .ok (.ireturn, 1) := by decide +kernel
theorem kd_W_law_674 : decode code 674 = .ok (.aload_n 1, 1) := by decide +kernel
theorem kd_W_law_675 : decode code 675 = .ok (.aload_n 0, 1) := by decide +kernel
theorem kd_W_law_676 : decode code 676 = .ok (.iload 4, 2) := by decide +kernel
theorem kd_W_law_678 : decode code 678 = .ok (.iconst 1, 1) := by decide +kernel
theorem kd_W_law_679 : decode code 679 = .ok (.iadd, 1) := by decide +kernel
theorem kd_W_law_680 : decode code 680 = .ok (.iaload, 1) := by decide +kernel
theorem kd_W_law_681 : decode code 681 = .ok (.invokevirtual 102, 3) := by decide +kernel
theorem kd_W_law_684 : decode code 684 = .ok (.aload_n 2, 1) := by decide +kernel
theorem kd_W_law_685 : decode code 685 = .ok (.aload_n 0, 1) := by decide +kernel
theorem kd_W_law_686 : decode code 686 = .ok (.iload 4, 2) := by decide +kernel
theorem kd_W_law_688 : decode code 688 = .ok (.iconst 1, 1) := by decide +kernel
theorem kd_W_law_689 : decode code 689 = .ok (.iadd, 1) := by decide +kernel
theorem kd_W_law_690 : decode code 690 = .ok (.iaload, 1) := by decide +kernel
theorem kd_W_law_691 : decode code 691 = .ok (.invokevirtual 105, 3) := by decide +kernel
theorem kd_W_law_694 : decode code 694 = .ok (.lcmp, 1) := by decide +kernel
theorem kd_W_law_695 : decode code 695 = .ok (.ifCond .eq 197, 3) := by decide +kernel
theorem kd_W_law_698 : decode code 698 = .ok (.iconst 0, 1) := by decide +kernel
theorem kd_W_law_699 : decode code 699 = .ok (.ireturn, 1) := by decide +kernel
theorem kd_W_law_700 : decode code 700 = .ok (.aload_n 1, 1) := by decide +kernel
theorem kd_W_law_701 : decode code 701 = .ok (.aload_n 0, 1) := by decide +kernel
theorem kd_W_law_702 : decode code 702 = .ok (.iload 4, 2) := by decide +kernel
theorem kd_W_law_704 : decode code 704 = .ok (.iconst 1, 1) := by decide +kernel
theorem kd_W_law_705 : decode code 705 = .ok (.iadd, 1) := by decide +kernel
theorem kd_W_law_706 : decode code 706 = .ok (.iaload, 1) := by decide +kernel
theorem kd_W_law_707 : decode code 707 = .ok (.invokevirtual 106, 3) := by decide +kernel
theorem kd_W_law_710 : decode code 710 = .ok (.aload_n 2, 1) := by decide +kernel
theorem kd_W_law_711 : decode code 711 = .ok (.aload_n 0, 1) := by decide +kernel
theorem kd_W_law_712 : decode code 712 = .ok (.iload 4, 2) := by decide +kernel
theorem kd_W_law_714 : decode code 714 = .ok (.iconst 1, 1) := by decide +kernel
theorem kd_W_law_715 : decode code 715 = .ok (.iadd, 1) := by decide +kernel
theorem kd_W_law_716 : decode code 716 = .ok (.iaload, 1) := by decide +kernel
theorem kd_W_law_717 : decode code 717 = .ok (.invokevirtual 110, 3) := by decide +kernel
theorem kd_W_law_720 : decode code 720 = .ok (.if_icmp .eq 172, 3) := by decide +kernel
theorem kd_W_law_723 : decode code 723 = .ok (.iconst 0, 1) := by decide +kernel
theorem kd_W_law_724 : decode code 724 = .ok (.ireturn, 1) := by decide +kernel
theorem kd_W_law_725 : decode code 725 = .ok (.aload_n 1, 1) := by decide +kernel
theorem kd_W_law_726 : decode code 726 = .ok (.aload_n 0, 1) := by decide +kernel
theorem kd_W_law_727 : decode code 727 = .ok (.iload 4, 2) := by decide +kernel
theorem kd_W_law_729 : decode code 729 = .ok (.iconst 1, 1) := by decide +kernel
theorem kd_W_law_730 : decode code 730 = .ok (.iadd, 1) := by decide +kernel
theorem kd_W_law_731 : decode code 731 = .ok (.iaload, 1) := by decide +kernel
theorem kd_W_law_732 : decode code 732 = .ok (.i2l, 1) := by decide +kernel
theorem kd_W_law_733 : decode code 733 = .ok (.bipush 32, 2) := by decide +kernel
theorem kd_W_law_735 : decode code 735 = .ok (.lshl, 1) := by decide +kernel
theorem kd_W_law_736 : decode code 736 = .ok (.aload_n 0, 1) := by decide +kernel
theorem kd_W_law_737 : decode code 737 = .ok (.iload 4, 2) := by decide +kernel
theorem kd_W_law_739 : decode code 739 = .ok (.iconst 2, 1) := by decide +kernel
theorem kd_W_law_740 : decode code 740 = .ok (.iadd, 1) := by decide +kernel
theorem kd_W_law_741 : decode code 741 = .ok (.iaload, 1) := by decide +kernel
theorem kd_W_law_742 : decode code 742 = .ok (.i2l, 1) := by decide +kernel
theorem kd_W_law_743 : decode code 743 = .ok (.ldc2_w 71, 3) := by decide +kernel
theorem kd_W_law_746 : decode code 746 = .ok (.land, 1) := by decide +kernel
theorem kd_W_law_747 : decode code 747 = .ok (.lor, 1) := by decide +kernel
theorem kd_W_law_748 : decode code 748 = .ok (.aload_n 0, 1) := by decide +kernel
theorem kd_W_law_749 : decode code 749 = .ok (.iload 4, 2) := by decide +kernel
theorem kd_W_law_751 : decode code 751 = .ok (.iconst 3, 1) := by decide +kernel
theorem kd_W_law_752 : decode code 752 = .ok (.iadd, 1) := by decide +kernel
theorem kd_W_law_753 : decode code 753 = .ok (.iaload, 1) := by decide +kernel
theorem kd_W_law_754 : decode code 754 = .ok (.i2l, 1) := by decide +kernel
theorem kd_W_law_755 : decode code 755 = .ok (.bipush 32, 2) := by decide +kernel
theorem kd_W_law_757 : decode code 757 = .ok (.lshl, 1) := by decide +kernel
theorem kd_W_law_758 : decode code 758 = .ok (.aload_n 0, 1) := by decide +kernel
theorem kd_W_law_759 : decode code 759 = .ok (.iload 4, 2) := by decide +kernel
theorem kd_W_law_761 : decode code 761 = .ok (.iconst 4, 1) := by decide +kernel
theorem kd_W_law_762 : decode code 762 = .ok (.iadd, 1) := by decide +kernel
theorem kd_W_law_763 : decode code 763 = .ok (.iaload, 1) := by decide +kernel
theorem kd_W_law_764 : decode code 764 = .ok (.i2l, 1) := by decide +kernel
theorem kd_W_law_765 : decode code 765 = .ok (.ldc2_w 71, 3) := by decide +kernel
theorem kd_W_law_768 : decode code 768 = .ok (.land, 1) := by decide +kernel
theorem kd_W_law_769 : decode code 769 = .ok (.lor, 1) := by decide +kernel
theorem kd_W_law_770 : decode code 770 = .ok (.aload_n 3, 1) := by decide +kernel
theorem kd_W_law_771 : decode code 771 = .ok (.invokestatic 111, 3) := by decide +kernel
theorem kd_W_law_774 : decode code 774 = .ok (.istore 5, 2) := by decide +kernel
theorem kd_W_law_776 : decode code 776 = .ok (.aload_n 2, 1) := by decide +kernel
theorem kd_W_law_777 : decode code 777 = .ok (.aload_n 0, 1) := by decide +kernel
theorem kd_W_law_778 : decode code 778 = .ok (.iload 4, 2) := by decide +kernel
theorem kd_W_law_780 : decode code 780 = .ok (.iconst 1, 1) := by decide +kernel
theorem kd_W_law_781 : decode code 781 = .ok (.iadd, 1) := by decide +kernel
theorem kd_W_law_782 : decode code 782 = .ok (.iaload, 1) := by decide +kernel
theorem kd_W_law_783 : decode code 783 = .ok (.i2l, 1) := by decide +kernel
theorem kd_W_law_784 : decode code 784 = .ok (.bipush 32, 2) := by decide +kernel
theorem kd_W_law_786 : decode code 786 = .ok (.lshl, 1) := by decide +kernel
theorem kd_W_law_787 : decode code 787 = .ok (.aload_n 0, 1) := by decide +kernel
theorem kd_W_law_788 : decode code 788 = .ok (.iload 4, 2) := by decide +kernel
theorem kd_W_law_790 : decode code 790 = .ok (.iconst 2, 1) := by decide +kernel
theorem kd_W_law_791 : decode code 791 = .ok (.iadd, 1) := by decide +kernel
theorem kd_W_law_792 : decode code 792 = .ok (.iaload, 1) := by decide +kernel
theorem kd_W_law_793 : decode code 793 = .ok (.i2l, 1) := by decide +kernel
theorem kd_W_law_794 : decode code 794 = .ok (.ldc2_w 71, 3) := by decide +kernel
theorem kd_W_law_797 : decode code 797 = .ok (.land, 1) := by decide +kernel
theorem kd_W_law_798 : decode code 798 = .ok (.lor, 1) := by decide +kernel
theorem kd_W_law_799 : decode code 799 = .ok (.aload_n 0, 1) := by decide +kernel
theorem kd_W_law_800 : decode code 800 = .ok (.iload 4, 2) := by decide +kernel
theorem kd_W_law_802 : decode code 802 = .ok (.iconst 3, 1) := by decide +kernel
theorem kd_W_law_803 : decode code 803 = .ok (.iadd, 1) := by decide +kernel
theorem kd_W_law_804 : decode code 804 = .ok (.iaload, 1) := by decide +kernel
theorem kd_W_law_805 : decode code 805 = .ok (.i2l, 1) := by decide +kernel
theorem kd_W_law_806 : decode code 806 = .ok (.bipush 32, 2) := by decide +kernel
theorem kd_W_law_808 : decode code 808 = .ok (.lshl, 1) := by decide +kernel
theorem kd_W_law_809 : decode code 809 = .ok (.aload_n 0, 1) := by decide +kernel
theorem kd_W_law_810 : decode code 810 = .ok (.iload 4, 2) := by decide +kernel
theorem kd_W_law_812 : decode code 812 = .ok (.iconst 4, 1) := by decide +kernel
theorem kd_W_law_813 : decode code 813 = .ok (.iadd, 1) := by decide +kernel
theorem kd_W_law_814 : decode code 814 = .ok (.iaload, 1) := by decide +kernel
theorem kd_W_law_815 : decode code 815 = .ok (.i2l, 1) := by decide +kernel
theorem kd_W_law_816 : decode code 816 = .ok (.ldc2_w 71, 3) := by decide +kernel
theorem kd_W_law_819 : decode code 819 = .ok (.land, 1) := by decide +kernel
theorem kd_W_law_820 : decode code 820 = .ok (.lor, 1) := by decide +kernel
theorem kd_W_law_821 : decode code 821 = .ok (.invokevirtual 116, 3) := by decide +kernel
theorem kd_W_law_824 : decode code 824 = .ok (.lstore 6, 2) := by decide +kernel
theorem kd_W_law_826 : decode code 826 = .ok (.aload_n 2, 1) := by decide +kernel
theorem kd_W_law_827 : decode code 827 = .ok (.invokevirtual 117, 3) := by decide +kernel
theorem kd_W_law_830 : decode code 830 = .ok (.iload 5, 2) := by decide +kernel
theorem kd_W_law_832 : decode code 832 = .ok (.if_icmp .eq 5, 3) := by decide +kernel
theorem kd_W_law_835 : decode code 835 = .ok (.iconst 0, 1) := by decide +kernel
theorem kd_W_law_836 : decode code 836 = .ok (.ireturn, 1) := by decide +kernel
theorem kd_W_law_837 : decode code 837 = .ok (.iload 5, 2) := by decide +kernel
theorem kd_W_law_839 : decode code 839 = .ok (.ifCond .ne 14, 3) := by decide +kernel
theorem kd_W_law_842 : decode code 842 = .ok (.aload_n 3, 1) := by decide +kernel
theorem kd_W_law_843 : decode code 843 = .ok (.iconst 0, 1) := by decide +kernel
theorem kd_W_law_844 : decode code 844 = .ok (.laload, 1) := by decide +kernel
theorem kd_W_law_845 : decode code 845 = .ok (.lload 6, 2) := by decide +kernel
theorem kd_W_law_847 : decode code 847 = .ok (.lcmp, 1) := by decide +kernel
theorem kd_W_law_848 : decode code 848 = .ok (.ifCond .eq 5, 3) := by decide +kernel
theorem kd_W_law_851 : decode code 851 = .ok (.iconst 0, 1) := by decide +kernel
theorem kd_W_law_852 : decode code 852 = .ok (.ireturn, 1) := by decide +kernel
theorem kd_W_law_853 : decode code 853 = .ok (.goto 39, 3) := by decide +kernel
theorem kd_W_law_856 : decode code 856 = .ok (.aload_n 1, 1) := by decide +kernel
theorem kd_W_law_857 : decode code 857 = .ok (.aload_n 0, 1) := by decide +kernel
theorem kd_W_law_858 : decode code 858 = .ok (.iload 4, 2) := by decide +kernel
theorem kd_W_law_860 : decode code 860 = .ok (.iconst 1, 1) := by decide +kernel
theorem kd_W_law_861 : decode code 861 = .ok (.iadd, 1) := by decide +kernel
theorem kd_W_law_862 : decode code 862 = .ok (.iaload, 1) := by decide +kernel
theorem kd_W_law_863 : decode code 863 = .ok (.invokevirtual 120, 3) := by decide +kernel
theorem kd_W_law_866 : decode code 866 = .ok (.aload_n 2, 1) := by decide +kernel
theorem kd_W_law_867 : decode code 867 = .ok (.aload_n 0, 1) := by decide +kernel
theorem kd_W_law_868 : decode code 868 = .ok (.iload 4, 2) := by decide +kernel
theorem kd_W_law_870 : decode code 870 = .ok (.iconst 1, 1) := by decide +kernel
theorem kd_W_law_871 : decode code 871 = .ok (.iadd, 1) := by decide +kernel
theorem kd_W_law_872 : decode code 872 = .ok (.iaload, 1) := by decide +kernel
theorem kd_W_law_873 : decode code 873 = .ok (.invokevirtual 123, 3) := by decide +kernel
theorem kd_W_law_876 : decode code 876 = .ok (.if_icmp .eq 16, 3) := by decide +kernel
theorem kd_W_law_879 : decode code 879 = .ok (.iconst 0, 1) := by decide +kernel
theorem kd_W_law_880 : decode code 880 = .ok (.ireturn, 1) := by decide +kernel
theorem kd_W_law_881 : decode code 881 = .ok (.aload_n 1, 1) := by decide +kernel
theorem kd_W_law_882 : decode code 882 = .ok (.invokevirtual 124, 3) := by decide +kernel
theorem kd_W_law_885 : decode code 885 = .ok (.aload_n 2, 1) := by decide +kernel
theorem kd_W_law_886 : decode code 886 = .ok (.invokevirtual 127, 3) := by decide +kernel
theorem kd_W_law_889 : decode code 889 = .ok (.goto 3, 3) := by decide +kernel
theorem kd_W_law_892 : decode code 892 = .ok (.iinc 4 5, 3) := by decide +kernel
theorem kd_W_law_895 : decode code 895 = .ok (.goto (-872), 3) := by decide +kernel
theorem kd_W_law_898 : decode code 898 = .ok (.iconst 1, 1) := by decide +kernel
theorem kd_W_law_899 : decode code 899 = .ok (.ireturn, 1) := by decide +kernel
