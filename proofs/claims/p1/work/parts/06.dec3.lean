theorem kd_M_init_0 : decode kb_M_init 0 = .ok (.aload_n 0, 1) := by decide +kernel
theorem kd_M_init_1 : decode kb_M_init 1 = .ok (.invokespecial 1, 3) := by decide +kernel
theorem kd_M_init_4 : decode kb_M_init 4 = .ok (.aload_n 0, 1) := by decide +kernel
theorem kd_M_init_5 : decode kb_M_init 5 = .ok (.bipush 30, 2) := by decide +kernel
theorem kd_M_init_7 : decode kb_M_init 7 = .ok (.newarray .int, 2) := by decide +kernel
theorem kd_M_init_9 : decode kb_M_init 9 = .ok (.putfield 7, 3) := by decide +kernel
theorem kd_M_init_12 : decode kb_M_init 12 = .ok (.aload_n 0, 1) := by decide +kernel
theorem kd_M_init_13 : decode kb_M_init 13 = .ok (.bipush 30, 2) := by decide +kernel
theorem kd_M_init_15 : decode kb_M_init 15 = .ok (.newarray .int, 2) := by decide +kernel
theorem kd_M_init_17 : decode kb_M_init 17 = .ok (.putfield 13, 3) := by decide +kernel
theorem kd_M_init_20 : decode kb_M_init 20 = .ok (.aload_n 0, 1) := by decide +kernel
theorem kd_M_init_21 : decode kb_M_init 21 = .ok (.bipush 30, 2) := by decide +kernel
theorem kd_M_init_23 : decode kb_M_init 23 = .ok (.newarray .int, 2) := by decide +kernel
theorem kd_M_init_25 : decode kb_M_init 25 = .ok (.putfield 16, 3) := by decide +kernel
theorem kd_M_init_28 : decode kb_M_init 28 = .ok (.aload_n 0, 1) := by decide +kernel
theorem kd_M_init_29 : decode kb_M_init 29 = .ok (.bipush 10, 2) := by decide +kernel
theorem kd_M_init_31 : decode kb_M_init 31 = .ok (.newarray .long, 2) := by decide +kernel
theorem kd_M_init_33 : decode kb_M_init 33 = .ok (.putfield 19, 3) := by decide +kernel
theorem kd_M_init_36 : decode kb_M_init 36 = .ok (.aload_n 0, 1) := by decide +kernel
theorem kd_M_init_37 : decode kb_M_init 37 = .ok (.bipush 10, 2) := by decide +kernel
theorem kd_M_init_39 : decode kb_M_init 39 = .ok (.newarray .long, 2) := by decide +kernel
theorem kd_M_init_41 : decode kb_M_init 41 = .ok (.putfield 23, 3) := by decide +kernel
theorem kd_M_init_44 : decode kb_M_init 44 = .ok (.aload_n 0, 1) := by decide +kernel
theorem kd_M_init_45 : decode kb_M_init 45 = .ok (.bipush 100, 2) := by decide +kernel
theorem kd_M_init_47 : decode kb_M_init 47 = .ok (.newarray .long, 2) := by decide +kernel
theorem kd_M_init_49 : decode kb_M_init 49 = .ok (.putfield 26, 3) := by decide +kernel
theorem kd_M_init_52 : decode kb_M_init 52 = .ok (.aload_n 0, 1) := by decide +kernel
theorem kd_M_init_53 : decode kb_M_init 53 = .ok (.bipush 100, 2) := by decide +kernel
theorem kd_M_init_55 : decode kb_M_init 55 = .ok (.newarray .long, 2) := by decide +kernel
theorem kd_M_init_57 : decode kb_M_init 57 = .ok (.putfield 29, 3) := by decide +kernel
theorem kd_M_init_60 : decode kb_M_init 60 = .ok (.aload_n 0, 1) := by decide +kernel
theorem kd_M_init_61 : decode kb_M_init 61 = .ok (.bipush 10, 2) := by decide +kernel
theorem kd_M_init_63 : decode kb_M_init 63 = .ok (.newarray .int, 2) := by decide +kernel
theorem kd_M_init_65 : decode kb_M_init 65 = .ok (.putfield 32, 3) := by decide +kernel
theorem kd_M_init_68 : decode kb_M_init 68 = .ok (.aload_n 0, 1) := by decide +kernel
theorem kd_M_init_69 : decode kb_M_init 69 = .ok (.bipush 30, 2) := by decide +kernel
theorem kd_M_init_71 : decode kb_M_init 71 = .ok (.newarray .boolean, 2) := by decide +kernel
theorem kd_M_init_73 : decode kb_M_init 73 = .ok (.putfield 35, 3) := by decide +kernel
theorem kd_M_init_76 : decode kb_M_init 76 = .ok (.aload_n 0, 1) := by decide +kernel
theorem kd_M_init_77 : decode kb_M_init 77 = .ok (.bipush 10, 2) := by decide +kernel
theorem kd_M_init_79 : decode kb_M_init 79 = .ok (.newarray .int, 2) := by decide +kernel
theorem kd_M_init_81 : decode kb_M_init 81 = .ok (.putfield 39, 3) := by decide +kernel
theorem kd_M_init_84 : decode kb_M_init 84 = .ok (.aload_n 0, 1) := by decide +kernel
theorem kd_M_init_85 : decode kb_M_init 85 = .ok (.bipush 10, 2) := by decide +kernel
theorem kd_M_init_87 : decode kb_M_init 87 = .ok (.newarray .int, 2) := by decide +kernel
theorem kd_M_init_89 : decode kb_M_init 89 = .ok (.putfield 42, 3) := by decide +kernel
theorem kd_M_init_92 : decode kb_M_init 92 = .ok (.aload_n 0, 1) := by decide +kernel
theorem kd_M_init_93 : decode kb_M_init 93 = .ok (.bipush 30, 2) := by decide +kernel
theorem kd_M_init_95 : decode kb_M_init 95 = .ok (.newarray .boolean, 2) := by decide +kernel
theorem kd_M_init_97 : decode kb_M_init 97 = .ok (.putfield 45, 3) := by decide +kernel
theorem kd_M_init_100 : decode kb_M_init 100 = .ok (.aload_n 0, 1) := by decide +kernel
theorem kd_M_init_101 : decode kb_M_init 101 = .ok (.bipush 30, 2) := by decide +kernel
theorem kd_M_init_103 : decode kb_M_init 103 = .ok (.newarray .int, 2) := by decide +kernel
theorem kd_M_init_105 : decode kb_M_init 105 = .ok (.putfield 48, 3) := by decide +kernel
theorem kd_M_init_108 : decode kb_M_init 108 = .ok (.aload_n 0, 1) := by decide +kernel
theorem kd_M_init_109 : decode kb_M_init 109 = .ok (.bipush 10, 2) := by decide +kernel
theorem kd_M_init_111 : decode kb_M_init 111 = .ok (.newarray .int, 2) := by decide +kernel
theorem kd_M_init_113 : decode kb_M_init 113 = .ok (.putfield 51, 3) := by decide +kernel
theorem kd_M_init_116 : decode kb_M_init 116 = .ok (.aload_n 0, 1) := by decide +kernel
theorem kd_M_init_117 : decode kb_M_init 117 = .ok (.bipush 10, 2) := by decide +kernel
theorem kd_M_init_119 : decode kb_M_init 119 = .ok (.newarray .boolean, 2) := by decide +kernel
theorem kd_M_init_121 : decode kb_M_init 121 = .ok (.putfield 54, 3) := by decide +kernel
theorem kd_M_init_124 : decode kb_M_init 124 = .ok (.aload_n 0, 1) := by decide +kernel
theorem kd_M_init_125 : decode kb_M_init 125 = .ok (.bipush 10, 2) := by decide +kernel
theorem kd_M_init_127 : decode kb_M_init 127 = .ok (.newarray .int, 2) := by decide +kernel
theorem kd_M_init_129 : decode kb_M_init 129 = .ok (.putfield 57, 3) := by decide +kernel
theorem kd_M_init_132 : decode kb_M_init 132 = .ok (.aload_n 0, 1) := by decide +kernel
theorem kd_M_init_133 : decode kb_M_init 133 = .ok (.bipush 10, 2) := by decide +kernel
theorem kd_M_init_135 : decode kb_M_init 135 = .ok (.newarray .long, 2) := by decide +kernel
theorem kd_M_init_137 : decode kb_M_init 137 = .ok (.putfield 60, 3) := by decide +kernel
theorem kd_M_init_140 : decode kb_M_init 140 = .ok (.aload_n 0, 1) := by decide +kernel
theorem kd_M_init_141 : decode kb_M_init 141 = .ok (.bipush 10, 2) := by decide +kernel
theorem kd_M_init_143 : decode kb_M_init 143 = .ok (.newarray .long, 2) := by decide +kernel
theorem kd_M_init_145 : decode kb_M_init 145 = .ok (.putfield 63, 3) := by decide +kernel
theorem kd_M_init_148 : decode kb_M_init 148 = .ok (.aload_n 0, 1) := by decide +kernel
theorem kd_M_init_149 : decode kb_M_init 149 = .ok (.bipush 10, 2) := by decide +kernel
theorem kd_M_init_151 : decode kb_M_init 151 = .ok (.newarray .long, 2) := by decide +kernel
theorem kd_M_init_153 : decode kb_M_init 153 = .ok (.putfield 66, 3) := by decide +kernel
theorem kd_M_init_156 : decode kb_M_init 156 = .ok (.aload_n 0, 1) := by decide +kernel
theorem kd_M_init_157 : decode kb_M_init 157 = .ok (.iconst 0, 1) := by decide +kernel
theorem kd_M_init_158 : decode kb_M_init 158 = .ok (.putfield 69, 3) := by decide +kernel
theorem kd_M_init_161 : decode kb_M_init 161 = .ok (.return_, 1) := by decide +kernel
theorem kd_M_thrown_0 : decode kb_M_thrown 0 = .ok (.aload_n 0, 1) := by decide +kernel
theorem kd_M_thrown_1 : decode kb_M_thrown 1 = .ok (.getfield 69, 3) := by decide +kernel
theorem kd_M_thrown_4 : decode kb_M_thrown 4 = .ok (.ireturn, 1) := by decide +kernel
theorem kd_M_isNode_0 : decode kb_M_isNode 0 = .ok (.iload_n 1, 1) := by decide +kernel
theorem kd_M_isNode_1 : decode kb_M_isNode 1 = .ok (.ifCond .lt 15, 3) := by decide +kernel
theorem kd_M_isNode_4 : decode kb_M_isNode 4 = .ok (.iload_n 1, 1) := by decide +kernel
theorem kd_M_isNode_5 : decode kb_M_isNode 5 = .ok (.aload_n 0, 1) := by decide +kernel
theorem kd_M_isNode_6 : decode kb_M_isNode 6 = .ok (.getfield 73, 3) := by decide +kernel
theorem kd_M_isNode_9 : decode kb_M_isNode 9 = .ok (.if_icmp .ge 7, 3) := by decide +kernel
theorem kd_M_isNode_12 : decode kb_M_isNode 12 = .ok (.iconst 1, 1) := by decide +kernel
theorem kd_M_isNode_13 : decode kb_M_isNode 13 = .ok (.goto 4, 3) := by decide +kernel
theorem kd_M_isNode_16 : decode kb_M_isNode 16 = .ok (.iconst 0, 1) := by decide +kernel
theorem kd_M_isNode_17 : decode kb_M_isNode 17 = .ok (.ireturn, 1) := by decide +kernel
theorem kd_M_node_0 : decode kb_M_node 0 = .ok (.aload_n 0, 1) := by decide +kernel
theorem kd_M_node_1 : decode kb_M_node 1 = .ok (.iconst 0, 1) := by decide +kernel
theorem kd_M_node_2 : decode kb_M_node 2 = .ok (.putfield 69, 3) := by decide +kernel
theorem kd_M_node_5 : decode kb_M_node 5 = .ok (.aload_n 0, 1) := by decide +kernel
theorem kd_M_node_6 : decode kb_M_node 6 = .ok (.getfield 73, 3) := by decide +kernel
theorem kd_M_node_9 : decode kb_M_node 9 = .ok (.bipush 10, 2) := by decide +kernel
theorem kd_M_node_11 : decode kb_M_node 11 = .ok (.if_icmp .ne 5, 3) := by decide +kernel
theorem kd_M_node_14 : decode kb_M_node 14 = .ok (.iconst (-1), 1) := by decide +kernel
theorem kd_M_node_15 : decode kb_M_node 15 = .ok (.ireturn, 1) := by decide +kernel
theorem kd_M_node_16 : decode kb_M_node 16 = .ok (.aload_n 0, 1) := by decide +kernel
theorem kd_M_node_17 : decode kb_M_node 17 = .ok (.getfield 19, 3) := by decide +kernel
theorem kd_M_node_20 : decode kb_M_node 20 = .ok (.aload_n 0, 1) := by decide +kernel
theorem kd_M_node_21 : decode kb_M_node 21 = .ok (.getfield 73, 3) := by decide +kernel
theorem kd_M_node_24 : decode kb_M_node 24 = .ok (.lconst 0, 1) := by decide +kernel
theorem kd_M_node_25 : decode kb_M_node 25 = .ok (.lastore, 1) := by decide +kernel
theorem kd_M_node_26 : decode kb_M_node 26 = .ok (.aload_n 0, 1) := by decide +kernel
theorem kd_M_node_27 : decode kb_M_node 27 = .ok (.getfield 23, 3) := by decide +kernel
theorem kd_M_node_30 : decode kb_M_node 30 = .ok (.aload_n 0, 1) := by decide +kernel
theorem kd_M_node_31 : decode kb_M_node 31 = .ok (.getfield 73, 3) := by decide +kernel
theorem kd_M_node_34 : decode kb_M_node 34 = .ok (.lconst 0, 1) := by decide +kernel
theorem kd_M_node_35 : decode kb_M_node 35 = .ok (.lastore, 1) := by decide +kernel
theorem kd_M_node_36 : decode kb_M_node 36 = .ok (.aload_n 0, 1) := by decide +kernel
theorem kd_M_node_37 : decode kb_M_node 37 = .ok (.dup, 1) := by decide +kernel
theorem kd_M_node_38 : decode kb_M_node 38 = .ok (.getfield 73, 3) := by decide +kernel
theorem kd_M_node_41 : decode kb_M_node 41 = .ok (.iconst 1, 1) := by decide +kernel
theorem kd_M_node_42 : decode kb_M_node 42 = .ok (.iadd, 1) := by decide +kernel
theorem kd_M_node_43 : decode kb_M_node 43 = .ok (.putfield 73, 3) := by decide +kernel
theorem kd_M_node_46 : decode kb_M_node 46 = .ok (.aload_n 0, 1) := by decide +kernel
theorem kd_M_node_47 : decode kb_M_node 47 = .ok (.getfield 73, 3) := by decide +kernel
theorem kd_M_node_50 : decode kb_M_node 50 = .ok (.iconst 1, 1) := by decide +kernel
theorem kd_M_node_51 : decode kb_M_node 51 = .ok (.isub, 1) := by decide +kernel
theorem kd_M_node_52 : decode kb_M_node 52 = .ok (.ireturn, 1) := by decide +kernel
theorem kd_M_arc_0 : decode kb_M_arc 0 = .ok (.aload_n 0, 1) := by decide +kernel
theorem kd_M_arc_1 : decode kb_M_arc 1 = .ok (.iconst 0, 1) := by decide +kernel
theorem kd_M_arc_2 : decode kb_M_arc 2 = .ok (.putfield 69, 3) := by decide +kernel
theorem kd_M_arc_5 : decode kb_M_arc 5 = .ok (.aload_n 0, 1) := by decide +kernel
theorem kd_M_arc_6 : decode kb_M_arc 6 = .ok (.iload_n 1, 1) := by decide +kernel
theorem kd_M_arc_7 : decode kb_M_arc 7 = .ok (.invokevirtual 76, 3) := by decide +kernel
theorem kd_M_arc_10 : decode kb_M_arc 10 = .ok (.ifCond .eq 31, 3) := by decide +kernel
theorem kd_M_arc_13 : decode kb_M_arc 13 = .ok (.aload_n 0, 1) := by decide +kernel
theorem kd_M_arc_14 : decode kb_M_arc 14 = .ok (.iload_n 2, 1) := by decide +kernel
theorem kd_M_arc_15 : decode kb_M_arc 15 = .ok (.invokevirtual 76, 3) := by decide +kernel
theorem kd_M_arc_18 : decode kb_M_arc 18 = .ok (.ifCond .eq 23, 3) := by decide +kernel
theorem kd_M_arc_21 : decode kb_M_arc 21 = .ok (.iload_n 3, 1) := by decide +kernel
theorem kd_M_arc_22 : decode kb_M_arc 22 = .ok (.iconst 1, 1) := by decide +kernel
theorem kd_M_arc_23 : decode kb_M_arc 23 = .ok (.if_icmp .lt 18, 3) := by decide +kernel
theorem kd_M_arc_26 : decode kb_M_arc 26 = .ok (.iload_n 3, 1) := by decide +kernel
theorem kd_M_arc_27 : decode kb_M_arc 27 = .ok (.bipush 9, 2) := by decide +kernel
theorem kd_M_arc_29 : decode kb_M_arc 29 = .ok (.if_icmp .gt 12, 3) := by decide +kernel
theorem kd_M_arc_32 : decode kb_M_arc 32 = .ok (.aload_n 0, 1) := by decide +kernel
theorem kd_M_arc_33 : decode kb_M_arc 33 = .ok (.getfield 80, 3) := by decide +kernel
theorem kd_M_arc_36 : decode kb_M_arc 36 = .ok (.bipush 30, 2) := by decide +kernel
theorem kd_M_arc_38 : decode kb_M_arc 38 = .ok (.if_icmp .ne 5, 3) := by decide +kernel
theorem kd_M_arc_41 : decode kb_M_arc 41 = .ok (.iconst (-1), 1) := by decide +kernel
theorem kd_M_arc_42 : decode kb_M_arc 42 = .ok (.ireturn, 1) := by decide +kernel
theorem kd_M_arc_43 : decode kb_M_arc 43 = .ok (.aload_n 0, 1) := by decide +kernel
theorem kd_M_arc_44 : decode kb_M_arc 44 = .ok (.getfield 7, 3) := by decide +kernel
theorem kd_M_arc_47 : decode kb_M_arc 47 = .ok (.aload_n 0, 1) := by decide +kernel
theorem kd_M_arc_48 : decode kb_M_arc 48 = .ok (.getfield 80, 3) := by decide +kernel
theorem kd_M_arc_51 : decode kb_M_arc 51 = .ok (.iload_n 1, 1) := by decide +kernel
theorem kd_M_arc_52 : decode kb_M_arc 52 = .ok (.iastore, 1) := by decide +kernel
theorem kd_M_arc_53 : decode kb_M_arc 53 = .ok (.aload_n 0, 1) := by decide +kernel
theorem kd_M_arc_54 : decode kb_M_arc 54 = .ok (.getfield 13, 3) := by decide +kernel
theorem kd_M_arc_57 : decode kb_M_arc 57 = .ok (.aload_n 0, 1) := by decide +kernel
theorem kd_M_arc_58 : decode kb_M_arc 58 = .ok (.getfield 80, 3) := by decide +kernel
theorem kd_M_arc_61 : decode kb_M_arc 61 = .ok (.iload_n 2, 1) := by decide +kernel
theorem kd_M_arc_62 : decode kb_M_arc 62 = .ok (.iastore, 1) := by decide +kernel
theorem kd_M_arc_63 : decode kb_M_arc 63 = .ok (.aload_n 0, 1) := by decide +kernel
theorem kd_M_arc_64 : decode kb_M_arc 64 = .ok (.getfield 16, 3) := by decide +kernel
theorem kd_M_arc_67 : decode kb_M_arc 67 = .ok (.aload_n 0, 1) := by decide +kernel
theorem kd_M_arc_68 : decode kb_M_arc 68 = .ok (.getfield 80, 3) := by decide +kernel
theorem kd_M_arc_71 : decode kb_M_arc 71 = .ok (.iload_n 3, 1) := by decide +kernel
theorem kd_M_arc_72 : decode kb_M_arc 72 = .ok (.iastore, 1) := by decide +kernel
theorem kd_M_arc_73 : decode kb_M_arc 73 = .ok (.aload_n 0, 1) := by decide +kernel
theorem kd_M_arc_74 : decode kb_M_arc 74 = .ok (.dup, 1) := by decide +kernel
theorem kd_M_arc_75 : decode kb_M_arc 75 = .ok (.getfield 80, 3) := by decide +kernel
theorem kd_M_arc_78 : decode kb_M_arc 78 = .ok (.iconst 1, 1) := by decide +kernel
theorem kd_M_arc_79 : decode kb_M_arc 79 = .ok (.iadd, 1) := by decide +kernel
theorem kd_M_arc_80 : decode kb_M_arc 80 = .ok (.putfield 80, 3) := by decide +kernel
theorem kd_M_arc_83 : decode kb_M_arc 83 = .ok (.aload_n 0, 1) := by decide +kernel
theorem kd_M_arc_84 : decode kb_M_arc 84 = .ok (.getfield 80, 3) := by decide +kernel
theorem kd_M_arc_87 : decode kb_M_arc 87 = .ok (.iconst 1, 1) := by decide +kernel
theorem kd_M_arc_88 : decode kb_M_arc 88 = .ok (.isub, 1) := by decide +kernel
theorem kd_M_arc_89 : decode kb_M_arc 89 = .ok (.ireturn, 1) := by decide +kernel
theorem kd_M_weigh_0 : decode kb_M_weigh 0 = .ok (.aload_n 0, 1) := by decide +kernel
theorem kd_M_weigh_1 : decode kb_M_weigh 1 = .ok (.iconst 0, 1) := by decide +kernel
theorem kd_M_weigh_2 : decode kb_M_weigh 2 = .ok (.putfield 69, 3) := by decide +kernel
theorem kd_M_weigh_5 : decode kb_M_weigh 5 = .ok (.iload_n 1, 1) := by decide +kernel
theorem kd_M_weigh_6 : decode kb_M_weigh 6 = .ok (.ifCond .lt 22, 3) := by decide +kernel
theorem kd_M_weigh_9 : decode kb_M_weigh 9 = .ok (.iload_n 1, 1) := by decide +kernel
theorem kd_M_weigh_10 : decode kb_M_weigh 10 = .ok (.aload_n 0, 1) := by decide +kernel
theorem kd_M_weigh_11 : decode kb_M_weigh 11 = .ok (.getfield 80, 3) := by decide +kernel
theorem kd_M_weigh_14 : decode kb_M_weigh 14 = .ok (.if_icmp .ge 14, 3) := by decide +kernel
theorem kd_M_weigh_17 : decode kb_M_weigh 17 = .ok (.iload_n 2, 1) := by decide +kernel
theorem kd_M_weigh_18 : decode kb_M_weigh 18 = .ok (.iconst 1, 1) := by decide +kernel
theorem kd_M_weigh_19 : decode kb_M_weigh 19 = .ok (.if_icmp .lt 9, 3) := by decide +kernel
theorem kd_M_weigh_22 : decode kb_M_weigh 22 = .ok (.iload_n 2, 1) := by decide +kernel
theorem kd_M_weigh_23 : decode kb_M_weigh 23 = .ok (.bipush 9, 2) := by decide +kernel
theorem kd_M_weigh_25 : decode kb_M_weigh 25 = .ok (.if_icmp .le 5, 3) := by decide +kernel
theorem kd_M_weigh_28 : decode kb_M_weigh 28 = .ok (.iconst (-1), 1) := by decide +kernel
theorem kd_M_weigh_29 : decode kb_M_weigh 29 = .ok (.ireturn, 1) := by decide +kernel
theorem kd_M_weigh_30 : decode kb_M_weigh 30 = .ok (.aload_n 0, 1) := by decide +kernel
theorem kd_M_weigh_31 : decode kb_M_weigh 31 = .ok (.getfield 16, 3) := by decide +kernel
theorem kd_M_weigh_34 : decode kb_M_weigh 34 = .ok (.iload_n 1, 1) := by decide +kernel
theorem kd_M_weigh_35 : decode kb_M_weigh 35 = .ok (.iaload, 1) := by decide +kernel
theorem kd_M_weigh_36 : decode kb_M_weigh 36 = .ok (.istore_n 3, 1) := by decide +kernel
theorem kd_M_weigh_37 : decode kb_M_weigh 37 = .ok (.aload_n 0, 1) := by decide +kernel
theorem kd_M_weigh_38 : decode kb_M_weigh 38 = .ok (.getfield 16, 3) := by decide +kernel
theorem kd_M_weigh_41 : decode kb_M_weigh 41 = .ok (.iload_n 1, 1) := by decide +kernel
theorem kd_M_weigh_42 : decode kb_M_weigh 42 = .ok (.iload_n 2, 1) := by decide +kernel
theorem kd_M_weigh_43 : decode kb_M_weigh 43 = .ok (.iastore, 1) := by decide +kernel
theorem kd_M_weigh_44 : decode kb_M_weigh 44 = .ok (.iload_n 3, 1) := by decide +kernel
theorem kd_M_weigh_45 : decode kb_M_weigh 45 = .ok (.ireturn, 1) := by decide +kernel
theorem kd_M_drop_0 : decode kb_M_drop 0 = .ok (.aload_n 0, 1) := by decide +kernel
theorem kd_M_drop_1 : decode kb_M_drop 1 = .ok (.iconst 0, 1) := by decide +kernel
theorem kd_M_drop_2 : decode kb_M_drop 2 = .ok (.putfield 69, 3) := by decide +kernel
theorem kd_M_drop_5 : decode kb_M_drop 5 = .ok (.aload_n 0, 1) := by decide +kernel
theorem kd_M_drop_6 : decode kb_M_drop 6 = .ok (.getfield 80, 3) := by decide +kernel
theorem kd_M_drop_9 : decode kb_M_drop 9 = .ok (.ifCond .ne 5, 3) := by decide +kernel
theorem kd_M_drop_12 : decode kb_M_drop 12 = .ok (.iconst 0, 1) := by decide +kernel
theorem kd_M_drop_13 : decode kb_M_drop 13 = .ok (.ireturn, 1) := by decide +kernel
theorem kd_M_drop_14 : decode kb_M_drop 14 = .ok (.aload_n 0, 1) := by decide +kernel
theorem kd_M_drop_15 : decode kb_M_drop 15 = .ok (.dup, 1) := by decide +kernel
theorem kd_M_drop_16 : decode kb_M_drop 16 = .ok (.getfield 80, 3) := by decide +kernel
theorem kd_M_drop_19 : decode kb_M_drop 19 = .ok (.iconst 1, 1) := by decide +kernel
theorem kd_M_drop_20 : decode kb_M_drop 20 = .ok (.isub, 1) := by decide +kernel
theorem kd_M_drop_21 : decode kb_M_drop 21 = .ok (.putfield 80, 3) := by decide +kernel
theorem kd_M_drop_24 : decode kb_M_drop 24 = .ok (.iconst 1, 1) := by decide +kernel
theorem kd_M_drop_25 : decode kb_M_drop 25 = .ok (.ireturn, 1) := by decide +kernel
theorem kd_M_power_0 : decode kb_M_power 0 = .ok (.lconst 1, 1) := by decide +kernel
theorem kd_M_power_1 : decode kb_M_power 1 = .ok (.lstore 6, 2) := by decide +kernel
theorem kd_M_power_3 : decode kb_M_power 3 = .ok (.lload_n 0, 1) := by decide +kernel
theorem kd_M_power_4 : decode kb_M_power 4 = .ok (.lload 4, 2) := by decide +kernel
theorem kd_M_power_6 : decode kb_M_power 6 = .ok (.lrem, 1) := by decide +kernel
theorem kd_M_power_7 : decode kb_M_power 7 = .ok (.lload 4, 2) := by decide +kernel
theorem kd_M_power_9 : decode kb_M_power 9 = .ok (.ladd, 1) := by decide +kernel
theorem kd_M_power_10 : decode kb_M_power 10 = .ok (.lload 4, 2) := by decide +kernel
theorem kd_M_power_12 : decode kb_M_power 12 = .ok (.lrem, 1) := by decide +kernel
theorem kd_M_power_13 : decode kb_M_power 13 = .ok (.lstore 8, 2) := by decide +kernel
theorem kd_M_power_15 : decode kb_M_power 15 = .ok (.lload_n 2, 1) := by decide +kernel
theorem kd_M_power_16 : decode kb_M_power 16 = .ok (.lstore 10, 2) := by decide +kernel
theorem kd_M_power_18 : decode kb_M_power 18 = .ok (.lload 10, 2) := by decide +kernel
theorem kd_M_power_20 : decode kb_M_power 20 = .ok (.lconst 0, 1) := by decide +kernel
theorem kd_M_power_21 : decode kb_M_power 21 = .ok (.lcmp, 1) := by decide +kernel
theorem kd_M_power_22 : decode kb_M_power 22 = .ok (.ifCond .le 41, 3) := by decide +kernel
theorem kd_M_power_25 : decode kb_M_power 25 = .ok (.lload 10, 2) := by decide +kernel
theorem kd_M_power_27 : decode kb_M_power 27 = .ok (.lconst 1, 1) := by decide +kernel
theorem kd_M_power_28 : decode kb_M_power 28 = .ok (.land, 1) := by decide +kernel
theorem kd_M_power_29 : decode kb_M_power 29 = .ok (.lconst 1, 1) := by decide +kernel
theorem kd_M_power_30 : decode kb_M_power 30 = .ok (.lcmp, 1) := by decide +kernel
theorem kd_M_power_31 : decode kb_M_power 31 = .ok (.ifCond .ne 13, 3) := by decide +kernel
theorem kd_M_power_34 : decode kb_M_power 34 = .ok (.lload 6, 2) := by decide +kernel
theorem kd_M_power_36 : decode kb_M_power 36 = .ok (.lload 8, 2) := by decide +kernel
theorem kd_M_power_38 : decode kb_M_power 38 = .ok (.lmul, 1) := by decide +kernel
theorem kd_M_power_39 : decode kb_M_power 39 = .ok (.lload 4, 2) := by decide +kernel
theorem kd_M_power_41 : decode kb_M_power 41 = .ok (.lrem, 1) := by decide +kernel
theorem kd_M_power_42 : decode kb_M_power 42 = .ok (.lstore 6, 2) := by decide +kernel
theorem kd_M_power_44 : decode kb_M_power 44 = .ok (.lload 8, 2) := by decide +kernel
theorem kd_M_power_46 : decode kb_M_power 46 = .ok (.lload 8, 2) := by decide +kernel
theorem kd_M_power_48 : decode kb_M_power 48 = .ok (.lmul, 1) := by decide +kernel
theorem kd_M_power_49 : decode kb_M_power 49 = .ok (.lload 4, 2) := by decide +kernel
theorem kd_M_power_51 : decode kb_M_power 51 = .ok (.lrem, 1) := by decide +kernel
theorem kd_M_power_52 : decode kb_M_power 52 = .ok (.lstore 8, 2) := by decide +kernel
theorem kd_M_power_54 : decode kb_M_power 54 = .ok (.lload 10, 2) := by decide +kernel
theorem kd_M_power_56 : decode kb_M_power 56 = .ok (.iconst 1, 1) := by decide +kernel
theorem kd_M_power_57 : decode kb_M_power 57 = .ok (.lshr, 1) := by decide +kernel
theorem kd_M_power_58 : decode kb_M_power 58 = .ok (.lstore 10, 2) := by decide +kernel
theorem kd_M_power_60 : decode kb_M_power 60 = .ok (.goto (-42), 3) := by decide +kernel
theorem kd_M_power_63 : decode kb_M_power 63 = .ok (.lload 6, 2) := by decide +kernel
theorem kd_M_power_65 : decode kb_M_power 65 = .ok (.lreturn, 1) := by decide +kernel
theorem kd_M_modulo_0 : decode kb_M_modulo 0 = .ok (.iconst 0, 1) := by decide +kernel
theorem kd_M_modulo_1 : decode kb_M_modulo 1 = .ok (.istore 4, 2) := by decide +kernel
theorem kd_M_modulo_3 : decode kb_M_modulo 3 = .ok (.iload 4, 2) := by decide +kernel
theorem kd_M_modulo_5 : decode kb_M_modulo 5 = .ok (.iload_n 1, 1) := by decide +kernel
theorem kd_M_modulo_6 : decode kb_M_modulo 6 = .ok (.if_icmp .ge 56, 3) := by decide +kernel
theorem kd_M_modulo_9 : decode kb_M_modulo 9 = .ok (.iconst 0, 1) := by decide +kernel
theorem kd_M_modulo_10 : decode kb_M_modulo 10 = .ok (.istore 5, 2) := by decide +kernel
theorem kd_M_modulo_12 : decode kb_M_modulo 12 = .ok (.iload 5, 2) := by decide +kernel
theorem kd_M_modulo_14 : decode kb_M_modulo 14 = .ok (.iload_n 1, 1) := by decide +kernel
theorem kd_M_modulo_15 : decode kb_M_modulo 15 = .ok (.if_icmp .ge 41, 3) := by decide +kernel
theorem kd_M_modulo_18 : decode kb_M_modulo 18 = .ok (.aload_n 0, 1) := by decide +kernel
theorem kd_M_modulo_19 : decode kb_M_modulo 19 = .ok (.getfield 29, 3) := by decide +kernel
theorem kd_M_modulo_22 : decode kb_M_modulo 22 = .ok (.bipush 10, 2) := by decide +kernel
theorem kd_M_modulo_24 : decode kb_M_modulo 24 = .ok (.iload 4, 2) := by decide +kernel
theorem kd_M_modulo_26 : decode kb_M_modulo 26 = .ok (.imul, 1) := by decide +kernel
theorem kd_M_modulo_27 : decode kb_M_modulo 27 = .ok (.iload 5, 2) := by decide +kernel
theorem kd_M_modulo_29 : decode kb_M_modulo 29 = .ok (.iadd, 1) := by decide +kernel
theorem kd_M_modulo_30 : decode kb_M_modulo 30 = .ok (.aload_n 0, 1) := by decide +kernel
theorem kd_M_modulo_31 : decode kb_M_modulo 31 = .ok (.getfield 26, 3) := by decide +kernel
theorem kd_M_modulo_34 : decode kb_M_modulo 34 = .ok (.bipush 10, 2) := by decide +kernel
theorem kd_M_modulo_36 : decode kb_M_modulo 36 = .ok (.iload 4, 2) := by decide +kernel
theorem kd_M_modulo_38 : decode kb_M_modulo 38 = .ok (.imul, 1) := by decide +kernel
theorem kd_M_modulo_39 : decode kb_M_modulo 39 = .ok (.iload 5, 2) := by decide +kernel
theorem kd_M_modulo_41 : decode kb_M_modulo 41 = .ok (.iadd, 1) := by decide +kernel
theorem kd_M_modulo_42 : decode kb_M_modulo 42 = .ok (.laload, 1) := by decide +kernel
theorem kd_M_modulo_43 : decode kb_M_modulo 43 = .ok (.lload_n 2, 1) := by decide +kernel
theorem kd_M_modulo_44 : decode kb_M_modulo 44 = .ok (.lrem, 1) := by decide +kernel
theorem kd_M_modulo_45 : decode kb_M_modulo 45 = .ok (.lload_n 2, 1) := by decide +kernel
theorem kd_M_modulo_46 : decode kb_M_modulo 46 = .ok (.ladd, 1) := by decide +kernel
theorem kd_M_modulo_47 : decode kb_M_modulo 47 = .ok (.lload_n 2, 1) := by decide +kernel
theorem kd_M_modulo_48 : decode kb_M_modulo 48 = .ok (.lrem, 1) := by decide +kernel
theorem kd_M_modulo_49 : decode kb_M_modulo 49 = .ok (.lastore, 1) := by decide +kernel
theorem kd_M_modulo_50 : decode kb_M_modulo 50 = .ok (.iinc 5 1, 3) := by decide +kernel
theorem kd_M_modulo_53 : decode kb_M_modulo 53 = .ok (.goto (-41), 3) := by decide +kernel
theorem kd_M_modulo_56 : decode kb_M_modulo 56 = .ok (.iinc 4 1, 3) := by decide +kernel
theorem kd_M_modulo_59 : decode kb_M_modulo 59 = .ok (.goto (-56), 3) := by decide +kernel
theorem kd_M_modulo_62 : decode kb_M_modulo 62 = .ok (.lconst 1, 1) := by decide +kernel
theorem kd_M_modulo_63 : decode kb_M_modulo 63 = .ok (.lstore 4, 2) := by decide +kernel
theorem kd_M_modulo_65 : decode kb_M_modulo 65 = .ok (.iconst 0, 1) := by decide +kernel
theorem kd_M_modulo_66 : decode kb_M_modulo 66 = .ok (.istore 6, 2) := by decide +kernel
theorem kd_M_modulo_68 : decode kb_M_modulo 68 = .ok (.iload 6, 2) := by decide +kernel
theorem kd_M_modulo_70 : decode kb_M_modulo 70 = .ok (.iload_n 1, 1) := by decide +kernel
theorem kd_M_modulo_71 : decode kb_M_modulo 71 = .ok (.if_icmp .ge 301, 3) := by decide +kernel
theorem kd_M_modulo_74 : decode kb_M_modulo 74 = .ok (.iload 6, 2) := by decide +kernel
theorem kd_M_modulo_76 : decode kb_M_modulo 76 = .ok (.istore 7, 2) := by decide +kernel
theorem kd_M_modulo_78 : decode kb_M_modulo 78 = .ok (.iload 7, 2) := by decide +kernel
theorem kd_M_modulo_80 : decode kb_M_modulo 80 = .ok (.iload_n 1, 1) := by decide +kernel
theorem kd_M_modulo_81 : decode kb_M_modulo 81 = .ok (.if_icmp .ge 27, 3) := by decide +kernel
theorem kd_M_modulo_84 : decode kb_M_modulo 84 = .ok (.aload_n 0, 1) := by decide +kernel
theorem kd_M_modulo_85 : decode kb_M_modulo 85 = .ok (.getfield 29, 3) := by decide +kernel
theorem kd_M_modulo_88 : decode kb_M_modulo 88 = .ok (.bipush 10, 2) := by decide +kernel
theorem kd_M_modulo_90 : decode kb_M_modulo 90 = .ok (.iload 7, 2) := by decide +kernel
theorem kd_M_modulo_92 : decode kb_M_modulo 92 = .ok (.imul, 1) := by decide +kernel
theorem kd_M_modulo_93 : decode kb_M_modulo 93 = .ok (.iload 6, 2) := by decide +kernel
theorem kd_M_modulo_95 : decode kb_M_modulo 95 = .ok (.iadd, 1) := by decide +kernel
theorem kd_M_modulo_96 : decode kb_M_modulo 96 = .ok (.laload, 1) := by decide +kernel
theorem kd_M_modulo_97 : decode kb_M_modulo 97 = .ok (.lconst 0, 1) := by decide +kernel
theorem kd_M_modulo_98 : decode kb_M_modulo 98 = .ok (.lcmp, 1) := by decide +kernel
theorem kd_M_modulo_99 : decode kb_M_modulo 99 = .ok (.ifCond .ne 9, 3) := by decide +kernel
theorem kd_M_modulo_102 : decode kb_M_modulo 102 = .ok (.iinc 7 1, 3) := by decide +kernel
theorem kd_M_modulo_105 : decode kb_M_modulo 105 = .ok (.goto (-27), 3) := by decide +kernel
theorem kd_M_modulo_108 : decode kb_M_modulo 108 = .ok (.iload 7, 2) := by decide +kernel
theorem kd_M_modulo_110 : decode kb_M_modulo 110 = .ok (.iload_n 1, 1) := by decide +kernel
theorem kd_M_modulo_111 : decode kb_M_modulo 111 = .ok (.if_icmp .ne 5, 3) := by decide +kernel
theorem kd_M_modulo_114 : decode kb_M_modulo 114 = .ok (.lconst 0, 1) := by decide +kernel
theorem kd_M_modulo_115 : decode kb_M_modulo 115 = .ok (.lreturn, 1) := by decide +kernel
theorem kd_M_modulo_116 : decode kb_M_modulo 116 = .ok (.iconst 0, 1) := by decide +kernel
theorem kd_M_modulo_117 : decode kb_M_modulo 117 = .ok (.istore 8, 2) := by decide +kernel
theorem kd_M_modulo_119 : decode kb_M_modulo 119 = .ok (.iload 8, 2) := by decide +kernel
theorem kd_M_modulo_121 : decode kb_M_modulo 121 = .ok (.iload_n 1, 1) := by decide +kernel
theorem kd_M_modulo_122 : decode kb_M_modulo 122 = .ok (.if_icmp .ge 72, 3) := by decide +kernel
theorem kd_M_modulo_125 : decode kb_M_modulo 125 = .ok (.iload 7, 2) := by decide +kernel
theorem kd_M_modulo_127 : decode kb_M_modulo 127 = .ok (.iload 6, 2) := by decide +kernel
theorem kd_M_modulo_129 : decode kb_M_modulo 129 = .ok (.if_icmp .eq 65, 3) := by decide +kernel
theorem kd_M_modulo_132 : decode kb_M_modulo 132 = .ok (.aload_n 0, 1) := by decide +kernel
theorem kd_M_modulo_133 : decode kb_M_modulo 133 = .ok (.getfield 29, 3) := by decide +kernel
theorem kd_M_modulo_136 : decode kb_M_modulo 136 = .ok (.bipush 10, 2) := by decide +kernel
theorem kd_M_modulo_138 : decode kb_M_modulo 138 = .ok (.iload 7, 2) := by decide +kernel
theorem kd_M_modulo_140 : decode kb_M_modulo 140 = .ok (.imul, 1) := by decide +kernel
theorem kd_M_modulo_141 : decode kb_M_modulo 141 = .ok (.iload 8, 2) := by decide +kernel
theorem kd_M_modulo_143 : decode kb_M_modulo 143 = .ok (.iadd, 1) := by decide +kernel
theorem kd_M_modulo_144 : decode kb_M_modulo 144 = .ok (.laload, 1) := by decide +kernel
theorem kd_M_modulo_145 : decode kb_M_modulo 145 = .ok (.lstore 9, 2) := by decide +kernel
theorem kd_M_modulo_147 : decode kb_M_modulo 147 = .ok (.aload_n 0, 1) := by decide +kernel
theorem kd_M_modulo_148 : decode kb_M_modulo 148 = .ok (.getfield 29, 3) := by decide +kernel
theorem kd_M_modulo_151 : decode kb_M_modulo 151 = .ok (.bipush 10, 2) := by decide +kernel
theorem kd_M_modulo_153 : decode kb_M_modulo 153 = .ok (.iload 7, 2) := by decide +kernel
theorem kd_M_modulo_155 : decode kb_M_modulo 155 = .ok (.imul, 1) := by decide +kernel
theorem kd_M_modulo_156 : decode kb_M_modulo 156 = .ok (.iload 8, 2) := by decide +kernel
theorem kd_M_modulo_158 : decode kb_M_modulo 158 = .ok (.iadd, 1) := by decide +kernel
theorem kd_M_modulo_159 : decode kb_M_modulo 159 = .ok (.aload_n 0, 1) := by decide +kernel
theorem kd_M_modulo_160 : decode kb_M_modulo 160 = .ok (.getfield 29, 3) := by decide +kernel
theorem kd_M_modulo_163 : decode kb_M_modulo 163 = .ok (.bipush 10, 2) := by decide +kernel
theorem kd_M_modulo_165 : decode kb_M_modulo 165 = .ok (.iload 6, 2) := by decide +kernel
theorem kd_M_modulo_167 : decode kb_M_modulo 167 = .ok (.imul, 1) := by decide +kernel
theorem kd_M_modulo_168 : decode kb_M_modulo 168 = .ok (.iload 8, 2) := by decide +kernel
theorem kd_M_modulo_170 : decode kb_M_modulo 170 = .ok (.iadd, 1) := by decide +kernel
theorem kd_M_modulo_171 : decode kb_M_modulo 171 = .ok (.laload, 1) := by decide +kernel
theorem kd_M_modulo_172 : decode kb_M_modulo 172 = .ok (.lastore, 1) := by decide +kernel
theorem kd_M_modulo_173 : decode kb_M_modulo 173 = .ok (.aload_n 0, 1) := by decide +kernel
theorem kd_M_modulo_174 : decode kb_M_modulo 174 = .ok (.getfield 29, 3) := by decide +kernel
theorem kd_M_modulo_177 : decode kb_M_modulo 177 = .ok (.bipush 10, 2) := by decide +kernel
theorem kd_M_modulo_179 : decode kb_M_modulo 179 = .ok (.iload 6, 2) := by decide +kernel
theorem kd_M_modulo_181 : decode kb_M_modulo 181 = .ok (.imul, 1) := by decide +kernel
theorem kd_M_modulo_182 : decode kb_M_modulo 182 = .ok (.iload 8, 2) := by decide +kernel
theorem kd_M_modulo_184 : decode kb_M_modulo 184 = .ok (.iadd, 1) := by decide +kernel
theorem kd_M_modulo_185 : decode kb_M_modulo 185 = .ok (.lload 9, 2) := by decide +kernel
theorem kd_M_modulo_187 : decode kb_M_modulo 187 = .ok (.lastore, 1) := by decide +kernel
theorem kd_M_modulo_188 : decode kb_M_modulo 188 = .ok (.iinc 8 1, 3) := by decide +kernel
theorem kd_M_modulo_191 : decode kb_M_modulo 191 = .ok (.goto (-72), 3) := by decide +kernel
theorem kd_M_modulo_194 : decode kb_M_modulo 194 = .ok (.iload 7, 2) := by decide +kernel
theorem kd_M_modulo_196 : decode kb_M_modulo 196 = .ok (.iload 6, 2) := by decide +kernel
theorem kd_M_modulo_198 : decode kb_M_modulo 198 = .ok (.if_icmp .ne 8, 3) := by decide +kernel
theorem kd_M_modulo_201 : decode kb_M_modulo 201 = .ok (.lload 4, 2) := by decide +kernel
theorem kd_M_modulo_203 : decode kb_M_modulo 203 = .ok (.goto 9, 3) := by decide +kernel
theorem kd_M_modulo_206 : decode kb_M_modulo 206 = .ok (.lload_n 2, 1) := by decide +kernel
theorem kd_M_modulo_207 : decode kb_M_modulo 207 = .ok (.lload 4, 2) := by decide +kernel
theorem kd_M_modulo_209 : decode kb_M_modulo 209 = .ok (.lsub, 1) := by decide +kernel
theorem kd_M_modulo_210 : decode kb_M_modulo 210 = .ok (.lload_n 2, 1) := by decide +kernel
theorem kd_M_modulo_211 : decode kb_M_modulo 211 = .ok (.lrem, 1) := by decide +kernel
theorem kd_M_modulo_212 : decode kb_M_modulo 212 = .ok (.lstore 4, 2) := by decide +kernel
theorem kd_M_modulo_214 : decode kb_M_modulo 214 = .ok (.lload 4, 2) := by decide +kernel
theorem kd_M_modulo_216 : decode kb_M_modulo 216 = .ok (.aload_n 0, 1) := by decide +kernel
theorem kd_M_modulo_217 : decode kb_M_modulo 217 = .ok (.getfield 29, 3) := by decide +kernel
theorem kd_M_modulo_220 : decode kb_M_modulo 220 = .ok (.bipush 10, 2) := by decide +kernel
theorem kd_M_modulo_222 : decode kb_M_modulo 222 = .ok (.iload 6, 2) := by decide +kernel
theorem kd_M_modulo_224 : decode kb_M_modulo 224 = .ok (.imul, 1) := by decide +kernel
theorem kd_M_modulo_225 : decode kb_M_modulo 225 = .ok (.iload 6, 2) := by decide +kernel
theorem kd_M_modulo_227 : decode kb_M_modulo 227 = .ok (.iadd, 1) := by decide +kernel
theorem kd_M_modulo_228 : decode kb_M_modulo 228 = .ok (.laload, 1) := by decide +kernel
theorem kd_M_modulo_229 : decode kb_M_modulo 229 = .ok (.lmul, 1) := by decide +kernel
theorem kd_M_modulo_230 : decode kb_M_modulo 230 = .ok (.lload_n 2, 1) := by decide +kernel
theorem kd_M_modulo_231 : decode kb_M_modulo 231 = .ok (.lrem, 1) := by decide +kernel
theorem kd_M_modulo_232 : decode kb_M_modulo 232 = .ok (.lstore 4, 2) := by decide +kernel
theorem kd_M_modulo_234 : decode kb_M_modulo 234 = .ok (.aload_n 0, 1) := by decide +kernel
theorem kd_M_modulo_235 : decode kb_M_modulo 235 = .ok (.getfield 29, 3) := by decide +kernel
theorem kd_M_modulo_238 : decode kb_M_modulo 238 = .ok (.bipush 10, 2) := by decide +kernel
theorem kd_M_modulo_240 : decode kb_M_modulo 240 = .ok (.iload 6, 2) := by decide +kernel
theorem kd_M_modulo_242 : decode kb_M_modulo 242 = .ok (.imul, 1) := by decide +kernel
theorem kd_M_modulo_243 : decode kb_M_modulo 243 = .ok (.iload 6, 2) := by decide +kernel
theorem kd_M_modulo_245 : decode kb_M_modulo 245 = .ok (.iadd, 1) := by decide +kernel
theorem kd_M_modulo_246 : decode kb_M_modulo 246 = .ok (.laload, 1) := by decide +kernel
theorem kd_M_modulo_247 : decode kb_M_modulo 247 = .ok (.lload_n 2, 1) := by decide +kernel
theorem kd_M_modulo_248 : decode kb_M_modulo 248 = .ok (.ldc2_w 83, 3) := by decide +kernel
theorem kd_M_modulo_251 : decode kb_M_modulo 251 = .ok (.lsub, 1) := by decide +kernel
theorem kd_M_modulo_252 : decode kb_M_modulo 252 = .ok (.lload_n 2, 1) := by decide +kernel
theorem kd_M_modulo_253 : decode kb_M_modulo 253 = .ok (.invokestatic 85, 3) := by decide +kernel
theorem kd_M_modulo_256 : decode kb_M_modulo 256 = .ok (.lstore 8, 2) := by decide +kernel
theorem kd_M_modulo_258 : decode kb_M_modulo 258 = .ok (.iload 6, 2) := by decide +kernel
theorem kd_M_modulo_260 : decode kb_M_modulo 260 = .ok (.iconst 1, 1) := by decide +kernel
theorem kd_M_modulo_261 : decode kb_M_modulo 261 = .ok (.iadd, 1) := by decide +kernel
theorem kd_M_modulo_262 : decode kb_M_modulo 262 = .ok (.istore 10, 2) := by decide +kernel
theorem kd_M_modulo_264 : decode kb_M_modulo 264 = .ok (.iload 10, 2) := by decide +kernel
theorem kd_M_modulo_266 : decode kb_M_modulo 266 = .ok (.iload_n 1, 1) := by decide +kernel
theorem kd_M_modulo_267 : decode kb_M_modulo 267 = .ok (.if_icmp .ge 99, 3) := by decide +kernel
theorem kd_M_modulo_270 : decode kb_M_modulo 270 = .ok (.aload_n 0, 1) := by decide +kernel
theorem kd_M_modulo_271 : decode kb_M_modulo 271 = .ok (.getfield 29, 3) := by decide +kernel
theorem kd_M_modulo_274 : decode kb_M_modulo 274 = .ok (.bipush 10, 2) := by decide +kernel
theorem kd_M_modulo_276 : decode kb_M_modulo 276 = .ok (.iload 10, 2) := by decide +kernel
theorem kd_M_modulo_278 : decode kb_M_modulo 278 = .ok (.imul, 1) := by decide +kernel
theorem kd_M_modulo_279 : decode kb_M_modulo 279 = .ok (.iload 6, 2) := by decide +kernel
theorem kd_M_modulo_281 : decode kb_M_modulo 281 = .ok (.iadd, 1) := by decide +kernel
theorem kd_M_modulo_282 : decode kb_M_modulo 282 = .ok (.laload, 1) := by decide +kernel
theorem kd_M_modulo_283 : decode kb_M_modulo 283 = .ok (.lload 8, 2) := by decide +kernel
theorem kd_M_modulo_285 : decode kb_M_modulo 285 = .ok (.lmul, 1) := by decide +kernel
theorem kd_M_modulo_286 : decode kb_M_modulo 286 = .ok (.lload_n 2, 1) := by decide +kernel
theorem kd_M_modulo_287 : decode kb_M_modulo 287 = .ok (.lrem, 1) := by decide +kernel
theorem kd_M_modulo_288 : decode kb_M_modulo 288 = .ok (.lstore 11, 2) := by decide +kernel
theorem kd_M_modulo_290 : decode kb_M_modulo 290 = .ok (.iload 6, 2) := by decide +kernel
theorem kd_M_modulo_292 : decode kb_M_modulo 292 = .ok (.istore 13, 2) := by decide +kernel
theorem kd_M_modulo_294 : decode kb_M_modulo 294 = .ok (.iload 13, 2) := by decide +kernel
theorem kd_M_modulo_296 : decode kb_M_modulo 296 = .ok (.iload_n 1, 1) := by decide +kernel
theorem kd_M_modulo_297 : decode kb_M_modulo 297 = .ok (.if_icmp .ge 63, 3) := by decide +kernel
theorem kd_M_modulo_300 : decode kb_M_modulo 300 = .ok (.lload 11, 2) := by decide +kernel
theorem kd_M_modulo_302 : decode kb_M_modulo 302 = .ok (.lconst 0, 1) := by decide +kernel
theorem kd_M_modulo_303 : decode kb_M_modulo 303 = .ok (.lcmp, 1) := by decide +kernel
theorem kd_M_modulo_304 : decode kb_M_modulo 304 = .ok (.ifCond .eq 56, 3) := by decide +kernel
theorem kd_M_modulo_307 : decode kb_M_modulo 307 = .ok (.aload_n 0, 1) := by decide +kernel
theorem kd_M_modulo_308 : decode kb_M_modulo 308 = .ok (.getfield 29, 3) := by decide +kernel
theorem kd_M_modulo_311 : decode kb_M_modulo 311 = .ok (.bipush 10, 2) := by decide +kernel
theorem kd_M_modulo_313 : decode kb_M_modulo 313 = .ok (.iload 10, 2) := by decide +kernel
theorem kd_M_modulo_315 : decode kb_M_modulo 315 = .ok (.imul, 1) := by decide +kernel
theorem kd_M_modulo_316 : decode kb_M_modulo 316 = .ok (.iload 13, 2) := by decide +kernel
theorem kd_M_modulo_318 : decode kb_M_modulo 318 = .ok (.iadd, 1) := by decide +kernel
theorem kd_M_modulo_319 : decode kb_M_modulo 319 = .ok (.aload_n 0, 1) := by decide +kernel
theorem kd_M_modulo_320 : decode kb_M_modulo 320 = .ok (.getfield 29, 3) := by decide +kernel
theorem kd_M_modulo_323 : decode kb_M_modulo 323 = .ok (.bipush 10, 2) := by decide +kernel
theorem kd_M_modulo_325 : decode kb_M_modulo 325 = .ok (.iload 10, 2) := by decide +kernel
theorem kd_M_modulo_327 : decode kb_M_modulo 327 = .ok (.imul, 1) := by decide +kernel
theorem kd_M_modulo_328 : decode kb_M_modulo 328 = .ok (.iload 13, 2) := by decide +kernel
theorem kd_M_modulo_330 : decode kb_M_modulo 330 = .ok (.iadd, 1) := by decide +kernel
theorem kd_M_modulo_331 : decode kb_M_modulo 331 = .ok (.laload, 1) := by decide +kernel
theorem kd_M_modulo_332 : decode kb_M_modulo 332 = .ok (.lload_n 2, 1) := by decide +kernel
theorem kd_M_modulo_333 : decode kb_M_modulo 333 = .ok (.lload 11, 2) := by decide +kernel
theorem kd_M_modulo_335 : decode kb_M_modulo 335 = .ok (.lsub, 1) := by decide +kernel
theorem kd_M_modulo_336 : decode kb_M_modulo 336 = .ok (.aload_n 0, 1) := by decide +kernel
theorem kd_M_modulo_337 : decode kb_M_modulo 337 = .ok (.getfield 29, 3) := by decide +kernel
theorem kd_M_modulo_340 : decode kb_M_modulo 340 = .ok (.bipush 10, 2) := by decide +kernel
theorem kd_M_modulo_342 : decode kb_M_modulo 342 = .ok (.iload 6, 2) := by decide +kernel
theorem kd_M_modulo_344 : decode kb_M_modulo 344 = .ok (.imul, 1) := by decide +kernel
theorem kd_M_modulo_345 : decode kb_M_modulo 345 = .ok (.iload 13, 2) := by decide +kernel
theorem kd_M_modulo_347 : decode kb_M_modulo 347 = .ok (.iadd, 1) := by decide +kernel
theorem kd_M_modulo_348 : decode kb_M_modulo 348 = .ok (.laload, 1) := by decide +kernel
theorem kd_M_modulo_349 : decode kb_M_modulo 349 = .ok (.lmul, 1) := by decide +kernel
theorem kd_M_modulo_350 : decode kb_M_modulo 350 = .ok (.ladd, 1) := by decide +kernel
theorem kd_M_modulo_351 : decode kb_M_modulo 351 = .ok (.lload_n 2, 1) := by decide +kernel
theorem kd_M_modulo_352 : decode kb_M_modulo 352 = .ok (.lrem, 1) := by decide +kernel
theorem kd_M_modulo_353 : decode kb_M_modulo 353 = .ok (.lastore, 1) := by decide +kernel
theorem kd_M_modulo_354 : decode kb_M_modulo 354 = .ok (.iinc 13 1, 3) := by decide +kernel
theorem kd_M_modulo_357 : decode kb_M_modulo 357 = .ok (.goto (-63), 3) := by decide +kernel
theorem kd_M_modulo_360 : decode kb_M_modulo 360 = .ok (.iinc 10 1, 3) := by decide +kernel
theorem kd_M_modulo_363 : decode kb_M_modulo 363 = .ok (.goto (-99), 3) := by decide +kernel
theorem kd_M_modulo_366 : decode kb_M_modulo 366 = .ok (.iinc 6 1, 3) := by decide +kernel
theorem kd_M_modulo_369 : decode kb_M_modulo 369 = .ok (.goto (-301), 3) := by decide +kernel
theorem kd_M_modulo_372 : decode kb_M_modulo 372 = .ok (.lload 4, 2) := by decide +kernel
theorem kd_M_modulo_374 : decode kb_M_modulo 374 = .ok (.lreturn, 1) := by decide +kernel
theorem kd_M_determinant_0 : decode kb_M_determinant 0 = .ok (.aload_n 0, 1) := by decide +kernel
theorem kd_M_determinant_1 : decode kb_M_determinant 1 = .ok (.iload_n 1, 1) := by decide +kernel
theorem kd_M_determinant_2 : decode kb_M_determinant 2 = .ok (.ldc2_w 89, 3) := by decide +kernel
theorem kd_M_determinant_5 : decode kb_M_determinant 5 = .ok (.invokevirtual 91, 3) := by decide +kernel
theorem kd_M_determinant_8 : decode kb_M_determinant 8 = .ok (.lstore_n 2, 1) := by decide +kernel
theorem kd_M_determinant_9 : decode kb_M_determinant 9 = .ok (.aload_n 0, 1) := by decide +kernel
theorem kd_M_determinant_10 : decode kb_M_determinant 10 = .ok (.iload_n 1, 1) := by decide +kernel
theorem kd_M_determinant_11 : decode kb_M_determinant 11 = .ok (.ldc2_w 95, 3) := by decide +kernel
theorem kd_M_determinant_14 : decode kb_M_determinant 14 = .ok (.invokevirtual 91, 3) := by decide +kernel
theorem kd_M_determinant_17 : decode kb_M_determinant 17 = .ok (.lstore 4, 2) := by decide +kernel
theorem kd_M_determinant_19 : decode kb_M_determinant 19 = .ok (.lload 4, 2) := by decide +kernel
theorem kd_M_determinant_21 : decode kb_M_determinant 21 = .ok (.lload_n 2, 1) := by decide +kernel
theorem kd_M_determinant_22 : decode kb_M_determinant 22 = .ok (.lsub, 1) := by decide +kernel
theorem kd_M_determinant_23 : decode kb_M_determinant 23 = .ok (.ldc2_w 95, 3) := by decide +kernel
theorem kd_M_determinant_26 : decode kb_M_determinant 26 = .ok (.lrem, 1) := by decide +kernel
theorem kd_M_determinant_27 : decode kb_M_determinant 27 = .ok (.ldc2_w 95, 3) := by decide +kernel
theorem kd_M_determinant_30 : decode kb_M_determinant 30 = .ok (.ladd, 1) := by decide +kernel
theorem kd_M_determinant_31 : decode kb_M_determinant 31 = .ok (.ldc2_w 95, 3) := by decide +kernel
theorem kd_M_determinant_34 : decode kb_M_determinant 34 = .ok (.lrem, 1) := by decide +kernel
theorem kd_M_determinant_35 : decode kb_M_determinant 35 = .ok (.ldc2_w 89, 3) := by decide +kernel
theorem kd_M_determinant_38 : decode kb_M_determinant 38 = .ok (.ldc2_w 97, 3) := by decide +kernel
theorem kd_M_determinant_41 : decode kb_M_determinant 41 = .ok (.ldc2_w 95, 3) := by decide +kernel
theorem kd_M_determinant_44 : decode kb_M_determinant 44 = .ok (.invokestatic 85, 3) := by decide +kernel
theorem kd_M_determinant_47 : decode kb_M_determinant 47 = .ok (.lmul, 1) := by decide +kernel
theorem kd_M_determinant_48 : decode kb_M_determinant 48 = .ok (.ldc2_w 95, 3) := by decide +kernel
theorem kd_M_determinant_51 : decode kb_M_determinant 51 = .ok (.lrem, 1) := by decide +kernel
theorem kd_M_determinant_52 : decode kb_M_determinant 52 = .ok (.lstore 6, 2) := by decide +kernel
theorem kd_M_determinant_54 : decode kb_M_determinant 54 = .ok (.lload_n 2, 1) := by decide +kernel
theorem kd_M_determinant_55 : decode kb_M_determinant 55 = .ok (.ldc2_w 89, 3) := by decide +kernel
theorem kd_M_determinant_58 : decode kb_M_determinant 58 = .ok (.lload 6, 2) := by decide +kernel
theorem kd_M_determinant_60 : decode kb_M_determinant 60 = .ok (.lmul, 1) := by decide +kernel
theorem kd_M_determinant_61 : decode kb_M_determinant 61 = .ok (.ladd, 1) := by decide +kernel
theorem kd_M_determinant_62 : decode kb_M_determinant 62 = .ok (.lreturn, 1) := by decide +kernel
theorem kd_M_clearRows_0 : decode kb_M_clearRows 0 = .ok (.iconst 0, 1) := by decide +kernel
theorem kd_M_clearRows_1 : decode kb_M_clearRows 1 = .ok (.istore_n 1, 1) := by decide +kernel
theorem kd_M_clearRows_2 : decode kb_M_clearRows 2 = .ok (.iload_n 1, 1) := by decide +kernel
theorem kd_M_clearRows_3 : decode kb_M_clearRows 3 = .ok (.bipush 100, 2) := by decide +kernel
theorem kd_M_clearRows_5 : decode kb_M_clearRows 5 = .ok (.if_icmp .ge 16, 3) := by decide +kernel
theorem kd_M_clearRows_8 : decode kb_M_clearRows 8 = .ok (.aload_n 0, 1) := by decide +kernel
theorem kd_M_clearRows_9 : decode kb_M_clearRows 9 = .ok (.getfield 26, 3) := by decide +kernel
theorem kd_M_clearRows_12 : decode kb_M_clearRows 12 = .ok (.iload_n 1, 1) := by decide +kernel
theorem kd_M_clearRows_13 : decode kb_M_clearRows 13 = .ok (.lconst 0, 1) := by decide +kernel
theorem kd_M_clearRows_14 : decode kb_M_clearRows 14 = .ok (.lastore, 1) := by decide +kernel
theorem kd_M_clearRows_15 : decode kb_M_clearRows 15 = .ok (.iinc 1 1, 3) := by decide +kernel
theorem kd_M_clearRows_18 : decode kb_M_clearRows 18 = .ok (.goto (-16), 3) := by decide +kernel
theorem kd_M_clearRows_21 : decode kb_M_clearRows 21 = .ok (.return_, 1) := by decide +kernel
theorem kd_M_apartAll_0 : decode kb_M_apartAll 0 = .ok (.iconst 0, 1) := by decide +kernel
theorem kd_M_apartAll_1 : decode kb_M_apartAll 1 = .ok (.istore_n 1, 1) := by decide +kernel
theorem kd_M_apartAll_2 : decode kb_M_apartAll 2 = .ok (.iload_n 1, 1) := by decide +kernel
theorem kd_M_apartAll_3 : decode kb_M_apartAll 3 = .ok (.aload_n 0, 1) := by decide +kernel
theorem kd_M_apartAll_4 : decode kb_M_apartAll 4 = .ok (.getfield 73, 3) := by decide +kernel
theorem kd_M_apartAll_7 : decode kb_M_apartAll 7 = .ok (.if_icmp .ge 16, 3) := by decide +kernel
theorem kd_M_apartAll_10 : decode kb_M_apartAll 10 = .ok (.aload_n 0, 1) := by decide +kernel
theorem kd_M_apartAll_11 : decode kb_M_apartAll 11 = .ok (.getfield 32, 3) := by decide +kernel
theorem kd_M_apartAll_14 : decode kb_M_apartAll 14 = .ok (.iload_n 1, 1) := by decide +kernel
theorem kd_M_apartAll_15 : decode kb_M_apartAll 15 = .ok (.iload_n 1, 1) := by decide +kernel
theorem kd_M_apartAll_16 : decode kb_M_apartAll 16 = .ok (.iastore, 1) := by decide +kernel
theorem kd_M_apartAll_17 : decode kb_M_apartAll 17 = .ok (.iinc 1 1, 3) := by decide +kernel
theorem kd_M_apartAll_20 : decode kb_M_apartAll 20 = .ok (.goto (-18), 3) := by decide +kernel
theorem kd_M_apartAll_23 : decode kb_M_apartAll 23 = .ok (.return_, 1) := by decide +kernel
theorem kd_M_join_0 : decode kb_M_join 0 = .ok (.aload_n 0, 1) := by decide +kernel
theorem kd_M_join_1 : decode kb_M_join 1 = .ok (.getfield 32, 3) := by decide +kernel
theorem kd_M_join_4 : decode kb_M_join 4 = .ok (.iload_n 1, 1) := by decide +kernel
theorem kd_M_join_5 : decode kb_M_join 5 = .ok (.iaload, 1) := by decide +kernel
theorem kd_M_join_6 : decode kb_M_join 6 = .ok (.istore_n 3, 1) := by decide +kernel
theorem kd_M_join_7 : decode kb_M_join 7 = .ok (.aload_n 0, 1) := by decide +kernel
theorem kd_M_join_8 : decode kb_M_join 8 = .ok (.getfield 32, 3) := by decide +kernel
theorem kd_M_join_11 : decode kb_M_join 11 = .ok (.iload_n 2, 1) := by decide +kernel
theorem kd_M_join_12 : decode kb_M_join 12 = .ok (.iaload, 1) := by decide +kernel
theorem kd_M_join_13 : decode kb_M_join 13 = .ok (.istore 4, 2) := by decide +kernel
theorem kd_M_join_15 : decode kb_M_join 15 = .ok (.iconst 0, 1) := by decide +kernel
theorem kd_M_join_16 : decode kb_M_join 16 = .ok (.istore 5, 2) := by decide +kernel
theorem kd_M_join_18 : decode kb_M_join 18 = .ok (.iload 5, 2) := by decide +kernel
theorem kd_M_join_20 : decode kb_M_join 20 = .ok (.aload_n 0, 1) := by decide +kernel
theorem kd_M_join_21 : decode kb_M_join 21 = .ok (.getfield 73, 3) := by decide +kernel
theorem kd_M_join_24 : decode kb_M_join 24 = .ok (.if_icmp .ge 45, 3) := by decide +kernel
theorem kd_M_join_27 : decode kb_M_join 27 = .ok (.iload_n 3, 1) := by decide +kernel
theorem kd_M_join_28 : decode kb_M_join 28 = .ok (.iload 4, 2) := by decide +kernel
theorem kd_M_join_30 : decode kb_M_join 30 = .ok (.if_icmp .eq 39, 3) := by decide +kernel
theorem kd_M_join_33 : decode kb_M_join 33 = .ok (.aload_n 0, 1) := by decide +kernel
theorem kd_M_join_34 : decode kb_M_join 34 = .ok (.getfield 32, 3) := by decide +kernel
theorem kd_M_join_37 : decode kb_M_join 37 = .ok (.iload 5, 2) := by decide +kernel
theorem kd_M_join_39 : decode kb_M_join 39 = .ok (.aload_n 0, 1) := by decide +kernel
theorem kd_M_join_40 : decode kb_M_join 40 = .ok (.getfield 32, 3) := by decide +kernel
theorem kd_M_join_43 : decode kb_M_join 43 = .ok (.iload 5, 2) := by decide +kernel
theorem kd_M_join_45 : decode kb_M_join 45 = .ok (.iaload, 1) := by decide +kernel
theorem kd_M_join_46 : decode kb_M_join 46 = .ok (.iload 4, 2) := by decide +kernel
theorem kd_M_join_48 : decode kb_M_join 48 = .ok (.if_icmp .ne 7, 3) := by decide +kernel
theorem kd_M_join_51 : decode kb_M_join 51 = .ok (.iload_n 3, 1) := by decide +kernel
theorem kd_M_join_52 : decode kb_M_join 52 = .ok (.goto 10, 3) := by decide +kernel
theorem kd_M_join_55 : decode kb_M_join 55 = .ok (.aload_n 0, 1) := by decide +kernel
theorem kd_M_join_56 : decode kb_M_join 56 = .ok (.getfield 32, 3) := by decide +kernel
theorem kd_M_join_59 : decode kb_M_join 59 = .ok (.iload 5, 2) := by decide +kernel
theorem kd_M_join_61 : decode kb_M_join 61 = .ok (.iaload, 1) := by decide +kernel
theorem kd_M_join_62 : decode kb_M_join 62 = .ok (.iastore, 1) := by decide +kernel
theorem kd_M_join_63 : decode kb_M_join 63 = .ok (.iinc 5 1, 3) := by decide +kernel
theorem kd_M_join_66 : decode kb_M_join 66 = .ok (.goto (-48), 3) := by decide +kernel
theorem kd_M_join_69 : decode kb_M_join 69 = .ok (.iload_n 3, 1) := by decide +kernel
theorem kd_M_join_70 : decode kb_M_join 70 = .ok (.iload 4, 2) := by decide +kernel
theorem kd_M_join_72 : decode kb_M_join 72 = .ok (.if_icmp .eq 7, 3) := by decide +kernel
theorem kd_M_join_75 : decode kb_M_join 75 = .ok (.iconst 1, 1) := by decide +kernel
theorem kd_M_join_76 : decode kb_M_join 76 = .ok (.goto 4, 3) := by decide +kernel
theorem kd_M_join_79 : decode kb_M_join 79 = .ok (.iconst 0, 1) := by decide +kernel
theorem kd_M_join_80 : decode kb_M_join 80 = .ok (.ireturn, 1) := by decide +kernel
theorem kd_M_noneOut_0 : decode kb_M_noneOut 0 = .ok (.iconst 0, 1) := by decide +kernel
theorem kd_M_noneOut_1 : decode kb_M_noneOut 1 = .ok (.istore_n 1, 1) := by decide +kernel
theorem kd_M_noneOut_2 : decode kb_M_noneOut 2 = .ok (.iload_n 1, 1) := by decide +kernel
theorem kd_M_noneOut_3 : decode kb_M_noneOut 3 = .ok (.bipush 30, 2) := by decide +kernel
theorem kd_M_noneOut_5 : decode kb_M_noneOut 5 = .ok (.if_icmp .ge 16, 3) := by decide +kernel
theorem kd_M_noneOut_8 : decode kb_M_noneOut 8 = .ok (.aload_n 0, 1) := by decide +kernel
theorem kd_M_noneOut_9 : decode kb_M_noneOut 9 = .ok (.getfield 35, 3) := by decide +kernel
theorem kd_M_noneOut_12 : decode kb_M_noneOut 12 = .ok (.iload_n 1, 1) := by decide +kernel
theorem kd_M_noneOut_13 : decode kb_M_noneOut 13 = .ok (.iconst 0, 1) := by decide +kernel
theorem kd_M_noneOut_14 : decode kb_M_noneOut 14 = .ok (.bastore, 1) := by decide +kernel
theorem kd_M_noneOut_15 : decode kb_M_noneOut 15 = .ok (.iinc 1 1, 3) := by decide +kernel
theorem kd_M_noneOut_18 : decode kb_M_noneOut 18 = .ok (.goto (-16), 3) := by decide +kernel
theorem kd_M_noneOut_21 : decode kb_M_noneOut 21 = .ok (.return_, 1) := by decide +kernel
theorem kd_M_number_0 : decode kb_M_number 0 = .ok (.iconst 0, 1) := by decide +kernel
theorem kd_M_number_1 : decode kb_M_number 1 = .ok (.istore_n 3, 1) := by decide +kernel
theorem kd_M_number_2 : decode kb_M_number 2 = .ok (.iconst 0, 1) := by decide +kernel
theorem kd_M_number_3 : decode kb_M_number 3 = .ok (.istore 4, 2) := by decide +kernel
theorem kd_M_number_5 : decode kb_M_number 5 = .ok (.iload 4, 2) := by decide +kernel
theorem kd_M_number_7 : decode kb_M_number 7 = .ok (.aload_n 0, 1) := by decide +kernel
theorem kd_M_number_8 : decode kb_M_number 8 = .ok (.getfield 73, 3) := by decide +kernel
theorem kd_M_number_11 : decode kb_M_number 11 = .ok (.if_icmp .ge 17, 3) := by decide +kernel
theorem kd_M_number_14 : decode kb_M_number 14 = .ok (.aload_n 0, 1) := by decide +kernel
theorem kd_M_number_15 : decode kb_M_number 15 = .ok (.getfield 39, 3) := by decide +kernel
theorem kd_M_number_18 : decode kb_M_number 18 = .ok (.iload 4, 2) := by decide +kernel
theorem kd_M_number_20 : decode kb_M_number 20 = .ok (.iconst (-1), 1) := by decide +kernel
theorem kd_M_number_21 : decode kb_M_number 21 = .ok (.iastore, 1) := by decide +kernel
theorem kd_M_number_22 : decode kb_M_number 22 = .ok (.iinc 4 1, 3) := by decide +kernel
theorem kd_M_number_25 : decode kb_M_number 25 = .ok (.goto (-20), 3) := by decide +kernel
theorem kd_M_number_28 : decode kb_M_number 28 = .ok (.iconst 0, 1) := by decide +kernel
theorem kd_M_number_29 : decode kb_M_number 29 = .ok (.istore 4, 2) := by decide +kernel
theorem kd_M_number_31 : decode kb_M_number 31 = .ok (.iload 4, 2) := by decide +kernel
theorem kd_M_number_33 : decode kb_M_number 33 = .ok (.aload_n 0, 1) := by decide +kernel
theorem kd_M_number_34 : decode kb_M_number 34 = .ok (.getfield 73, 3) := by decide +kernel
theorem kd_M_number_37 : decode kb_M_number 37 = .ok (.if_icmp .ge 118, 3) := by decide +kernel
theorem kd_M_number_40 : decode kb_M_number 40 = .ok (.aload_n 0, 1) := by decide +kernel
theorem kd_M_number_41 : decode kb_M_number 41 = .ok (.iload 4, 2) := by decide +kernel
theorem kd_M_number_43 : decode kb_M_number 43 = .ok (.invokevirtual 99, 3) := by decide +kernel
theorem kd_M_number_46 : decode kb_M_number 46 = .ok (.ifCond .eq 103, 3) := by decide +kernel
theorem kd_M_number_49 : decode kb_M_number 49 = .ok (.aload_n 0, 1) := by decide +kernel
theorem kd_M_number_50 : decode kb_M_number 50 = .ok (.getfield 32, 3) := by decide +kernel
theorem kd_M_number_53 : decode kb_M_number 53 = .ok (.iload 4, 2) := by decide +kernel
theorem kd_M_number_55 : decode kb_M_number 55 = .ok (.iaload, 1) := by decide +kernel
theorem kd_M_number_56 : decode kb_M_number 56 = .ok (.iload_n 1, 1) := by decide +kernel
theorem kd_M_number_57 : decode kb_M_number 57 = .ok (.if_icmp .eq 18, 3) := by decide +kernel
theorem kd_M_number_60 : decode kb_M_number 60 = .ok (.aload_n 0, 1) := by decide +kernel
theorem kd_M_number_61 : decode kb_M_number 61 = .ok (.getfield 32, 3) := by decide +kernel
theorem kd_M_number_64 : decode kb_M_number 64 = .ok (.iload 4, 2) := by decide +kernel
theorem kd_M_number_66 : decode kb_M_number 66 = .ok (.iaload, 1) := by decide +kernel
theorem kd_M_number_67 : decode kb_M_number 67 = .ok (.iload_n 2, 1) := by decide +kernel
theorem kd_M_number_68 : decode kb_M_number 68 = .ok (.if_icmp .eq 7, 3) := by decide +kernel
theorem kd_M_number_71 : decode kb_M_number 71 = .ok (.iconst 1, 1) := by decide +kernel
theorem kd_M_number_72 : decode kb_M_number 72 = .ok (.goto 4, 3) := by decide +kernel
theorem kd_M_number_75 : decode kb_M_number 75 = .ok (.iconst 0, 1) := by decide +kernel
theorem kd_M_number_76 : decode kb_M_number 76 = .ok (.istore 5, 2) := by decide +kernel
theorem kd_M_number_78 : decode kb_M_number 78 = .ok (.iconst 0, 1) := by decide +kernel
theorem kd_M_number_79 : decode kb_M_number 79 = .ok (.istore 6, 2) := by decide +kernel
theorem kd_M_number_81 : decode kb_M_number 81 = .ok (.iload 6, 2) := by decide +kernel
theorem kd_M_number_83 : decode kb_M_number 83 = .ok (.aload_n 0, 1) := by decide +kernel
theorem kd_M_number_84 : decode kb_M_number 84 = .ok (.getfield 73, 3) := by decide +kernel
theorem kd_M_number_87 : decode kb_M_number 87 = .ok (.if_icmp .ge 49, 3) := by decide +kernel
theorem kd_M_number_90 : decode kb_M_number 90 = .ok (.iload 5, 2) := by decide +kernel
theorem kd_M_number_92 : decode kb_M_number 92 = .ok (.ifCond .eq 44, 3) := by decide +kernel
theorem kd_M_number_95 : decode kb_M_number 95 = .ok (.aload_n 0, 1) := by decide +kernel
theorem kd_M_number_96 : decode kb_M_number 96 = .ok (.getfield 39, 3) := by decide +kernel
theorem kd_M_number_99 : decode kb_M_number 99 = .ok (.iload 6, 2) := by decide +kernel
theorem kd_M_number_101 : decode kb_M_number 101 = .ok (.aload_n 0, 1) := by decide +kernel
theorem kd_M_number_102 : decode kb_M_number 102 = .ok (.getfield 32, 3) := by decide +kernel
theorem kd_M_number_105 : decode kb_M_number 105 = .ok (.iload 6, 2) := by decide +kernel
theorem kd_M_number_107 : decode kb_M_number 107 = .ok (.iaload, 1) := by decide +kernel
theorem kd_M_number_108 : decode kb_M_number 108 = .ok (.aload_n 0, 1) := by decide +kernel
theorem kd_M_number_109 : decode kb_M_number 109 = .ok (.getfield 32, 3) := by decide +kernel
theorem kd_M_number_112 : decode kb_M_number 112 = .ok (.iload 4, 2) := by decide +kernel
theorem kd_M_number_114 : decode kb_M_number 114 = .ok (.iaload, 1) := by decide +kernel
theorem kd_M_number_115 : decode kb_M_number 115 = .ok (.if_icmp .ne 7, 3) := by decide +kernel
theorem kd_M_number_118 : decode kb_M_number 118 = .ok (.iload_n 3, 1) := by decide +kernel
theorem kd_M_number_119 : decode kb_M_number 119 = .ok (.goto 10, 3) := by decide +kernel
theorem kd_M_number_122 : decode kb_M_number 122 = .ok (.aload_n 0, 1) := by decide +kernel
theorem kd_M_number_123 : decode kb_M_number 123 = .ok (.getfield 39, 3) := by decide +kernel
theorem kd_M_number_126 : decode kb_M_number 126 = .ok (.iload 6, 2) := by decide +kernel
theorem kd_M_number_128 : decode kb_M_number 128 = .ok (.iaload, 1) := by decide +kernel
theorem kd_M_number_129 : decode kb_M_number 129 = .ok (.iastore, 1) := by decide +kernel
theorem kd_M_number_130 : decode kb_M_number 130 = .ok (.iinc 6 1, 3) := by decide +kernel
theorem kd_M_number_133 : decode kb_M_number 133 = .ok (.goto (-52), 3) := by decide +kernel
theorem kd_M_number_136 : decode kb_M_number 136 = .ok (.iload_n 3, 1) := by decide +kernel
theorem kd_M_number_137 : decode kb_M_number 137 = .ok (.iload 5, 2) := by decide +kernel
theorem kd_M_number_139 : decode kb_M_number 139 = .ok (.ifCond .eq 7, 3) := by decide +kernel
theorem kd_M_number_142 : decode kb_M_number 142 = .ok (.iconst 1, 1) := by decide +kernel
theorem kd_M_number_143 : decode kb_M_number 143 = .ok (.goto 4, 3) := by decide +kernel
theorem kd_M_number_146 : decode kb_M_number 146 = .ok (.iconst 0, 1) := by decide +kernel
theorem kd_M_number_147 : decode kb_M_number 147 = .ok (.iadd, 1) := by decide +kernel
theorem kd_M_number_148 : decode kb_M_number 148 = .ok (.istore_n 3, 1) := by decide +kernel
theorem kd_M_number_149 : decode kb_M_number 149 = .ok (.iinc 4 1, 3) := by decide +kernel
theorem kd_M_number_152 : decode kb_M_number 152 = .ok (.goto (-121), 3) := by decide +kernel
theorem kd_M_number_155 : decode kb_M_number 155 = .ok (.iload_n 3, 1) := by decide +kernel
theorem kd_M_number_156 : decode kb_M_number 156 = .ok (.ireturn, 1) := by decide +kernel
theorem kd_M_isFirst_0 : decode kb_M_isFirst 0 = .ok (.iconst 1, 1) := by decide +kernel
theorem kd_M_isFirst_1 : decode kb_M_isFirst 1 = .ok (.istore_n 2, 1) := by decide +kernel
theorem kd_M_isFirst_2 : decode kb_M_isFirst 2 = .ok (.iconst 0, 1) := by decide +kernel
theorem kd_M_isFirst_3 : decode kb_M_isFirst 3 = .ok (.istore_n 3, 1) := by decide +kernel
theorem kd_M_isFirst_4 : decode kb_M_isFirst 4 = .ok (.iload_n 3, 1) := by decide +kernel
theorem kd_M_isFirst_5 : decode kb_M_isFirst 5 = .ok (.iload_n 1, 1) := by decide +kernel
theorem kd_M_isFirst_6 : decode kb_M_isFirst 6 = .ok (.if_icmp .ge 34, 3) := by decide +kernel
theorem kd_M_isFirst_9 : decode kb_M_isFirst 9 = .ok (.iload_n 2, 1) := by decide +kernel
theorem kd_M_isFirst_10 : decode kb_M_isFirst 10 = .ok (.ifCond .eq 22, 3) := by decide +kernel
theorem kd_M_isFirst_13 : decode kb_M_isFirst 13 = .ok (.aload_n 0, 1) := by decide +kernel
theorem kd_M_isFirst_14 : decode kb_M_isFirst 14 = .ok (.getfield 32, 3) := by decide +kernel
theorem kd_M_isFirst_17 : decode kb_M_isFirst 17 = .ok (.iload_n 3, 1) := by decide +kernel
theorem kd_M_isFirst_18 : decode kb_M_isFirst 18 = .ok (.iaload, 1) := by decide +kernel
theorem kd_M_isFirst_19 : decode kb_M_isFirst 19 = .ok (.aload_n 0, 1) := by decide +kernel
theorem kd_M_isFirst_20 : decode kb_M_isFirst 20 = .ok (.getfield 32, 3) := by decide +kernel
theorem kd_M_isFirst_23 : decode kb_M_isFirst 23 = .ok (.iload_n 1, 1) := by decide +kernel
theorem kd_M_isFirst_24 : decode kb_M_isFirst 24 = .ok (.iaload, 1) := by decide +kernel
theorem kd_M_isFirst_25 : decode kb_M_isFirst 25 = .ok (.if_icmp .eq 7, 3) := by decide +kernel
theorem kd_M_isFirst_28 : decode kb_M_isFirst 28 = .ok (.iconst 1, 1) := by decide +kernel
theorem kd_M_isFirst_29 : decode kb_M_isFirst 29 = .ok (.goto 4, 3) := by decide +kernel
theorem kd_M_isFirst_32 : decode kb_M_isFirst 32 = .ok (.iconst 0, 1) := by decide +kernel
theorem kd_M_isFirst_33 : decode kb_M_isFirst 33 = .ok (.istore_n 2, 1) := by decide +kernel
theorem kd_M_isFirst_34 : decode kb_M_isFirst 34 = .ok (.iinc 3 1, 3) := by decide +kernel
theorem kd_M_isFirst_37 : decode kb_M_isFirst 37 = .ok (.goto (-33), 3) := by decide +kernel
theorem kd_M_isFirst_40 : decode kb_M_isFirst 40 = .ok (.iload_n 2, 1) := by decide +kernel
theorem kd_M_isFirst_41 : decode kb_M_isFirst 41 = .ok (.ireturn, 1) := by decide +kernel
theorem kd_M_addTo_0 : decode kb_M_addTo 0 = .ok (.iload_n 1, 1) := by decide +kernel
theorem kd_M_addTo_1 : decode kb_M_addTo 1 = .ok (.iconst (-1), 1) := by decide +kernel
theorem kd_M_addTo_2 : decode kb_M_addTo 2 = .ok (.if_icmp .eq 23, 3) := by decide +kernel
theorem kd_M_addTo_5 : decode kb_M_addTo 5 = .ok (.iload_n 2, 1) := by decide +kernel
theorem kd_M_addTo_6 : decode kb_M_addTo 6 = .ok (.iconst (-1), 1) := by decide +kernel
theorem kd_M_addTo_7 : decode kb_M_addTo 7 = .ok (.if_icmp .eq 18, 3) := by decide +kernel
theorem kd_M_addTo_10 : decode kb_M_addTo 10 = .ok (.aload_n 0, 1) := by decide +kernel
theorem kd_M_addTo_11 : decode kb_M_addTo 11 = .ok (.getfield 26, 3) := by decide +kernel
theorem kd_M_addTo_14 : decode kb_M_addTo 14 = .ok (.bipush 10, 2) := by decide +kernel
theorem kd_M_addTo_16 : decode kb_M_addTo 16 = .ok (.iload_n 1, 1) := by decide +kernel
theorem kd_M_addTo_17 : decode kb_M_addTo 17 = .ok (.imul, 1) := by decide +kernel
theorem kd_M_addTo_18 : decode kb_M_addTo 18 = .ok (.iload_n 2, 1) := by decide +kernel
theorem kd_M_addTo_19 : decode kb_M_addTo 19 = .ok (.iadd, 1) := by decide +kernel
theorem kd_M_addTo_20 : decode kb_M_addTo 20 = .ok (.dup2, 1) := by decide +kernel
theorem kd_M_addTo_21 : decode kb_M_addTo 21 = .ok (.laload, 1) := by decide +kernel
theorem kd_M_addTo_22 : decode kb_M_addTo 22 = .ok (.lload_n 3, 1) := by decide +kernel
theorem kd_M_addTo_23 : decode kb_M_addTo 23 = .ok (.ladd, 1) := by decide +kernel
theorem kd_M_addTo_24 : decode kb_M_addTo 24 = .ok (.lastore, 1) := by decide +kernel
theorem kd_M_addTo_25 : decode kb_M_addTo 25 = .ok (.return_, 1) := by decide +kernel
theorem kd_M_rows_0 : decode kb_M_rows 0 = .ok (.aload_n 0, 1) := by decide +kernel
theorem kd_M_rows_1 : decode kb_M_rows 1 = .ok (.invokevirtual 102, 3) := by decide +kernel
theorem kd_M_rows_4 : decode kb_M_rows 4 = .ok (.iconst 0, 1) := by decide +kernel
theorem kd_M_rows_5 : decode kb_M_rows 5 = .ok (.istore_n 3, 1) := by decide +kernel
theorem kd_M_rows_6 : decode kb_M_rows 6 = .ok (.iload_n 3, 1) := by decide +kernel
theorem kd_M_rows_7 : decode kb_M_rows 7 = .ok (.aload_n 0, 1) := by decide +kernel
theorem kd_M_rows_8 : decode kb_M_rows 8 = .ok (.getfield 80, 3) := by decide +kernel
theorem kd_M_rows_11 : decode kb_M_rows 11 = .ok (.if_icmp .ge 131, 3) := by decide +kernel
theorem kd_M_rows_14 : decode kb_M_rows 14 = .ok (.aload_n 0, 1) := by decide +kernel
theorem kd_M_rows_15 : decode kb_M_rows 15 = .ok (.getfield 39, 3) := by decide +kernel
theorem kd_M_rows_18 : decode kb_M_rows 18 = .ok (.aload_n 0, 1) := by decide +kernel
theorem kd_M_rows_19 : decode kb_M_rows 19 = .ok (.getfield 7, 3) := by decide +kernel
theorem kd_M_rows_22 : decode kb_M_rows 22 = .ok (.iload_n 3, 1) := by decide +kernel
theorem kd_M_rows_23 : decode kb_M_rows 23 = .ok (.iaload, 1) := by decide +kernel
theorem kd_M_rows_24 : decode kb_M_rows 24 = .ok (.iaload, 1) := by decide +kernel
theorem kd_M_rows_25 : decode kb_M_rows 25 = .ok (.istore 4, 2) := by decide +kernel
theorem kd_M_rows_27 : decode kb_M_rows 27 = .ok (.aload_n 0, 1) := by decide +kernel
theorem kd_M_rows_28 : decode kb_M_rows 28 = .ok (.getfield 39, 3) := by decide +kernel
theorem kd_M_rows_31 : decode kb_M_rows 31 = .ok (.aload_n 0, 1) := by decide +kernel
theorem kd_M_rows_32 : decode kb_M_rows 32 = .ok (.getfield 13, 3) := by decide +kernel
theorem kd_M_rows_35 : decode kb_M_rows 35 = .ok (.iload_n 3, 1) := by decide +kernel
theorem kd_M_rows_36 : decode kb_M_rows 36 = .ok (.iaload, 1) := by decide +kernel
theorem kd_M_rows_37 : decode kb_M_rows 37 = .ok (.iaload, 1) := by decide +kernel
theorem kd_M_rows_38 : decode kb_M_rows 38 = .ok (.istore 5, 2) := by decide +kernel
theorem kd_M_rows_40 : decode kb_M_rows 40 = .ok (.aload_n 0, 1) := by decide +kernel
theorem kd_M_rows_41 : decode kb_M_rows 41 = .ok (.getfield 35, 3) := by decide +kernel
theorem kd_M_rows_44 : decode kb_M_rows 44 = .ok (.iload_n 3, 1) := by decide +kernel
theorem kd_M_rows_45 : decode kb_M_rows 45 = .ok (.baload, 1) := by decide +kernel
theorem kd_M_rows_46 : decode kb_M_rows 46 = .ok (.ifCond .ne 90, 3) := by decide +kernel
theorem kd_M_rows_49 : decode kb_M_rows 49 = .ok (.aload_n 0, 1) := by decide +kernel
theorem kd_M_rows_50 : decode kb_M_rows 50 = .ok (.getfield 32, 3) := by decide +kernel
theorem kd_M_rows_53 : decode kb_M_rows 53 = .ok (.aload_n 0, 1) := by decide +kernel
theorem kd_M_rows_54 : decode kb_M_rows 54 = .ok (.getfield 7, 3) := by decide +kernel
theorem kd_M_rows_57 : decode kb_M_rows 57 = .ok (.iload_n 3, 1) := by decide +kernel
theorem kd_M_rows_58 : decode kb_M_rows 58 = .ok (.iaload, 1) := by decide +kernel
theorem kd_M_rows_59 : decode kb_M_rows 59 = .ok (.iaload, 1) := by decide +kernel
theorem kd_M_rows_60 : decode kb_M_rows 60 = .ok (.aload_n 0, 1) := by decide +kernel
theorem kd_M_rows_61 : decode kb_M_rows 61 = .ok (.getfield 32, 3) := by decide +kernel
theorem kd_M_rows_64 : decode kb_M_rows 64 = .ok (.aload_n 0, 1) := by decide +kernel
theorem kd_M_rows_65 : decode kb_M_rows 65 = .ok (.getfield 13, 3) := by decide +kernel
theorem kd_M_rows_68 : decode kb_M_rows 68 = .ok (.iload_n 3, 1) := by decide +kernel
theorem kd_M_rows_69 : decode kb_M_rows 69 = .ok (.iaload, 1) := by decide +kernel
theorem kd_M_rows_70 : decode kb_M_rows 70 = .ok (.iaload, 1) := by decide +kernel
theorem kd_M_rows_71 : decode kb_M_rows 71 = .ok (.if_icmp .eq 65, 3) := by decide +kernel
theorem kd_M_rows_74 : decode kb_M_rows 74 = .ok (.aload_n 0, 1) := by decide +kernel
theorem kd_M_rows_75 : decode kb_M_rows 75 = .ok (.iload 4, 2) := by decide +kernel
theorem kd_M_rows_77 : decode kb_M_rows 77 = .ok (.iload 4, 2) := by decide +kernel
theorem kd_M_rows_79 : decode kb_M_rows 79 = .ok (.aload_n 0, 1) := by decide +kernel
theorem kd_M_rows_80 : decode kb_M_rows 80 = .ok (.getfield 16, 3) := by decide +kernel
theorem kd_M_rows_83 : decode kb_M_rows 83 = .ok (.iload_n 3, 1) := by decide +kernel
theorem kd_M_rows_84 : decode kb_M_rows 84 = .ok (.iaload, 1) := by decide +kernel
theorem kd_M_rows_85 : decode kb_M_rows 85 = .ok (.i2l, 1) := by decide +kernel
theorem kd_M_rows_86 : decode kb_M_rows 86 = .ok (.invokevirtual 105, 3) := by decide +kernel
theorem kd_M_rows_89 : decode kb_M_rows 89 = .ok (.aload_n 0, 1) := by decide +kernel
theorem kd_M_rows_90 : decode kb_M_rows 90 = .ok (.iload 5, 2) := by decide +kernel
theorem kd_M_rows_92 : decode kb_M_rows 92 = .ok (.iload 5, 2) := by decide +kernel
theorem kd_M_rows_94 : decode kb_M_rows 94 = .ok (.aload_n 0, 1) := by decide +kernel
theorem kd_M_rows_95 : decode kb_M_rows 95 = .ok (.getfield 16, 3) := by decide +kernel
theorem kd_M_rows_98 : decode kb_M_rows 98 = .ok (.iload_n 3, 1) := by decide +kernel
theorem kd_M_rows_99 : decode kb_M_rows 99 = .ok (.iaload, 1) := by decide +kernel
theorem kd_M_rows_100 : decode kb_M_rows 100 = .ok (.i2l, 1) := by decide +kernel
theorem kd_M_rows_101 : decode kb_M_rows 101 = .ok (.invokevirtual 105, 3) := by decide +kernel
theorem kd_M_rows_104 : decode kb_M_rows 104 = .ok (.aload_n 0, 1) := by decide +kernel
theorem kd_M_rows_105 : decode kb_M_rows 105 = .ok (.iload 4, 2) := by decide +kernel
theorem kd_M_rows_107 : decode kb_M_rows 107 = .ok (.iload 5, 2) := by decide +kernel
theorem kd_M_rows_109 : decode kb_M_rows 109 = .ok (.aload_n 0, 1) := by decide +kernel
theorem kd_M_rows_110 : decode kb_M_rows 110 = .ok (.getfield 16, 3) := by decide +kernel
theorem kd_M_rows_113 : decode kb_M_rows 113 = .ok (.iload_n 3, 1) := by decide +kernel
theorem kd_M_rows_114 : decode kb_M_rows 114 = .ok (.iaload, 1) := by decide +kernel
theorem kd_M_rows_115 : decode kb_M_rows 115 = .ok (.ineg, 1) := by decide +kernel
theorem kd_M_rows_116 : decode kb_M_rows 116 = .ok (.i2l, 1) := by decide +kernel
theorem kd_M_rows_117 : decode kb_M_rows 117 = .ok (.invokevirtual 105, 3) := by decide +kernel
theorem kd_M_rows_120 : decode kb_M_rows 120 = .ok (.aload_n 0, 1) := by decide +kernel
theorem kd_M_rows_121 : decode kb_M_rows 121 = .ok (.iload 5, 2) := by decide +kernel
theorem kd_M_rows_123 : decode kb_M_rows 123 = .ok (.iload 4, 2) := by decide +kernel
theorem kd_M_rows_125 : decode kb_M_rows 125 = .ok (.aload_n 0, 1) := by decide +kernel
theorem kd_M_rows_126 : decode kb_M_rows 126 = .ok (.getfield 16, 3) := by decide +kernel
theorem kd_M_rows_129 : decode kb_M_rows 129 = .ok (.iload_n 3, 1) := by decide +kernel
theorem kd_M_rows_130 : decode kb_M_rows 130 = .ok (.iaload, 1) := by decide +kernel
theorem kd_M_rows_131 : decode kb_M_rows 131 = .ok (.ineg, 1) := by decide +kernel
theorem kd_M_rows_132 : decode kb_M_rows 132 = .ok (.i2l, 1) := by decide +kernel
theorem kd_M_rows_133 : decode kb_M_rows 133 = .ok (.invokevirtual 105, 3) := by decide +kernel
theorem kd_M_rows_136 : decode kb_M_rows 136 = .ok (.iinc 3 1, 3) := by decide +kernel
theorem kd_M_rows_139 : decode kb_M_rows 139 = .ok (.goto (-133), 3) := by decide +kernel
theorem kd_M_rows_142 : decode kb_M_rows 142 = .ok (.iconst 0, 1) := by decide +kernel
theorem kd_M_rows_143 : decode kb_M_rows 143 = .ok (.istore_n 3, 1) := by decide +kernel
theorem kd_M_rows_144 : decode kb_M_rows 144 = .ok (.iload_n 3, 1) := by decide +kernel
theorem kd_M_rows_145 : decode kb_M_rows 145 = .ok (.bipush 10, 2) := by decide +kernel
theorem kd_M_rows_147 : decode kb_M_rows 147 = .ok (.if_icmp .ge 22, 3) := by decide +kernel
theorem kd_M_rows_150 : decode kb_M_rows 150 = .ok (.aload_n 0, 1) := by decide +kernel
theorem kd_M_rows_151 : decode kb_M_rows 151 = .ok (.getfield 26, 3) := by decide +kernel
theorem kd_M_rows_154 : decode kb_M_rows 154 = .ok (.bipush 11, 2) := by decide +kernel
theorem kd_M_rows_156 : decode kb_M_rows 156 = .ok (.iload_n 3, 1) := by decide +kernel
theorem kd_M_rows_157 : decode kb_M_rows 157 = .ok (.imul, 1) := by decide +kernel
theorem kd_M_rows_158 : decode kb_M_rows 158 = .ok (.dup2, 1) := by decide +kernel
theorem kd_M_rows_159 : decode kb_M_rows 159 = .ok (.laload, 1) := by decide +kernel
theorem kd_M_rows_160 : decode kb_M_rows 160 = .ok (.lload_n 1, 1) := by decide +kernel
theorem kd_M_rows_161 : decode kb_M_rows 161 = .ok (.ladd, 1) := by decide +kernel
theorem kd_M_rows_162 : decode kb_M_rows 162 = .ok (.lastore, 1) := by decide +kernel
theorem kd_M_rows_163 : decode kb_M_rows 163 = .ok (.iinc 3 1, 3) := by decide +kernel
theorem kd_M_rows_166 : decode kb_M_rows 166 = .ok (.goto (-22), 3) := by decide +kernel
theorem kd_M_rows_169 : decode kb_M_rows 169 = .ok (.return_, 1) := by decide +kernel
theorem kd_M_count_0 : decode kb_M_count 0 = .ok (.aload_n 0, 1) := by decide +kernel
theorem kd_M_count_1 : decode kb_M_count 1 = .ok (.getfield 73, 3) := by decide +kernel
theorem kd_M_count_4 : decode kb_M_count 4 = .ok (.ifCond .ne 5, 3) := by decide +kernel
theorem kd_M_count_7 : decode kb_M_count 7 = .ok (.lconst 0, 1) := by decide +kernel
theorem kd_M_count_8 : decode kb_M_count 8 = .ok (.lreturn, 1) := by decide +kernel
theorem kd_M_count_9 : decode kb_M_count 9 = .ok (.aload_n 0, 1) := by decide +kernel
theorem kd_M_count_10 : decode kb_M_count 10 = .ok (.aload_n 0, 1) := by decide +kernel
theorem kd_M_count_11 : decode kb_M_count 11 = .ok (.getfield 32, 3) := by decide +kernel
theorem kd_M_count_14 : decode kb_M_count 14 = .ok (.iconst 0, 1) := by decide +kernel
theorem kd_M_count_15 : decode kb_M_count 15 = .ok (.iaload, 1) := by decide +kernel
theorem kd_M_count_16 : decode kb_M_count 16 = .ok (.iconst (-1), 1) := by decide +kernel
theorem kd_M_count_17 : decode kb_M_count 17 = .ok (.invokevirtual 109, 3) := by decide +kernel
theorem kd_M_count_20 : decode kb_M_count 20 = .ok (.istore_n 1, 1) := by decide +kernel
theorem kd_M_count_21 : decode kb_M_count 21 = .ok (.aload_n 0, 1) := by decide +kernel
theorem kd_M_count_22 : decode kb_M_count 22 = .ok (.lconst 0, 1) := by decide +kernel
theorem kd_M_count_23 : decode kb_M_count 23 = .ok (.invokevirtual 113, 3) := by decide +kernel
theorem kd_M_count_26 : decode kb_M_count 26 = .ok (.aload_n 0, 1) := by decide +kernel
theorem kd_M_count_27 : decode kb_M_count 27 = .ok (.iload_n 1, 1) := by decide +kernel
theorem kd_M_count_28 : decode kb_M_count 28 = .ok (.invokevirtual 117, 3) := by decide +kernel
theorem kd_M_count_31 : decode kb_M_count 31 = .ok (.lreturn, 1) := by decide +kernel
theorem kd_M_trees_0 : decode kb_M_trees 0 = .ok (.aload_n 0, 1) := by decide +kernel
theorem kd_M_trees_1 : decode kb_M_trees 1 = .ok (.iconst 0, 1) := by decide +kernel
theorem kd_M_trees_2 : decode kb_M_trees 2 = .ok (.putfield 69, 3) := by decide +kernel
theorem kd_M_trees_5 : decode kb_M_trees 5 = .ok (.aload_n 0, 1) := by decide +kernel
theorem kd_M_trees_6 : decode kb_M_trees 6 = .ok (.invokevirtual 121, 3) := by decide +kernel
theorem kd_M_trees_9 : decode kb_M_trees 9 = .ok (.aload_n 0, 1) := by decide +kernel
theorem kd_M_trees_10 : decode kb_M_trees 10 = .ok (.invokevirtual 124, 3) := by decide +kernel
theorem kd_M_trees_13 : decode kb_M_trees 13 = .ok (.aload_n 0, 1) := by decide +kernel
theorem kd_M_trees_14 : decode kb_M_trees 14 = .ok (.invokevirtual 127, 3) := by decide +kernel
theorem kd_M_trees_17 : decode kb_M_trees 17 = .ok (.lreturn, 1) := by decide +kernel
theorem kd_M_through_0 : decode kb_M_through 0 = .ok (.aload_n 0, 1) := by decide +kernel
theorem kd_M_through_1 : decode kb_M_through 1 = .ok (.iconst 0, 1) := by decide +kernel
theorem kd_M_through_2 : decode kb_M_through 2 = .ok (.putfield 69, 3) := by decide +kernel
theorem kd_M_through_5 : decode kb_M_through 5 = .ok (.iload_n 1, 1) := by decide +kernel
theorem kd_M_through_6 : decode kb_M_through 6 = .ok (.ifCond .lt 11, 3) := by decide +kernel
theorem kd_M_through_9 : decode kb_M_through 9 = .ok (.iload_n 1, 1) := by decide +kernel
theorem kd_M_through_10 : decode kb_M_through 10 = .ok (.aload_n 0, 1) := by decide +kernel
theorem kd_M_through_11 : decode kb_M_through 11 = .ok (.getfield 80, 3) := by decide +kernel
theorem kd_M_through_14 : decode kb_M_through 14 = .ok (.if_icmp .lt 7, 3) := by decide +kernel
theorem kd_M_through_17 : decode kb_M_through 17 = .ok (.ldc2_w 131, 3) := by decide +kernel
theorem kd_M_through_20 : decode kb_M_through 20 = .ok (.lreturn, 1) := by decide +kernel
theorem kd_M_through_21 : decode kb_M_through 21 = .ok (.aload_n 0, 1) := by decide +kernel
theorem kd_M_through_22 : decode kb_M_through 22 = .ok (.invokevirtual 133, 3) := by decide +kernel
theorem kd_M_through_25 : decode kb_M_through 25 = .ok (.lstore_n 2, 1) := by decide +kernel
theorem kd_M_through_26 : decode kb_M_through 26 = .ok (.aload_n 0, 1) := by decide +kernel
theorem kd_M_through_27 : decode kb_M_through 27 = .ok (.getfield 35, 3) := by decide +kernel
theorem kd_M_through_30 : decode kb_M_through 30 = .ok (.iload_n 1, 1) := by decide +kernel
theorem kd_M_through_31 : decode kb_M_through 31 = .ok (.iconst 1, 1) := by decide +kernel
theorem kd_M_through_32 : decode kb_M_through 32 = .ok (.bastore, 1) := by decide +kernel
theorem kd_M_through_33 : decode kb_M_through 33 = .ok (.lload_n 2, 1) := by decide +kernel
theorem kd_M_through_34 : decode kb_M_through 34 = .ok (.aload_n 0, 1) := by decide +kernel
theorem kd_M_through_35 : decode kb_M_through 35 = .ok (.invokevirtual 127, 3) := by decide +kernel
theorem kd_M_through_38 : decode kb_M_through 38 = .ok (.lsub, 1) := by decide +kernel
theorem kd_M_through_39 : decode kb_M_through 39 = .ok (.lreturn, 1) := by decide +kernel
theorem kd_M_rooted_0 : decode kb_M_rooted 0 = .ok (.aload_n 0, 1) := by decide +kernel
theorem kd_M_rooted_1 : decode kb_M_rooted 1 = .ok (.iconst 0, 1) := by decide +kernel
theorem kd_M_rooted_2 : decode kb_M_rooted 2 = .ok (.putfield 69, 3) := by decide +kernel
theorem kd_M_rooted_5 : decode kb_M_rooted 5 = .ok (.aload_n 0, 1) := by decide +kernel
theorem kd_M_rooted_6 : decode kb_M_rooted 6 = .ok (.iload_n 1, 1) := by decide +kernel
theorem kd_M_rooted_7 : decode kb_M_rooted 7 = .ok (.invokevirtual 76, 3) := by decide +kernel
theorem kd_M_rooted_10 : decode kb_M_rooted 10 = .ok (.ifCond .ne 7, 3) := by decide +kernel
theorem kd_M_rooted_13 : decode kb_M_rooted 13 = .ok (.ldc2_w 131, 3) := by decide +kernel
theorem kd_M_rooted_16 : decode kb_M_rooted 16 = .ok (.lreturn, 1) := by decide +kernel
theorem kd_M_rooted_17 : decode kb_M_rooted 17 = .ok (.aload_n 0, 1) := by decide +kernel
theorem kd_M_rooted_18 : decode kb_M_rooted 18 = .ok (.invokevirtual 121, 3) := by decide +kernel
theorem kd_M_rooted_21 : decode kb_M_rooted 21 = .ok (.aload_n 0, 1) := by decide +kernel
theorem kd_M_rooted_22 : decode kb_M_rooted 22 = .ok (.iload_n 1, 1) := by decide +kernel
theorem kd_M_rooted_23 : decode kb_M_rooted 23 = .ok (.iconst (-1), 1) := by decide +kernel
theorem kd_M_rooted_24 : decode kb_M_rooted 24 = .ok (.invokevirtual 109, 3) := by decide +kernel
theorem kd_M_rooted_27 : decode kb_M_rooted 27 = .ok (.istore_n 2, 1) := by decide +kernel
theorem kd_M_rooted_28 : decode kb_M_rooted 28 = .ok (.aload_n 0, 1) := by decide +kernel
theorem kd_M_rooted_29 : decode kb_M_rooted 29 = .ok (.invokevirtual 102, 3) := by decide +kernel
theorem kd_M_rooted_32 : decode kb_M_rooted 32 = .ok (.iconst 0, 1) := by decide +kernel
theorem kd_M_rooted_33 : decode kb_M_rooted 33 = .ok (.istore_n 3, 1) := by decide +kernel
theorem kd_M_rooted_34 : decode kb_M_rooted 34 = .ok (.iload_n 3, 1) := by decide +kernel
theorem kd_M_rooted_35 : decode kb_M_rooted 35 = .ok (.aload_n 0, 1) := by decide +kernel
theorem kd_M_rooted_36 : decode kb_M_rooted 36 = .ok (.getfield 80, 3) := by decide +kernel
theorem kd_M_rooted_39 : decode kb_M_rooted 39 = .ok (.if_icmp .ge 91, 3) := by decide +kernel
theorem kd_M_rooted_42 : decode kb_M_rooted 42 = .ok (.aload_n 0, 1) := by decide +kernel
theorem kd_M_rooted_43 : decode kb_M_rooted 43 = .ok (.getfield 7, 3) := by decide +kernel
theorem kd_M_rooted_46 : decode kb_M_rooted 46 = .ok (.iload_n 3, 1) := by decide +kernel
theorem kd_M_rooted_47 : decode kb_M_rooted 47 = .ok (.iaload, 1) := by decide +kernel
theorem kd_M_rooted_48 : decode kb_M_rooted 48 = .ok (.aload_n 0, 1) := by decide +kernel
theorem kd_M_rooted_49 : decode kb_M_rooted 49 = .ok (.getfield 13, 3) := by decide +kernel
theorem kd_M_rooted_52 : decode kb_M_rooted 52 = .ok (.iload_n 3, 1) := by decide +kernel
theorem kd_M_rooted_53 : decode kb_M_rooted 53 = .ok (.iaload, 1) := by decide +kernel
theorem kd_M_rooted_54 : decode kb_M_rooted 54 = .ok (.if_icmp .eq 70, 3) := by decide +kernel
theorem kd_M_rooted_57 : decode kb_M_rooted 57 = .ok (.aload_n 0, 1) := by decide +kernel
theorem kd_M_rooted_58 : decode kb_M_rooted 58 = .ok (.aload_n 0, 1) := by decide +kernel
theorem kd_M_rooted_59 : decode kb_M_rooted 59 = .ok (.getfield 39, 3) := by decide +kernel
theorem kd_M_rooted_62 : decode kb_M_rooted 62 = .ok (.aload_n 0, 1) := by decide +kernel
theorem kd_M_rooted_63 : decode kb_M_rooted 63 = .ok (.getfield 7, 3) := by decide +kernel
theorem kd_M_rooted_66 : decode kb_M_rooted 66 = .ok (.iload_n 3, 1) := by decide +kernel
theorem kd_M_rooted_67 : decode kb_M_rooted 67 = .ok (.iaload, 1) := by decide +kernel
theorem kd_M_rooted_68 : decode kb_M_rooted 68 = .ok (.iaload, 1) := by decide +kernel
theorem kd_M_rooted_69 : decode kb_M_rooted 69 = .ok (.aload_n 0, 1) := by decide +kernel
theorem kd_M_rooted_70 : decode kb_M_rooted 70 = .ok (.getfield 39, 3) := by decide +kernel
theorem kd_M_rooted_73 : decode kb_M_rooted 73 = .ok (.aload_n 0, 1) := by decide +kernel
theorem kd_M_rooted_74 : decode kb_M_rooted 74 = .ok (.getfield 7, 3) := by decide +kernel
theorem kd_M_rooted_77 : decode kb_M_rooted 77 = .ok (.iload_n 3, 1) := by decide +kernel
theorem kd_M_rooted_78 : decode kb_M_rooted 78 = .ok (.iaload, 1) := by decide +kernel
theorem kd_M_rooted_79 : decode kb_M_rooted 79 = .ok (.iaload, 1) := by decide +kernel
theorem kd_M_rooted_80 : decode kb_M_rooted 80 = .ok (.aload_n 0, 1) := by decide +kernel
theorem kd_M_rooted_81 : decode kb_M_rooted 81 = .ok (.getfield 16, 3) := by decide +kernel
theorem kd_M_rooted_84 : decode kb_M_rooted 84 = .ok (.iload_n 3, 1) := by decide +kernel
theorem kd_M_rooted_85 : decode kb_M_rooted 85 = .ok (.iaload, 1) := by decide +kernel
theorem kd_M_rooted_86 : decode kb_M_rooted 86 = .ok (.i2l, 1) := by decide +kernel
theorem kd_M_rooted_87 : decode kb_M_rooted 87 = .ok (.invokevirtual 105, 3) := by decide +kernel
theorem kd_M_rooted_90 : decode kb_M_rooted 90 = .ok (.aload_n 0, 1) := by decide +kernel
theorem kd_M_rooted_91 : decode kb_M_rooted 91 = .ok (.aload_n 0, 1) := by decide +kernel
theorem kd_M_rooted_92 : decode kb_M_rooted 92 = .ok (.getfield 39, 3) := by decide +kernel
theorem kd_M_rooted_95 : decode kb_M_rooted 95 = .ok (.aload_n 0, 1) := by decide +kernel
theorem kd_M_rooted_96 : decode kb_M_rooted 96 = .ok (.getfield 7, 3) := by decide +kernel
theorem kd_M_rooted_99 : decode kb_M_rooted 99 = .ok (.iload_n 3, 1) := by decide +kernel
theorem kd_M_rooted_100 : decode kb_M_rooted 100 = .ok (.iaload, 1) := by decide +kernel
theorem kd_M_rooted_101 : decode kb_M_rooted 101 = .ok (.iaload, 1) := by decide +kernel
theorem kd_M_rooted_102 : decode kb_M_rooted 102 = .ok (.aload_n 0, 1) := by decide +kernel
theorem kd_M_rooted_103 : decode kb_M_rooted 103 = .ok (.getfield 39, 3) := by decide +kernel
theorem kd_M_rooted_106 : decode kb_M_rooted 106 = .ok (.aload_n 0, 1) := by decide +kernel
theorem kd_M_rooted_107 : decode kb_M_rooted 107 = .ok (.getfield 13, 3) := by decide +kernel
theorem kd_M_rooted_110 : decode kb_M_rooted 110 = .ok (.iload_n 3, 1) := by decide +kernel
theorem kd_M_rooted_111 : decode kb_M_rooted 111 = .ok (.iaload, 1) := by decide +kernel
theorem kd_M_rooted_112 : decode kb_M_rooted 112 = .ok (.iaload, 1) := by decide +kernel
theorem kd_M_rooted_113 : decode kb_M_rooted 113 = .ok (.aload_n 0, 1) := by decide +kernel
theorem kd_M_rooted_114 : decode kb_M_rooted 114 = .ok (.getfield 16, 3) := by decide +kernel
theorem kd_M_rooted_117 : decode kb_M_rooted 117 = .ok (.iload_n 3, 1) := by decide +kernel
theorem kd_M_rooted_118 : decode kb_M_rooted 118 = .ok (.iaload, 1) := by decide +kernel
theorem kd_M_rooted_119 : decode kb_M_rooted 119 = .ok (.ineg, 1) := by decide +kernel
theorem kd_M_rooted_120 : decode kb_M_rooted 120 = .ok (.i2l, 1) := by decide +kernel
theorem kd_M_rooted_121 : decode kb_M_rooted 121 = .ok (.invokevirtual 105, 3) := by decide +kernel
theorem kd_M_rooted_124 : decode kb_M_rooted 124 = .ok (.iinc 3 1, 3) := by decide +kernel
theorem kd_M_rooted_127 : decode kb_M_rooted 127 = .ok (.goto (-93), 3) := by decide +kernel
theorem kd_M_rooted_130 : decode kb_M_rooted 130 = .ok (.aload_n 0, 1) := by decide +kernel
theorem kd_M_rooted_131 : decode kb_M_rooted 131 = .ok (.iload_n 2, 1) := by decide +kernel
theorem kd_M_rooted_132 : decode kb_M_rooted 132 = .ok (.invokevirtual 117, 3) := by decide +kernel
theorem kd_M_rooted_135 : decode kb_M_rooted 135 = .ok (.lreturn, 1) := by decide +kernel
theorem kd_M_forests_0 : decode kb_M_forests 0 = .ok (.aload_n 0, 1) := by decide +kernel
theorem kd_M_forests_1 : decode kb_M_forests 1 = .ok (.iconst 0, 1) := by decide +kernel
theorem kd_M_forests_2 : decode kb_M_forests 2 = .ok (.putfield 69, 3) := by decide +kernel
theorem kd_M_forests_5 : decode kb_M_forests 5 = .ok (.aload_n 0, 1) := by decide +kernel
theorem kd_M_forests_6 : decode kb_M_forests 6 = .ok (.invokevirtual 121, 3) := by decide +kernel
theorem kd_M_forests_9 : decode kb_M_forests 9 = .ok (.aload_n 0, 1) := by decide +kernel
theorem kd_M_forests_10 : decode kb_M_forests 10 = .ok (.invokevirtual 124, 3) := by decide +kernel
theorem kd_M_forests_13 : decode kb_M_forests 13 = .ok (.aload_n 0, 1) := by decide +kernel
theorem kd_M_forests_14 : decode kb_M_forests 14 = .ok (.iconst (-1), 1) := by decide +kernel
theorem kd_M_forests_15 : decode kb_M_forests 15 = .ok (.iconst (-1), 1) := by decide +kernel
theorem kd_M_forests_16 : decode kb_M_forests 16 = .ok (.invokevirtual 109, 3) := by decide +kernel
theorem kd_M_forests_19 : decode kb_M_forests 19 = .ok (.istore_n 1, 1) := by decide +kernel
theorem kd_M_forests_20 : decode kb_M_forests 20 = .ok (.aload_n 0, 1) := by decide +kernel
theorem kd_M_forests_21 : decode kb_M_forests 21 = .ok (.lconst 1, 1) := by decide +kernel
theorem kd_M_forests_22 : decode kb_M_forests 22 = .ok (.invokevirtual 113, 3) := by decide +kernel
theorem kd_M_forests_25 : decode kb_M_forests 25 = .ok (.aload_n 0, 1) := by decide +kernel
theorem kd_M_forests_26 : decode kb_M_forests 26 = .ok (.iload_n 1, 1) := by decide +kernel
theorem kd_M_forests_27 : decode kb_M_forests 27 = .ok (.invokevirtual 117, 3) := by decide +kernel
theorem kd_M_forests_30 : decode kb_M_forests 30 = .ok (.lreturn, 1) := by decide +kernel
theorem kd_M_apart_0 : decode kb_M_apart 0 = .ok (.aload_n 0, 1) := by decide +kernel
theorem kd_M_apart_1 : decode kb_M_apart 1 = .ok (.iconst 0, 1) := by decide +kernel
theorem kd_M_apart_2 : decode kb_M_apart 2 = .ok (.putfield 69, 3) := by decide +kernel
theorem kd_M_apart_5 : decode kb_M_apart 5 = .ok (.aload_n 0, 1) := by decide +kernel
theorem kd_M_apart_6 : decode kb_M_apart 6 = .ok (.iload_n 1, 1) := by decide +kernel
theorem kd_M_apart_7 : decode kb_M_apart 7 = .ok (.invokevirtual 76, 3) := by decide +kernel
theorem kd_M_apart_10 : decode kb_M_apart 10 = .ok (.ifCond .eq 16, 3) := by decide +kernel
theorem kd_M_apart_13 : decode kb_M_apart 13 = .ok (.aload_n 0, 1) := by decide +kernel
theorem kd_M_apart_14 : decode kb_M_apart 14 = .ok (.iload_n 2, 1) := by decide +kernel
theorem kd_M_apart_15 : decode kb_M_apart 15 = .ok (.invokevirtual 76, 3) := by decide +kernel
theorem kd_M_apart_18 : decode kb_M_apart 18 = .ok (.ifCond .eq 8, 3) := by decide +kernel
theorem kd_M_apart_21 : decode kb_M_apart 21 = .ok (.iload_n 1, 1) := by decide +kernel
theorem kd_M_apart_22 : decode kb_M_apart 22 = .ok (.iload_n 2, 1) := by decide +kernel
theorem kd_M_apart_23 : decode kb_M_apart 23 = .ok (.if_icmp .ne 5, 3) := by decide +kernel
theorem kd_M_apart_26 : decode kb_M_apart 26 = .ok (.lconst 0, 1) := by decide +kernel
theorem kd_M_apart_27 : decode kb_M_apart 27 = .ok (.lreturn, 1) := by decide +kernel
theorem kd_M_apart_28 : decode kb_M_apart 28 = .ok (.aload_n 0, 1) := by decide +kernel
theorem kd_M_apart_29 : decode kb_M_apart 29 = .ok (.invokevirtual 121, 3) := by decide +kernel
theorem kd_M_apart_32 : decode kb_M_apart 32 = .ok (.aload_n 0, 1) := by decide +kernel
theorem kd_M_apart_33 : decode kb_M_apart 33 = .ok (.invokevirtual 124, 3) := by decide +kernel
theorem kd_M_apart_36 : decode kb_M_apart 36 = .ok (.aload_n 0, 1) := by decide +kernel
theorem kd_M_apart_37 : decode kb_M_apart 37 = .ok (.iload_n 1, 1) := by decide +kernel
theorem kd_M_apart_38 : decode kb_M_apart 38 = .ok (.iload_n 2, 1) := by decide +kernel
theorem kd_M_apart_39 : decode kb_M_apart 39 = .ok (.invokevirtual 109, 3) := by decide +kernel
theorem kd_M_apart_42 : decode kb_M_apart 42 = .ok (.istore_n 3, 1) := by decide +kernel
theorem kd_M_apart_43 : decode kb_M_apart 43 = .ok (.aload_n 0, 1) := by decide +kernel
theorem kd_M_apart_44 : decode kb_M_apart 44 = .ok (.lconst 0, 1) := by decide +kernel
theorem kd_M_apart_45 : decode kb_M_apart 45 = .ok (.invokevirtual 113, 3) := by decide +kernel
theorem kd_M_apart_48 : decode kb_M_apart 48 = .ok (.aload_n 0, 1) := by decide +kernel
theorem kd_M_apart_49 : decode kb_M_apart 49 = .ok (.iload_n 3, 1) := by decide +kernel
theorem kd_M_apart_50 : decode kb_M_apart 50 = .ok (.invokevirtual 117, 3) := by decide +kernel
theorem kd_M_apart_53 : decode kb_M_apart 53 = .ok (.lreturn, 1) := by decide +kernel
theorem kd_M_gcd_0 : decode kb_M_gcd 0 = .ok (.lload_n 0, 1) := by decide +kernel
theorem kd_M_gcd_1 : decode kb_M_gcd 1 = .ok (.lstore 4, 2) := by decide +kernel
theorem kd_M_gcd_3 : decode kb_M_gcd 3 = .ok (.lload_n 2, 1) := by decide +kernel
theorem kd_M_gcd_4 : decode kb_M_gcd 4 = .ok (.lstore 6, 2) := by decide +kernel
theorem kd_M_gcd_6 : decode kb_M_gcd 6 = .ok (.lload 6, 2) := by decide +kernel
theorem kd_M_gcd_8 : decode kb_M_gcd 8 = .ok (.lconst 0, 1) := by decide +kernel
theorem kd_M_gcd_9 : decode kb_M_gcd 9 = .ok (.lcmp, 1) := by decide +kernel
theorem kd_M_gcd_10 : decode kb_M_gcd 10 = .ok (.ifCond .eq 21, 3) := by decide +kernel
theorem kd_M_gcd_13 : decode kb_M_gcd 13 = .ok (.lload 4, 2) := by decide +kernel
theorem kd_M_gcd_15 : decode kb_M_gcd 15 = .ok (.lload 6, 2) := by decide +kernel
theorem kd_M_gcd_17 : decode kb_M_gcd 17 = .ok (.lrem, 1) := by decide +kernel
theorem kd_M_gcd_18 : decode kb_M_gcd 18 = .ok (.lstore 8, 2) := by decide +kernel
theorem kd_M_gcd_20 : decode kb_M_gcd 20 = .ok (.lload 6, 2) := by decide +kernel
theorem kd_M_gcd_22 : decode kb_M_gcd 22 = .ok (.lstore 4, 2) := by decide +kernel
theorem kd_M_gcd_24 : decode kb_M_gcd 24 = .ok (.lload 8, 2) := by decide +kernel
theorem kd_M_gcd_26 : decode kb_M_gcd 26 = .ok (.lstore 6, 2) := by decide +kernel
theorem kd_M_gcd_28 : decode kb_M_gcd 28 = .ok (.goto (-22), 3) := by decide +kernel
theorem kd_M_gcd_31 : decode kb_M_gcd 31 = .ok (.lload 4, 2) := by decide +kernel
theorem kd_M_gcd_33 : decode kb_M_gcd 33 = .ok (.lreturn, 1) := by decide +kernel
theorem kd_M_resistance_0 : decode kb_M_resistance 0 = .ok (.aload_n 0, 1) := by decide +kernel
theorem kd_M_resistance_1 : decode kb_M_resistance 1 = .ok (.iconst 0, 1) := by decide +kernel
theorem kd_M_resistance_2 : decode kb_M_resistance 2 = .ok (.putfield 69, 3) := by decide +kernel
theorem kd_M_resistance_5 : decode kb_M_resistance 5 = .ok (.aload_n 0, 1) := by decide +kernel
theorem kd_M_resistance_6 : decode kb_M_resistance 6 = .ok (.iload_n 1, 1) := by decide +kernel
theorem kd_M_resistance_7 : decode kb_M_resistance 7 = .ok (.invokevirtual 76, 3) := by decide +kernel
theorem kd_M_resistance_10 : decode kb_M_resistance 10 = .ok (.ifCond .eq 29, 3) := by decide +kernel
theorem kd_M_resistance_13 : decode kb_M_resistance 13 = .ok (.aload_n 0, 1) := by decide +kernel
theorem kd_M_resistance_14 : decode kb_M_resistance 14 = .ok (.iload_n 2, 1) := by decide +kernel
theorem kd_M_resistance_15 : decode kb_M_resistance 15 = .ok (.invokevirtual 76, 3) := by decide +kernel
theorem kd_M_resistance_18 : decode kb_M_resistance 18 = .ok (.ifCond .eq 21, 3) := by decide +kernel
theorem kd_M_resistance_21 : decode kb_M_resistance 21 = .ok (.iload_n 3, 1) := by decide +kernel
theorem kd_M_resistance_22 : decode kb_M_resistance 22 = .ok (.ifCond .lt 17, 3) := by decide +kernel
theorem kd_M_resistance_25 : decode kb_M_resistance 25 = .ok (.iload_n 3, 1) := by decide +kernel
theorem kd_M_resistance_26 : decode kb_M_resistance 26 = .ok (.iconst 1, 1) := by decide +kernel
theorem kd_M_resistance_27 : decode kb_M_resistance 27 = .ok (.if_icmp .gt 12, 3) := by decide +kernel
theorem kd_M_resistance_30 : decode kb_M_resistance 30 = .ok (.aload_n 0, 1) := by decide +kernel
theorem kd_M_resistance_31 : decode kb_M_resistance 31 = .ok (.invokevirtual 133, 3) := by decide +kernel
theorem kd_M_resistance_34 : decode kb_M_resistance 34 = .ok (.lconst 0, 1) := by decide +kernel
theorem kd_M_resistance_35 : decode kb_M_resistance 35 = .ok (.lcmp, 1) := by decide +kernel
theorem kd_M_resistance_36 : decode kb_M_resistance 36 = .ok (.ifCond .ne 7, 3) := by decide +kernel
theorem kd_M_resistance_39 : decode kb_M_resistance 39 = .ok (.ldc2_w 131, 3) := by decide +kernel
theorem kd_M_resistance_42 : decode kb_M_resistance 42 = .ok (.lreturn, 1) := by decide +kernel
theorem kd_M_resistance_43 : decode kb_M_resistance 43 = .ok (.aload_n 0, 1) := by decide +kernel
theorem kd_M_resistance_44 : decode kb_M_resistance 44 = .ok (.iload_n 1, 1) := by decide +kernel
theorem kd_M_resistance_45 : decode kb_M_resistance 45 = .ok (.iload_n 2, 1) := by decide +kernel
theorem kd_M_resistance_46 : decode kb_M_resistance 46 = .ok (.invokevirtual 136, 3) := by decide +kernel
theorem kd_M_resistance_49 : decode kb_M_resistance 49 = .ok (.lstore 4, 2) := by decide +kernel
theorem kd_M_resistance_51 : decode kb_M_resistance 51 = .ok (.aload_n 0, 1) := by decide +kernel
theorem kd_M_resistance_52 : decode kb_M_resistance 52 = .ok (.invokevirtual 133, 3) := by decide +kernel
theorem kd_M_resistance_55 : decode kb_M_resistance 55 = .ok (.lstore 6, 2) := by decide +kernel
theorem kd_M_resistance_57 : decode kb_M_resistance 57 = .ok (.lload 4, 2) := by decide +kernel
theorem kd_M_resistance_59 : decode kb_M_resistance 59 = .ok (.lload 6, 2) := by decide +kernel
theorem kd_M_resistance_61 : decode kb_M_resistance 61 = .ok (.invokestatic 140, 3) := by decide +kernel
theorem kd_M_resistance_64 : decode kb_M_resistance 64 = .ok (.lstore 8, 2) := by decide +kernel
theorem kd_M_resistance_66 : decode kb_M_resistance 66 = .ok (.iload_n 3, 1) := by decide +kernel
theorem kd_M_resistance_67 : decode kb_M_resistance 67 = .ok (.ifCond .ne 11, 3) := by decide +kernel
theorem kd_M_resistance_70 : decode kb_M_resistance 70 = .ok (.lload 4, 2) := by decide +kernel
theorem kd_M_resistance_72 : decode kb_M_resistance 72 = .ok (.lload 8, 2) := by decide +kernel
theorem kd_M_resistance_74 : decode kb_M_resistance 74 = .ok (.ldiv, 1) := by decide +kernel
theorem kd_M_resistance_75 : decode kb_M_resistance 75 = .ok (.goto 8, 3) := by decide +kernel
theorem kd_M_resistance_78 : decode kb_M_resistance 78 = .ok (.lload 6, 2) := by decide +kernel
theorem kd_M_resistance_80 : decode kb_M_resistance 80 = .ok (.lload 8, 2) := by decide +kernel
theorem kd_M_resistance_82 : decode kb_M_resistance 82 = .ok (.ldiv, 1) := by decide +kernel
theorem kd_M_resistance_83 : decode kb_M_resistance 83 = .ok (.lreturn, 1) := by decide +kernel
theorem kd_M_tours_0 : decode kb_M_tours 0 = .ok (.aload_n 0, 1) := by decide +kernel
theorem kd_M_tours_1 : decode kb_M_tours 1 = .ok (.iconst 0, 1) := by decide +kernel
theorem kd_M_tours_2 : decode kb_M_tours 2 = .ok (.putfield 69, 3) := by decide +kernel
theorem kd_M_tours_5 : decode kb_M_tours 5 = .ok (.aload_n 0, 1) := by decide +kernel
theorem kd_M_tours_6 : decode kb_M_tours 6 = .ok (.getfield 80, 3) := by decide +kernel
theorem kd_M_tours_9 : decode kb_M_tours 9 = .ok (.ifCond .ne 5, 3) := by decide +kernel
theorem kd_M_tours_12 : decode kb_M_tours 12 = .ok (.lconst 0, 1) := by decide +kernel
theorem kd_M_tours_13 : decode kb_M_tours 13 = .ok (.lreturn, 1) := by decide +kernel
theorem kd_M_tours_14 : decode kb_M_tours 14 = .ok (.aload_n 0, 1) := by decide +kernel
theorem kd_M_tours_15 : decode kb_M_tours 15 = .ok (.invokevirtual 121, 3) := by decide +kernel
theorem kd_M_tours_18 : decode kb_M_tours 18 = .ok (.iconst 0, 1) := by decide +kernel
theorem kd_M_tours_19 : decode kb_M_tours 19 = .ok (.istore_n 1, 1) := by decide +kernel
theorem kd_M_tours_20 : decode kb_M_tours 20 = .ok (.iload_n 1, 1) := by decide +kernel
theorem kd_M_tours_21 : decode kb_M_tours 21 = .ok (.aload_n 0, 1) := by decide +kernel
theorem kd_M_tours_22 : decode kb_M_tours 22 = .ok (.getfield 80, 3) := by decide +kernel
theorem kd_M_tours_25 : decode kb_M_tours 25 = .ok (.if_icmp .ge 26, 3) := by decide +kernel
theorem kd_M_tours_28 : decode kb_M_tours 28 = .ok (.aload_n 0, 1) := by decide +kernel
theorem kd_M_tours_29 : decode kb_M_tours 29 = .ok (.aload_n 0, 1) := by decide +kernel
theorem kd_M_tours_30 : decode kb_M_tours 30 = .ok (.getfield 7, 3) := by decide +kernel
theorem kd_M_tours_33 : decode kb_M_tours 33 = .ok (.iload_n 1, 1) := by decide +kernel
theorem kd_M_tours_34 : decode kb_M_tours 34 = .ok (.iaload, 1) := by decide +kernel
theorem kd_M_tours_35 : decode kb_M_tours 35 = .ok (.aload_n 0, 1) := by decide +kernel
theorem kd_M_tours_36 : decode kb_M_tours 36 = .ok (.getfield 13, 3) := by decide +kernel
theorem kd_M_tours_39 : decode kb_M_tours 39 = .ok (.iload_n 1, 1) := by decide +kernel
theorem kd_M_tours_40 : decode kb_M_tours 40 = .ok (.iaload, 1) := by decide +kernel
theorem kd_M_tours_41 : decode kb_M_tours 41 = .ok (.invokevirtual 144, 3) := by decide +kernel
theorem kd_M_tours_44 : decode kb_M_tours 44 = .ok (.istore_n 2, 1) := by decide +kernel
theorem kd_M_tours_45 : decode kb_M_tours 45 = .ok (.iinc 1 1, 3) := by decide +kernel
theorem kd_M_tours_48 : decode kb_M_tours 48 = .ok (.goto (-28), 3) := by decide +kernel
theorem kd_M_tours_51 : decode kb_M_tours 51 = .ok (.aload_n 0, 1) := by decide +kernel
theorem kd_M_tours_52 : decode kb_M_tours 52 = .ok (.getfield 7, 3) := by decide +kernel
theorem kd_M_tours_55 : decode kb_M_tours 55 = .ok (.iconst 0, 1) := by decide +kernel
theorem kd_M_tours_56 : decode kb_M_tours 56 = .ok (.iaload, 1) := by decide +kernel
theorem kd_M_tours_57 : decode kb_M_tours 57 = .ok (.istore_n 1, 1) := by decide +kernel
theorem kd_M_tours_58 : decode kb_M_tours 58 = .ok (.lconst 1, 1) := by decide +kernel
theorem kd_M_tours_59 : decode kb_M_tours 59 = .ok (.lstore_n 2, 1) := by decide +kernel
theorem kd_M_tours_60 : decode kb_M_tours 60 = .ok (.iconst 0, 1) := by decide +kernel
theorem kd_M_tours_61 : decode kb_M_tours 61 = .ok (.istore 4, 2) := by decide +kernel
theorem kd_M_tours_63 : decode kb_M_tours 63 = .ok (.iload 4, 2) := by decide +kernel
theorem kd_M_tours_65 : decode kb_M_tours 65 = .ok (.aload_n 0, 1) := by decide +kernel
theorem kd_M_tours_66 : decode kb_M_tours 66 = .ok (.getfield 73, 3) := by decide +kernel
theorem kd_M_tours_69 : decode kb_M_tours 69 = .ok (.if_icmp .ge 147, 3) := by decide +kernel
theorem kd_M_tours_72 : decode kb_M_tours 72 = .ok (.iconst 0, 1) := by decide +kernel
theorem kd_M_tours_73 : decode kb_M_tours 73 = .ok (.istore 5, 2) := by decide +kernel
theorem kd_M_tours_75 : decode kb_M_tours 75 = .ok (.iconst 0, 1) := by decide +kernel
theorem kd_M_tours_76 : decode kb_M_tours 76 = .ok (.istore 6, 2) := by decide +kernel
theorem kd_M_tours_78 : decode kb_M_tours 78 = .ok (.iconst 0, 1) := by decide +kernel
theorem kd_M_tours_79 : decode kb_M_tours 79 = .ok (.istore 7, 2) := by decide +kernel
theorem kd_M_tours_81 : decode kb_M_tours 81 = .ok (.iload 7, 2) := by decide +kernel
theorem kd_M_tours_83 : decode kb_M_tours 83 = .ok (.aload_n 0, 1) := by decide +kernel
theorem kd_M_tours_84 : decode kb_M_tours 84 = .ok (.getfield 80, 3) := by decide +kernel
theorem kd_M_tours_87 : decode kb_M_tours 87 = .ok (.if_icmp .ge 65, 3) := by decide +kernel
theorem kd_M_tours_90 : decode kb_M_tours 90 = .ok (.iload 6, 2) := by decide +kernel
theorem kd_M_tours_92 : decode kb_M_tours 92 = .ok (.aload_n 0, 1) := by decide +kernel
theorem kd_M_tours_93 : decode kb_M_tours 93 = .ok (.getfield 7, 3) := by decide +kernel
theorem kd_M_tours_96 : decode kb_M_tours 96 = .ok (.iload 7, 2) := by decide +kernel
theorem kd_M_tours_98 : decode kb_M_tours 98 = .ok (.iaload, 1) := by decide +kernel
theorem kd_M_tours_99 : decode kb_M_tours 99 = .ok (.iload 4, 2) := by decide +kernel
theorem kd_M_tours_101 : decode kb_M_tours 101 = .ok (.if_icmp .ne 13, 3) := by decide +kernel
theorem kd_M_tours_104 : decode kb_M_tours 104 = .ok (.aload_n 0, 1) := by decide +kernel
theorem kd_M_tours_105 : decode kb_M_tours 105 = .ok (.getfield 16, 3) := by decide +kernel
theorem kd_M_tours_108 : decode kb_M_tours 108 = .ok (.iload 7, 2) := by decide +kernel
theorem kd_M_tours_110 : decode kb_M_tours 110 = .ok (.iaload, 1) := by decide +kernel
theorem kd_M_tours_111 : decode kb_M_tours 111 = .ok (.goto 4, 3) := by decide +kernel
theorem kd_M_tours_114 : decode kb_M_tours 114 = .ok (.iconst 0, 1) := by decide +kernel
theorem kd_M_tours_115 : decode kb_M_tours 115 = .ok (.iadd, 1) := by decide +kernel
theorem kd_M_tours_116 : decode kb_M_tours 116 = .ok (.istore 6, 2) := by decide +kernel
theorem kd_M_tours_118 : decode kb_M_tours 118 = .ok (.iload 5, 2) := by decide +kernel
theorem kd_M_tours_120 : decode kb_M_tours 120 = .ok (.aload_n 0, 1) := by decide +kernel
theorem kd_M_tours_121 : decode kb_M_tours 121 = .ok (.getfield 13, 3) := by decide +kernel
theorem kd_M_tours_124 : decode kb_M_tours 124 = .ok (.iload 7, 2) := by decide +kernel
theorem kd_M_tours_126 : decode kb_M_tours 126 = .ok (.iaload, 1) := by decide +kernel
theorem kd_M_tours_127 : decode kb_M_tours 127 = .ok (.iload 4, 2) := by decide +kernel
theorem kd_M_tours_129 : decode kb_M_tours 129 = .ok (.if_icmp .ne 13, 3) := by decide +kernel
theorem kd_M_tours_132 : decode kb_M_tours 132 = .ok (.aload_n 0, 1) := by decide +kernel
theorem kd_M_tours_133 : decode kb_M_tours 133 = .ok (.getfield 16, 3) := by decide +kernel
theorem kd_M_tours_136 : decode kb_M_tours 136 = .ok (.iload 7, 2) := by decide +kernel
theorem kd_M_tours_138 : decode kb_M_tours 138 = .ok (.iaload, 1) := by decide +kernel
theorem kd_M_tours_139 : decode kb_M_tours 139 = .ok (.goto 4, 3) := by decide +kernel
theorem kd_M_tours_142 : decode kb_M_tours 142 = .ok (.iconst 0, 1) := by decide +kernel
theorem kd_M_tours_143 : decode kb_M_tours 143 = .ok (.iadd, 1) := by decide +kernel
theorem kd_M_tours_144 : decode kb_M_tours 144 = .ok (.istore 5, 2) := by decide +kernel
theorem kd_M_tours_146 : decode kb_M_tours 146 = .ok (.iinc 7 1, 3) := by decide +kernel
theorem kd_M_tours_149 : decode kb_M_tours 149 = .ok (.goto (-68), 3) := by decide +kernel
theorem kd_M_tours_152 : decode kb_M_tours 152 = .ok (.iload 5, 2) := by decide +kernel
theorem kd_M_tours_154 : decode kb_M_tours 154 = .ok (.iload 6, 2) := by decide +kernel
theorem kd_M_tours_156 : decode kb_M_tours 156 = .ok (.if_icmp .ne 24, 3) := by decide +kernel
theorem kd_M_tours_159 : decode kb_M_tours 159 = .ok (.iload 6, 2) := by decide +kernel
theorem kd_M_tours_161 : decode kb_M_tours 161 = .ok (.ifCond .le 21, 3) := by decide +kernel
theorem kd_M_tours_164 : decode kb_M_tours 164 = .ok (.aload_n 0, 1) := by decide +kernel
theorem kd_M_tours_165 : decode kb_M_tours 165 = .ok (.getfield 32, 3) := by decide +kernel
theorem kd_M_tours_168 : decode kb_M_tours 168 = .ok (.iload 4, 2) := by decide +kernel
theorem kd_M_tours_170 : decode kb_M_tours 170 = .ok (.iaload, 1) := by decide +kernel
theorem kd_M_tours_171 : decode kb_M_tours 171 = .ok (.aload_n 0, 1) := by decide +kernel
theorem kd_M_tours_172 : decode kb_M_tours 172 = .ok (.getfield 32, 3) := by decide +kernel
theorem kd_M_tours_175 : decode kb_M_tours 175 = .ok (.iload_n 1, 1) := by decide +kernel
theorem kd_M_tours_176 : decode kb_M_tours 176 = .ok (.iaload, 1) := by decide +kernel
theorem kd_M_tours_177 : decode kb_M_tours 177 = .ok (.if_icmp .eq 5, 3) := by decide +kernel
theorem kd_M_tours_180 : decode kb_M_tours 180 = .ok (.lconst 0, 1) := by decide +kernel
theorem kd_M_tours_181 : decode kb_M_tours 181 = .ok (.lreturn, 1) := by decide +kernel
theorem kd_M_tours_182 : decode kb_M_tours 182 = .ok (.ldc2_w 83, 3) := by decide +kernel
theorem kd_M_tours_185 : decode kb_M_tours 185 = .ok (.lstore 7, 2) := by decide +kernel
theorem kd_M_tours_187 : decode kb_M_tours 187 = .ok (.lload 7, 2) := by decide +kernel
theorem kd_M_tours_189 : decode kb_M_tours 189 = .ok (.iload 6, 2) := by decide +kernel
theorem kd_M_tours_191 : decode kb_M_tours 191 = .ok (.i2l, 1) := by decide +kernel
theorem kd_M_tours_192 : decode kb_M_tours 192 = .ok (.lcmp, 1) := by decide +kernel
theorem kd_M_tours_193 : decode kb_M_tours 193 = .ok (.ifCond .ge 17, 3) := by decide +kernel
theorem kd_M_tours_196 : decode kb_M_tours 196 = .ok (.lload_n 2, 1) := by decide +kernel
theorem kd_M_tours_197 : decode kb_M_tours 197 = .ok (.lload 7, 2) := by decide +kernel
theorem kd_M_tours_199 : decode kb_M_tours 199 = .ok (.lmul, 1) := by decide +kernel
theorem kd_M_tours_200 : decode kb_M_tours 200 = .ok (.lstore_n 2, 1) := by decide +kernel
theorem kd_M_tours_201 : decode kb_M_tours 201 = .ok (.lload 7, 2) := by decide +kernel
theorem kd_M_tours_203 : decode kb_M_tours 203 = .ok (.lconst 1, 1) := by decide +kernel
theorem kd_M_tours_204 : decode kb_M_tours 204 = .ok (.ladd, 1) := by decide +kernel
theorem kd_M_tours_205 : decode kb_M_tours 205 = .ok (.lstore 7, 2) := by decide +kernel
theorem kd_M_tours_207 : decode kb_M_tours 207 = .ok (.goto (-20), 3) := by decide +kernel
theorem kd_M_tours_210 : decode kb_M_tours 210 = .ok (.iinc 4 1, 3) := by decide +kernel
theorem kd_M_tours_213 : decode kb_M_tours 213 = .ok (.goto (-150), 3) := by decide +kernel
theorem kd_M_tours_216 : decode kb_M_tours 216 = .ok (.iconst 0, 1) := by decide +kernel
theorem kd_M_tours_217 : decode kb_M_tours 217 = .ok (.istore 4, 2) := by decide +kernel
theorem kd_M_tours_219 : decode kb_M_tours 219 = .ok (.iconst 0, 1) := by decide +kernel
theorem kd_M_tours_220 : decode kb_M_tours 220 = .ok (.istore 5, 2) := by decide +kernel
theorem kd_M_tours_222 : decode kb_M_tours 222 = .ok (.iload 5, 2) := by decide +kernel
theorem kd_M_tours_224 : decode kb_M_tours 224 = .ok (.aload_n 0, 1) := by decide +kernel
theorem kd_M_tours_225 : decode kb_M_tours 225 = .ok (.getfield 73, 3) := by decide +kernel
theorem kd_M_tours_228 : decode kb_M_tours 228 = .ok (.if_icmp .ge 71, 3) := by decide +kernel
theorem kd_M_tours_231 : decode kb_M_tours 231 = .ok (.aload_n 0, 1) := by decide +kernel
theorem kd_M_tours_232 : decode kb_M_tours 232 = .ok (.getfield 32, 3) := by decide +kernel
theorem kd_M_tours_235 : decode kb_M_tours 235 = .ok (.iload 5, 2) := by decide +kernel
theorem kd_M_tours_237 : decode kb_M_tours 237 = .ok (.iaload, 1) := by decide +kernel
theorem kd_M_tours_238 : decode kb_M_tours 238 = .ok (.aload_n 0, 1) := by decide +kernel
theorem kd_M_tours_239 : decode kb_M_tours 239 = .ok (.getfield 32, 3) := by decide +kernel
theorem kd_M_tours_242 : decode kb_M_tours 242 = .ok (.iload_n 1, 1) := by decide +kernel
theorem kd_M_tours_243 : decode kb_M_tours 243 = .ok (.iaload, 1) := by decide +kernel
theorem kd_M_tours_244 : decode kb_M_tours 244 = .ok (.if_icmp .ne 13, 3) := by decide +kernel
theorem kd_M_tours_247 : decode kb_M_tours 247 = .ok (.iload 5, 2) := by decide +kernel
theorem kd_M_tours_249 : decode kb_M_tours 249 = .ok (.iload_n 1, 1) := by decide +kernel
theorem kd_M_tours_250 : decode kb_M_tours 250 = .ok (.if_icmp .eq 7, 3) := by decide +kernel
theorem kd_M_tours_253 : decode kb_M_tours 253 = .ok (.iconst 1, 1) := by decide +kernel
theorem kd_M_tours_254 : decode kb_M_tours 254 = .ok (.goto 4, 3) := by decide +kernel
theorem kd_M_tours_257 : decode kb_M_tours 257 = .ok (.iconst 0, 1) := by decide +kernel
theorem kd_M_tours_258 : decode kb_M_tours 258 = .ok (.istore 6, 2) := by decide +kernel
theorem kd_M_tours_260 : decode kb_M_tours 260 = .ok (.aload_n 0, 1) := by decide +kernel
theorem kd_M_tours_261 : decode kb_M_tours 261 = .ok (.getfield 39, 3) := by decide +kernel
theorem kd_M_tours_264 : decode kb_M_tours 264 = .ok (.iload 5, 2) := by decide +kernel
theorem kd_M_tours_266 : decode kb_M_tours 266 = .ok (.iload 6, 2) := by decide +kernel
theorem kd_M_tours_268 : decode kb_M_tours 268 = .ok (.ifCond .eq 8, 3) := by decide +kernel
theorem kd_M_tours_271 : decode kb_M_tours 271 = .ok (.iload 4, 2) := by decide +kernel
theorem kd_M_tours_273 : decode kb_M_tours 273 = .ok (.goto 4, 3) := by decide +kernel
theorem kd_M_tours_276 : decode kb_M_tours 276 = .ok (.iconst (-1), 1) := by decide +kernel
theorem kd_M_tours_277 : decode kb_M_tours 277 = .ok (.iastore, 1) := by decide +kernel
theorem kd_M_tours_278 : decode kb_M_tours 278 = .ok (.iload 4, 2) := by decide +kernel
theorem kd_M_tours_280 : decode kb_M_tours 280 = .ok (.iload 6, 2) := by decide +kernel
theorem kd_M_tours_282 : decode kb_M_tours 282 = .ok (.ifCond .eq 7, 3) := by decide +kernel
theorem kd_M_tours_285 : decode kb_M_tours 285 = .ok (.iconst 1, 1) := by decide +kernel
theorem kd_M_tours_286 : decode kb_M_tours 286 = .ok (.goto 4, 3) := by decide +kernel
theorem kd_M_tours_289 : decode kb_M_tours 289 = .ok (.iconst 0, 1) := by decide +kernel
theorem kd_M_tours_290 : decode kb_M_tours 290 = .ok (.iadd, 1) := by decide +kernel
theorem kd_M_tours_291 : decode kb_M_tours 291 = .ok (.istore 4, 2) := by decide +kernel
theorem kd_M_tours_293 : decode kb_M_tours 293 = .ok (.iinc 5 1, 3) := by decide +kernel
theorem kd_M_tours_296 : decode kb_M_tours 296 = .ok (.goto (-74), 3) := by decide +kernel
theorem kd_M_tours_299 : decode kb_M_tours 299 = .ok (.aload_n 0, 1) := by decide +kernel
theorem kd_M_tours_300 : decode kb_M_tours 300 = .ok (.invokevirtual 102, 3) := by decide +kernel
theorem kd_M_tours_303 : decode kb_M_tours 303 = .ok (.iconst 0, 1) := by decide +kernel
theorem kd_M_tours_304 : decode kb_M_tours 304 = .ok (.istore 5, 2) := by decide +kernel
theorem kd_M_tours_306 : decode kb_M_tours 306 = .ok (.iload 5, 2) := by decide +kernel
theorem kd_M_tours_308 : decode kb_M_tours 308 = .ok (.aload_n 0, 1) := by decide +kernel
theorem kd_M_tours_309 : decode kb_M_tours 309 = .ok (.getfield 80, 3) := by decide +kernel
theorem kd_M_tours_312 : decode kb_M_tours 312 = .ok (.if_icmp .ge 99, 3) := by decide +kernel
theorem kd_M_tours_315 : decode kb_M_tours 315 = .ok (.aload_n 0, 1) := by decide +kernel
theorem kd_M_tours_316 : decode kb_M_tours 316 = .ok (.getfield 7, 3) := by decide +kernel
theorem kd_M_tours_319 : decode kb_M_tours 319 = .ok (.iload 5, 2) := by decide +kernel
theorem kd_M_tours_321 : decode kb_M_tours 321 = .ok (.iaload, 1) := by decide +kernel
theorem kd_M_tours_322 : decode kb_M_tours 322 = .ok (.aload_n 0, 1) := by decide +kernel
theorem kd_M_tours_323 : decode kb_M_tours 323 = .ok (.getfield 13, 3) := by decide +kernel
theorem kd_M_tours_326 : decode kb_M_tours 326 = .ok (.iload 5, 2) := by decide +kernel
theorem kd_M_tours_328 : decode kb_M_tours 328 = .ok (.iaload, 1) := by decide +kernel
theorem kd_M_tours_329 : decode kb_M_tours 329 = .ok (.if_icmp .eq 76, 3) := by decide +kernel
theorem kd_M_tours_332 : decode kb_M_tours 332 = .ok (.aload_n 0, 1) := by decide +kernel
theorem kd_M_tours_333 : decode kb_M_tours 333 = .ok (.aload_n 0, 1) := by decide +kernel
theorem kd_M_tours_334 : decode kb_M_tours 334 = .ok (.getfield 39, 3) := by decide +kernel
theorem kd_M_tours_337 : decode kb_M_tours 337 = .ok (.aload_n 0, 1) := by decide +kernel
theorem kd_M_tours_338 : decode kb_M_tours 338 = .ok (.getfield 7, 3) := by decide +kernel
theorem kd_M_tours_341 : decode kb_M_tours 341 = .ok (.iload 5, 2) := by decide +kernel
theorem kd_M_tours_343 : decode kb_M_tours 343 = .ok (.iaload, 1) := by decide +kernel
theorem kd_M_tours_344 : decode kb_M_tours 344 = .ok (.iaload, 1) := by decide +kernel
theorem kd_M_tours_345 : decode kb_M_tours 345 = .ok (.aload_n 0, 1) := by decide +kernel
theorem kd_M_tours_346 : decode kb_M_tours 346 = .ok (.getfield 39, 3) := by decide +kernel
theorem kd_M_tours_349 : decode kb_M_tours 349 = .ok (.aload_n 0, 1) := by decide +kernel
theorem kd_M_tours_350 : decode kb_M_tours 350 = .ok (.getfield 7, 3) := by decide +kernel
theorem kd_M_tours_353 : decode kb_M_tours 353 = .ok (.iload 5, 2) := by decide +kernel
theorem kd_M_tours_355 : decode kb_M_tours 355 = .ok (.iaload, 1) := by decide +kernel
theorem kd_M_tours_356 : decode kb_M_tours 356 = .ok (.iaload, 1) := by decide +kernel
theorem kd_M_tours_357 : decode kb_M_tours 357 = .ok (.aload_n 0, 1) := by decide +kernel
theorem kd_M_tours_358 : decode kb_M_tours 358 = .ok (.getfield 16, 3) := by decide +kernel
theorem kd_M_tours_361 : decode kb_M_tours 361 = .ok (.iload 5, 2) := by decide +kernel
theorem kd_M_tours_363 : decode kb_M_tours 363 = .ok (.iaload, 1) := by decide +kernel
theorem kd_M_tours_364 : decode kb_M_tours 364 = .ok (.i2l, 1) := by decide +kernel
theorem kd_M_tours_365 : decode kb_M_tours 365 = .ok (.invokevirtual 105, 3) := by decide +kernel
theorem kd_M_tours_368 : decode kb_M_tours 368 = .ok (.aload_n 0, 1) := by decide +kernel
theorem kd_M_tours_369 : decode kb_M_tours 369 = .ok (.aload_n 0, 1) := by decide +kernel
theorem kd_M_tours_370 : decode kb_M_tours 370 = .ok (.getfield 39, 3) := by decide +kernel
theorem kd_M_tours_373 : decode kb_M_tours 373 = .ok (.aload_n 0, 1) := by decide +kernel
theorem kd_M_tours_374 : decode kb_M_tours 374 = .ok (.getfield 7, 3) := by decide +kernel
theorem kd_M_tours_377 : decode kb_M_tours 377 = .ok (.iload 5, 2) := by decide +kernel
theorem kd_M_tours_379 : decode kb_M_tours 379 = .ok (.iaload, 1) := by decide +kernel
theorem kd_M_tours_380 : decode kb_M_tours 380 = .ok (.iaload, 1) := by decide +kernel
theorem kd_M_tours_381 : decode kb_M_tours 381 = .ok (.aload_n 0, 1) := by decide +kernel
theorem kd_M_tours_382 : decode kb_M_tours 382 = .ok (.getfield 39, 3) := by decide +kernel
theorem kd_M_tours_385 : decode kb_M_tours 385 = .ok (.aload_n 0, 1) := by decide +kernel
theorem kd_M_tours_386 : decode kb_M_tours 386 = .ok (.getfield 13, 3) := by decide +kernel
theorem kd_M_tours_389 : decode kb_M_tours 389 = .ok (.iload 5, 2) := by decide +kernel
theorem kd_M_tours_391 : decode kb_M_tours 391 = .ok (.iaload, 1) := by decide +kernel
theorem kd_M_tours_392 : decode kb_M_tours 392 = .ok (.iaload, 1) := by decide +kernel
theorem kd_M_tours_393 : decode kb_M_tours 393 = .ok (.aload_n 0, 1) := by decide +kernel
theorem kd_M_tours_394 : decode kb_M_tours 394 = .ok (.getfield 16, 3) := by decide +kernel
theorem kd_M_tours_397 : decode kb_M_tours 397 = .ok (.iload 5, 2) := by decide +kernel
theorem kd_M_tours_399 : decode kb_M_tours 399 = .ok (.iaload, 1) := by decide +kernel
theorem kd_M_tours_400 : decode kb_M_tours 400 = .ok (.ineg, 1) := by decide +kernel
theorem kd_M_tours_401 : decode kb_M_tours 401 = .ok (.i2l, 1) := by decide +kernel
theorem kd_M_tours_402 : decode kb_M_tours 402 = .ok (.invokevirtual 105, 3) := by decide +kernel
theorem kd_M_tours_405 : decode kb_M_tours 405 = .ok (.iinc 5 1, 3) := by decide +kernel
theorem kd_M_tours_408 : decode kb_M_tours 408 = .ok (.goto (-102), 3) := by decide +kernel
theorem kd_M_tours_411 : decode kb_M_tours 411 = .ok (.aload_n 0, 1) := by decide +kernel
theorem kd_M_tours_412 : decode kb_M_tours 412 = .ok (.iload 4, 2) := by decide +kernel
theorem kd_M_tours_414 : decode kb_M_tours 414 = .ok (.invokevirtual 117, 3) := by decide +kernel
theorem kd_M_tours_417 : decode kb_M_tours 417 = .ok (.lload_n 2, 1) := by decide +kernel
theorem kd_M_tours_418 : decode kb_M_tours 418 = .ok (.lmul, 1) := by decide +kernel
theorem kd_M_tours_419 : decode kb_M_tours 419 = .ok (.lreturn, 1) := by decide +kernel
theorem kd_M_with_0 : decode kb_M_with 0 = .ok (.aload_n 0, 1) := by decide +kernel
theorem kd_M_with_1 : decode kb_M_with 1 = .ok (.getfield 32, 3) := by decide +kernel
theorem kd_M_with_4 : decode kb_M_with 4 = .ok (.aload_n 0, 1) := by decide +kernel
theorem kd_M_with_5 : decode kb_M_with 5 = .ok (.getfield 7, 3) := by decide +kernel
theorem kd_M_with_8 : decode kb_M_with 8 = .ok (.iload_n 1, 1) := by decide +kernel
theorem kd_M_with_9 : decode kb_M_with 9 = .ok (.iaload, 1) := by decide +kernel
theorem kd_M_with_10 : decode kb_M_with 10 = .ok (.iaload, 1) := by decide +kernel
theorem kd_M_with_11 : decode kb_M_with 11 = .ok (.aload_n 0, 1) := by decide +kernel
theorem kd_M_with_12 : decode kb_M_with 12 = .ok (.getfield 32, 3) := by decide +kernel
theorem kd_M_with_15 : decode kb_M_with 15 = .ok (.aload_n 0, 1) := by decide +kernel
theorem kd_M_with_16 : decode kb_M_with 16 = .ok (.getfield 13, 3) := by decide +kernel
theorem kd_M_with_19 : decode kb_M_with 19 = .ok (.iload_n 1, 1) := by decide +kernel
theorem kd_M_with_20 : decode kb_M_with 20 = .ok (.iaload, 1) := by decide +kernel
theorem kd_M_with_21 : decode kb_M_with 21 = .ok (.iaload, 1) := by decide +kernel
theorem kd_M_with_22 : decode kb_M_with 22 = .ok (.if_icmp .ne 5, 3) := by decide +kernel
theorem kd_M_with_25 : decode kb_M_with 25 = .ok (.lconst 0, 1) := by decide +kernel
theorem kd_M_with_26 : decode kb_M_with 26 = .ok (.lreturn, 1) := by decide +kernel
theorem kd_M_with_27 : decode kb_M_with 27 = .ok (.iconst 0, 1) := by decide +kernel
theorem kd_M_with_28 : decode kb_M_with 28 = .ok (.istore_n 2, 1) := by decide +kernel
theorem kd_M_with_29 : decode kb_M_with 29 = .ok (.iload_n 2, 1) := by decide +kernel
theorem kd_M_with_30 : decode kb_M_with 30 = .ok (.aload_n 0, 1) := by decide +kernel
theorem kd_M_with_31 : decode kb_M_with 31 = .ok (.getfield 73, 3) := by decide +kernel
theorem kd_M_with_34 : decode kb_M_with 34 = .ok (.if_icmp .ge 21, 3) := by decide +kernel
theorem kd_M_with_37 : decode kb_M_with 37 = .ok (.aload_n 0, 1) := by decide +kernel
theorem kd_M_with_38 : decode kb_M_with 38 = .ok (.getfield 42, 3) := by decide +kernel
theorem kd_M_with_41 : decode kb_M_with 41 = .ok (.iload_n 2, 1) := by decide +kernel
theorem kd_M_with_42 : decode kb_M_with 42 = .ok (.aload_n 0, 1) := by decide +kernel
theorem kd_M_with_43 : decode kb_M_with 43 = .ok (.getfield 32, 3) := by decide +kernel
theorem kd_M_with_46 : decode kb_M_with 46 = .ok (.iload_n 2, 1) := by decide +kernel
theorem kd_M_with_47 : decode kb_M_with 47 = .ok (.iaload, 1) := by decide +kernel
theorem kd_M_with_48 : decode kb_M_with 48 = .ok (.iastore, 1) := by decide +kernel
theorem kd_M_with_49 : decode kb_M_with 49 = .ok (.iinc 2 1, 3) := by decide +kernel
theorem kd_M_with_52 : decode kb_M_with 52 = .ok (.goto (-23), 3) := by decide +kernel
theorem kd_M_with_55 : decode kb_M_with 55 = .ok (.aload_n 0, 1) := by decide +kernel
theorem kd_M_with_56 : decode kb_M_with 56 = .ok (.aload_n 0, 1) := by decide +kernel
theorem kd_M_with_57 : decode kb_M_with 57 = .ok (.getfield 7, 3) := by decide +kernel
theorem kd_M_with_60 : decode kb_M_with 60 = .ok (.iload_n 1, 1) := by decide +kernel
theorem kd_M_with_61 : decode kb_M_with 61 = .ok (.iaload, 1) := by decide +kernel
theorem kd_M_with_62 : decode kb_M_with 62 = .ok (.aload_n 0, 1) := by decide +kernel
theorem kd_M_with_63 : decode kb_M_with 63 = .ok (.getfield 13, 3) := by decide +kernel
theorem kd_M_with_66 : decode kb_M_with 66 = .ok (.iload_n 1, 1) := by decide +kernel
theorem kd_M_with_67 : decode kb_M_with 67 = .ok (.iaload, 1) := by decide +kernel
theorem kd_M_with_68 : decode kb_M_with 68 = .ok (.invokevirtual 144, 3) := by decide +kernel
theorem kd_M_with_71 : decode kb_M_with 71 = .ok (.istore_n 2, 1) := by decide +kernel
theorem kd_M_with_72 : decode kb_M_with 72 = .ok (.aload_n 0, 1) := by decide +kernel
theorem kd_M_with_73 : decode kb_M_with 73 = .ok (.getfield 35, 3) := by decide +kernel
theorem kd_M_with_76 : decode kb_M_with 76 = .ok (.iload_n 1, 1) := by decide +kernel
theorem kd_M_with_77 : decode kb_M_with 77 = .ok (.iconst 1, 1) := by decide +kernel
theorem kd_M_with_78 : decode kb_M_with 78 = .ok (.bastore, 1) := by decide +kernel
theorem kd_M_with_79 : decode kb_M_with 79 = .ok (.aload_n 0, 1) := by decide +kernel
theorem kd_M_with_80 : decode kb_M_with 80 = .ok (.invokevirtual 127, 3) := by decide +kernel
theorem kd_M_with_83 : decode kb_M_with 83 = .ok (.aload_n 0, 1) := by decide +kernel
theorem kd_M_with_84 : decode kb_M_with 84 = .ok (.getfield 16, 3) := by decide +kernel
theorem kd_M_with_87 : decode kb_M_with 87 = .ok (.iload_n 1, 1) := by decide +kernel
theorem kd_M_with_88 : decode kb_M_with 88 = .ok (.iaload, 1) := by decide +kernel
theorem kd_M_with_89 : decode kb_M_with 89 = .ok (.i2l, 1) := by decide +kernel
theorem kd_M_with_90 : decode kb_M_with 90 = .ok (.lmul, 1) := by decide +kernel
theorem kd_M_with_91 : decode kb_M_with 91 = .ok (.lstore_n 3, 1) := by decide +kernel
theorem kd_M_with_92 : decode kb_M_with 92 = .ok (.iconst 0, 1) := by decide +kernel
theorem kd_M_with_93 : decode kb_M_with 93 = .ok (.istore 5, 2) := by decide +kernel
theorem kd_M_with_95 : decode kb_M_with 95 = .ok (.iload 5, 2) := by decide +kernel
theorem kd_M_with_97 : decode kb_M_with 97 = .ok (.aload_n 0, 1) := by decide +kernel
theorem kd_M_with_98 : decode kb_M_with 98 = .ok (.getfield 73, 3) := by decide +kernel
theorem kd_M_with_101 : decode kb_M_with 101 = .ok (.if_icmp .ge 23, 3) := by decide +kernel
theorem kd_M_with_104 : decode kb_M_with 104 = .ok (.aload_n 0, 1) := by decide +kernel
theorem kd_M_with_105 : decode kb_M_with 105 = .ok (.getfield 32, 3) := by decide +kernel
theorem kd_M_with_108 : decode kb_M_with 108 = .ok (.iload 5, 2) := by decide +kernel
theorem kd_M_with_110 : decode kb_M_with 110 = .ok (.aload_n 0, 1) := by decide +kernel
theorem kd_M_with_111 : decode kb_M_with 111 = .ok (.getfield 42, 3) := by decide +kernel
theorem kd_M_with_114 : decode kb_M_with 114 = .ok (.iload 5, 2) := by decide +kernel
theorem kd_M_with_116 : decode kb_M_with 116 = .ok (.iaload, 1) := by decide +kernel
theorem kd_M_with_117 : decode kb_M_with 117 = .ok (.iastore, 1) := by decide +kernel
theorem kd_M_with_118 : decode kb_M_with 118 = .ok (.iinc 5 1, 3) := by decide +kernel
theorem kd_M_with_121 : decode kb_M_with 121 = .ok (.goto (-26), 3) := by decide +kernel
theorem kd_M_with_124 : decode kb_M_with 124 = .ok (.aload_n 0, 1) := by decide +kernel
theorem kd_M_with_125 : decode kb_M_with 125 = .ok (.getfield 35, 3) := by decide +kernel
theorem kd_M_with_128 : decode kb_M_with 128 = .ok (.iload_n 1, 1) := by decide +kernel
theorem kd_M_with_129 : decode kb_M_with 129 = .ok (.iconst 0, 1) := by decide +kernel
theorem kd_M_with_130 : decode kb_M_with 130 = .ok (.bastore, 1) := by decide +kernel
theorem kd_M_with_131 : decode kb_M_with 131 = .ok (.lload_n 3, 1) := by decide +kernel
theorem kd_M_with_132 : decode kb_M_with 132 = .ok (.lreturn, 1) := by decide +kernel
theorem kd_M_drawn_0 : decode kb_M_drawn 0 = .ok (.aload_n 0, 1) := by decide +kernel
theorem kd_M_drawn_1 : decode kb_M_drawn 1 = .ok (.iconst 0, 1) := by decide +kernel
theorem kd_M_drawn_2 : decode kb_M_drawn 2 = .ok (.putfield 69, 3) := by decide +kernel
theorem kd_M_drawn_5 : decode kb_M_drawn 5 = .ok (.lload_n 1, 1) := by decide +kernel
theorem kd_M_drawn_6 : decode kb_M_drawn 6 = .ok (.lconst 0, 1) := by decide +kernel
theorem kd_M_drawn_7 : decode kb_M_drawn 7 = .ok (.lcmp, 1) := by decide +kernel
theorem kd_M_drawn_8 : decode kb_M_drawn 8 = .ok (.ifCond .lt 12, 3) := by decide +kernel
theorem kd_M_drawn_11 : decode kb_M_drawn 11 = .ok (.lload_n 1, 1) := by decide +kernel
theorem kd_M_drawn_12 : decode kb_M_drawn 12 = .ok (.aload_n 0, 1) := by decide +kernel
theorem kd_M_drawn_13 : decode kb_M_drawn 13 = .ok (.invokevirtual 133, 3) := by decide +kernel
theorem kd_M_drawn_16 : decode kb_M_drawn 16 = .ok (.lcmp, 1) := by decide +kernel
theorem kd_M_drawn_17 : decode kb_M_drawn 17 = .ok (.ifCond .lt 5, 3) := by decide +kernel
theorem kd_M_drawn_20 : decode kb_M_drawn 20 = .ok (.iconst (-1), 1) := by decide +kernel
theorem kd_M_drawn_21 : decode kb_M_drawn 21 = .ok (.ireturn, 1) := by decide +kernel
theorem kd_M_drawn_22 : decode kb_M_drawn 22 = .ok (.aload_n 0, 1) := by decide +kernel
theorem kd_M_drawn_23 : decode kb_M_drawn 23 = .ok (.invokevirtual 121, 3) := by decide +kernel
theorem kd_M_drawn_26 : decode kb_M_drawn 26 = .ok (.aload_n 0, 1) := by decide +kernel
theorem kd_M_drawn_27 : decode kb_M_drawn 27 = .ok (.invokevirtual 124, 3) := by decide +kernel
theorem kd_M_drawn_30 : decode kb_M_drawn 30 = .ok (.lload_n 1, 1) := by decide +kernel
theorem kd_M_drawn_31 : decode kb_M_drawn 31 = .ok (.lstore_n 3, 1) := by decide +kernel
theorem kd_M_drawn_32 : decode kb_M_drawn 32 = .ok (.iconst 0, 1) := by decide +kernel
theorem kd_M_drawn_33 : decode kb_M_drawn 33 = .ok (.istore 5, 2) := by decide +kernel
theorem kd_M_drawn_35 : decode kb_M_drawn 35 = .ok (.aload_n 0, 1) := by decide +kernel
theorem kd_M_drawn_36 : decode kb_M_drawn 36 = .ok (.lconst 1, 1) := by decide +kernel
theorem kd_M_drawn_37 : decode kb_M_drawn 37 = .ok (.putfield 148, 3) := by decide +kernel
theorem kd_M_drawn_40 : decode kb_M_drawn 40 = .ok (.iconst 0, 1) := by decide +kernel
theorem kd_M_drawn_41 : decode kb_M_drawn 41 = .ok (.istore 6, 2) := by decide +kernel
theorem kd_M_drawn_43 : decode kb_M_drawn 43 = .ok (.iload 6, 2) := by decide +kernel
theorem kd_M_drawn_45 : decode kb_M_drawn 45 = .ok (.aload_n 0, 1) := by decide +kernel
theorem kd_M_drawn_46 : decode kb_M_drawn 46 = .ok (.getfield 80, 3) := by decide +kernel
theorem kd_M_drawn_49 : decode kb_M_drawn 49 = .ok (.if_icmp .ge 91, 3) := by decide +kernel
theorem kd_M_drawn_52 : decode kb_M_drawn 52 = .ok (.aload_n 0, 1) := by decide +kernel
theorem kd_M_drawn_53 : decode kb_M_drawn 53 = .ok (.iload 6, 2) := by decide +kernel
theorem kd_M_drawn_55 : decode kb_M_drawn 55 = .ok (.invokevirtual 152, 3) := by decide +kernel
theorem kd_M_drawn_58 : decode kb_M_drawn 58 = .ok (.aload_n 0, 1) := by decide +kernel
theorem kd_M_drawn_59 : decode kb_M_drawn 59 = .ok (.getfield 148, 3) := by decide +kernel
theorem kd_M_drawn_62 : decode kb_M_drawn 62 = .ok (.lmul, 1) := by decide +kernel
theorem kd_M_drawn_63 : decode kb_M_drawn 63 = .ok (.lstore 7, 2) := by decide +kernel
theorem kd_M_drawn_65 : decode kb_M_drawn 65 = .ok (.aload_n 0, 1) := by decide +kernel
theorem kd_M_drawn_66 : decode kb_M_drawn 66 = .ok (.getfield 35, 3) := by decide +kernel
theorem kd_M_drawn_69 : decode kb_M_drawn 69 = .ok (.iload 6, 2) := by decide +kernel
theorem kd_M_drawn_71 : decode kb_M_drawn 71 = .ok (.iconst 1, 1) := by decide +kernel
theorem kd_M_drawn_72 : decode kb_M_drawn 72 = .ok (.bastore, 1) := by decide +kernel
theorem kd_M_drawn_73 : decode kb_M_drawn 73 = .ok (.lload_n 3, 1) := by decide +kernel
theorem kd_M_drawn_74 : decode kb_M_drawn 74 = .ok (.lload 7, 2) := by decide +kernel
theorem kd_M_drawn_76 : decode kb_M_drawn 76 = .ok (.lcmp, 1) := by decide +kernel
theorem kd_M_drawn_77 : decode kb_M_drawn 77 = .ok (.ifCond .ge 52, 3) := by decide +kernel
theorem kd_M_drawn_80 : decode kb_M_drawn 80 = .ok (.aload_n 0, 1) := by decide +kernel
theorem kd_M_drawn_81 : decode kb_M_drawn 81 = .ok (.aload_n 0, 1) := by decide +kernel
theorem kd_M_drawn_82 : decode kb_M_drawn 82 = .ok (.getfield 7, 3) := by decide +kernel
theorem kd_M_drawn_85 : decode kb_M_drawn 85 = .ok (.iload 6, 2) := by decide +kernel
theorem kd_M_drawn_87 : decode kb_M_drawn 87 = .ok (.iaload, 1) := by decide +kernel
theorem kd_M_drawn_88 : decode kb_M_drawn 88 = .ok (.aload_n 0, 1) := by decide +kernel
theorem kd_M_drawn_89 : decode kb_M_drawn 89 = .ok (.getfield 13, 3) := by decide +kernel
theorem kd_M_drawn_92 : decode kb_M_drawn 92 = .ok (.iload 6, 2) := by decide +kernel
theorem kd_M_drawn_94 : decode kb_M_drawn 94 = .ok (.iaload, 1) := by decide +kernel
theorem kd_M_drawn_95 : decode kb_M_drawn 95 = .ok (.invokevirtual 144, 3) := by decide +kernel
theorem kd_M_drawn_98 : decode kb_M_drawn 98 = .ok (.istore 9, 2) := by decide +kernel
theorem kd_M_drawn_100 : decode kb_M_drawn 100 = .ok (.iload 5, 2) := by decide +kernel
theorem kd_M_drawn_102 : decode kb_M_drawn 102 = .ok (.iconst 1, 1) := by decide +kernel
theorem kd_M_drawn_103 : decode kb_M_drawn 103 = .ok (.iload 6, 2) := by decide +kernel
theorem kd_M_drawn_105 : decode kb_M_drawn 105 = .ok (.ishl, 1) := by decide +kernel
theorem kd_M_drawn_106 : decode kb_M_drawn 106 = .ok (.ior, 1) := by decide +kernel
theorem kd_M_drawn_107 : decode kb_M_drawn 107 = .ok (.istore 5, 2) := by decide +kernel
theorem kd_M_drawn_109 : decode kb_M_drawn 109 = .ok (.aload_n 0, 1) := by decide +kernel
theorem kd_M_drawn_110 : decode kb_M_drawn 110 = .ok (.dup, 1) := by decide +kernel
theorem kd_M_drawn_111 : decode kb_M_drawn 111 = .ok (.getfield 148, 3) := by decide +kernel
theorem kd_M_drawn_114 : decode kb_M_drawn 114 = .ok (.aload_n 0, 1) := by decide +kernel
theorem kd_M_drawn_115 : decode kb_M_drawn 115 = .ok (.getfield 16, 3) := by decide +kernel
theorem kd_M_drawn_118 : decode kb_M_drawn 118 = .ok (.iload 6, 2) := by decide +kernel
theorem kd_M_drawn_120 : decode kb_M_drawn 120 = .ok (.iaload, 1) := by decide +kernel
theorem kd_M_drawn_121 : decode kb_M_drawn 121 = .ok (.i2l, 1) := by decide +kernel
theorem kd_M_drawn_122 : decode kb_M_drawn 122 = .ok (.lmul, 1) := by decide +kernel
theorem kd_M_drawn_123 : decode kb_M_drawn 123 = .ok (.putfield 148, 3) := by decide +kernel
theorem kd_M_drawn_126 : decode kb_M_drawn 126 = .ok (.goto 8, 3) := by decide +kernel
theorem kd_M_drawn_129 : decode kb_M_drawn 129 = .ok (.lload_n 3, 1) := by decide +kernel
theorem kd_M_drawn_130 : decode kb_M_drawn 130 = .ok (.lload 7, 2) := by decide +kernel
theorem kd_M_drawn_132 : decode kb_M_drawn 132 = .ok (.lsub, 1) := by decide +kernel
theorem kd_M_drawn_133 : decode kb_M_drawn 133 = .ok (.lstore_n 3, 1) := by decide +kernel
theorem kd_M_drawn_134 : decode kb_M_drawn 134 = .ok (.iinc 6 1, 3) := by decide +kernel
theorem kd_M_drawn_137 : decode kb_M_drawn 137 = .ok (.goto (-94), 3) := by decide +kernel
theorem kd_M_drawn_140 : decode kb_M_drawn 140 = .ok (.iload 5, 2) := by decide +kernel
theorem kd_M_drawn_142 : decode kb_M_drawn 142 = .ok (.ireturn, 1) := by decide +kernel
theorem kd_M_place_0 : decode kb_M_place 0 = .ok (.aload_n 0, 1) := by decide +kernel
theorem kd_M_place_1 : decode kb_M_place 1 = .ok (.iconst 0, 1) := by decide +kernel
theorem kd_M_place_2 : decode kb_M_place 2 = .ok (.putfield 69, 3) := by decide +kernel
theorem kd_M_place_5 : decode kb_M_place 5 = .ok (.aload_n 0, 1) := by decide +kernel
theorem kd_M_place_6 : decode kb_M_place 6 = .ok (.getfield 73, 3) := by decide +kernel
theorem kd_M_place_9 : decode kb_M_place 9 = .ok (.ifCond .eq 16, 3) := by decide +kernel
theorem kd_M_place_12 : decode kb_M_place 12 = .ok (.iload_n 1, 1) := by decide +kernel
theorem kd_M_place_13 : decode kb_M_place 13 = .ok (.ifCond .lt 12, 3) := by decide +kernel
theorem kd_M_place_16 : decode kb_M_place 16 = .ok (.iload_n 1, 1) := by decide +kernel
theorem kd_M_place_17 : decode kb_M_place 17 = .ok (.aload_n 0, 1) := by decide +kernel
theorem kd_M_place_18 : decode kb_M_place 18 = .ok (.getfield 80, 3) := by decide +kernel
theorem kd_M_place_21 : decode kb_M_place 21 = .ok (.ishr, 1) := by decide +kernel
theorem kd_M_place_22 : decode kb_M_place 22 = .ok (.ifCond .eq 7, 3) := by decide +kernel
theorem kd_M_place_25 : decode kb_M_place 25 = .ok (.ldc2_w 131, 3) := by decide +kernel
theorem kd_M_place_28 : decode kb_M_place 28 = .ok (.lreturn, 1) := by decide +kernel
theorem kd_M_place_29 : decode kb_M_place 29 = .ok (.aload_n 0, 1) := by decide +kernel
theorem kd_M_place_30 : decode kb_M_place 30 = .ok (.invokevirtual 121, 3) := by decide +kernel
theorem kd_M_place_33 : decode kb_M_place 33 = .ok (.iconst 0, 1) := by decide +kernel
theorem kd_M_place_34 : decode kb_M_place 34 = .ok (.istore_n 2, 1) := by decide +kernel
theorem kd_M_place_35 : decode kb_M_place 35 = .ok (.iconst 1, 1) := by decide +kernel
theorem kd_M_place_36 : decode kb_M_place 36 = .ok (.istore_n 3, 1) := by decide +kernel
theorem kd_M_place_37 : decode kb_M_place 37 = .ok (.iconst 0, 1) := by decide +kernel
theorem kd_M_place_38 : decode kb_M_place 38 = .ok (.istore 4, 2) := by decide +kernel
theorem kd_M_place_40 : decode kb_M_place 40 = .ok (.iload 4, 2) := by decide +kernel
theorem kd_M_place_42 : decode kb_M_place 42 = .ok (.aload_n 0, 1) := by decide +kernel
theorem kd_M_place_43 : decode kb_M_place 43 = .ok (.getfield 80, 3) := by decide +kernel
theorem kd_M_place_46 : decode kb_M_place 46 = .ok (.if_icmp .ge 53, 3) := by decide +kernel
theorem kd_M_place_49 : decode kb_M_place 49 = .ok (.iload_n 1, 1) := by decide +kernel
theorem kd_M_place_50 : decode kb_M_place 50 = .ok (.iload 4, 2) := by decide +kernel
theorem kd_M_place_52 : decode kb_M_place 52 = .ok (.ishr, 1) := by decide +kernel
theorem kd_M_place_53 : decode kb_M_place 53 = .ok (.iconst 1, 1) := by decide +kernel
theorem kd_M_place_54 : decode kb_M_place 54 = .ok (.iand, 1) := by decide +kernel
theorem kd_M_place_55 : decode kb_M_place 55 = .ok (.iconst 1, 1) := by decide +kernel
theorem kd_M_place_56 : decode kb_M_place 56 = .ok (.if_icmp .ne 37, 3) := by decide +kernel
theorem kd_M_place_59 : decode kb_M_place 59 = .ok (.iload_n 3, 1) := by decide +kernel
theorem kd_M_place_60 : decode kb_M_place 60 = .ok (.ifCond .eq 28, 3) := by decide +kernel
theorem kd_M_place_63 : decode kb_M_place 63 = .ok (.aload_n 0, 1) := by decide +kernel
theorem kd_M_place_64 : decode kb_M_place 64 = .ok (.aload_n 0, 1) := by decide +kernel
theorem kd_M_place_65 : decode kb_M_place 65 = .ok (.getfield 7, 3) := by decide +kernel
theorem kd_M_place_68 : decode kb_M_place 68 = .ok (.iload 4, 2) := by decide +kernel
theorem kd_M_place_70 : decode kb_M_place 70 = .ok (.iaload, 1) := by decide +kernel
theorem kd_M_place_71 : decode kb_M_place 71 = .ok (.aload_n 0, 1) := by decide +kernel
theorem kd_M_place_72 : decode kb_M_place 72 = .ok (.getfield 13, 3) := by decide +kernel
theorem kd_M_place_75 : decode kb_M_place 75 = .ok (.iload 4, 2) := by decide +kernel
theorem kd_M_place_77 : decode kb_M_place 77 = .ok (.iaload, 1) := by decide +kernel
theorem kd_M_place_78 : decode kb_M_place 78 = .ok (.invokevirtual 144, 3) := by decide +kernel
theorem kd_M_place_81 : decode kb_M_place 81 = .ok (.ifCond .eq 7, 3) := by decide +kernel
theorem kd_M_place_84 : decode kb_M_place 84 = .ok (.iconst 1, 1) := by decide +kernel
theorem kd_M_place_85 : decode kb_M_place 85 = .ok (.goto 4, 3) := by decide +kernel
theorem kd_M_place_88 : decode kb_M_place 88 = .ok (.iconst 0, 1) := by decide +kernel
theorem kd_M_place_89 : decode kb_M_place 89 = .ok (.istore_n 3, 1) := by decide +kernel
theorem kd_M_place_90 : decode kb_M_place 90 = .ok (.iinc 2 1, 3) := by decide +kernel
theorem kd_M_place_93 : decode kb_M_place 93 = .ok (.iinc 4 1, 3) := by decide +kernel
theorem kd_M_place_96 : decode kb_M_place 96 = .ok (.goto (-56), 3) := by decide +kernel
theorem kd_M_place_99 : decode kb_M_place 99 = .ok (.iload_n 3, 1) := by decide +kernel
theorem kd_M_place_100 : decode kb_M_place 100 = .ok (.ifCond .eq 13, 3) := by decide +kernel
theorem kd_M_place_103 : decode kb_M_place 103 = .ok (.iload_n 2, 1) := by decide +kernel
theorem kd_M_place_104 : decode kb_M_place 104 = .ok (.aload_n 0, 1) := by decide +kernel
theorem kd_M_place_105 : decode kb_M_place 105 = .ok (.getfield 73, 3) := by decide +kernel
theorem kd_M_place_108 : decode kb_M_place 108 = .ok (.iconst 1, 1) := by decide +kernel
theorem kd_M_place_109 : decode kb_M_place 109 = .ok (.isub, 1) := by decide +kernel
theorem kd_M_place_110 : decode kb_M_place 110 = .ok (.if_icmp .eq 7, 3) := by decide +kernel
theorem kd_M_place_113 : decode kb_M_place 113 = .ok (.ldc2_w 131, 3) := by decide +kernel
theorem kd_M_place_116 : decode kb_M_place 116 = .ok (.lreturn, 1) := by decide +kernel
theorem kd_M_place_117 : decode kb_M_place 117 = .ok (.aload_n 0, 1) := by decide +kernel
theorem kd_M_place_118 : decode kb_M_place 118 = .ok (.invokevirtual 121, 3) := by decide +kernel
theorem kd_M_place_121 : decode kb_M_place 121 = .ok (.aload_n 0, 1) := by decide +kernel
theorem kd_M_place_122 : decode kb_M_place 122 = .ok (.invokevirtual 124, 3) := by decide +kernel
theorem kd_M_place_125 : decode kb_M_place 125 = .ok (.lconst 0, 1) := by decide +kernel
theorem kd_M_place_126 : decode kb_M_place 126 = .ok (.lstore 4, 2) := by decide +kernel
theorem kd_M_place_128 : decode kb_M_place 128 = .ok (.aload_n 0, 1) := by decide +kernel
theorem kd_M_place_129 : decode kb_M_place 129 = .ok (.lconst 1, 1) := by decide +kernel
theorem kd_M_place_130 : decode kb_M_place 130 = .ok (.putfield 148, 3) := by decide +kernel
theorem kd_M_place_133 : decode kb_M_place 133 = .ok (.iconst 0, 1) := by decide +kernel
theorem kd_M_place_134 : decode kb_M_place 134 = .ok (.istore 6, 2) := by decide +kernel
theorem kd_M_place_136 : decode kb_M_place 136 = .ok (.iload 6, 2) := by decide +kernel
theorem kd_M_place_138 : decode kb_M_place 138 = .ok (.aload_n 0, 1) := by decide +kernel
theorem kd_M_place_139 : decode kb_M_place 139 = .ok (.getfield 80, 3) := by decide +kernel
theorem kd_M_place_142 : decode kb_M_place 142 = .ok (.if_icmp .ge 105, 3) := by decide +kernel
theorem kd_M_place_145 : decode kb_M_place 145 = .ok (.iload_n 1, 1) := by decide +kernel
theorem kd_M_place_146 : decode kb_M_place 146 = .ok (.iload 6, 2) := by decide +kernel
theorem kd_M_place_148 : decode kb_M_place 148 = .ok (.ishr, 1) := by decide +kernel
theorem kd_M_place_149 : decode kb_M_place 149 = .ok (.iconst 1, 1) := by decide +kernel
theorem kd_M_place_150 : decode kb_M_place 150 = .ok (.iand, 1) := by decide +kernel
theorem kd_M_place_151 : decode kb_M_place 151 = .ok (.iconst 1, 1) := by decide +kernel
theorem kd_M_place_152 : decode kb_M_place 152 = .ok (.if_icmp .ne 7, 3) := by decide +kernel
theorem kd_M_place_155 : decode kb_M_place 155 = .ok (.iconst 1, 1) := by decide +kernel
theorem kd_M_place_156 : decode kb_M_place 156 = .ok (.goto 4, 3) := by decide +kernel
theorem kd_M_place_159 : decode kb_M_place 159 = .ok (.iconst 0, 1) := by decide +kernel
theorem kd_M_place_160 : decode kb_M_place 160 = .ok (.istore 7, 2) := by decide +kernel
theorem kd_M_place_162 : decode kb_M_place 162 = .ok (.iload 7, 2) := by decide +kernel
theorem kd_M_place_164 : decode kb_M_place 164 = .ok (.ifCond .eq 7, 3) := by decide +kernel
theorem kd_M_place_167 : decode kb_M_place 167 = .ok (.lconst 0, 1) := by decide +kernel
theorem kd_M_place_168 : decode kb_M_place 168 = .ok (.goto 14, 3) := by decide +kernel
theorem kd_M_place_171 : decode kb_M_place 171 = .ok (.aload_n 0, 1) := by decide +kernel
theorem kd_M_place_172 : decode kb_M_place 172 = .ok (.iload 6, 2) := by decide +kernel
theorem kd_M_place_174 : decode kb_M_place 174 = .ok (.invokevirtual 152, 3) := by decide +kernel
theorem kd_M_place_177 : decode kb_M_place 177 = .ok (.aload_n 0, 1) := by decide +kernel
theorem kd_M_place_178 : decode kb_M_place 178 = .ok (.getfield 148, 3) := by decide +kernel
theorem kd_M_place_181 : decode kb_M_place 181 = .ok (.lmul, 1) := by decide +kernel
theorem kd_M_place_182 : decode kb_M_place 182 = .ok (.lstore 8, 2) := by decide +kernel
theorem kd_M_place_184 : decode kb_M_place 184 = .ok (.aload_n 0, 1) := by decide +kernel
theorem kd_M_place_185 : decode kb_M_place 185 = .ok (.getfield 35, 3) := by decide +kernel
theorem kd_M_place_188 : decode kb_M_place 188 = .ok (.iload 6, 2) := by decide +kernel
theorem kd_M_place_190 : decode kb_M_place 190 = .ok (.iconst 1, 1) := by decide +kernel
theorem kd_M_place_191 : decode kb_M_place 191 = .ok (.bastore, 1) := by decide +kernel
theorem kd_M_place_192 : decode kb_M_place 192 = .ok (.iload 7, 2) := by decide +kernel
theorem kd_M_place_194 : decode kb_M_place 194 = .ok (.ifCond .eq 40, 3) := by decide +kernel
theorem kd_M_place_197 : decode kb_M_place 197 = .ok (.aload_n 0, 1) := by decide +kernel
theorem kd_M_place_198 : decode kb_M_place 198 = .ok (.aload_n 0, 1) := by decide +kernel
theorem kd_M_place_199 : decode kb_M_place 199 = .ok (.getfield 7, 3) := by decide +kernel
theorem kd_M_place_202 : decode kb_M_place 202 = .ok (.iload 6, 2) := by decide +kernel
theorem kd_M_place_204 : decode kb_M_place 204 = .ok (.iaload, 1) := by decide +kernel
theorem kd_M_place_205 : decode kb_M_place 205 = .ok (.aload_n 0, 1) := by decide +kernel
theorem kd_M_place_206 : decode kb_M_place 206 = .ok (.getfield 13, 3) := by decide +kernel
theorem kd_M_place_209 : decode kb_M_place 209 = .ok (.iload 6, 2) := by decide +kernel
theorem kd_M_place_211 : decode kb_M_place 211 = .ok (.iaload, 1) := by decide +kernel
theorem kd_M_place_212 : decode kb_M_place 212 = .ok (.invokevirtual 144, 3) := by decide +kernel
theorem kd_M_place_215 : decode kb_M_place 215 = .ok (.istore 10, 2) := by decide +kernel
theorem kd_M_place_217 : decode kb_M_place 217 = .ok (.aload_n 0, 1) := by decide +kernel
theorem kd_M_place_218 : decode kb_M_place 218 = .ok (.dup, 1) := by decide +kernel
theorem kd_M_place_219 : decode kb_M_place 219 = .ok (.getfield 148, 3) := by decide +kernel
theorem kd_M_place_222 : decode kb_M_place 222 = .ok (.aload_n 0, 1) := by decide +kernel
theorem kd_M_place_223 : decode kb_M_place 223 = .ok (.getfield 16, 3) := by decide +kernel
theorem kd_M_place_226 : decode kb_M_place 226 = .ok (.iload 6, 2) := by decide +kernel
theorem kd_M_place_228 : decode kb_M_place 228 = .ok (.iaload, 1) := by decide +kernel
theorem kd_M_place_229 : decode kb_M_place 229 = .ok (.i2l, 1) := by decide +kernel
theorem kd_M_place_230 : decode kb_M_place 230 = .ok (.lmul, 1) := by decide +kernel
theorem kd_M_place_231 : decode kb_M_place 231 = .ok (.putfield 148, 3) := by decide +kernel
theorem kd_M_place_234 : decode kb_M_place 234 = .ok (.lload 4, 2) := by decide +kernel
theorem kd_M_place_236 : decode kb_M_place 236 = .ok (.lload 8, 2) := by decide +kernel
theorem kd_M_place_238 : decode kb_M_place 238 = .ok (.ladd, 1) := by decide +kernel
theorem kd_M_place_239 : decode kb_M_place 239 = .ok (.lstore 4, 2) := by decide +kernel
theorem kd_M_place_241 : decode kb_M_place 241 = .ok (.iinc 6 1, 3) := by decide +kernel
theorem kd_M_place_244 : decode kb_M_place 244 = .ok (.goto (-108), 3) := by decide +kernel
theorem kd_M_place_247 : decode kb_M_place 247 = .ok (.lload 4, 2) := by decide +kernel
theorem kd_M_place_249 : decode kb_M_place 249 = .ok (.lreturn, 1) := by decide +kernel
theorem kd_M_takeTrees_0 : decode kb_M_takeTrees 0 = .ok (.iconst 0, 1) := by decide +kernel
theorem kd_M_takeTrees_1 : decode kb_M_takeTrees 1 = .ok (.istore_n 1, 1) := by decide +kernel
theorem kd_M_takeTrees_2 : decode kb_M_takeTrees 2 = .ok (.aload_n 0, 1) := by decide +kernel
theorem kd_M_takeTrees_3 : decode kb_M_takeTrees 3 = .ok (.invokevirtual 121, 3) := by decide +kernel
theorem kd_M_takeTrees_6 : decode kb_M_takeTrees 6 = .ok (.iconst 0, 1) := by decide +kernel
theorem kd_M_takeTrees_7 : decode kb_M_takeTrees 7 = .ok (.istore_n 2, 1) := by decide +kernel
theorem kd_M_takeTrees_8 : decode kb_M_takeTrees 8 = .ok (.iload_n 2, 1) := by decide +kernel
theorem kd_M_takeTrees_9 : decode kb_M_takeTrees 9 = .ok (.aload_n 0, 1) := by decide +kernel
theorem kd_M_takeTrees_10 : decode kb_M_takeTrees 10 = .ok (.getfield 80, 3) := by decide +kernel
theorem kd_M_takeTrees_13 : decode kb_M_takeTrees 13 = .ok (.if_icmp .ge 48, 3) := by decide +kernel
theorem kd_M_takeTrees_16 : decode kb_M_takeTrees 16 = .ok (.aload_n 0, 1) := by decide +kernel
theorem kd_M_takeTrees_17 : decode kb_M_takeTrees 17 = .ok (.getfield 45, 3) := by decide +kernel
theorem kd_M_takeTrees_20 : decode kb_M_takeTrees 20 = .ok (.iload_n 2, 1) := by decide +kernel
theorem kd_M_takeTrees_21 : decode kb_M_takeTrees 21 = .ok (.aload_n 0, 1) := by decide +kernel
theorem kd_M_takeTrees_22 : decode kb_M_takeTrees 22 = .ok (.aload_n 0, 1) := by decide +kernel
theorem kd_M_takeTrees_23 : decode kb_M_takeTrees 23 = .ok (.getfield 7, 3) := by decide +kernel
theorem kd_M_takeTrees_26 : decode kb_M_takeTrees 26 = .ok (.iload_n 2, 1) := by decide +kernel
theorem kd_M_takeTrees_27 : decode kb_M_takeTrees 27 = .ok (.iaload, 1) := by decide +kernel
theorem kd_M_takeTrees_28 : decode kb_M_takeTrees 28 = .ok (.aload_n 0, 1) := by decide +kernel
theorem kd_M_takeTrees_29 : decode kb_M_takeTrees 29 = .ok (.getfield 13, 3) := by decide +kernel
theorem kd_M_takeTrees_32 : decode kb_M_takeTrees 32 = .ok (.iload_n 2, 1) := by decide +kernel
theorem kd_M_takeTrees_33 : decode kb_M_takeTrees 33 = .ok (.iaload, 1) := by decide +kernel
theorem kd_M_takeTrees_34 : decode kb_M_takeTrees 34 = .ok (.invokevirtual 144, 3) := by decide +kernel
theorem kd_M_takeTrees_37 : decode kb_M_takeTrees 37 = .ok (.bastore, 1) := by decide +kernel
theorem kd_M_takeTrees_38 : decode kb_M_takeTrees 38 = .ok (.iload_n 1, 1) := by decide +kernel
theorem kd_M_takeTrees_39 : decode kb_M_takeTrees 39 = .ok (.aload_n 0, 1) := by decide +kernel
theorem kd_M_takeTrees_40 : decode kb_M_takeTrees 40 = .ok (.getfield 45, 3) := by decide +kernel
theorem kd_M_takeTrees_43 : decode kb_M_takeTrees 43 = .ok (.iload_n 2, 1) := by decide +kernel
theorem kd_M_takeTrees_44 : decode kb_M_takeTrees 44 = .ok (.baload, 1) := by decide +kernel
theorem kd_M_takeTrees_45 : decode kb_M_takeTrees 45 = .ok (.ifCond .eq 7, 3) := by decide +kernel
theorem kd_M_takeTrees_48 : decode kb_M_takeTrees 48 = .ok (.iconst 0, 1) := by decide +kernel
theorem kd_M_takeTrees_49 : decode kb_M_takeTrees 49 = .ok (.goto 4, 3) := by decide +kernel
theorem kd_M_takeTrees_52 : decode kb_M_takeTrees 52 = .ok (.iconst 1, 1) := by decide +kernel
theorem kd_M_takeTrees_53 : decode kb_M_takeTrees 53 = .ok (.iadd, 1) := by decide +kernel
theorem kd_M_takeTrees_54 : decode kb_M_takeTrees 54 = .ok (.istore_n 1, 1) := by decide +kernel
theorem kd_M_takeTrees_55 : decode kb_M_takeTrees 55 = .ok (.iinc 2 1, 3) := by decide +kernel
theorem kd_M_takeTrees_58 : decode kb_M_takeTrees 58 = .ok (.goto (-50), 3) := by decide +kernel
theorem kd_M_takeTrees_61 : decode kb_M_takeTrees 61 = .ok (.iload_n 1, 1) := by decide +kernel
theorem kd_M_takeTrees_62 : decode kb_M_takeTrees 62 = .ok (.ireturn, 1) := by decide +kernel
theorem kd_M_ringOf_0 : decode kb_M_ringOf 0 = .ok (.iload_n 1, 1) := by decide +kernel
theorem kd_M_ringOf_1 : decode kb_M_ringOf 1 = .ok (.istore_n 2, 1) := by decide +kernel
theorem kd_M_ringOf_2 : decode kb_M_ringOf 2 = .ok (.iconst 0, 1) := by decide +kernel
theorem kd_M_ringOf_3 : decode kb_M_ringOf 3 = .ok (.istore_n 3, 1) := by decide +kernel
theorem kd_M_ringOf_4 : decode kb_M_ringOf 4 = .ok (.aload_n 0, 1) := by decide +kernel
theorem kd_M_ringOf_5 : decode kb_M_ringOf 5 = .ok (.getfield 45, 3) := by decide +kernel
theorem kd_M_ringOf_8 : decode kb_M_ringOf 8 = .ok (.iload_n 3, 1) := by decide +kernel
theorem kd_M_ringOf_9 : decode kb_M_ringOf 9 = .ok (.baload, 1) := by decide +kernel
theorem kd_M_ringOf_10 : decode kb_M_ringOf 10 = .ok (.ifCond .ne 7, 3) := by decide +kernel
theorem kd_M_ringOf_13 : decode kb_M_ringOf 13 = .ok (.iload_n 2, 1) := by decide +kernel
theorem kd_M_ringOf_14 : decode kb_M_ringOf 14 = .ok (.ifCond .le 26, 3) := by decide +kernel
theorem kd_M_ringOf_17 : decode kb_M_ringOf 17 = .ok (.iload_n 2, 1) := by decide +kernel
theorem kd_M_ringOf_18 : decode kb_M_ringOf 18 = .ok (.aload_n 0, 1) := by decide +kernel
theorem kd_M_ringOf_19 : decode kb_M_ringOf 19 = .ok (.getfield 45, 3) := by decide +kernel
theorem kd_M_ringOf_22 : decode kb_M_ringOf 22 = .ok (.iload_n 3, 1) := by decide +kernel
theorem kd_M_ringOf_23 : decode kb_M_ringOf 23 = .ok (.baload, 1) := by decide +kernel
theorem kd_M_ringOf_24 : decode kb_M_ringOf 24 = .ok (.ifCond .eq 7, 3) := by decide +kernel
theorem kd_M_ringOf_27 : decode kb_M_ringOf 27 = .ok (.iconst 0, 1) := by decide +kernel
theorem kd_M_ringOf_28 : decode kb_M_ringOf 28 = .ok (.goto 4, 3) := by decide +kernel
theorem kd_M_ringOf_31 : decode kb_M_ringOf 31 = .ok (.iconst 1, 1) := by decide +kernel
theorem kd_M_ringOf_32 : decode kb_M_ringOf 32 = .ok (.isub, 1) := by decide +kernel
theorem kd_M_ringOf_33 : decode kb_M_ringOf 33 = .ok (.istore_n 2, 1) := by decide +kernel
theorem kd_M_ringOf_34 : decode kb_M_ringOf 34 = .ok (.iinc 3 1, 3) := by decide +kernel
theorem kd_M_ringOf_37 : decode kb_M_ringOf 37 = .ok (.goto (-33), 3) := by decide +kernel
theorem kd_M_ringOf_40 : decode kb_M_ringOf 40 = .ok (.aload_n 0, 1) := by decide +kernel
theorem kd_M_ringOf_41 : decode kb_M_ringOf 41 = .ok (.getfield 48, 3) := by decide +kernel
theorem kd_M_ringOf_44 : decode kb_M_ringOf 44 = .ok (.iconst 0, 1) := by decide +kernel
theorem kd_M_ringOf_45 : decode kb_M_ringOf 45 = .ok (.iload_n 3, 1) := by decide +kernel
theorem kd_M_ringOf_46 : decode kb_M_ringOf 46 = .ok (.iastore, 1) := by decide +kernel
theorem kd_M_ringOf_47 : decode kb_M_ringOf 47 = .ok (.aload_n 0, 1) := by decide +kernel
theorem kd_M_ringOf_48 : decode kb_M_ringOf 48 = .ok (.iconst 1, 1) := by decide +kernel
theorem kd_M_ringOf_49 : decode kb_M_ringOf 49 = .ok (.putfield 155, 3) := by decide +kernel
theorem kd_M_ringOf_52 : decode kb_M_ringOf 52 = .ok (.iconst 0, 1) := by decide +kernel
theorem kd_M_ringOf_53 : decode kb_M_ringOf 53 = .ok (.istore 4, 2) := by decide +kernel
theorem kd_M_ringOf_55 : decode kb_M_ringOf 55 = .ok (.iload 4, 2) := by decide +kernel
theorem kd_M_ringOf_57 : decode kb_M_ringOf 57 = .ok (.aload_n 0, 1) := by decide +kernel
theorem kd_M_ringOf_58 : decode kb_M_ringOf 58 = .ok (.getfield 73, 3) := by decide +kernel
theorem kd_M_ringOf_61 : decode kb_M_ringOf 61 = .ok (.if_icmp .ge 32, 3) := by decide +kernel
theorem kd_M_ringOf_64 : decode kb_M_ringOf 64 = .ok (.aload_n 0, 1) := by decide +kernel
theorem kd_M_ringOf_65 : decode kb_M_ringOf 65 = .ok (.getfield 54, 3) := by decide +kernel
theorem kd_M_ringOf_68 : decode kb_M_ringOf 68 = .ok (.iload 4, 2) := by decide +kernel
theorem kd_M_ringOf_70 : decode kb_M_ringOf 70 = .ok (.iload 4, 2) := by decide +kernel
theorem kd_M_ringOf_72 : decode kb_M_ringOf 72 = .ok (.aload_n 0, 1) := by decide +kernel
theorem kd_M_ringOf_73 : decode kb_M_ringOf 73 = .ok (.getfield 7, 3) := by decide +kernel
theorem kd_M_ringOf_76 : decode kb_M_ringOf 76 = .ok (.iload_n 3, 1) := by decide +kernel
theorem kd_M_ringOf_77 : decode kb_M_ringOf 77 = .ok (.iaload, 1) := by decide +kernel
theorem kd_M_ringOf_78 : decode kb_M_ringOf 78 = .ok (.if_icmp .ne 7, 3) := by decide +kernel
theorem kd_M_ringOf_81 : decode kb_M_ringOf 81 = .ok (.iconst 1, 1) := by decide +kernel
theorem kd_M_ringOf_82 : decode kb_M_ringOf 82 = .ok (.goto 4, 3) := by decide +kernel
theorem kd_M_ringOf_85 : decode kb_M_ringOf 85 = .ok (.iconst 0, 1) := by decide +kernel
theorem kd_M_ringOf_86 : decode kb_M_ringOf 86 = .ok (.bastore, 1) := by decide +kernel
theorem kd_M_ringOf_87 : decode kb_M_ringOf 87 = .ok (.iinc 4 1, 3) := by decide +kernel
theorem kd_M_ringOf_90 : decode kb_M_ringOf 90 = .ok (.goto (-35), 3) := by decide +kernel
theorem kd_M_ringOf_93 : decode kb_M_ringOf 93 = .ok (.iconst 1, 1) := by decide +kernel
theorem kd_M_ringOf_94 : decode kb_M_ringOf 94 = .ok (.istore 4, 2) := by decide +kernel
theorem kd_M_ringOf_96 : decode kb_M_ringOf 96 = .ok (.aload_n 0, 1) := by decide +kernel
theorem kd_M_ringOf_97 : decode kb_M_ringOf 97 = .ok (.getfield 57, 3) := by decide +kernel
theorem kd_M_ringOf_100 : decode kb_M_ringOf 100 = .ok (.iconst 0, 1) := by decide +kernel
theorem kd_M_ringOf_101 : decode kb_M_ringOf 101 = .ok (.aload_n 0, 1) := by decide +kernel
theorem kd_M_ringOf_102 : decode kb_M_ringOf 102 = .ok (.getfield 7, 3) := by decide +kernel
theorem kd_M_ringOf_105 : decode kb_M_ringOf 105 = .ok (.iload_n 3, 1) := by decide +kernel
theorem kd_M_ringOf_106 : decode kb_M_ringOf 106 = .ok (.iaload, 1) := by decide +kernel
theorem kd_M_ringOf_107 : decode kb_M_ringOf 107 = .ok (.iastore, 1) := by decide +kernel
theorem kd_M_ringOf_108 : decode kb_M_ringOf 108 = .ok (.iconst 0, 1) := by decide +kernel
theorem kd_M_ringOf_109 : decode kb_M_ringOf 109 = .ok (.istore 5, 2) := by decide +kernel
theorem kd_M_ringOf_111 : decode kb_M_ringOf 111 = .ok (.iload 5, 2) := by decide +kernel
theorem kd_M_ringOf_113 : decode kb_M_ringOf 113 = .ok (.iload 4, 2) := by decide +kernel
theorem kd_M_ringOf_115 : decode kb_M_ringOf 115 = .ok (.if_icmp .ge 146, 3) := by decide +kernel
theorem kd_M_ringOf_118 : decode kb_M_ringOf 118 = .ok (.iconst 0, 1) := by decide +kernel
theorem kd_M_ringOf_119 : decode kb_M_ringOf 119 = .ok (.istore 6, 2) := by decide +kernel
theorem kd_M_ringOf_121 : decode kb_M_ringOf 121 = .ok (.iload 6, 2) := by decide +kernel
theorem kd_M_ringOf_123 : decode kb_M_ringOf 123 = .ok (.aload_n 0, 1) := by decide +kernel
theorem kd_M_ringOf_124 : decode kb_M_ringOf 124 = .ok (.getfield 80, 3) := by decide +kernel
theorem kd_M_ringOf_127 : decode kb_M_ringOf 127 = .ok (.if_icmp .ge 128, 3) := by decide +kernel
theorem kd_M_ringOf_130 : decode kb_M_ringOf 130 = .ok (.aload_n 0, 1) := by decide +kernel
theorem kd_M_ringOf_131 : decode kb_M_ringOf 131 = .ok (.getfield 45, 3) := by decide +kernel
theorem kd_M_ringOf_134 : decode kb_M_ringOf 134 = .ok (.iload 6, 2) := by decide +kernel
theorem kd_M_ringOf_136 : decode kb_M_ringOf 136 = .ok (.baload, 1) := by decide +kernel
theorem kd_M_ringOf_137 : decode kb_M_ringOf 137 = .ok (.ifCond .eq 112, 3) := by decide +kernel
theorem kd_M_ringOf_140 : decode kb_M_ringOf 140 = .ok (.aload_n 0, 1) := by decide +kernel
theorem kd_M_ringOf_141 : decode kb_M_ringOf 141 = .ok (.getfield 7, 3) := by decide +kernel
theorem kd_M_ringOf_144 : decode kb_M_ringOf 144 = .ok (.iload 6, 2) := by decide +kernel
theorem kd_M_ringOf_146 : decode kb_M_ringOf 146 = .ok (.iaload, 1) := by decide +kernel
theorem kd_M_ringOf_147 : decode kb_M_ringOf 147 = .ok (.aload_n 0, 1) := by decide +kernel
theorem kd_M_ringOf_148 : decode kb_M_ringOf 148 = .ok (.getfield 57, 3) := by decide +kernel
theorem kd_M_ringOf_151 : decode kb_M_ringOf 151 = .ok (.iload 5, 2) := by decide +kernel
theorem kd_M_ringOf_153 : decode kb_M_ringOf 153 = .ok (.iaload, 1) := by decide +kernel
theorem kd_M_ringOf_154 : decode kb_M_ringOf 154 = .ok (.if_icmp .eq 20, 3) := by decide +kernel
theorem kd_M_ringOf_157 : decode kb_M_ringOf 157 = .ok (.aload_n 0, 1) := by decide +kernel
theorem kd_M_ringOf_158 : decode kb_M_ringOf 158 = .ok (.getfield 13, 3) := by decide +kernel
theorem kd_M_ringOf_161 : decode kb_M_ringOf 161 = .ok (.iload 6, 2) := by decide +kernel
theorem kd_M_ringOf_163 : decode kb_M_ringOf 163 = .ok (.iaload, 1) := by decide +kernel
theorem kd_M_ringOf_164 : decode kb_M_ringOf 164 = .ok (.aload_n 0, 1) := by decide +kernel
theorem kd_M_ringOf_165 : decode kb_M_ringOf 165 = .ok (.getfield 57, 3) := by decide +kernel
theorem kd_M_ringOf_168 : decode kb_M_ringOf 168 = .ok (.iload 5, 2) := by decide +kernel
theorem kd_M_ringOf_170 : decode kb_M_ringOf 170 = .ok (.iaload, 1) := by decide +kernel
theorem kd_M_ringOf_171 : decode kb_M_ringOf 171 = .ok (.if_icmp .ne 78, 3) := by decide +kernel
theorem kd_M_ringOf_174 : decode kb_M_ringOf 174 = .ok (.aload_n 0, 1) := by decide +kernel
theorem kd_M_ringOf_175 : decode kb_M_ringOf 175 = .ok (.getfield 7, 3) := by decide +kernel
theorem kd_M_ringOf_178 : decode kb_M_ringOf 178 = .ok (.iload 6, 2) := by decide +kernel
theorem kd_M_ringOf_180 : decode kb_M_ringOf 180 = .ok (.iaload, 1) := by decide +kernel
theorem kd_M_ringOf_181 : decode kb_M_ringOf 181 = .ok (.aload_n 0, 1) := by decide +kernel
theorem kd_M_ringOf_182 : decode kb_M_ringOf 182 = .ok (.getfield 57, 3) := by decide +kernel
theorem kd_M_ringOf_185 : decode kb_M_ringOf 185 = .ok (.iload 5, 2) := by decide +kernel
theorem kd_M_ringOf_187 : decode kb_M_ringOf 187 = .ok (.iaload, 1) := by decide +kernel
theorem kd_M_ringOf_188 : decode kb_M_ringOf 188 = .ok (.if_icmp .ne 13, 3) := by decide +kernel
theorem kd_M_ringOf_191 : decode kb_M_ringOf 191 = .ok (.aload_n 0, 1) := by decide +kernel
theorem kd_M_ringOf_192 : decode kb_M_ringOf 192 = .ok (.getfield 13, 3) := by decide +kernel
theorem kd_M_ringOf_195 : decode kb_M_ringOf 195 = .ok (.iload 6, 2) := by decide +kernel
theorem kd_M_ringOf_197 : decode kb_M_ringOf 197 = .ok (.iaload, 1) := by decide +kernel
theorem kd_M_ringOf_198 : decode kb_M_ringOf 198 = .ok (.goto 10, 3) := by decide +kernel
theorem kd_M_ringOf_201 : decode kb_M_ringOf 201 = .ok (.aload_n 0, 1) := by decide +kernel
theorem kd_M_ringOf_202 : decode kb_M_ringOf 202 = .ok (.getfield 7, 3) := by decide +kernel
theorem kd_M_ringOf_205 : decode kb_M_ringOf 205 = .ok (.iload 6, 2) := by decide +kernel
theorem kd_M_ringOf_207 : decode kb_M_ringOf 207 = .ok (.iaload, 1) := by decide +kernel
theorem kd_M_ringOf_208 : decode kb_M_ringOf 208 = .ok (.istore 7, 2) := by decide +kernel
theorem kd_M_ringOf_210 : decode kb_M_ringOf 210 = .ok (.aload_n 0, 1) := by decide +kernel
theorem kd_M_ringOf_211 : decode kb_M_ringOf 211 = .ok (.getfield 54, 3) := by decide +kernel
theorem kd_M_ringOf_214 : decode kb_M_ringOf 214 = .ok (.iload 7, 2) := by decide +kernel
theorem kd_M_ringOf_216 : decode kb_M_ringOf 216 = .ok (.baload, 1) := by decide +kernel
theorem kd_M_ringOf_217 : decode kb_M_ringOf 217 = .ok (.ifCond .ne 32, 3) := by decide +kernel
theorem kd_M_ringOf_220 : decode kb_M_ringOf 220 = .ok (.aload_n 0, 1) := by decide +kernel
theorem kd_M_ringOf_221 : decode kb_M_ringOf 221 = .ok (.getfield 54, 3) := by decide +kernel
theorem kd_M_ringOf_224 : decode kb_M_ringOf 224 = .ok (.iload 7, 2) := by decide +kernel
theorem kd_M_ringOf_226 : decode kb_M_ringOf 226 = .ok (.iconst 1, 1) := by decide +kernel
theorem kd_M_ringOf_227 : decode kb_M_ringOf 227 = .ok (.bastore, 1) := by decide +kernel
theorem kd_M_ringOf_228 : decode kb_M_ringOf 228 = .ok (.aload_n 0, 1) := by decide +kernel
theorem kd_M_ringOf_229 : decode kb_M_ringOf 229 = .ok (.getfield 51, 3) := by decide +kernel
theorem kd_M_ringOf_232 : decode kb_M_ringOf 232 = .ok (.iload 7, 2) := by decide +kernel
theorem kd_M_ringOf_234 : decode kb_M_ringOf 234 = .ok (.iload 6, 2) := by decide +kernel
theorem kd_M_ringOf_236 : decode kb_M_ringOf 236 = .ok (.iastore, 1) := by decide +kernel
theorem kd_M_ringOf_237 : decode kb_M_ringOf 237 = .ok (.aload_n 0, 1) := by decide +kernel
theorem kd_M_ringOf_238 : decode kb_M_ringOf 238 = .ok (.getfield 57, 3) := by decide +kernel
theorem kd_M_ringOf_241 : decode kb_M_ringOf 241 = .ok (.iload 4, 2) := by decide +kernel
theorem kd_M_ringOf_243 : decode kb_M_ringOf 243 = .ok (.iload 7, 2) := by decide +kernel
theorem kd_M_ringOf_245 : decode kb_M_ringOf 245 = .ok (.iastore, 1) := by decide +kernel
theorem kd_M_ringOf_246 : decode kb_M_ringOf 246 = .ok (.iinc 4 1, 3) := by decide +kernel
theorem kd_M_ringOf_249 : decode kb_M_ringOf 249 = .ok (.iinc 6 1, 3) := by decide +kernel
theorem kd_M_ringOf_252 : decode kb_M_ringOf 252 = .ok (.goto (-131), 3) := by decide +kernel
theorem kd_M_ringOf_255 : decode kb_M_ringOf 255 = .ok (.iinc 5 1, 3) := by decide +kernel
theorem kd_M_ringOf_258 : decode kb_M_ringOf 258 = .ok (.goto (-147), 3) := by decide +kernel
theorem kd_M_ringOf_261 : decode kb_M_ringOf 261 = .ok (.aload_n 0, 1) := by decide +kernel
theorem kd_M_ringOf_262 : decode kb_M_ringOf 262 = .ok (.getfield 13, 3) := by decide +kernel
theorem kd_M_ringOf_265 : decode kb_M_ringOf 265 = .ok (.iload_n 3, 1) := by decide +kernel
theorem kd_M_ringOf_266 : decode kb_M_ringOf 266 = .ok (.iaload, 1) := by decide +kernel
theorem kd_M_ringOf_267 : decode kb_M_ringOf 267 = .ok (.istore 5, 2) := by decide +kernel
theorem kd_M_ringOf_269 : decode kb_M_ringOf 269 = .ok (.iload 5, 2) := by decide +kernel
theorem kd_M_ringOf_271 : decode kb_M_ringOf 271 = .ok (.aload_n 0, 1) := by decide +kernel
theorem kd_M_ringOf_272 : decode kb_M_ringOf 272 = .ok (.getfield 7, 3) := by decide +kernel
theorem kd_M_ringOf_275 : decode kb_M_ringOf 275 = .ok (.iload_n 3, 1) := by decide +kernel
theorem kd_M_ringOf_276 : decode kb_M_ringOf 276 = .ok (.iaload, 1) := by decide +kernel
theorem kd_M_ringOf_277 : decode kb_M_ringOf 277 = .ok (.if_icmp .eq 78, 3) := by decide +kernel
theorem kd_M_ringOf_280 : decode kb_M_ringOf 280 = .ok (.aload_n 0, 1) := by decide +kernel
theorem kd_M_ringOf_281 : decode kb_M_ringOf 281 = .ok (.getfield 48, 3) := by decide +kernel
theorem kd_M_ringOf_284 : decode kb_M_ringOf 284 = .ok (.aload_n 0, 1) := by decide +kernel
theorem kd_M_ringOf_285 : decode kb_M_ringOf 285 = .ok (.getfield 155, 3) := by decide +kernel
theorem kd_M_ringOf_288 : decode kb_M_ringOf 288 = .ok (.aload_n 0, 1) := by decide +kernel
theorem kd_M_ringOf_289 : decode kb_M_ringOf 289 = .ok (.getfield 51, 3) := by decide +kernel
theorem kd_M_ringOf_292 : decode kb_M_ringOf 292 = .ok (.iload 5, 2) := by decide +kernel
theorem kd_M_ringOf_294 : decode kb_M_ringOf 294 = .ok (.iaload, 1) := by decide +kernel
theorem kd_M_ringOf_295 : decode kb_M_ringOf 295 = .ok (.iastore, 1) := by decide +kernel
theorem kd_M_ringOf_296 : decode kb_M_ringOf 296 = .ok (.aload_n 0, 1) := by decide +kernel
theorem kd_M_ringOf_297 : decode kb_M_ringOf 297 = .ok (.dup, 1) := by decide +kernel
theorem kd_M_ringOf_298 : decode kb_M_ringOf 298 = .ok (.getfield 155, 3) := by decide +kernel
theorem kd_M_ringOf_301 : decode kb_M_ringOf 301 = .ok (.iconst 1, 1) := by decide +kernel
theorem kd_M_ringOf_302 : decode kb_M_ringOf 302 = .ok (.iadd, 1) := by decide +kernel
theorem kd_M_ringOf_303 : decode kb_M_ringOf 303 = .ok (.putfield 155, 3) := by decide +kernel
theorem kd_M_ringOf_306 : decode kb_M_ringOf 306 = .ok (.aload_n 0, 1) := by decide +kernel
theorem kd_M_ringOf_307 : decode kb_M_ringOf 307 = .ok (.getfield 7, 3) := by decide +kernel
theorem kd_M_ringOf_310 : decode kb_M_ringOf 310 = .ok (.aload_n 0, 1) := by decide +kernel
theorem kd_M_ringOf_311 : decode kb_M_ringOf 311 = .ok (.getfield 51, 3) := by decide +kernel
theorem kd_M_ringOf_314 : decode kb_M_ringOf 314 = .ok (.iload 5, 2) := by decide +kernel
theorem kd_M_ringOf_316 : decode kb_M_ringOf 316 = .ok (.iaload, 1) := by decide +kernel
theorem kd_M_ringOf_317 : decode kb_M_ringOf 317 = .ok (.iaload, 1) := by decide +kernel
theorem kd_M_ringOf_318 : decode kb_M_ringOf 318 = .ok (.iload 5, 2) := by decide +kernel
theorem kd_M_ringOf_320 : decode kb_M_ringOf 320 = .ok (.if_icmp .ne 18, 3) := by decide +kernel
theorem kd_M_ringOf_323 : decode kb_M_ringOf 323 = .ok (.aload_n 0, 1) := by decide +kernel
theorem kd_M_ringOf_324 : decode kb_M_ringOf 324 = .ok (.getfield 13, 3) := by decide +kernel
theorem kd_M_ringOf_327 : decode kb_M_ringOf 327 = .ok (.aload_n 0, 1) := by decide +kernel
theorem kd_M_ringOf_328 : decode kb_M_ringOf 328 = .ok (.getfield 51, 3) := by decide +kernel
theorem kd_M_ringOf_331 : decode kb_M_ringOf 331 = .ok (.iload 5, 2) := by decide +kernel
theorem kd_M_ringOf_333 : decode kb_M_ringOf 333 = .ok (.iaload, 1) := by decide +kernel
theorem kd_M_ringOf_334 : decode kb_M_ringOf 334 = .ok (.iaload, 1) := by decide +kernel
theorem kd_M_ringOf_335 : decode kb_M_ringOf 335 = .ok (.goto 15, 3) := by decide +kernel
theorem kd_M_ringOf_338 : decode kb_M_ringOf 338 = .ok (.aload_n 0, 1) := by decide +kernel
theorem kd_M_ringOf_339 : decode kb_M_ringOf 339 = .ok (.getfield 7, 3) := by decide +kernel
theorem kd_M_ringOf_342 : decode kb_M_ringOf 342 = .ok (.aload_n 0, 1) := by decide +kernel
theorem kd_M_ringOf_343 : decode kb_M_ringOf 343 = .ok (.getfield 51, 3) := by decide +kernel
theorem kd_M_ringOf_346 : decode kb_M_ringOf 346 = .ok (.iload 5, 2) := by decide +kernel
theorem kd_M_ringOf_348 : decode kb_M_ringOf 348 = .ok (.iaload, 1) := by decide +kernel
theorem kd_M_ringOf_349 : decode kb_M_ringOf 349 = .ok (.iaload, 1) := by decide +kernel
theorem kd_M_ringOf_350 : decode kb_M_ringOf 350 = .ok (.istore 5, 2) := by decide +kernel
theorem kd_M_ringOf_352 : decode kb_M_ringOf 352 = .ok (.goto (-83), 3) := by decide +kernel
theorem kd_M_ringOf_355 : decode kb_M_ringOf 355 = .ok (.return_, 1) := by decide +kernel
theorem kd_M_ring_0 : decode kb_M_ring 0 = .ok (.aload_n 0, 1) := by decide +kernel
theorem kd_M_ring_1 : decode kb_M_ring 1 = .ok (.iconst 0, 1) := by decide +kernel
theorem kd_M_ring_2 : decode kb_M_ring 2 = .ok (.putfield 69, 3) := by decide +kernel
theorem kd_M_ring_5 : decode kb_M_ring 5 = .ok (.iload_n 1, 1) := by decide +kernel
theorem kd_M_ring_6 : decode kb_M_ring 6 = .ok (.ifCond .lt 15, 3) := by decide +kernel
theorem kd_M_ring_9 : decode kb_M_ring 9 = .ok (.iload_n 2, 1) := by decide +kernel
theorem kd_M_ring_10 : decode kb_M_ring 10 = .ok (.ifCond .lt 11, 3) := by decide +kernel
theorem kd_M_ring_13 : decode kb_M_ring 13 = .ok (.iload_n 1, 1) := by decide +kernel
theorem kd_M_ring_14 : decode kb_M_ring 14 = .ok (.aload_n 0, 1) := by decide +kernel
theorem kd_M_ring_15 : decode kb_M_ring 15 = .ok (.invokevirtual 158, 3) := by decide +kernel
theorem kd_M_ring_18 : decode kb_M_ring 18 = .ok (.if_icmp .lt 5, 3) := by decide +kernel
theorem kd_M_ring_21 : decode kb_M_ring 21 = .ok (.iconst (-1), 1) := by decide +kernel
theorem kd_M_ring_22 : decode kb_M_ring 22 = .ok (.ireturn, 1) := by decide +kernel
theorem kd_M_ring_23 : decode kb_M_ring 23 = .ok (.aload_n 0, 1) := by decide +kernel
theorem kd_M_ring_24 : decode kb_M_ring 24 = .ok (.iload_n 1, 1) := by decide +kernel
theorem kd_M_ring_25 : decode kb_M_ring 25 = .ok (.invokevirtual 162, 3) := by decide +kernel
theorem kd_M_ring_28 : decode kb_M_ring 28 = .ok (.iload_n 2, 1) := by decide +kernel
theorem kd_M_ring_29 : decode kb_M_ring 29 = .ok (.aload_n 0, 1) := by decide +kernel
theorem kd_M_ring_30 : decode kb_M_ring 30 = .ok (.getfield 155, 3) := by decide +kernel
theorem kd_M_ring_33 : decode kb_M_ring 33 = .ok (.if_icmp .ge 12, 3) := by decide +kernel
theorem kd_M_ring_36 : decode kb_M_ring 36 = .ok (.aload_n 0, 1) := by decide +kernel
theorem kd_M_ring_37 : decode kb_M_ring 37 = .ok (.getfield 48, 3) := by decide +kernel
theorem kd_M_ring_40 : decode kb_M_ring 40 = .ok (.iload_n 2, 1) := by decide +kernel
theorem kd_M_ring_41 : decode kb_M_ring 41 = .ok (.iaload, 1) := by decide +kernel
theorem kd_M_ring_42 : decode kb_M_ring 42 = .ok (.goto 4, 3) := by decide +kernel
theorem kd_M_ring_45 : decode kb_M_ring 45 = .ok (.iconst (-1), 1) := by decide +kernel
theorem kd_M_ring_46 : decode kb_M_ring 46 = .ok (.ireturn, 1) := by decide +kernel
theorem kd_M_times_0 : decode kb_M_times 0 = .ok (.lconst 0, 1) := by decide +kernel
theorem kd_M_times_1 : decode kb_M_times 1 = .ok (.lstore 6, 2) := by decide +kernel
theorem kd_M_times_3 : decode kb_M_times 3 = .ok (.lload_n 0, 1) := by decide +kernel
theorem kd_M_times_4 : decode kb_M_times 4 = .ok (.lstore 8, 2) := by decide +kernel
theorem kd_M_times_6 : decode kb_M_times 6 = .ok (.lload_n 2, 1) := by decide +kernel
theorem kd_M_times_7 : decode kb_M_times 7 = .ok (.lstore 10, 2) := by decide +kernel
theorem kd_M_times_9 : decode kb_M_times 9 = .ok (.lload 10, 2) := by decide +kernel
theorem kd_M_times_11 : decode kb_M_times 11 = .ok (.lconst 0, 1) := by decide +kernel
theorem kd_M_times_12 : decode kb_M_times 12 = .ok (.lcmp, 1) := by decide +kernel
theorem kd_M_times_13 : decode kb_M_times 13 = .ok (.ifCond .le 41, 3) := by decide +kernel
theorem kd_M_times_16 : decode kb_M_times 16 = .ok (.lload 10, 2) := by decide +kernel
theorem kd_M_times_18 : decode kb_M_times 18 = .ok (.lconst 1, 1) := by decide +kernel
theorem kd_M_times_19 : decode kb_M_times 19 = .ok (.land, 1) := by decide +kernel
theorem kd_M_times_20 : decode kb_M_times 20 = .ok (.lconst 1, 1) := by decide +kernel
theorem kd_M_times_21 : decode kb_M_times 21 = .ok (.lcmp, 1) := by decide +kernel
theorem kd_M_times_22 : decode kb_M_times 22 = .ok (.ifCond .ne 13, 3) := by decide +kernel
theorem kd_M_times_25 : decode kb_M_times 25 = .ok (.lload 6, 2) := by decide +kernel
theorem kd_M_times_27 : decode kb_M_times 27 = .ok (.lload 8, 2) := by decide +kernel
theorem kd_M_times_29 : decode kb_M_times 29 = .ok (.ladd, 1) := by decide +kernel
theorem kd_M_times_30 : decode kb_M_times 30 = .ok (.lload 4, 2) := by decide +kernel
theorem kd_M_times_32 : decode kb_M_times 32 = .ok (.lrem, 1) := by decide +kernel
theorem kd_M_times_33 : decode kb_M_times 33 = .ok (.lstore 6, 2) := by decide +kernel
theorem kd_M_times_35 : decode kb_M_times 35 = .ok (.lload 8, 2) := by decide +kernel
theorem kd_M_times_37 : decode kb_M_times 37 = .ok (.lload 8, 2) := by decide +kernel
theorem kd_M_times_39 : decode kb_M_times 39 = .ok (.ladd, 1) := by decide +kernel
theorem kd_M_times_40 : decode kb_M_times 40 = .ok (.lload 4, 2) := by decide +kernel
theorem kd_M_times_42 : decode kb_M_times 42 = .ok (.lrem, 1) := by decide +kernel
theorem kd_M_times_43 : decode kb_M_times 43 = .ok (.lstore 8, 2) := by decide +kernel
theorem kd_M_times_45 : decode kb_M_times 45 = .ok (.lload 10, 2) := by decide +kernel
theorem kd_M_times_47 : decode kb_M_times 47 = .ok (.iconst 1, 1) := by decide +kernel
theorem kd_M_times_48 : decode kb_M_times 48 = .ok (.lshr, 1) := by decide +kernel
theorem kd_M_times_49 : decode kb_M_times 49 = .ok (.lstore 10, 2) := by decide +kernel
theorem kd_M_times_51 : decode kb_M_times 51 = .ok (.goto (-42), 3) := by decide +kernel
theorem kd_M_times_54 : decode kb_M_times 54 = .ok (.lload 6, 2) := by decide +kernel
theorem kd_M_times_56 : decode kb_M_times 56 = .ok (.lreturn, 1) := by decide +kernel
theorem kd_M_lessRow_0 : decode kb_M_lessRow 0 = .ok (.iconst 0, 1) := by decide +kernel
theorem kd_M_lessRow_1 : decode kb_M_lessRow 1 = .ok (.istore 8, 2) := by decide +kernel
theorem kd_M_lessRow_3 : decode kb_M_lessRow 3 = .ok (.iload 8, 2) := by decide +kernel
theorem kd_M_lessRow_5 : decode kb_M_lessRow 5 = .ok (.iload 5, 2) := by decide +kernel
theorem kd_M_lessRow_7 : decode kb_M_lessRow 7 = .ok (.if_icmp .ge 61, 3) := by decide +kernel
theorem kd_M_lessRow_10 : decode kb_M_lessRow 10 = .ok (.aload_n 0, 1) := by decide +kernel
theorem kd_M_lessRow_11 : decode kb_M_lessRow 11 = .ok (.getfield 26, 3) := by decide +kernel
theorem kd_M_lessRow_14 : decode kb_M_lessRow 14 = .ok (.bipush 10, 2) := by decide +kernel
theorem kd_M_lessRow_16 : decode kb_M_lessRow 16 = .ok (.iload_n 1, 1) := by decide +kernel
theorem kd_M_lessRow_17 : decode kb_M_lessRow 17 = .ok (.imul, 1) := by decide +kernel
theorem kd_M_lessRow_18 : decode kb_M_lessRow 18 = .ok (.iload 8, 2) := by decide +kernel
theorem kd_M_lessRow_20 : decode kb_M_lessRow 20 = .ok (.iadd, 1) := by decide +kernel
theorem kd_M_lessRow_21 : decode kb_M_lessRow 21 = .ok (.aload_n 0, 1) := by decide +kernel
theorem kd_M_lessRow_22 : decode kb_M_lessRow 22 = .ok (.getfield 26, 3) := by decide +kernel
theorem kd_M_lessRow_25 : decode kb_M_lessRow 25 = .ok (.bipush 10, 2) := by decide +kernel
theorem kd_M_lessRow_27 : decode kb_M_lessRow 27 = .ok (.iload_n 1, 1) := by decide +kernel
theorem kd_M_lessRow_28 : decode kb_M_lessRow 28 = .ok (.imul, 1) := by decide +kernel
theorem kd_M_lessRow_29 : decode kb_M_lessRow 29 = .ok (.iload 8, 2) := by decide +kernel
theorem kd_M_lessRow_31 : decode kb_M_lessRow 31 = .ok (.iadd, 1) := by decide +kernel
theorem kd_M_lessRow_32 : decode kb_M_lessRow 32 = .ok (.laload, 1) := by decide +kernel
theorem kd_M_lessRow_33 : decode kb_M_lessRow 33 = .ok (.lload 6, 2) := by decide +kernel
theorem kd_M_lessRow_35 : decode kb_M_lessRow 35 = .ok (.ladd, 1) := by decide +kernel
theorem kd_M_lessRow_36 : decode kb_M_lessRow 36 = .ok (.aload_n 0, 1) := by decide +kernel
theorem kd_M_lessRow_37 : decode kb_M_lessRow 37 = .ok (.getfield 26, 3) := by decide +kernel
theorem kd_M_lessRow_40 : decode kb_M_lessRow 40 = .ok (.bipush 10, 2) := by decide +kernel
theorem kd_M_lessRow_42 : decode kb_M_lessRow 42 = .ok (.iload_n 2, 1) := by decide +kernel
theorem kd_M_lessRow_43 : decode kb_M_lessRow 43 = .ok (.imul, 1) := by decide +kernel
theorem kd_M_lessRow_44 : decode kb_M_lessRow 44 = .ok (.iload 8, 2) := by decide +kernel
theorem kd_M_lessRow_46 : decode kb_M_lessRow 46 = .ok (.iadd, 1) := by decide +kernel
theorem kd_M_lessRow_47 : decode kb_M_lessRow 47 = .ok (.laload, 1) := by decide +kernel
theorem kd_M_lessRow_48 : decode kb_M_lessRow 48 = .ok (.lload_n 3, 1) := by decide +kernel
theorem kd_M_lessRow_49 : decode kb_M_lessRow 49 = .ok (.lload 6, 2) := by decide +kernel
theorem kd_M_lessRow_51 : decode kb_M_lessRow 51 = .ok (.lrem, 1) := by decide +kernel
theorem kd_M_lessRow_52 : decode kb_M_lessRow 52 = .ok (.lload 6, 2) := by decide +kernel
theorem kd_M_lessRow_54 : decode kb_M_lessRow 54 = .ok (.invokestatic 166, 3) := by decide +kernel
theorem kd_M_lessRow_57 : decode kb_M_lessRow 57 = .ok (.lsub, 1) := by decide +kernel
theorem kd_M_lessRow_58 : decode kb_M_lessRow 58 = .ok (.lload 6, 2) := by decide +kernel
theorem kd_M_lessRow_60 : decode kb_M_lessRow 60 = .ok (.lrem, 1) := by decide +kernel
theorem kd_M_lessRow_61 : decode kb_M_lessRow 61 = .ok (.lastore, 1) := by decide +kernel
theorem kd_M_lessRow_62 : decode kb_M_lessRow 62 = .ok (.iinc 8 1, 3) := by decide +kernel
theorem kd_M_lessRow_65 : decode kb_M_lessRow 65 = .ok (.goto (-62), 3) := by decide +kernel
theorem kd_M_lessRow_68 : decode kb_M_lessRow 68 = .ok (.return_, 1) := by decide +kernel
theorem kd_M_lessColumn_0 : decode kb_M_lessColumn 0 = .ok (.iconst 0, 1) := by decide +kernel
theorem kd_M_lessColumn_1 : decode kb_M_lessColumn 1 = .ok (.istore 8, 2) := by decide +kernel
theorem kd_M_lessColumn_3 : decode kb_M_lessColumn 3 = .ok (.iload 8, 2) := by decide +kernel
theorem kd_M_lessColumn_5 : decode kb_M_lessColumn 5 = .ok (.iload 5, 2) := by decide +kernel
theorem kd_M_lessColumn_7 : decode kb_M_lessColumn 7 = .ok (.if_icmp .ge 61, 3) := by decide +kernel
theorem kd_M_lessColumn_10 : decode kb_M_lessColumn 10 = .ok (.aload_n 0, 1) := by decide +kernel
theorem kd_M_lessColumn_11 : decode kb_M_lessColumn 11 = .ok (.getfield 26, 3) := by decide +kernel
theorem kd_M_lessColumn_14 : decode kb_M_lessColumn 14 = .ok (.bipush 10, 2) := by decide +kernel
theorem kd_M_lessColumn_16 : decode kb_M_lessColumn 16 = .ok (.iload 8, 2) := by decide +kernel
theorem kd_M_lessColumn_18 : decode kb_M_lessColumn 18 = .ok (.imul, 1) := by decide +kernel
theorem kd_M_lessColumn_19 : decode kb_M_lessColumn 19 = .ok (.iload_n 1, 1) := by decide +kernel
theorem kd_M_lessColumn_20 : decode kb_M_lessColumn 20 = .ok (.iadd, 1) := by decide +kernel
theorem kd_M_lessColumn_21 : decode kb_M_lessColumn 21 = .ok (.aload_n 0, 1) := by decide +kernel
theorem kd_M_lessColumn_22 : decode kb_M_lessColumn 22 = .ok (.getfield 26, 3) := by decide +kernel
theorem kd_M_lessColumn_25 : decode kb_M_lessColumn 25 = .ok (.bipush 10, 2) := by decide +kernel
theorem kd_M_lessColumn_27 : decode kb_M_lessColumn 27 = .ok (.iload 8, 2) := by decide +kernel
theorem kd_M_lessColumn_29 : decode kb_M_lessColumn 29 = .ok (.imul, 1) := by decide +kernel
theorem kd_M_lessColumn_30 : decode kb_M_lessColumn 30 = .ok (.iload_n 1, 1) := by decide +kernel
theorem kd_M_lessColumn_31 : decode kb_M_lessColumn 31 = .ok (.iadd, 1) := by decide +kernel
theorem kd_M_lessColumn_32 : decode kb_M_lessColumn 32 = .ok (.laload, 1) := by decide +kernel
theorem kd_M_lessColumn_33 : decode kb_M_lessColumn 33 = .ok (.lload 6, 2) := by decide +kernel
theorem kd_M_lessColumn_35 : decode kb_M_lessColumn 35 = .ok (.ladd, 1) := by decide +kernel
theorem kd_M_lessColumn_36 : decode kb_M_lessColumn 36 = .ok (.aload_n 0, 1) := by decide +kernel
theorem kd_M_lessColumn_37 : decode kb_M_lessColumn 37 = .ok (.getfield 26, 3) := by decide +kernel
theorem kd_M_lessColumn_40 : decode kb_M_lessColumn 40 = .ok (.bipush 10, 2) := by decide +kernel
theorem kd_M_lessColumn_42 : decode kb_M_lessColumn 42 = .ok (.iload 8, 2) := by decide +kernel
theorem kd_M_lessColumn_44 : decode kb_M_lessColumn 44 = .ok (.imul, 1) := by decide +kernel
theorem kd_M_lessColumn_45 : decode kb_M_lessColumn 45 = .ok (.iload_n 2, 1) := by decide +kernel
theorem kd_M_lessColumn_46 : decode kb_M_lessColumn 46 = .ok (.iadd, 1) := by decide +kernel
theorem kd_M_lessColumn_47 : decode kb_M_lessColumn 47 = .ok (.laload, 1) := by decide +kernel
theorem kd_M_lessColumn_48 : decode kb_M_lessColumn 48 = .ok (.lload_n 3, 1) := by decide +kernel
theorem kd_M_lessColumn_49 : decode kb_M_lessColumn 49 = .ok (.lload 6, 2) := by decide +kernel
theorem kd_M_lessColumn_51 : decode kb_M_lessColumn 51 = .ok (.lrem, 1) := by decide +kernel
theorem kd_M_lessColumn_52 : decode kb_M_lessColumn 52 = .ok (.lload 6, 2) := by decide +kernel
theorem kd_M_lessColumn_54 : decode kb_M_lessColumn 54 = .ok (.invokestatic 166, 3) := by decide +kernel
theorem kd_M_lessColumn_57 : decode kb_M_lessColumn 57 = .ok (.lsub, 1) := by decide +kernel
theorem kd_M_lessColumn_58 : decode kb_M_lessColumn 58 = .ok (.lload 6, 2) := by decide +kernel
theorem kd_M_lessColumn_60 : decode kb_M_lessColumn 60 = .ok (.lrem, 1) := by decide +kernel
theorem kd_M_lessColumn_61 : decode kb_M_lessColumn 61 = .ok (.lastore, 1) := by decide +kernel
theorem kd_M_lessColumn_62 : decode kb_M_lessColumn 62 = .ok (.iinc 8 1, 3) := by decide +kernel
theorem kd_M_lessColumn_65 : decode kb_M_lessColumn 65 = .ok (.goto (-62), 3) := by decide +kernel
theorem kd_M_lessColumn_68 : decode kb_M_lessColumn 68 = .ok (.return_, 1) := by decide +kernel
theorem kd_M_swapRows_0 : decode kb_M_swapRows 0 = .ok (.iconst 0, 1) := by decide +kernel
theorem kd_M_swapRows_1 : decode kb_M_swapRows 1 = .ok (.istore 4, 2) := by decide +kernel
theorem kd_M_swapRows_3 : decode kb_M_swapRows 3 = .ok (.iload 4, 2) := by decide +kernel
theorem kd_M_swapRows_5 : decode kb_M_swapRows 5 = .ok (.iload_n 3, 1) := by decide +kernel
theorem kd_M_swapRows_6 : decode kb_M_swapRows 6 = .ok (.if_icmp .ge 61, 3) := by decide +kernel
theorem kd_M_swapRows_9 : decode kb_M_swapRows 9 = .ok (.aload_n 0, 1) := by decide +kernel
theorem kd_M_swapRows_10 : decode kb_M_swapRows 10 = .ok (.getfield 26, 3) := by decide +kernel
theorem kd_M_swapRows_13 : decode kb_M_swapRows 13 = .ok (.bipush 10, 2) := by decide +kernel
theorem kd_M_swapRows_15 : decode kb_M_swapRows 15 = .ok (.iload_n 1, 1) := by decide +kernel
theorem kd_M_swapRows_16 : decode kb_M_swapRows 16 = .ok (.imul, 1) := by decide +kernel
theorem kd_M_swapRows_17 : decode kb_M_swapRows 17 = .ok (.iload 4, 2) := by decide +kernel
theorem kd_M_swapRows_19 : decode kb_M_swapRows 19 = .ok (.iadd, 1) := by decide +kernel
theorem kd_M_swapRows_20 : decode kb_M_swapRows 20 = .ok (.laload, 1) := by decide +kernel
theorem kd_M_swapRows_21 : decode kb_M_swapRows 21 = .ok (.lstore 5, 2) := by decide +kernel
theorem kd_M_swapRows_23 : decode kb_M_swapRows 23 = .ok (.aload_n 0, 1) := by decide +kernel
theorem kd_M_swapRows_24 : decode kb_M_swapRows 24 = .ok (.getfield 26, 3) := by decide +kernel
theorem kd_M_swapRows_27 : decode kb_M_swapRows 27 = .ok (.bipush 10, 2) := by decide +kernel
theorem kd_M_swapRows_29 : decode kb_M_swapRows 29 = .ok (.iload_n 1, 1) := by decide +kernel
theorem kd_M_swapRows_30 : decode kb_M_swapRows 30 = .ok (.imul, 1) := by decide +kernel
theorem kd_M_swapRows_31 : decode kb_M_swapRows 31 = .ok (.iload 4, 2) := by decide +kernel
theorem kd_M_swapRows_33 : decode kb_M_swapRows 33 = .ok (.iadd, 1) := by decide +kernel
theorem kd_M_swapRows_34 : decode kb_M_swapRows 34 = .ok (.aload_n 0, 1) := by decide +kernel
theorem kd_M_swapRows_35 : decode kb_M_swapRows 35 = .ok (.getfield 26, 3) := by decide +kernel
theorem kd_M_swapRows_38 : decode kb_M_swapRows 38 = .ok (.bipush 10, 2) := by decide +kernel
theorem kd_M_swapRows_40 : decode kb_M_swapRows 40 = .ok (.iload_n 2, 1) := by decide +kernel
theorem kd_M_swapRows_41 : decode kb_M_swapRows 41 = .ok (.imul, 1) := by decide +kernel
theorem kd_M_swapRows_42 : decode kb_M_swapRows 42 = .ok (.iload 4, 2) := by decide +kernel
theorem kd_M_swapRows_44 : decode kb_M_swapRows 44 = .ok (.iadd, 1) := by decide +kernel
theorem kd_M_swapRows_45 : decode kb_M_swapRows 45 = .ok (.laload, 1) := by decide +kernel
theorem kd_M_swapRows_46 : decode kb_M_swapRows 46 = .ok (.lastore, 1) := by decide +kernel
theorem kd_M_swapRows_47 : decode kb_M_swapRows 47 = .ok (.aload_n 0, 1) := by decide +kernel
theorem kd_M_swapRows_48 : decode kb_M_swapRows 48 = .ok (.getfield 26, 3) := by decide +kernel
theorem kd_M_swapRows_51 : decode kb_M_swapRows 51 = .ok (.bipush 10, 2) := by decide +kernel
theorem kd_M_swapRows_53 : decode kb_M_swapRows 53 = .ok (.iload_n 2, 1) := by decide +kernel
theorem kd_M_swapRows_54 : decode kb_M_swapRows 54 = .ok (.imul, 1) := by decide +kernel
theorem kd_M_swapRows_55 : decode kb_M_swapRows 55 = .ok (.iload 4, 2) := by decide +kernel
theorem kd_M_swapRows_57 : decode kb_M_swapRows 57 = .ok (.iadd, 1) := by decide +kernel
theorem kd_M_swapRows_58 : decode kb_M_swapRows 58 = .ok (.lload 5, 2) := by decide +kernel
theorem kd_M_swapRows_60 : decode kb_M_swapRows 60 = .ok (.lastore, 1) := by decide +kernel
theorem kd_M_swapRows_61 : decode kb_M_swapRows 61 = .ok (.iinc 4 1, 3) := by decide +kernel
theorem kd_M_swapRows_64 : decode kb_M_swapRows 64 = .ok (.goto (-61), 3) := by decide +kernel
theorem kd_M_swapRows_67 : decode kb_M_swapRows 67 = .ok (.return_, 1) := by decide +kernel
theorem kd_M_swapColumns_0 : decode kb_M_swapColumns 0 = .ok (.iconst 0, 1) := by decide +kernel
theorem kd_M_swapColumns_1 : decode kb_M_swapColumns 1 = .ok (.istore 4, 2) := by decide +kernel
theorem kd_M_swapColumns_3 : decode kb_M_swapColumns 3 = .ok (.iload 4, 2) := by decide +kernel
theorem kd_M_swapColumns_5 : decode kb_M_swapColumns 5 = .ok (.iload_n 3, 1) := by decide +kernel
theorem kd_M_swapColumns_6 : decode kb_M_swapColumns 6 = .ok (.if_icmp .ge 61, 3) := by decide +kernel
theorem kd_M_swapColumns_9 : decode kb_M_swapColumns 9 = .ok (.aload_n 0, 1) := by decide +kernel
theorem kd_M_swapColumns_10 : decode kb_M_swapColumns 10 = .ok (.getfield 26, 3) := by decide +kernel
theorem kd_M_swapColumns_13 : decode kb_M_swapColumns 13 = .ok (.bipush 10, 2) := by decide +kernel
theorem kd_M_swapColumns_15 : decode kb_M_swapColumns 15 = .ok (.iload 4, 2) := by decide +kernel
theorem kd_M_swapColumns_17 : decode kb_M_swapColumns 17 = .ok (.imul, 1) := by decide +kernel
theorem kd_M_swapColumns_18 : decode kb_M_swapColumns 18 = .ok (.iload_n 1, 1) := by decide +kernel
theorem kd_M_swapColumns_19 : decode kb_M_swapColumns 19 = .ok (.iadd, 1) := by decide +kernel
theorem kd_M_swapColumns_20 : decode kb_M_swapColumns 20 = .ok (.laload, 1) := by decide +kernel
theorem kd_M_swapColumns_21 : decode kb_M_swapColumns 21 = .ok (.lstore 5, 2) := by decide +kernel
theorem kd_M_swapColumns_23 : decode kb_M_swapColumns 23 = .ok (.aload_n 0, 1) := by decide +kernel
theorem kd_M_swapColumns_24 : decode kb_M_swapColumns 24 = .ok (.getfield 26, 3) := by decide +kernel
theorem kd_M_swapColumns_27 : decode kb_M_swapColumns 27 = .ok (.bipush 10, 2) := by decide +kernel
theorem kd_M_swapColumns_29 : decode kb_M_swapColumns 29 = .ok (.iload 4, 2) := by decide +kernel
theorem kd_M_swapColumns_31 : decode kb_M_swapColumns 31 = .ok (.imul, 1) := by decide +kernel
theorem kd_M_swapColumns_32 : decode kb_M_swapColumns 32 = .ok (.iload_n 1, 1) := by decide +kernel
theorem kd_M_swapColumns_33 : decode kb_M_swapColumns 33 = .ok (.iadd, 1) := by decide +kernel
theorem kd_M_swapColumns_34 : decode kb_M_swapColumns 34 = .ok (.aload_n 0, 1) := by decide +kernel
theorem kd_M_swapColumns_35 : decode kb_M_swapColumns 35 = .ok (.getfield 26, 3) := by decide +kernel
theorem kd_M_swapColumns_38 : decode kb_M_swapColumns 38 = .ok (.bipush 10, 2) := by decide +kernel
theorem kd_M_swapColumns_40 : decode kb_M_swapColumns 40 = .ok (.iload 4, 2) := by decide +kernel
theorem kd_M_swapColumns_42 : decode kb_M_swapColumns 42 = .ok (.imul, 1) := by decide +kernel
theorem kd_M_swapColumns_43 : decode kb_M_swapColumns 43 = .ok (.iload_n 2, 1) := by decide +kernel
theorem kd_M_swapColumns_44 : decode kb_M_swapColumns 44 = .ok (.iadd, 1) := by decide +kernel
theorem kd_M_swapColumns_45 : decode kb_M_swapColumns 45 = .ok (.laload, 1) := by decide +kernel
theorem kd_M_swapColumns_46 : decode kb_M_swapColumns 46 = .ok (.lastore, 1) := by decide +kernel
theorem kd_M_swapColumns_47 : decode kb_M_swapColumns 47 = .ok (.aload_n 0, 1) := by decide +kernel
theorem kd_M_swapColumns_48 : decode kb_M_swapColumns 48 = .ok (.getfield 26, 3) := by decide +kernel
theorem kd_M_swapColumns_51 : decode kb_M_swapColumns 51 = .ok (.bipush 10, 2) := by decide +kernel
theorem kd_M_swapColumns_53 : decode kb_M_swapColumns 53 = .ok (.iload 4, 2) := by decide +kernel
theorem kd_M_swapColumns_55 : decode kb_M_swapColumns 55 = .ok (.imul, 1) := by decide +kernel
theorem kd_M_swapColumns_56 : decode kb_M_swapColumns 56 = .ok (.iload_n 2, 1) := by decide +kernel
theorem kd_M_swapColumns_57 : decode kb_M_swapColumns 57 = .ok (.iadd, 1) := by decide +kernel
theorem kd_M_swapColumns_58 : decode kb_M_swapColumns 58 = .ok (.lload 5, 2) := by decide +kernel
theorem kd_M_swapColumns_60 : decode kb_M_swapColumns 60 = .ok (.lastore, 1) := by decide +kernel
theorem kd_M_swapColumns_61 : decode kb_M_swapColumns 61 = .ok (.iinc 4 1, 3) := by decide +kernel
theorem kd_M_swapColumns_64 : decode kb_M_swapColumns 64 = .ok (.goto (-61), 3) := by decide +kernel
theorem kd_M_swapColumns_67 : decode kb_M_swapColumns 67 = .ok (.return_, 1) := by decide +kernel
theorem kd_M_clearCross_0 : decode kb_M_clearCross 0 = .ok (.iconst 1, 1) := by decide +kernel
theorem kd_M_clearCross_1 : decode kb_M_clearCross 1 = .ok (.istore 5, 2) := by decide +kernel
theorem kd_M_clearCross_3 : decode kb_M_clearCross 3 = .ok (.iload 5, 2) := by decide +kernel
theorem kd_M_clearCross_5 : decode kb_M_clearCross 5 = .ok (.ifCond .eq 272, 3) := by decide +kernel
theorem kd_M_clearCross_8 : decode kb_M_clearCross 8 = .ok (.iconst 0, 1) := by decide +kernel
theorem kd_M_clearCross_9 : decode kb_M_clearCross 9 = .ok (.istore 5, 2) := by decide +kernel
theorem kd_M_clearCross_11 : decode kb_M_clearCross 11 = .ok (.iload_n 1, 1) := by decide +kernel
theorem kd_M_clearCross_12 : decode kb_M_clearCross 12 = .ok (.iconst 1, 1) := by decide +kernel
theorem kd_M_clearCross_13 : decode kb_M_clearCross 13 = .ok (.iadd, 1) := by decide +kernel
theorem kd_M_clearCross_14 : decode kb_M_clearCross 14 = .ok (.istore 6, 2) := by decide +kernel
theorem kd_M_clearCross_16 : decode kb_M_clearCross 16 = .ok (.iload 6, 2) := by decide +kernel
theorem kd_M_clearCross_18 : decode kb_M_clearCross 18 = .ok (.iload_n 2, 1) := by decide +kernel
theorem kd_M_clearCross_19 : decode kb_M_clearCross 19 = .ok (.if_icmp .ge 99, 3) := by decide +kernel
theorem kd_M_clearCross_22 : decode kb_M_clearCross 22 = .ok (.aload_n 0, 1) := by decide +kernel
theorem kd_M_clearCross_23 : decode kb_M_clearCross 23 = .ok (.getfield 26, 3) := by decide +kernel
theorem kd_M_clearCross_26 : decode kb_M_clearCross 26 = .ok (.bipush 10, 2) := by decide +kernel
theorem kd_M_clearCross_28 : decode kb_M_clearCross 28 = .ok (.iload 6, 2) := by decide +kernel
theorem kd_M_clearCross_30 : decode kb_M_clearCross 30 = .ok (.imul, 1) := by decide +kernel
theorem kd_M_clearCross_31 : decode kb_M_clearCross 31 = .ok (.iload_n 1, 1) := by decide +kernel
theorem kd_M_clearCross_32 : decode kb_M_clearCross 32 = .ok (.iadd, 1) := by decide +kernel
theorem kd_M_clearCross_33 : decode kb_M_clearCross 33 = .ok (.laload, 1) := by decide +kernel
theorem kd_M_clearCross_34 : decode kb_M_clearCross 34 = .ok (.lconst 0, 1) := by decide +kernel
theorem kd_M_clearCross_35 : decode kb_M_clearCross 35 = .ok (.lcmp, 1) := by decide +kernel
theorem kd_M_clearCross_36 : decode kb_M_clearCross 36 = .ok (.ifCond .eq 76, 3) := by decide +kernel
theorem kd_M_clearCross_39 : decode kb_M_clearCross 39 = .ok (.aload_n 0, 1) := by decide +kernel
theorem kd_M_clearCross_40 : decode kb_M_clearCross 40 = .ok (.getfield 26, 3) := by decide +kernel
theorem kd_M_clearCross_43 : decode kb_M_clearCross 43 = .ok (.bipush 11, 2) := by decide +kernel
theorem kd_M_clearCross_45 : decode kb_M_clearCross 45 = .ok (.iload_n 1, 1) := by decide +kernel
theorem kd_M_clearCross_46 : decode kb_M_clearCross 46 = .ok (.imul, 1) := by decide +kernel
theorem kd_M_clearCross_47 : decode kb_M_clearCross 47 = .ok (.laload, 1) := by decide +kernel
theorem kd_M_clearCross_48 : decode kb_M_clearCross 48 = .ok (.lconst 0, 1) := by decide +kernel
theorem kd_M_clearCross_49 : decode kb_M_clearCross 49 = .ok (.lcmp, 1) := by decide +kernel
theorem kd_M_clearCross_50 : decode kb_M_clearCross 50 = .ok (.ifCond .eq 34, 3) := by decide +kernel
theorem kd_M_clearCross_53 : decode kb_M_clearCross 53 = .ok (.aload_n 0, 1) := by decide +kernel
theorem kd_M_clearCross_54 : decode kb_M_clearCross 54 = .ok (.iload 6, 2) := by decide +kernel
theorem kd_M_clearCross_56 : decode kb_M_clearCross 56 = .ok (.iload_n 1, 1) := by decide +kernel
theorem kd_M_clearCross_57 : decode kb_M_clearCross 57 = .ok (.aload_n 0, 1) := by decide +kernel
theorem kd_M_clearCross_58 : decode kb_M_clearCross 58 = .ok (.getfield 26, 3) := by decide +kernel
theorem kd_M_clearCross_61 : decode kb_M_clearCross 61 = .ok (.bipush 10, 2) := by decide +kernel
theorem kd_M_clearCross_63 : decode kb_M_clearCross 63 = .ok (.iload 6, 2) := by decide +kernel
theorem kd_M_clearCross_65 : decode kb_M_clearCross 65 = .ok (.imul, 1) := by decide +kernel
theorem kd_M_clearCross_66 : decode kb_M_clearCross 66 = .ok (.iload_n 1, 1) := by decide +kernel
theorem kd_M_clearCross_67 : decode kb_M_clearCross 67 = .ok (.iadd, 1) := by decide +kernel
theorem kd_M_clearCross_68 : decode kb_M_clearCross 68 = .ok (.laload, 1) := by decide +kernel
theorem kd_M_clearCross_69 : decode kb_M_clearCross 69 = .ok (.aload_n 0, 1) := by decide +kernel
theorem kd_M_clearCross_70 : decode kb_M_clearCross 70 = .ok (.getfield 26, 3) := by decide +kernel
theorem kd_M_clearCross_73 : decode kb_M_clearCross 73 = .ok (.bipush 11, 2) := by decide +kernel
theorem kd_M_clearCross_75 : decode kb_M_clearCross 75 = .ok (.iload_n 1, 1) := by decide +kernel
theorem kd_M_clearCross_76 : decode kb_M_clearCross 76 = .ok (.imul, 1) := by decide +kernel
theorem kd_M_clearCross_77 : decode kb_M_clearCross 77 = .ok (.laload, 1) := by decide +kernel
theorem kd_M_clearCross_78 : decode kb_M_clearCross 78 = .ok (.ldiv, 1) := by decide +kernel
theorem kd_M_clearCross_79 : decode kb_M_clearCross 79 = .ok (.iload_n 2, 1) := by decide +kernel
theorem kd_M_clearCross_80 : decode kb_M_clearCross 80 = .ok (.lload_n 3, 1) := by decide +kernel
theorem kd_M_clearCross_81 : decode kb_M_clearCross 81 = .ok (.invokevirtual 169, 3) := by decide +kernel
theorem kd_M_clearCross_84 : decode kb_M_clearCross 84 = .ok (.aload_n 0, 1) := by decide +kernel
theorem kd_M_clearCross_85 : decode kb_M_clearCross 85 = .ok (.getfield 26, 3) := by decide +kernel
theorem kd_M_clearCross_88 : decode kb_M_clearCross 88 = .ok (.bipush 10, 2) := by decide +kernel
theorem kd_M_clearCross_90 : decode kb_M_clearCross 90 = .ok (.iload 6, 2) := by decide +kernel
theorem kd_M_clearCross_92 : decode kb_M_clearCross 92 = .ok (.imul, 1) := by decide +kernel
theorem kd_M_clearCross_93 : decode kb_M_clearCross 93 = .ok (.iload_n 1, 1) := by decide +kernel
theorem kd_M_clearCross_94 : decode kb_M_clearCross 94 = .ok (.iadd, 1) := by decide +kernel
theorem kd_M_clearCross_95 : decode kb_M_clearCross 95 = .ok (.laload, 1) := by decide +kernel
theorem kd_M_clearCross_96 : decode kb_M_clearCross 96 = .ok (.lconst 0, 1) := by decide +kernel
theorem kd_M_clearCross_97 : decode kb_M_clearCross 97 = .ok (.lcmp, 1) := by decide +kernel
theorem kd_M_clearCross_98 : decode kb_M_clearCross 98 = .ok (.ifCond .eq (-76), 3) := by decide +kernel
theorem kd_M_clearCross_101 : decode kb_M_clearCross 101 = .ok (.aload_n 0, 1) := by decide +kernel
theorem kd_M_clearCross_102 : decode kb_M_clearCross 102 = .ok (.iload 6, 2) := by decide +kernel
theorem kd_M_clearCross_104 : decode kb_M_clearCross 104 = .ok (.iload_n 1, 1) := by decide +kernel
theorem kd_M_clearCross_105 : decode kb_M_clearCross 105 = .ok (.iload_n 2, 1) := by decide +kernel
theorem kd_M_clearCross_106 : decode kb_M_clearCross 106 = .ok (.invokevirtual 173, 3) := by decide +kernel
theorem kd_M_clearCross_109 : decode kb_M_clearCross 109 = .ok (.goto (-87), 3) := by decide +kernel
theorem kd_M_clearCross_112 : decode kb_M_clearCross 112 = .ok (.iinc 6 1, 3) := by decide +kernel
theorem kd_M_clearCross_115 : decode kb_M_clearCross 115 = .ok (.goto (-99), 3) := by decide +kernel
theorem kd_M_clearCross_118 : decode kb_M_clearCross 118 = .ok (.iload_n 1, 1) := by decide +kernel
theorem kd_M_clearCross_119 : decode kb_M_clearCross 119 = .ok (.iconst 1, 1) := by decide +kernel
theorem kd_M_clearCross_120 : decode kb_M_clearCross 120 = .ok (.iadd, 1) := by decide +kernel
theorem kd_M_clearCross_121 : decode kb_M_clearCross 121 = .ok (.istore 6, 2) := by decide +kernel
theorem kd_M_clearCross_123 : decode kb_M_clearCross 123 = .ok (.iload 6, 2) := by decide +kernel
theorem kd_M_clearCross_125 : decode kb_M_clearCross 125 = .ok (.iload_n 2, 1) := by decide +kernel
theorem kd_M_clearCross_126 : decode kb_M_clearCross 126 = .ok (.if_icmp .ge 102, 3) := by decide +kernel
theorem kd_M_clearCross_129 : decode kb_M_clearCross 129 = .ok (.aload_n 0, 1) := by decide +kernel
theorem kd_M_clearCross_130 : decode kb_M_clearCross 130 = .ok (.getfield 26, 3) := by decide +kernel
theorem kd_M_clearCross_133 : decode kb_M_clearCross 133 = .ok (.bipush 10, 2) := by decide +kernel
theorem kd_M_clearCross_135 : decode kb_M_clearCross 135 = .ok (.iload_n 1, 1) := by decide +kernel
theorem kd_M_clearCross_136 : decode kb_M_clearCross 136 = .ok (.imul, 1) := by decide +kernel
theorem kd_M_clearCross_137 : decode kb_M_clearCross 137 = .ok (.iload 6, 2) := by decide +kernel
theorem kd_M_clearCross_139 : decode kb_M_clearCross 139 = .ok (.iadd, 1) := by decide +kernel
theorem kd_M_clearCross_140 : decode kb_M_clearCross 140 = .ok (.laload, 1) := by decide +kernel
theorem kd_M_clearCross_141 : decode kb_M_clearCross 141 = .ok (.lconst 0, 1) := by decide +kernel
theorem kd_M_clearCross_142 : decode kb_M_clearCross 142 = .ok (.lcmp, 1) := by decide +kernel
theorem kd_M_clearCross_143 : decode kb_M_clearCross 143 = .ok (.ifCond .eq 79, 3) := by decide +kernel
theorem kd_M_clearCross_146 : decode kb_M_clearCross 146 = .ok (.aload_n 0, 1) := by decide +kernel
theorem kd_M_clearCross_147 : decode kb_M_clearCross 147 = .ok (.getfield 26, 3) := by decide +kernel
theorem kd_M_clearCross_150 : decode kb_M_clearCross 150 = .ok (.bipush 11, 2) := by decide +kernel
theorem kd_M_clearCross_152 : decode kb_M_clearCross 152 = .ok (.iload_n 1, 1) := by decide +kernel
theorem kd_M_clearCross_153 : decode kb_M_clearCross 153 = .ok (.imul, 1) := by decide +kernel
theorem kd_M_clearCross_154 : decode kb_M_clearCross 154 = .ok (.laload, 1) := by decide +kernel
theorem kd_M_clearCross_155 : decode kb_M_clearCross 155 = .ok (.lconst 0, 1) := by decide +kernel
theorem kd_M_clearCross_156 : decode kb_M_clearCross 156 = .ok (.lcmp, 1) := by decide +kernel
theorem kd_M_clearCross_157 : decode kb_M_clearCross 157 = .ok (.ifCond .eq 34, 3) := by decide +kernel
theorem kd_M_clearCross_160 : decode kb_M_clearCross 160 = .ok (.aload_n 0, 1) := by decide +kernel
theorem kd_M_clearCross_161 : decode kb_M_clearCross 161 = .ok (.iload 6, 2) := by decide +kernel
theorem kd_M_clearCross_163 : decode kb_M_clearCross 163 = .ok (.iload_n 1, 1) := by decide +kernel
theorem kd_M_clearCross_164 : decode kb_M_clearCross 164 = .ok (.aload_n 0, 1) := by decide +kernel
theorem kd_M_clearCross_165 : decode kb_M_clearCross 165 = .ok (.getfield 26, 3) := by decide +kernel
theorem kd_M_clearCross_168 : decode kb_M_clearCross 168 = .ok (.bipush 10, 2) := by decide +kernel
theorem kd_M_clearCross_170 : decode kb_M_clearCross 170 = .ok (.iload_n 1, 1) := by decide +kernel
theorem kd_M_clearCross_171 : decode kb_M_clearCross 171 = .ok (.imul, 1) := by decide +kernel
theorem kd_M_clearCross_172 : decode kb_M_clearCross 172 = .ok (.iload 6, 2) := by decide +kernel
theorem kd_M_clearCross_174 : decode kb_M_clearCross 174 = .ok (.iadd, 1) := by decide +kernel
theorem kd_M_clearCross_175 : decode kb_M_clearCross 175 = .ok (.laload, 1) := by decide +kernel
theorem kd_M_clearCross_176 : decode kb_M_clearCross 176 = .ok (.aload_n 0, 1) := by decide +kernel
theorem kd_M_clearCross_177 : decode kb_M_clearCross 177 = .ok (.getfield 26, 3) := by decide +kernel
theorem kd_M_clearCross_180 : decode kb_M_clearCross 180 = .ok (.bipush 11, 2) := by decide +kernel
theorem kd_M_clearCross_182 : decode kb_M_clearCross 182 = .ok (.iload_n 1, 1) := by decide +kernel
theorem kd_M_clearCross_183 : decode kb_M_clearCross 183 = .ok (.imul, 1) := by decide +kernel
theorem kd_M_clearCross_184 : decode kb_M_clearCross 184 = .ok (.laload, 1) := by decide +kernel
theorem kd_M_clearCross_185 : decode kb_M_clearCross 185 = .ok (.ldiv, 1) := by decide +kernel
theorem kd_M_clearCross_186 : decode kb_M_clearCross 186 = .ok (.iload_n 2, 1) := by decide +kernel
theorem kd_M_clearCross_187 : decode kb_M_clearCross 187 = .ok (.lload_n 3, 1) := by decide +kernel
theorem kd_M_clearCross_188 : decode kb_M_clearCross 188 = .ok (.invokevirtual 177, 3) := by decide +kernel
theorem kd_M_clearCross_191 : decode kb_M_clearCross 191 = .ok (.aload_n 0, 1) := by decide +kernel
theorem kd_M_clearCross_192 : decode kb_M_clearCross 192 = .ok (.getfield 26, 3) := by decide +kernel
theorem kd_M_clearCross_195 : decode kb_M_clearCross 195 = .ok (.bipush 10, 2) := by decide +kernel
theorem kd_M_clearCross_197 : decode kb_M_clearCross 197 = .ok (.iload_n 1, 1) := by decide +kernel
theorem kd_M_clearCross_198 : decode kb_M_clearCross 198 = .ok (.imul, 1) := by decide +kernel
theorem kd_M_clearCross_199 : decode kb_M_clearCross 199 = .ok (.iload 6, 2) := by decide +kernel
theorem kd_M_clearCross_201 : decode kb_M_clearCross 201 = .ok (.iadd, 1) := by decide +kernel
theorem kd_M_clearCross_202 : decode kb_M_clearCross 202 = .ok (.laload, 1) := by decide +kernel
theorem kd_M_clearCross_203 : decode kb_M_clearCross 203 = .ok (.lconst 0, 1) := by decide +kernel
theorem kd_M_clearCross_204 : decode kb_M_clearCross 204 = .ok (.lcmp, 1) := by decide +kernel
theorem kd_M_clearCross_205 : decode kb_M_clearCross 205 = .ok (.ifCond .eq (-76), 3) := by decide +kernel
theorem kd_M_clearCross_208 : decode kb_M_clearCross 208 = .ok (.aload_n 0, 1) := by decide +kernel
theorem kd_M_clearCross_209 : decode kb_M_clearCross 209 = .ok (.iload 6, 2) := by decide +kernel
theorem kd_M_clearCross_211 : decode kb_M_clearCross 211 = .ok (.iload_n 1, 1) := by decide +kernel
theorem kd_M_clearCross_212 : decode kb_M_clearCross 212 = .ok (.iload_n 2, 1) := by decide +kernel
theorem kd_M_clearCross_213 : decode kb_M_clearCross 213 = .ok (.invokevirtual 180, 3) := by decide +kernel
theorem kd_M_clearCross_216 : decode kb_M_clearCross 216 = .ok (.iconst 1, 1) := by decide +kernel
theorem kd_M_clearCross_217 : decode kb_M_clearCross 217 = .ok (.istore 5, 2) := by decide +kernel
theorem kd_M_clearCross_219 : decode kb_M_clearCross 219 = .ok (.goto (-90), 3) := by decide +kernel
theorem kd_M_clearCross_222 : decode kb_M_clearCross 222 = .ok (.iinc 6 1, 3) := by decide +kernel
theorem kd_M_clearCross_225 : decode kb_M_clearCross 225 = .ok (.goto (-102), 3) := by decide +kernel
theorem kd_M_clearCross_228 : decode kb_M_clearCross 228 = .ok (.iload_n 1, 1) := by decide +kernel
theorem kd_M_clearCross_229 : decode kb_M_clearCross 229 = .ok (.iconst 1, 1) := by decide +kernel
theorem kd_M_clearCross_230 : decode kb_M_clearCross 230 = .ok (.iadd, 1) := by decide +kernel
theorem kd_M_clearCross_231 : decode kb_M_clearCross 231 = .ok (.istore 6, 2) := by decide +kernel
theorem kd_M_clearCross_233 : decode kb_M_clearCross 233 = .ok (.iload 6, 2) := by decide +kernel
theorem kd_M_clearCross_235 : decode kb_M_clearCross 235 = .ok (.iload_n 2, 1) := by decide +kernel
theorem kd_M_clearCross_236 : decode kb_M_clearCross 236 = .ok (.if_icmp .ge 38, 3) := by decide +kernel
theorem kd_M_clearCross_239 : decode kb_M_clearCross 239 = .ok (.iload 5, 2) := by decide +kernel
theorem kd_M_clearCross_241 : decode kb_M_clearCross 241 = .ok (.ifCond .ne 20, 3) := by decide +kernel
theorem kd_M_clearCross_244 : decode kb_M_clearCross 244 = .ok (.aload_n 0, 1) := by decide +kernel
theorem kd_M_clearCross_245 : decode kb_M_clearCross 245 = .ok (.getfield 26, 3) := by decide +kernel
theorem kd_M_clearCross_248 : decode kb_M_clearCross 248 = .ok (.bipush 10, 2) := by decide +kernel
theorem kd_M_clearCross_250 : decode kb_M_clearCross 250 = .ok (.iload 6, 2) := by decide +kernel
theorem kd_M_clearCross_252 : decode kb_M_clearCross 252 = .ok (.imul, 1) := by decide +kernel
theorem kd_M_clearCross_253 : decode kb_M_clearCross 253 = .ok (.iload_n 1, 1) := by decide +kernel
theorem kd_M_clearCross_254 : decode kb_M_clearCross 254 = .ok (.iadd, 1) := by decide +kernel
theorem kd_M_clearCross_255 : decode kb_M_clearCross 255 = .ok (.laload, 1) := by decide +kernel
theorem kd_M_clearCross_256 : decode kb_M_clearCross 256 = .ok (.lconst 0, 1) := by decide +kernel
theorem kd_M_clearCross_257 : decode kb_M_clearCross 257 = .ok (.lcmp, 1) := by decide +kernel
theorem kd_M_clearCross_258 : decode kb_M_clearCross 258 = .ok (.ifCond .eq 7, 3) := by decide +kernel
theorem kd_M_clearCross_261 : decode kb_M_clearCross 261 = .ok (.iconst 1, 1) := by decide +kernel
theorem kd_M_clearCross_262 : decode kb_M_clearCross 262 = .ok (.goto 4, 3) := by decide +kernel
theorem kd_M_clearCross_265 : decode kb_M_clearCross 265 = .ok (.iconst 0, 1) := by decide +kernel
theorem kd_M_clearCross_266 : decode kb_M_clearCross 266 = .ok (.istore 5, 2) := by decide +kernel
theorem kd_M_clearCross_268 : decode kb_M_clearCross 268 = .ok (.iinc 6 1, 3) := by decide +kernel
theorem kd_M_clearCross_271 : decode kb_M_clearCross 271 = .ok (.goto (-38), 3) := by decide +kernel
theorem kd_M_clearCross_274 : decode kb_M_clearCross 274 = .ok (.goto (-271), 3) := by decide +kernel
theorem kd_M_clearCross_277 : decode kb_M_clearCross 277 = .ok (.return_, 1) := by decide +kernel
theorem kd_M_commonFrom_0 : decode kb_M_commonFrom 0 = .ok (.lload_n 3, 1) := by decide +kernel
theorem kd_M_commonFrom_1 : decode kb_M_commonFrom 1 = .ok (.lstore 5, 2) := by decide +kernel
theorem kd_M_commonFrom_3 : decode kb_M_commonFrom 3 = .ok (.iload_n 1, 1) := by decide +kernel
theorem kd_M_commonFrom_4 : decode kb_M_commonFrom 4 = .ok (.istore 7, 2) := by decide +kernel
theorem kd_M_commonFrom_6 : decode kb_M_commonFrom 6 = .ok (.iload 7, 2) := by decide +kernel
theorem kd_M_commonFrom_8 : decode kb_M_commonFrom 8 = .ok (.iload_n 2, 1) := by decide +kernel
theorem kd_M_commonFrom_9 : decode kb_M_commonFrom 9 = .ok (.if_icmp .ge 44, 3) := by decide +kernel
theorem kd_M_commonFrom_12 : decode kb_M_commonFrom 12 = .ok (.iload_n 1, 1) := by decide +kernel
theorem kd_M_commonFrom_13 : decode kb_M_commonFrom 13 = .ok (.istore 8, 2) := by decide +kernel
theorem kd_M_commonFrom_15 : decode kb_M_commonFrom 15 = .ok (.iload 8, 2) := by decide +kernel
theorem kd_M_commonFrom_17 : decode kb_M_commonFrom 17 = .ok (.iload_n 2, 1) := by decide +kernel
theorem kd_M_commonFrom_18 : decode kb_M_commonFrom 18 = .ok (.if_icmp .ge 29, 3) := by decide +kernel
theorem kd_M_commonFrom_21 : decode kb_M_commonFrom 21 = .ok (.lload 5, 2) := by decide +kernel
theorem kd_M_commonFrom_23 : decode kb_M_commonFrom 23 = .ok (.aload_n 0, 1) := by decide +kernel
theorem kd_M_commonFrom_24 : decode kb_M_commonFrom 24 = .ok (.getfield 26, 3) := by decide +kernel
theorem kd_M_commonFrom_27 : decode kb_M_commonFrom 27 = .ok (.bipush 10, 2) := by decide +kernel
theorem kd_M_commonFrom_29 : decode kb_M_commonFrom 29 = .ok (.iload 7, 2) := by decide +kernel
theorem kd_M_commonFrom_31 : decode kb_M_commonFrom 31 = .ok (.imul, 1) := by decide +kernel
theorem kd_M_commonFrom_32 : decode kb_M_commonFrom 32 = .ok (.iload 8, 2) := by decide +kernel
theorem kd_M_commonFrom_34 : decode kb_M_commonFrom 34 = .ok (.iadd, 1) := by decide +kernel
theorem kd_M_commonFrom_35 : decode kb_M_commonFrom 35 = .ok (.laload, 1) := by decide +kernel
theorem kd_M_commonFrom_36 : decode kb_M_commonFrom 36 = .ok (.invokestatic 140, 3) := by decide +kernel
theorem kd_M_commonFrom_39 : decode kb_M_commonFrom 39 = .ok (.lstore 5, 2) := by decide +kernel
theorem kd_M_commonFrom_41 : decode kb_M_commonFrom 41 = .ok (.iinc 8 1, 3) := by decide +kernel
theorem kd_M_commonFrom_44 : decode kb_M_commonFrom 44 = .ok (.goto (-29), 3) := by decide +kernel
theorem kd_M_commonFrom_47 : decode kb_M_commonFrom 47 = .ok (.iinc 7 1, 3) := by decide +kernel
theorem kd_M_commonFrom_50 : decode kb_M_commonFrom 50 = .ok (.goto (-44), 3) := by decide +kernel
theorem kd_M_commonFrom_53 : decode kb_M_commonFrom 53 = .ok (.lload 5, 2) := by decide +kernel
theorem kd_M_commonFrom_55 : decode kb_M_commonFrom 55 = .ok (.lreturn, 1) := by decide +kernel
theorem kd_M_findRounds_0 : decode kb_M_findRounds 0 = .ok (.aload_n 0, 1) := by decide +kernel
theorem kd_M_findRounds_1 : decode kb_M_findRounds 1 = .ok (.invokevirtual 133, 3) := by decide +kernel
theorem kd_M_findRounds_4 : decode kb_M_findRounds 4 = .ok (.lstore_n 1, 1) := by decide +kernel
theorem kd_M_findRounds_5 : decode kb_M_findRounds 5 = .ok (.aload_n 0, 1) := by decide +kernel
theorem kd_M_findRounds_6 : decode kb_M_findRounds 6 = .ok (.iconst 0, 1) := by decide +kernel
theorem kd_M_findRounds_7 : decode kb_M_findRounds 7 = .ok (.putfield 183, 3) := by decide +kernel
theorem kd_M_findRounds_10 : decode kb_M_findRounds 10 = .ok (.lload_n 1, 1) := by decide +kernel
theorem kd_M_findRounds_11 : decode kb_M_findRounds 11 = .ok (.lconst 0, 1) := by decide +kernel
theorem kd_M_findRounds_12 : decode kb_M_findRounds 12 = .ok (.lcmp, 1) := by decide +kernel
theorem kd_M_findRounds_13 : decode kb_M_findRounds 13 = .ok (.ifCond .ne 5, 3) := by decide +kernel
theorem kd_M_findRounds_16 : decode kb_M_findRounds 16 = .ok (.iconst 0, 1) := by decide +kernel
theorem kd_M_findRounds_17 : decode kb_M_findRounds 17 = .ok (.ireturn, 1) := by decide +kernel
theorem kd_M_findRounds_18 : decode kb_M_findRounds 18 = .ok (.aload_n 0, 1) := by decide +kernel
theorem kd_M_findRounds_19 : decode kb_M_findRounds 19 = .ok (.aload_n 0, 1) := by decide +kernel
theorem kd_M_findRounds_20 : decode kb_M_findRounds 20 = .ok (.getfield 32, 3) := by decide +kernel
theorem kd_M_findRounds_23 : decode kb_M_findRounds 23 = .ok (.iconst 0, 1) := by decide +kernel
theorem kd_M_findRounds_24 : decode kb_M_findRounds 24 = .ok (.iaload, 1) := by decide +kernel
theorem kd_M_findRounds_25 : decode kb_M_findRounds 25 = .ok (.iconst (-1), 1) := by decide +kernel
theorem kd_M_findRounds_26 : decode kb_M_findRounds 26 = .ok (.invokevirtual 109, 3) := by decide +kernel
theorem kd_M_findRounds_29 : decode kb_M_findRounds 29 = .ok (.istore_n 3, 1) := by decide +kernel
theorem kd_M_findRounds_30 : decode kb_M_findRounds 30 = .ok (.aload_n 0, 1) := by decide +kernel
theorem kd_M_findRounds_31 : decode kb_M_findRounds 31 = .ok (.lconst 0, 1) := by decide +kernel
theorem kd_M_findRounds_32 : decode kb_M_findRounds 32 = .ok (.invokevirtual 113, 3) := by decide +kernel
theorem kd_M_findRounds_35 : decode kb_M_findRounds 35 = .ok (.iconst 0, 1) := by decide +kernel
theorem kd_M_findRounds_36 : decode kb_M_findRounds 36 = .ok (.istore 4, 2) := by decide +kernel
theorem kd_M_findRounds_38 : decode kb_M_findRounds 38 = .ok (.iload 4, 2) := by decide +kernel
theorem kd_M_findRounds_40 : decode kb_M_findRounds 40 = .ok (.iload_n 3, 1) := by decide +kernel
theorem kd_M_findRounds_41 : decode kb_M_findRounds 41 = .ok (.if_icmp .ge 56, 3) := by decide +kernel
theorem kd_M_findRounds_44 : decode kb_M_findRounds 44 = .ok (.iconst 0, 1) := by decide +kernel
theorem kd_M_findRounds_45 : decode kb_M_findRounds 45 = .ok (.istore 5, 2) := by decide +kernel
theorem kd_M_findRounds_47 : decode kb_M_findRounds 47 = .ok (.iload 5, 2) := by decide +kernel
theorem kd_M_findRounds_49 : decode kb_M_findRounds 49 = .ok (.iload_n 3, 1) := by decide +kernel
theorem kd_M_findRounds_50 : decode kb_M_findRounds 50 = .ok (.if_icmp .ge 41, 3) := by decide +kernel
theorem kd_M_findRounds_53 : decode kb_M_findRounds 53 = .ok (.aload_n 0, 1) := by decide +kernel
theorem kd_M_findRounds_54 : decode kb_M_findRounds 54 = .ok (.getfield 26, 3) := by decide +kernel
theorem kd_M_findRounds_57 : decode kb_M_findRounds 57 = .ok (.bipush 10, 2) := by decide +kernel
theorem kd_M_findRounds_59 : decode kb_M_findRounds 59 = .ok (.iload 4, 2) := by decide +kernel
theorem kd_M_findRounds_61 : decode kb_M_findRounds 61 = .ok (.imul, 1) := by decide +kernel
theorem kd_M_findRounds_62 : decode kb_M_findRounds 62 = .ok (.iload 5, 2) := by decide +kernel
theorem kd_M_findRounds_64 : decode kb_M_findRounds 64 = .ok (.iadd, 1) := by decide +kernel
theorem kd_M_findRounds_65 : decode kb_M_findRounds 65 = .ok (.aload_n 0, 1) := by decide +kernel
theorem kd_M_findRounds_66 : decode kb_M_findRounds 66 = .ok (.getfield 26, 3) := by decide +kernel
theorem kd_M_findRounds_69 : decode kb_M_findRounds 69 = .ok (.bipush 10, 2) := by decide +kernel
theorem kd_M_findRounds_71 : decode kb_M_findRounds 71 = .ok (.iload 4, 2) := by decide +kernel
theorem kd_M_findRounds_73 : decode kb_M_findRounds 73 = .ok (.imul, 1) := by decide +kernel
theorem kd_M_findRounds_74 : decode kb_M_findRounds 74 = .ok (.iload 5, 2) := by decide +kernel
theorem kd_M_findRounds_76 : decode kb_M_findRounds 76 = .ok (.iadd, 1) := by decide +kernel
theorem kd_M_findRounds_77 : decode kb_M_findRounds 77 = .ok (.laload, 1) := by decide +kernel
theorem kd_M_findRounds_78 : decode kb_M_findRounds 78 = .ok (.lload_n 1, 1) := by decide +kernel
theorem kd_M_findRounds_79 : decode kb_M_findRounds 79 = .ok (.lrem, 1) := by decide +kernel
theorem kd_M_findRounds_80 : decode kb_M_findRounds 80 = .ok (.lload_n 1, 1) := by decide +kernel
theorem kd_M_findRounds_81 : decode kb_M_findRounds 81 = .ok (.ladd, 1) := by decide +kernel
theorem kd_M_findRounds_82 : decode kb_M_findRounds 82 = .ok (.lload_n 1, 1) := by decide +kernel
theorem kd_M_findRounds_83 : decode kb_M_findRounds 83 = .ok (.lrem, 1) := by decide +kernel
theorem kd_M_findRounds_84 : decode kb_M_findRounds 84 = .ok (.lastore, 1) := by decide +kernel
theorem kd_M_findRounds_85 : decode kb_M_findRounds 85 = .ok (.iinc 5 1, 3) := by decide +kernel
theorem kd_M_findRounds_88 : decode kb_M_findRounds 88 = .ok (.goto (-41), 3) := by decide +kernel
theorem kd_M_findRounds_91 : decode kb_M_findRounds 91 = .ok (.iinc 4 1, 3) := by decide +kernel
theorem kd_M_findRounds_94 : decode kb_M_findRounds 94 = .ok (.goto (-56), 3) := by decide +kernel
theorem kd_M_findRounds_97 : decode kb_M_findRounds 97 = .ok (.iconst 0, 1) := by decide +kernel
theorem kd_M_findRounds_98 : decode kb_M_findRounds 98 = .ok (.istore 4, 2) := by decide +kernel
theorem kd_M_findRounds_100 : decode kb_M_findRounds 100 = .ok (.iload 4, 2) := by decide +kernel
theorem kd_M_findRounds_102 : decode kb_M_findRounds 102 = .ok (.iload_n 3, 1) := by decide +kernel
theorem kd_M_findRounds_103 : decode kb_M_findRounds 103 = .ok (.if_icmp .ge 170, 3) := by decide +kernel
theorem kd_M_findRounds_106 : decode kb_M_findRounds 106 = .ok (.aload_n 0, 1) := by decide +kernel
theorem kd_M_findRounds_107 : decode kb_M_findRounds 107 = .ok (.iload 4, 2) := by decide +kernel
theorem kd_M_findRounds_109 : decode kb_M_findRounds 109 = .ok (.iload_n 3, 1) := by decide +kernel
theorem kd_M_findRounds_110 : decode kb_M_findRounds 110 = .ok (.lload_n 1, 1) := by decide +kernel
theorem kd_M_findRounds_111 : decode kb_M_findRounds 111 = .ok (.invokevirtual 186, 3) := by decide +kernel
theorem kd_M_findRounds_114 : decode kb_M_findRounds 114 = .ok (.lstore 5, 2) := by decide +kernel
theorem kd_M_findRounds_116 : decode kb_M_findRounds 116 = .ok (.iconst 1, 1) := by decide +kernel
theorem kd_M_findRounds_117 : decode kb_M_findRounds 117 = .ok (.istore 7, 2) := by decide +kernel
theorem kd_M_findRounds_119 : decode kb_M_findRounds 119 = .ok (.iload 7, 2) := by decide +kernel
theorem kd_M_findRounds_121 : decode kb_M_findRounds 121 = .ok (.ifCond .eq 102, 3) := by decide +kernel
theorem kd_M_findRounds_124 : decode kb_M_findRounds 124 = .ok (.aload_n 0, 1) := by decide +kernel
theorem kd_M_findRounds_125 : decode kb_M_findRounds 125 = .ok (.iload 4, 2) := by decide +kernel
theorem kd_M_findRounds_127 : decode kb_M_findRounds 127 = .ok (.iload_n 3, 1) := by decide +kernel
theorem kd_M_findRounds_128 : decode kb_M_findRounds 128 = .ok (.lload_n 1, 1) := by decide +kernel
theorem kd_M_findRounds_129 : decode kb_M_findRounds 129 = .ok (.invokevirtual 190, 3) := by decide +kernel
theorem kd_M_findRounds_132 : decode kb_M_findRounds 132 = .ok (.aload_n 0, 1) := by decide +kernel
theorem kd_M_findRounds_133 : decode kb_M_findRounds 133 = .ok (.getfield 26, 3) := by decide +kernel
theorem kd_M_findRounds_136 : decode kb_M_findRounds 136 = .ok (.bipush 11, 2) := by decide +kernel
theorem kd_M_findRounds_138 : decode kb_M_findRounds 138 = .ok (.iload 4, 2) := by decide +kernel
theorem kd_M_findRounds_140 : decode kb_M_findRounds 140 = .ok (.imul, 1) := by decide +kernel
theorem kd_M_findRounds_141 : decode kb_M_findRounds 141 = .ok (.laload, 1) := by decide +kernel
theorem kd_M_findRounds_142 : decode kb_M_findRounds 142 = .ok (.lload_n 1, 1) := by decide +kernel
theorem kd_M_findRounds_143 : decode kb_M_findRounds 143 = .ok (.invokestatic 140, 3) := by decide +kernel
theorem kd_M_findRounds_146 : decode kb_M_findRounds 146 = .ok (.lload 5, 2) := by decide +kernel
theorem kd_M_findRounds_148 : decode kb_M_findRounds 148 = .ok (.lcmp, 1) := by decide +kernel
theorem kd_M_findRounds_149 : decode kb_M_findRounds 149 = .ok (.ifCond .eq 7, 3) := by decide +kernel
theorem kd_M_findRounds_152 : decode kb_M_findRounds 152 = .ok (.iconst 1, 1) := by decide +kernel
theorem kd_M_findRounds_153 : decode kb_M_findRounds 153 = .ok (.goto 4, 3) := by decide +kernel
theorem kd_M_findRounds_156 : decode kb_M_findRounds 156 = .ok (.iconst 0, 1) := by decide +kernel
theorem kd_M_findRounds_157 : decode kb_M_findRounds 157 = .ok (.istore 7, 2) := by decide +kernel
theorem kd_M_findRounds_159 : decode kb_M_findRounds 159 = .ok (.iload 7, 2) := by decide +kernel
theorem kd_M_findRounds_161 : decode kb_M_findRounds 161 = .ok (.ifCond .eq (-42), 3) := by decide +kernel
theorem kd_M_findRounds_164 : decode kb_M_findRounds 164 = .ok (.iload 4, 2) := by decide +kernel
theorem kd_M_findRounds_166 : decode kb_M_findRounds 166 = .ok (.iconst 1, 1) := by decide +kernel
theorem kd_M_findRounds_167 : decode kb_M_findRounds 167 = .ok (.iadd, 1) := by decide +kernel
theorem kd_M_findRounds_168 : decode kb_M_findRounds 168 = .ok (.istore 8, 2) := by decide +kernel
theorem kd_M_findRounds_170 : decode kb_M_findRounds 170 = .ok (.iload 8, 2) := by decide +kernel
theorem kd_M_findRounds_172 : decode kb_M_findRounds 172 = .ok (.iload_n 3, 1) := by decide +kernel
theorem kd_M_findRounds_173 : decode kb_M_findRounds 173 = .ok (.if_icmp .ge 22, 3) := by decide +kernel
theorem kd_M_findRounds_176 : decode kb_M_findRounds 176 = .ok (.aload_n 0, 1) := by decide +kernel
theorem kd_M_findRounds_177 : decode kb_M_findRounds 177 = .ok (.iload 8, 2) := by decide +kernel
theorem kd_M_findRounds_179 : decode kb_M_findRounds 179 = .ok (.iload 4, 2) := by decide +kernel
theorem kd_M_findRounds_181 : decode kb_M_findRounds 181 = .ok (.iload_n 3, 1) := by decide +kernel
theorem kd_M_findRounds_182 : decode kb_M_findRounds 182 = .ok (.lload_n 1, 1) := by decide +kernel
theorem kd_M_findRounds_183 : decode kb_M_findRounds 183 = .ok (.invokevirtual 193, 3) := by decide +kernel
theorem kd_M_findRounds_186 : decode kb_M_findRounds 186 = .ok (.ifCond .ne 9, 3) := by decide +kernel
theorem kd_M_findRounds_189 : decode kb_M_findRounds 189 = .ok (.iinc 8 1, 3) := by decide +kernel
theorem kd_M_findRounds_192 : decode kb_M_findRounds 192 = .ok (.goto (-22), 3) := by decide +kernel
theorem kd_M_findRounds_195 : decode kb_M_findRounds 195 = .ok (.iload 8, 2) := by decide +kernel
theorem kd_M_findRounds_197 : decode kb_M_findRounds 197 = .ok (.iload_n 3, 1) := by decide +kernel
theorem kd_M_findRounds_198 : decode kb_M_findRounds 198 = .ok (.if_icmp .ge 19, 3) := by decide +kernel
theorem kd_M_findRounds_201 : decode kb_M_findRounds 201 = .ok (.aload_n 0, 1) := by decide +kernel
theorem kd_M_findRounds_202 : decode kb_M_findRounds 202 = .ok (.iload 4, 2) := by decide +kernel
theorem kd_M_findRounds_204 : decode kb_M_findRounds 204 = .ok (.iload 8, 2) := by decide +kernel
theorem kd_M_findRounds_206 : decode kb_M_findRounds 206 = .ok (.lload_n 1, 1) := by decide +kernel
theorem kd_M_findRounds_207 : decode kb_M_findRounds 207 = .ok (.lconst 1, 1) := by decide +kernel
theorem kd_M_findRounds_208 : decode kb_M_findRounds 208 = .ok (.lsub, 1) := by decide +kernel
theorem kd_M_findRounds_209 : decode kb_M_findRounds 209 = .ok (.iload_n 3, 1) := by decide +kernel
theorem kd_M_findRounds_210 : decode kb_M_findRounds 210 = .ok (.lload_n 1, 1) := by decide +kernel
theorem kd_M_findRounds_211 : decode kb_M_findRounds 211 = .ok (.invokevirtual 169, 3) := by decide +kernel
theorem kd_M_findRounds_214 : decode kb_M_findRounds 214 = .ok (.goto 6, 3) := by decide +kernel
theorem kd_M_findRounds_217 : decode kb_M_findRounds 217 = .ok (.iconst 0, 1) := by decide +kernel
theorem kd_M_findRounds_218 : decode kb_M_findRounds 218 = .ok (.istore 7, 2) := by decide +kernel
theorem kd_M_findRounds_220 : decode kb_M_findRounds 220 = .ok (.goto (-101), 3) := by decide +kernel
theorem kd_M_findRounds_223 : decode kb_M_findRounds 223 = .ok (.aload_n 0, 1) := by decide +kernel
theorem kd_M_findRounds_224 : decode kb_M_findRounds 224 = .ok (.getfield 26, 3) := by decide +kernel
theorem kd_M_findRounds_227 : decode kb_M_findRounds 227 = .ok (.bipush 11, 2) := by decide +kernel
theorem kd_M_findRounds_229 : decode kb_M_findRounds 229 = .ok (.iload 4, 2) := by decide +kernel
theorem kd_M_findRounds_231 : decode kb_M_findRounds 231 = .ok (.imul, 1) := by decide +kernel
theorem kd_M_findRounds_232 : decode kb_M_findRounds 232 = .ok (.laload, 1) := by decide +kernel
theorem kd_M_findRounds_233 : decode kb_M_findRounds 233 = .ok (.lload_n 1, 1) := by decide +kernel
theorem kd_M_findRounds_234 : decode kb_M_findRounds 234 = .ok (.invokestatic 140, 3) := by decide +kernel
theorem kd_M_findRounds_237 : decode kb_M_findRounds 237 = .ok (.lstore 8, 2) := by decide +kernel
theorem kd_M_findRounds_239 : decode kb_M_findRounds 239 = .ok (.lload 8, 2) := by decide +kernel
theorem kd_M_findRounds_241 : decode kb_M_findRounds 241 = .ok (.lconst 1, 1) := by decide +kernel
theorem kd_M_findRounds_242 : decode kb_M_findRounds 242 = .ok (.lcmp, 1) := by decide +kernel
theorem kd_M_findRounds_243 : decode kb_M_findRounds 243 = .ok (.ifCond .le 24, 3) := by decide +kernel
theorem kd_M_findRounds_246 : decode kb_M_findRounds 246 = .ok (.aload_n 0, 1) := by decide +kernel
theorem kd_M_findRounds_247 : decode kb_M_findRounds 247 = .ok (.getfield 60, 3) := by decide +kernel
theorem kd_M_findRounds_250 : decode kb_M_findRounds 250 = .ok (.aload_n 0, 1) := by decide +kernel
theorem kd_M_findRounds_251 : decode kb_M_findRounds 251 = .ok (.getfield 183, 3) := by decide +kernel
theorem kd_M_findRounds_254 : decode kb_M_findRounds 254 = .ok (.lload 8, 2) := by decide +kernel
theorem kd_M_findRounds_256 : decode kb_M_findRounds 256 = .ok (.lastore, 1) := by decide +kernel
theorem kd_M_findRounds_257 : decode kb_M_findRounds 257 = .ok (.aload_n 0, 1) := by decide +kernel
theorem kd_M_findRounds_258 : decode kb_M_findRounds 258 = .ok (.dup, 1) := by decide +kernel
theorem kd_M_findRounds_259 : decode kb_M_findRounds 259 = .ok (.getfield 183, 3) := by decide +kernel
theorem kd_M_findRounds_262 : decode kb_M_findRounds 262 = .ok (.iconst 1, 1) := by decide +kernel
theorem kd_M_findRounds_263 : decode kb_M_findRounds 263 = .ok (.iadd, 1) := by decide +kernel
theorem kd_M_findRounds_264 : decode kb_M_findRounds 264 = .ok (.putfield 183, 3) := by decide +kernel
theorem kd_M_findRounds_267 : decode kb_M_findRounds 267 = .ok (.iinc 4 1, 3) := by decide +kernel
theorem kd_M_findRounds_270 : decode kb_M_findRounds 270 = .ok (.goto (-170), 3) := by decide +kernel
theorem kd_M_findRounds_273 : decode kb_M_findRounds 273 = .ok (.iconst 1, 1) := by decide +kernel
theorem kd_M_findRounds_274 : decode kb_M_findRounds 274 = .ok (.ireturn, 1) := by decide +kernel
theorem kd_M_isOther_0 : decode kb_M_isOther 0 = .ok (.aload_n 0, 1) := by decide +kernel
theorem kd_M_isOther_1 : decode kb_M_isOther 1 = .ok (.getfield 26, 3) := by decide +kernel
theorem kd_M_isOther_4 : decode kb_M_isOther 4 = .ok (.bipush 11, 2) := by decide +kernel
theorem kd_M_isOther_6 : decode kb_M_isOther 6 = .ok (.iload_n 2, 1) := by decide +kernel
theorem kd_M_isOther_7 : decode kb_M_isOther 7 = .ok (.imul, 1) := by decide +kernel
theorem kd_M_isOther_8 : decode kb_M_isOther 8 = .ok (.laload, 1) := by decide +kernel
theorem kd_M_isOther_9 : decode kb_M_isOther 9 = .ok (.lload 4, 2) := by decide +kernel
theorem kd_M_isOther_11 : decode kb_M_isOther 11 = .ok (.invokestatic 140, 3) := by decide +kernel
theorem kd_M_isOther_14 : decode kb_M_isOther 14 = .ok (.lstore 6, 2) := by decide +kernel
theorem kd_M_isOther_16 : decode kb_M_isOther 16 = .ok (.iconst 0, 1) := by decide +kernel
theorem kd_M_isOther_17 : decode kb_M_isOther 17 = .ok (.istore 8, 2) := by decide +kernel
theorem kd_M_isOther_19 : decode kb_M_isOther 19 = .ok (.iload_n 2, 1) := by decide +kernel
theorem kd_M_isOther_20 : decode kb_M_isOther 20 = .ok (.iconst 1, 1) := by decide +kernel
theorem kd_M_isOther_21 : decode kb_M_isOther 21 = .ok (.iadd, 1) := by decide +kernel
theorem kd_M_isOther_22 : decode kb_M_isOther 22 = .ok (.istore 9, 2) := by decide +kernel
theorem kd_M_isOther_24 : decode kb_M_isOther 24 = .ok (.iload 9, 2) := by decide +kernel
theorem kd_M_isOther_26 : decode kb_M_isOther 26 = .ok (.iload_n 3, 1) := by decide +kernel
theorem kd_M_isOther_27 : decode kb_M_isOther 27 = .ok (.if_icmp .ge 41, 3) := by decide +kernel
theorem kd_M_isOther_30 : decode kb_M_isOther 30 = .ok (.iload 8, 2) := by decide +kernel
theorem kd_M_isOther_32 : decode kb_M_isOther 32 = .ok (.ifCond .ne 23, 3) := by decide +kernel
theorem kd_M_isOther_35 : decode kb_M_isOther 35 = .ok (.aload_n 0, 1) := by decide +kernel
theorem kd_M_isOther_36 : decode kb_M_isOther 36 = .ok (.getfield 26, 3) := by decide +kernel
theorem kd_M_isOther_39 : decode kb_M_isOther 39 = .ok (.bipush 10, 2) := by decide +kernel
theorem kd_M_isOther_41 : decode kb_M_isOther 41 = .ok (.iload_n 1, 1) := by decide +kernel
theorem kd_M_isOther_42 : decode kb_M_isOther 42 = .ok (.imul, 1) := by decide +kernel
theorem kd_M_isOther_43 : decode kb_M_isOther 43 = .ok (.iload 9, 2) := by decide +kernel
theorem kd_M_isOther_45 : decode kb_M_isOther 45 = .ok (.iadd, 1) := by decide +kernel
theorem kd_M_isOther_46 : decode kb_M_isOther 46 = .ok (.laload, 1) := by decide +kernel
theorem kd_M_isOther_47 : decode kb_M_isOther 47 = .ok (.lload 6, 2) := by decide +kernel
theorem kd_M_isOther_49 : decode kb_M_isOther 49 = .ok (.lrem, 1) := by decide +kernel
theorem kd_M_isOther_50 : decode kb_M_isOther 50 = .ok (.lconst 0, 1) := by decide +kernel
theorem kd_M_isOther_51 : decode kb_M_isOther 51 = .ok (.lcmp, 1) := by decide +kernel
theorem kd_M_isOther_52 : decode kb_M_isOther 52 = .ok (.ifCond .eq 7, 3) := by decide +kernel
theorem kd_M_isOther_55 : decode kb_M_isOther 55 = .ok (.iconst 1, 1) := by decide +kernel
theorem kd_M_isOther_56 : decode kb_M_isOther 56 = .ok (.goto 4, 3) := by decide +kernel
theorem kd_M_isOther_59 : decode kb_M_isOther 59 = .ok (.iconst 0, 1) := by decide +kernel
theorem kd_M_isOther_60 : decode kb_M_isOther 60 = .ok (.istore 8, 2) := by decide +kernel
theorem kd_M_isOther_62 : decode kb_M_isOther 62 = .ok (.iinc 9 1, 3) := by decide +kernel
theorem kd_M_isOther_65 : decode kb_M_isOther 65 = .ok (.goto (-41), 3) := by decide +kernel
theorem kd_M_isOther_68 : decode kb_M_isOther 68 = .ok (.iload 8, 2) := by decide +kernel
theorem kd_M_isOther_70 : decode kb_M_isOther 70 = .ok (.ireturn, 1) := by decide +kernel
theorem kd_M_group_0 : decode kb_M_group 0 = .ok (.aload_n 0, 1) := by decide +kernel
theorem kd_M_group_1 : decode kb_M_group 1 = .ok (.iconst 0, 1) := by decide +kernel
theorem kd_M_group_2 : decode kb_M_group 2 = .ok (.putfield 69, 3) := by decide +kernel
theorem kd_M_group_5 : decode kb_M_group 5 = .ok (.aload_n 0, 1) := by decide +kernel
theorem kd_M_group_6 : decode kb_M_group 6 = .ok (.invokevirtual 197, 3) := by decide +kernel
theorem kd_M_group_9 : decode kb_M_group 9 = .ok (.ifCond .eq 24, 3) := by decide +kernel
theorem kd_M_group_12 : decode kb_M_group 12 = .ok (.iload_n 1, 1) := by decide +kernel
theorem kd_M_group_13 : decode kb_M_group 13 = .ok (.ifCond .lt 20, 3) := by decide +kernel
theorem kd_M_group_16 : decode kb_M_group 16 = .ok (.iload_n 1, 1) := by decide +kernel
theorem kd_M_group_17 : decode kb_M_group 17 = .ok (.aload_n 0, 1) := by decide +kernel
theorem kd_M_group_18 : decode kb_M_group 18 = .ok (.getfield 183, 3) := by decide +kernel
theorem kd_M_group_21 : decode kb_M_group 21 = .ok (.if_icmp .ge 12, 3) := by decide +kernel
theorem kd_M_group_24 : decode kb_M_group 24 = .ok (.aload_n 0, 1) := by decide +kernel
theorem kd_M_group_25 : decode kb_M_group 25 = .ok (.getfield 60, 3) := by decide +kernel
theorem kd_M_group_28 : decode kb_M_group 28 = .ok (.iload_n 1, 1) := by decide +kernel
theorem kd_M_group_29 : decode kb_M_group 29 = .ok (.laload, 1) := by decide +kernel
theorem kd_M_group_30 : decode kb_M_group 30 = .ok (.goto 6, 3) := by decide +kernel
theorem kd_M_group_33 : decode kb_M_group 33 = .ok (.ldc2_w 131, 3) := by decide +kernel
theorem kd_M_group_36 : decode kb_M_group 36 = .ok (.lreturn, 1) := by decide +kernel
theorem kd_M_chips_0 : decode kb_M_chips 0 = .ok (.aload_n 0, 1) := by decide +kernel
theorem kd_M_chips_1 : decode kb_M_chips 1 = .ok (.iconst 0, 1) := by decide +kernel
theorem kd_M_chips_2 : decode kb_M_chips 2 = .ok (.putfield 69, 3) := by decide +kernel
theorem kd_M_chips_5 : decode kb_M_chips 5 = .ok (.aload_n 0, 1) := by decide +kernel
theorem kd_M_chips_6 : decode kb_M_chips 6 = .ok (.iload_n 1, 1) := by decide +kernel
theorem kd_M_chips_7 : decode kb_M_chips 7 = .ok (.invokevirtual 76, 3) := by decide +kernel
theorem kd_M_chips_10 : decode kb_M_chips 10 = .ok (.ifCond .eq 14, 3) := by decide +kernel
theorem kd_M_chips_13 : decode kb_M_chips 13 = .ok (.iload_n 2, 1) := by decide +kernel
theorem kd_M_chips_14 : decode kb_M_chips 14 = .ok (.ifCond .lt 10, 3) := by decide +kernel
theorem kd_M_chips_17 : decode kb_M_chips 17 = .ok (.iload_n 2, 1) := by decide +kernel
theorem kd_M_chips_18 : decode kb_M_chips 18 = .ok (.sipush 200, 3) := by decide +kernel
theorem kd_M_chips_21 : decode kb_M_chips 21 = .ok (.if_icmp .le 7, 3) := by decide +kernel
theorem kd_M_chips_24 : decode kb_M_chips 24 = .ok (.ldc2_w 131, 3) := by decide +kernel
theorem kd_M_chips_27 : decode kb_M_chips 27 = .ok (.lreturn, 1) := by decide +kernel
theorem kd_M_chips_28 : decode kb_M_chips 28 = .ok (.aload_n 0, 1) := by decide +kernel
theorem kd_M_chips_29 : decode kb_M_chips 29 = .ok (.getfield 19, 3) := by decide +kernel
theorem kd_M_chips_32 : decode kb_M_chips 32 = .ok (.iload_n 1, 1) := by decide +kernel
theorem kd_M_chips_33 : decode kb_M_chips 33 = .ok (.laload, 1) := by decide +kernel
theorem kd_M_chips_34 : decode kb_M_chips 34 = .ok (.lstore_n 3, 1) := by decide +kernel
theorem kd_M_chips_35 : decode kb_M_chips 35 = .ok (.aload_n 0, 1) := by decide +kernel
theorem kd_M_chips_36 : decode kb_M_chips 36 = .ok (.getfield 19, 3) := by decide +kernel
theorem kd_M_chips_39 : decode kb_M_chips 39 = .ok (.iload_n 1, 1) := by decide +kernel
theorem kd_M_chips_40 : decode kb_M_chips 40 = .ok (.iload_n 2, 1) := by decide +kernel
theorem kd_M_chips_41 : decode kb_M_chips 41 = .ok (.i2l, 1) := by decide +kernel
theorem kd_M_chips_42 : decode kb_M_chips 42 = .ok (.lastore, 1) := by decide +kernel
theorem kd_M_chips_43 : decode kb_M_chips 43 = .ok (.lload_n 3, 1) := by decide +kernel
theorem kd_M_chips_44 : decode kb_M_chips 44 = .ok (.lreturn, 1) := by decide +kernel
theorem kd_M_level_0 : decode kb_M_level 0 = .ok (.aload_n 0, 1) := by decide +kernel
theorem kd_M_level_1 : decode kb_M_level 1 = .ok (.iconst 0, 1) := by decide +kernel
theorem kd_M_level_2 : decode kb_M_level 2 = .ok (.putfield 69, 3) := by decide +kernel
theorem kd_M_level_5 : decode kb_M_level 5 = .ok (.aload_n 0, 1) := by decide +kernel
theorem kd_M_level_6 : decode kb_M_level 6 = .ok (.iload_n 1, 1) := by decide +kernel
theorem kd_M_level_7 : decode kb_M_level 7 = .ok (.invokevirtual 76, 3) := by decide +kernel
theorem kd_M_level_10 : decode kb_M_level 10 = .ok (.ifCond .eq 12, 3) := by decide +kernel
theorem kd_M_level_13 : decode kb_M_level 13 = .ok (.aload_n 0, 1) := by decide +kernel
theorem kd_M_level_14 : decode kb_M_level 14 = .ok (.getfield 19, 3) := by decide +kernel
theorem kd_M_level_17 : decode kb_M_level 17 = .ok (.iload_n 1, 1) := by decide +kernel
theorem kd_M_level_18 : decode kb_M_level 18 = .ok (.laload, 1) := by decide +kernel
theorem kd_M_level_19 : decode kb_M_level 19 = .ok (.goto 6, 3) := by decide +kernel
theorem kd_M_level_22 : decode kb_M_level 22 = .ok (.ldc2_w 131, 3) := by decide +kernel
theorem kd_M_level_25 : decode kb_M_level 25 = .ok (.lreturn, 1) := by decide +kernel
theorem kd_M_degree_0 : decode kb_M_degree 0 = .ok (.lconst 0, 1) := by decide +kernel
theorem kd_M_degree_1 : decode kb_M_degree 1 = .ok (.lstore_n 2, 1) := by decide +kernel
theorem kd_M_degree_2 : decode kb_M_degree 2 = .ok (.iconst 0, 1) := by decide +kernel
theorem kd_M_degree_3 : decode kb_M_degree 3 = .ok (.istore 4, 2) := by decide +kernel
theorem kd_M_degree_5 : decode kb_M_degree 5 = .ok (.iload 4, 2) := by decide +kernel
theorem kd_M_degree_7 : decode kb_M_degree 7 = .ok (.aload_n 0, 1) := by decide +kernel
theorem kd_M_degree_8 : decode kb_M_degree 8 = .ok (.getfield 80, 3) := by decide +kernel
theorem kd_M_degree_11 : decode kb_M_degree 11 = .ok (.if_icmp .ge 63, 3) := by decide +kernel
theorem kd_M_degree_14 : decode kb_M_degree 14 = .ok (.lload_n 2, 1) := by decide +kernel
theorem kd_M_degree_15 : decode kb_M_degree 15 = .ok (.aload_n 0, 1) := by decide +kernel
theorem kd_M_degree_16 : decode kb_M_degree 16 = .ok (.getfield 7, 3) := by decide +kernel
theorem kd_M_degree_19 : decode kb_M_degree 19 = .ok (.iload 4, 2) := by decide +kernel
theorem kd_M_degree_21 : decode kb_M_degree 21 = .ok (.iaload, 1) := by decide +kernel
theorem kd_M_degree_22 : decode kb_M_degree 22 = .ok (.aload_n 0, 1) := by decide +kernel
theorem kd_M_degree_23 : decode kb_M_degree 23 = .ok (.getfield 13, 3) := by decide +kernel
theorem kd_M_degree_26 : decode kb_M_degree 26 = .ok (.iload 4, 2) := by decide +kernel
theorem kd_M_degree_28 : decode kb_M_degree 28 = .ok (.iaload, 1) := by decide +kernel
theorem kd_M_degree_29 : decode kb_M_degree 29 = .ok (.if_icmp .eq 36, 3) := by decide +kernel
theorem kd_M_degree_32 : decode kb_M_degree 32 = .ok (.aload_n 0, 1) := by decide +kernel
theorem kd_M_degree_33 : decode kb_M_degree 33 = .ok (.getfield 7, 3) := by decide +kernel
theorem kd_M_degree_36 : decode kb_M_degree 36 = .ok (.iload 4, 2) := by decide +kernel
theorem kd_M_degree_38 : decode kb_M_degree 38 = .ok (.iaload, 1) := by decide +kernel
theorem kd_M_degree_39 : decode kb_M_degree 39 = .ok (.iload_n 1, 1) := by decide +kernel
theorem kd_M_degree_40 : decode kb_M_degree 40 = .ok (.if_icmp .eq 14, 3) := by decide +kernel
theorem kd_M_degree_43 : decode kb_M_degree 43 = .ok (.aload_n 0, 1) := by decide +kernel
theorem kd_M_degree_44 : decode kb_M_degree 44 = .ok (.getfield 13, 3) := by decide +kernel
theorem kd_M_degree_47 : decode kb_M_degree 47 = .ok (.iload 4, 2) := by decide +kernel
theorem kd_M_degree_49 : decode kb_M_degree 49 = .ok (.iaload, 1) := by decide +kernel
theorem kd_M_degree_50 : decode kb_M_degree 50 = .ok (.iload_n 1, 1) := by decide +kernel
theorem kd_M_degree_51 : decode kb_M_degree 51 = .ok (.if_icmp .ne 14, 3) := by decide +kernel
theorem kd_M_degree_54 : decode kb_M_degree 54 = .ok (.aload_n 0, 1) := by decide +kernel
theorem kd_M_degree_55 : decode kb_M_degree 55 = .ok (.getfield 16, 3) := by decide +kernel
theorem kd_M_degree_58 : decode kb_M_degree 58 = .ok (.iload 4, 2) := by decide +kernel
theorem kd_M_degree_60 : decode kb_M_degree 60 = .ok (.iaload, 1) := by decide +kernel
theorem kd_M_degree_61 : decode kb_M_degree 61 = .ok (.i2l, 1) := by decide +kernel
theorem kd_M_degree_62 : decode kb_M_degree 62 = .ok (.goto 4, 3) := by decide +kernel
theorem kd_M_degree_65 : decode kb_M_degree 65 = .ok (.lconst 0, 1) := by decide +kernel
theorem kd_M_degree_66 : decode kb_M_degree 66 = .ok (.ladd, 1) := by decide +kernel
theorem kd_M_degree_67 : decode kb_M_degree 67 = .ok (.lstore_n 2, 1) := by decide +kernel
theorem kd_M_degree_68 : decode kb_M_degree 68 = .ok (.iinc 4 1, 3) := by decide +kernel
theorem kd_M_degree_71 : decode kb_M_degree 71 = .ok (.goto (-66), 3) := by decide +kernel
theorem kd_M_degree_74 : decode kb_M_degree 74 = .ok (.lload_n 2, 1) := by decide +kernel
theorem kd_M_degree_75 : decode kb_M_degree 75 = .ok (.lreturn, 1) := by decide +kernel
theorem kd_M_fireNode_0 : decode kb_M_fireNode 0 = .ok (.iconst 0, 1) := by decide +kernel
theorem kd_M_fireNode_1 : decode kb_M_fireNode 1 = .ok (.istore 4, 2) := by decide +kernel
theorem kd_M_fireNode_3 : decode kb_M_fireNode 3 = .ok (.iload 4, 2) := by decide +kernel
theorem kd_M_fireNode_5 : decode kb_M_fireNode 5 = .ok (.aload_n 0, 1) := by decide +kernel
theorem kd_M_fireNode_6 : decode kb_M_fireNode 6 = .ok (.getfield 80, 3) := by decide +kernel
theorem kd_M_fireNode_9 : decode kb_M_fireNode 9 = .ok (.if_icmp .ge 117, 3) := by decide +kernel
theorem kd_M_fireNode_12 : decode kb_M_fireNode 12 = .ok (.aload_n 0, 1) := by decide +kernel
theorem kd_M_fireNode_13 : decode kb_M_fireNode 13 = .ok (.getfield 7, 3) := by decide +kernel
theorem kd_M_fireNode_16 : decode kb_M_fireNode 16 = .ok (.iload 4, 2) := by decide +kernel
theorem kd_M_fireNode_18 : decode kb_M_fireNode 18 = .ok (.iaload, 1) := by decide +kernel
theorem kd_M_fireNode_19 : decode kb_M_fireNode 19 = .ok (.aload_n 0, 1) := by decide +kernel
theorem kd_M_fireNode_20 : decode kb_M_fireNode 20 = .ok (.getfield 13, 3) := by decide +kernel
theorem kd_M_fireNode_23 : decode kb_M_fireNode 23 = .ok (.iload 4, 2) := by decide +kernel
theorem kd_M_fireNode_25 : decode kb_M_fireNode 25 = .ok (.iaload, 1) := by decide +kernel
theorem kd_M_fireNode_26 : decode kb_M_fireNode 26 = .ok (.if_icmp .eq 94, 3) := by decide +kernel
theorem kd_M_fireNode_29 : decode kb_M_fireNode 29 = .ok (.aload_n 0, 1) := by decide +kernel
theorem kd_M_fireNode_30 : decode kb_M_fireNode 30 = .ok (.getfield 7, 3) := by decide +kernel
theorem kd_M_fireNode_33 : decode kb_M_fireNode 33 = .ok (.iload 4, 2) := by decide +kernel
theorem kd_M_fireNode_35 : decode kb_M_fireNode 35 = .ok (.iaload, 1) := by decide +kernel
theorem kd_M_fireNode_36 : decode kb_M_fireNode 36 = .ok (.iload_n 1, 1) := by decide +kernel
theorem kd_M_fireNode_37 : decode kb_M_fireNode 37 = .ok (.if_icmp .eq 14, 3) := by decide +kernel
theorem kd_M_fireNode_40 : decode kb_M_fireNode 40 = .ok (.aload_n 0, 1) := by decide +kernel
theorem kd_M_fireNode_41 : decode kb_M_fireNode 41 = .ok (.getfield 13, 3) := by decide +kernel
theorem kd_M_fireNode_44 : decode kb_M_fireNode 44 = .ok (.iload 4, 2) := by decide +kernel
theorem kd_M_fireNode_46 : decode kb_M_fireNode 46 = .ok (.iaload, 1) := by decide +kernel
theorem kd_M_fireNode_47 : decode kb_M_fireNode 47 = .ok (.iload_n 1, 1) := by decide +kernel
theorem kd_M_fireNode_48 : decode kb_M_fireNode 48 = .ok (.if_icmp .ne 72, 3) := by decide +kernel
theorem kd_M_fireNode_51 : decode kb_M_fireNode 51 = .ok (.aload_n 0, 1) := by decide +kernel
theorem kd_M_fireNode_52 : decode kb_M_fireNode 52 = .ok (.getfield 7, 3) := by decide +kernel
theorem kd_M_fireNode_55 : decode kb_M_fireNode 55 = .ok (.iload 4, 2) := by decide +kernel
theorem kd_M_fireNode_57 : decode kb_M_fireNode 57 = .ok (.iaload, 1) := by decide +kernel
theorem kd_M_fireNode_58 : decode kb_M_fireNode 58 = .ok (.iload_n 1, 1) := by decide +kernel
theorem kd_M_fireNode_59 : decode kb_M_fireNode 59 = .ok (.if_icmp .ne 13, 3) := by decide +kernel
theorem kd_M_fireNode_62 : decode kb_M_fireNode 62 = .ok (.aload_n 0, 1) := by decide +kernel
theorem kd_M_fireNode_63 : decode kb_M_fireNode 63 = .ok (.getfield 13, 3) := by decide +kernel
theorem kd_M_fireNode_66 : decode kb_M_fireNode 66 = .ok (.iload 4, 2) := by decide +kernel
theorem kd_M_fireNode_68 : decode kb_M_fireNode 68 = .ok (.iaload, 1) := by decide +kernel
theorem kd_M_fireNode_69 : decode kb_M_fireNode 69 = .ok (.goto 10, 3) := by decide +kernel
theorem kd_M_fireNode_72 : decode kb_M_fireNode 72 = .ok (.aload_n 0, 1) := by decide +kernel
theorem kd_M_fireNode_73 : decode kb_M_fireNode 73 = .ok (.getfield 7, 3) := by decide +kernel
theorem kd_M_fireNode_76 : decode kb_M_fireNode 76 = .ok (.iload 4, 2) := by decide +kernel
theorem kd_M_fireNode_78 : decode kb_M_fireNode 78 = .ok (.iaload, 1) := by decide +kernel
theorem kd_M_fireNode_79 : decode kb_M_fireNode 79 = .ok (.istore 5, 2) := by decide +kernel
theorem kd_M_fireNode_81 : decode kb_M_fireNode 81 = .ok (.aload_n 0, 1) := by decide +kernel
theorem kd_M_fireNode_82 : decode kb_M_fireNode 82 = .ok (.getfield 63, 3) := by decide +kernel
theorem kd_M_fireNode_85 : decode kb_M_fireNode 85 = .ok (.iload_n 1, 1) := by decide +kernel
theorem kd_M_fireNode_86 : decode kb_M_fireNode 86 = .ok (.dup2, 1) := by decide +kernel
theorem kd_M_fireNode_87 : decode kb_M_fireNode 87 = .ok (.laload, 1) := by decide +kernel
theorem kd_M_fireNode_88 : decode kb_M_fireNode 88 = .ok (.lload_n 2, 1) := by decide +kernel
theorem kd_M_fireNode_89 : decode kb_M_fireNode 89 = .ok (.aload_n 0, 1) := by decide +kernel
theorem kd_M_fireNode_90 : decode kb_M_fireNode 90 = .ok (.getfield 16, 3) := by decide +kernel
theorem kd_M_fireNode_93 : decode kb_M_fireNode 93 = .ok (.iload 4, 2) := by decide +kernel
theorem kd_M_fireNode_95 : decode kb_M_fireNode 95 = .ok (.iaload, 1) := by decide +kernel
theorem kd_M_fireNode_96 : decode kb_M_fireNode 96 = .ok (.i2l, 1) := by decide +kernel
theorem kd_M_fireNode_97 : decode kb_M_fireNode 97 = .ok (.lmul, 1) := by decide +kernel
theorem kd_M_fireNode_98 : decode kb_M_fireNode 98 = .ok (.lsub, 1) := by decide +kernel
theorem kd_M_fireNode_99 : decode kb_M_fireNode 99 = .ok (.lastore, 1) := by decide +kernel
theorem kd_M_fireNode_100 : decode kb_M_fireNode 100 = .ok (.aload_n 0, 1) := by decide +kernel
theorem kd_M_fireNode_101 : decode kb_M_fireNode 101 = .ok (.getfield 63, 3) := by decide +kernel
theorem kd_M_fireNode_104 : decode kb_M_fireNode 104 = .ok (.iload 5, 2) := by decide +kernel
theorem kd_M_fireNode_106 : decode kb_M_fireNode 106 = .ok (.dup2, 1) := by decide +kernel
theorem kd_M_fireNode_107 : decode kb_M_fireNode 107 = .ok (.laload, 1) := by decide +kernel
theorem kd_M_fireNode_108 : decode kb_M_fireNode 108 = .ok (.lload_n 2, 1) := by decide +kernel
theorem kd_M_fireNode_109 : decode kb_M_fireNode 109 = .ok (.aload_n 0, 1) := by decide +kernel
theorem kd_M_fireNode_110 : decode kb_M_fireNode 110 = .ok (.getfield 16, 3) := by decide +kernel
theorem kd_M_fireNode_113 : decode kb_M_fireNode 113 = .ok (.iload 4, 2) := by decide +kernel
theorem kd_M_fireNode_115 : decode kb_M_fireNode 115 = .ok (.iaload, 1) := by decide +kernel
theorem kd_M_fireNode_116 : decode kb_M_fireNode 116 = .ok (.i2l, 1) := by decide +kernel
theorem kd_M_fireNode_117 : decode kb_M_fireNode 117 = .ok (.lmul, 1) := by decide +kernel
theorem kd_M_fireNode_118 : decode kb_M_fireNode 118 = .ok (.ladd, 1) := by decide +kernel
theorem kd_M_fireNode_119 : decode kb_M_fireNode 119 = .ok (.lastore, 1) := by decide +kernel
theorem kd_M_fireNode_120 : decode kb_M_fireNode 120 = .ok (.iinc 4 1, 3) := by decide +kernel
theorem kd_M_fireNode_123 : decode kb_M_fireNode 123 = .ok (.goto (-120), 3) := by decide +kernel
theorem kd_M_fireNode_126 : decode kb_M_fireNode 126 = .ok (.aload_n 0, 1) := by decide +kernel
theorem kd_M_fireNode_127 : decode kb_M_fireNode 127 = .ok (.getfield 66, 3) := by decide +kernel
theorem kd_M_fireNode_130 : decode kb_M_fireNode 130 = .ok (.iload_n 1, 1) := by decide +kernel
theorem kd_M_fireNode_131 : decode kb_M_fireNode 131 = .ok (.dup2, 1) := by decide +kernel
theorem kd_M_fireNode_132 : decode kb_M_fireNode 132 = .ok (.laload, 1) := by decide +kernel
theorem kd_M_fireNode_133 : decode kb_M_fireNode 133 = .ok (.lload_n 2, 1) := by decide +kernel
theorem kd_M_fireNode_134 : decode kb_M_fireNode 134 = .ok (.ladd, 1) := by decide +kernel
theorem kd_M_fireNode_135 : decode kb_M_fireNode 135 = .ok (.lastore, 1) := by decide +kernel
theorem kd_M_fireNode_136 : decode kb_M_fireNode 136 = .ok (.return_, 1) := by decide +kernel
theorem kd_M_settlePile_0 : decode kb_M_settlePile 0 = .ok (.lconst 0, 1) := by decide +kernel
theorem kd_M_settlePile_1 : decode kb_M_settlePile 1 = .ok (.lstore_n 2, 1) := by decide +kernel
theorem kd_M_settlePile_2 : decode kb_M_settlePile 2 = .ok (.iconst 1, 1) := by decide +kernel
theorem kd_M_settlePile_3 : decode kb_M_settlePile 3 = .ok (.istore 4, 2) := by decide +kernel
theorem kd_M_settlePile_5 : decode kb_M_settlePile 5 = .ok (.iload 4, 2) := by decide +kernel
theorem kd_M_settlePile_7 : decode kb_M_settlePile 7 = .ok (.ifCond .eq 82, 3) := by decide +kernel
theorem kd_M_settlePile_10 : decode kb_M_settlePile 10 = .ok (.iconst 0, 1) := by decide +kernel
theorem kd_M_settlePile_11 : decode kb_M_settlePile 11 = .ok (.istore 4, 2) := by decide +kernel
theorem kd_M_settlePile_13 : decode kb_M_settlePile 13 = .ok (.iconst 0, 1) := by decide +kernel
theorem kd_M_settlePile_14 : decode kb_M_settlePile 14 = .ok (.istore 5, 2) := by decide +kernel
theorem kd_M_settlePile_16 : decode kb_M_settlePile 16 = .ok (.iload 5, 2) := by decide +kernel
theorem kd_M_settlePile_18 : decode kb_M_settlePile 18 = .ok (.aload_n 0, 1) := by decide +kernel
theorem kd_M_settlePile_19 : decode kb_M_settlePile 19 = .ok (.getfield 73, 3) := by decide +kernel
theorem kd_M_settlePile_22 : decode kb_M_settlePile 22 = .ok (.if_icmp .ge 64, 3) := by decide +kernel
theorem kd_M_settlePile_25 : decode kb_M_settlePile 25 = .ok (.iload 5, 2) := by decide +kernel
theorem kd_M_settlePile_27 : decode kb_M_settlePile 27 = .ok (.iload_n 1, 1) := by decide +kernel
theorem kd_M_settlePile_28 : decode kb_M_settlePile 28 = .ok (.if_icmp .eq 52, 3) := by decide +kernel
theorem kd_M_settlePile_31 : decode kb_M_settlePile 31 = .ok (.aload_n 0, 1) := by decide +kernel
theorem kd_M_settlePile_32 : decode kb_M_settlePile 32 = .ok (.getfield 63, 3) := by decide +kernel
theorem kd_M_settlePile_35 : decode kb_M_settlePile 35 = .ok (.iload 5, 2) := by decide +kernel
theorem kd_M_settlePile_37 : decode kb_M_settlePile 37 = .ok (.laload, 1) := by decide +kernel
theorem kd_M_settlePile_38 : decode kb_M_settlePile 38 = .ok (.aload_n 0, 1) := by decide +kernel
theorem kd_M_settlePile_39 : decode kb_M_settlePile 39 = .ok (.iload 5, 2) := by decide +kernel
theorem kd_M_settlePile_41 : decode kb_M_settlePile 41 = .ok (.invokevirtual 201, 3) := by decide +kernel
theorem kd_M_settlePile_44 : decode kb_M_settlePile 44 = .ok (.lcmp, 1) := by decide +kernel
theorem kd_M_settlePile_45 : decode kb_M_settlePile 45 = .ok (.ifCond .lt 35, 3) := by decide +kernel
theorem kd_M_settlePile_48 : decode kb_M_settlePile 48 = .ok (.aload_n 0, 1) := by decide +kernel
theorem kd_M_settlePile_49 : decode kb_M_settlePile 49 = .ok (.getfield 63, 3) := by decide +kernel
theorem kd_M_settlePile_52 : decode kb_M_settlePile 52 = .ok (.iload 5, 2) := by decide +kernel
theorem kd_M_settlePile_54 : decode kb_M_settlePile 54 = .ok (.laload, 1) := by decide +kernel
theorem kd_M_settlePile_55 : decode kb_M_settlePile 55 = .ok (.aload_n 0, 1) := by decide +kernel
theorem kd_M_settlePile_56 : decode kb_M_settlePile 56 = .ok (.iload 5, 2) := by decide +kernel
theorem kd_M_settlePile_58 : decode kb_M_settlePile 58 = .ok (.invokevirtual 201, 3) := by decide +kernel
theorem kd_M_settlePile_61 : decode kb_M_settlePile 61 = .ok (.ldiv, 1) := by decide +kernel
theorem kd_M_settlePile_62 : decode kb_M_settlePile 62 = .ok (.lstore 6, 2) := by decide +kernel
theorem kd_M_settlePile_64 : decode kb_M_settlePile 64 = .ok (.aload_n 0, 1) := by decide +kernel
theorem kd_M_settlePile_65 : decode kb_M_settlePile 65 = .ok (.iload 5, 2) := by decide +kernel
theorem kd_M_settlePile_67 : decode kb_M_settlePile 67 = .ok (.lload 6, 2) := by decide +kernel
theorem kd_M_settlePile_69 : decode kb_M_settlePile 69 = .ok (.invokevirtual 204, 3) := by decide +kernel
theorem kd_M_settlePile_72 : decode kb_M_settlePile 72 = .ok (.lload_n 2, 1) := by decide +kernel
theorem kd_M_settlePile_73 : decode kb_M_settlePile 73 = .ok (.lload 6, 2) := by decide +kernel
theorem kd_M_settlePile_75 : decode kb_M_settlePile 75 = .ok (.ladd, 1) := by decide +kernel
theorem kd_M_settlePile_76 : decode kb_M_settlePile 76 = .ok (.lstore_n 2, 1) := by decide +kernel
theorem kd_M_settlePile_77 : decode kb_M_settlePile 77 = .ok (.iconst 1, 1) := by decide +kernel
theorem kd_M_settlePile_78 : decode kb_M_settlePile 78 = .ok (.istore 4, 2) := by decide +kernel
theorem kd_M_settlePile_80 : decode kb_M_settlePile 80 = .ok (.iinc 5 1, 3) := by decide +kernel
theorem kd_M_settlePile_83 : decode kb_M_settlePile 83 = .ok (.goto (-67), 3) := by decide +kernel
theorem kd_M_settlePile_86 : decode kb_M_settlePile 86 = .ok (.goto (-81), 3) := by decide +kernel
theorem kd_M_settlePile_89 : decode kb_M_settlePile 89 = .ok (.lload_n 2, 1) := by decide +kernel
theorem kd_M_settlePile_90 : decode kb_M_settlePile 90 = .ok (.lreturn, 1) := by decide +kernel
theorem kd_M_beginPile_0 : decode kb_M_beginPile 0 = .ok (.iconst 0, 1) := by decide +kernel
theorem kd_M_beginPile_1 : decode kb_M_beginPile 1 = .ok (.istore_n 1, 1) := by decide +kernel
theorem kd_M_beginPile_2 : decode kb_M_beginPile 2 = .ok (.iload_n 1, 1) := by decide +kernel
theorem kd_M_beginPile_3 : decode kb_M_beginPile 3 = .ok (.aload_n 0, 1) := by decide +kernel
theorem kd_M_beginPile_4 : decode kb_M_beginPile 4 = .ok (.getfield 73, 3) := by decide +kernel
theorem kd_M_beginPile_7 : decode kb_M_beginPile 7 = .ok (.if_icmp .ge 28, 3) := by decide +kernel
theorem kd_M_beginPile_10 : decode kb_M_beginPile 10 = .ok (.aload_n 0, 1) := by decide +kernel
theorem kd_M_beginPile_11 : decode kb_M_beginPile 11 = .ok (.getfield 63, 3) := by decide +kernel
theorem kd_M_beginPile_14 : decode kb_M_beginPile 14 = .ok (.iload_n 1, 1) := by decide +kernel
theorem kd_M_beginPile_15 : decode kb_M_beginPile 15 = .ok (.aload_n 0, 1) := by decide +kernel
theorem kd_M_beginPile_16 : decode kb_M_beginPile 16 = .ok (.getfield 19, 3) := by decide +kernel
theorem kd_M_beginPile_19 : decode kb_M_beginPile 19 = .ok (.iload_n 1, 1) := by decide +kernel
theorem kd_M_beginPile_20 : decode kb_M_beginPile 20 = .ok (.laload, 1) := by decide +kernel
theorem kd_M_beginPile_21 : decode kb_M_beginPile 21 = .ok (.lastore, 1) := by decide +kernel
theorem kd_M_beginPile_22 : decode kb_M_beginPile 22 = .ok (.aload_n 0, 1) := by decide +kernel
theorem kd_M_beginPile_23 : decode kb_M_beginPile 23 = .ok (.getfield 66, 3) := by decide +kernel
theorem kd_M_beginPile_26 : decode kb_M_beginPile 26 = .ok (.iload_n 1, 1) := by decide +kernel
theorem kd_M_beginPile_27 : decode kb_M_beginPile 27 = .ok (.lconst 0, 1) := by decide +kernel
theorem kd_M_beginPile_28 : decode kb_M_beginPile 28 = .ok (.lastore, 1) := by decide +kernel
theorem kd_M_beginPile_29 : decode kb_M_beginPile 29 = .ok (.iinc 1 1, 3) := by decide +kernel
theorem kd_M_beginPile_32 : decode kb_M_beginPile 32 = .ok (.goto (-30), 3) := by decide +kernel
theorem kd_M_beginPile_35 : decode kb_M_beginPile 35 = .ok (.return_, 1) := by decide +kernel
theorem kd_M_settle_0 : decode kb_M_settle 0 = .ok (.aload_n 0, 1) := by decide +kernel
theorem kd_M_settle_1 : decode kb_M_settle 1 = .ok (.iconst 0, 1) := by decide +kernel
theorem kd_M_settle_2 : decode kb_M_settle 2 = .ok (.putfield 69, 3) := by decide +kernel
theorem kd_M_settle_5 : decode kb_M_settle 5 = .ok (.aload_n 0, 1) := by decide +kernel
theorem kd_M_settle_6 : decode kb_M_settle 6 = .ok (.iload_n 1, 1) := by decide +kernel
theorem kd_M_settle_7 : decode kb_M_settle 7 = .ok (.invokevirtual 76, 3) := by decide +kernel
theorem kd_M_settle_10 : decode kb_M_settle 10 = .ok (.ifCond .eq 12, 3) := by decide +kernel
theorem kd_M_settle_13 : decode kb_M_settle 13 = .ok (.aload_n 0, 1) := by decide +kernel
theorem kd_M_settle_14 : decode kb_M_settle 14 = .ok (.invokevirtual 133, 3) := by decide +kernel
theorem kd_M_settle_17 : decode kb_M_settle 17 = .ok (.lconst 0, 1) := by decide +kernel
theorem kd_M_settle_18 : decode kb_M_settle 18 = .ok (.lcmp, 1) := by decide +kernel
theorem kd_M_settle_19 : decode kb_M_settle 19 = .ok (.ifCond .ne 7, 3) := by decide +kernel
theorem kd_M_settle_22 : decode kb_M_settle 22 = .ok (.ldc2_w 131, 3) := by decide +kernel
theorem kd_M_settle_25 : decode kb_M_settle 25 = .ok (.lreturn, 1) := by decide +kernel
theorem kd_M_settle_26 : decode kb_M_settle 26 = .ok (.aload_n 0, 1) := by decide +kernel
theorem kd_M_settle_27 : decode kb_M_settle 27 = .ok (.invokevirtual 208, 3) := by decide +kernel
theorem kd_M_settle_30 : decode kb_M_settle 30 = .ok (.aload_n 0, 1) := by decide +kernel
theorem kd_M_settle_31 : decode kb_M_settle 31 = .ok (.iload_n 1, 1) := by decide +kernel
theorem kd_M_settle_32 : decode kb_M_settle 32 = .ok (.invokevirtual 211, 3) := by decide +kernel
theorem kd_M_settle_35 : decode kb_M_settle 35 = .ok (.lstore_n 2, 1) := by decide +kernel
theorem kd_M_settle_36 : decode kb_M_settle 36 = .ok (.iconst 0, 1) := by decide +kernel
theorem kd_M_settle_37 : decode kb_M_settle 37 = .ok (.istore 4, 2) := by decide +kernel
theorem kd_M_settle_39 : decode kb_M_settle 39 = .ok (.iload 4, 2) := by decide +kernel
theorem kd_M_settle_41 : decode kb_M_settle 41 = .ok (.aload_n 0, 1) := by decide +kernel
theorem kd_M_settle_42 : decode kb_M_settle 42 = .ok (.getfield 73, 3) := by decide +kernel
theorem kd_M_settle_45 : decode kb_M_settle 45 = .ok (.if_icmp .ge 37, 3) := by decide +kernel
theorem kd_M_settle_48 : decode kb_M_settle 48 = .ok (.aload_n 0, 1) := by decide +kernel
theorem kd_M_settle_49 : decode kb_M_settle 49 = .ok (.getfield 19, 3) := by decide +kernel
theorem kd_M_settle_52 : decode kb_M_settle 52 = .ok (.iload 4, 2) := by decide +kernel
theorem kd_M_settle_54 : decode kb_M_settle 54 = .ok (.aload_n 0, 1) := by decide +kernel
theorem kd_M_settle_55 : decode kb_M_settle 55 = .ok (.getfield 63, 3) := by decide +kernel
theorem kd_M_settle_58 : decode kb_M_settle 58 = .ok (.iload 4, 2) := by decide +kernel
theorem kd_M_settle_60 : decode kb_M_settle 60 = .ok (.laload, 1) := by decide +kernel
theorem kd_M_settle_61 : decode kb_M_settle 61 = .ok (.lastore, 1) := by decide +kernel
theorem kd_M_settle_62 : decode kb_M_settle 62 = .ok (.aload_n 0, 1) := by decide +kernel
theorem kd_M_settle_63 : decode kb_M_settle 63 = .ok (.getfield 23, 3) := by decide +kernel
theorem kd_M_settle_66 : decode kb_M_settle 66 = .ok (.iload 4, 2) := by decide +kernel
theorem kd_M_settle_68 : decode kb_M_settle 68 = .ok (.aload_n 0, 1) := by decide +kernel
theorem kd_M_settle_69 : decode kb_M_settle 69 = .ok (.getfield 66, 3) := by decide +kernel
theorem kd_M_settle_72 : decode kb_M_settle 72 = .ok (.iload 4, 2) := by decide +kernel
theorem kd_M_settle_74 : decode kb_M_settle 74 = .ok (.laload, 1) := by decide +kernel
theorem kd_M_settle_75 : decode kb_M_settle 75 = .ok (.lastore, 1) := by decide +kernel
theorem kd_M_settle_76 : decode kb_M_settle 76 = .ok (.iinc 4 1, 3) := by decide +kernel
theorem kd_M_settle_79 : decode kb_M_settle 79 = .ok (.goto (-40), 3) := by decide +kernel
theorem kd_M_settle_82 : decode kb_M_settle 82 = .ok (.lload_n 2, 1) := by decide +kernel
theorem kd_M_settle_83 : decode kb_M_settle 83 = .ok (.lreturn, 1) := by decide +kernel
theorem kd_M_fired_0 : decode kb_M_fired 0 = .ok (.aload_n 0, 1) := by decide +kernel
theorem kd_M_fired_1 : decode kb_M_fired 1 = .ok (.iconst 0, 1) := by decide +kernel
theorem kd_M_fired_2 : decode kb_M_fired 2 = .ok (.putfield 69, 3) := by decide +kernel
theorem kd_M_fired_5 : decode kb_M_fired 5 = .ok (.aload_n 0, 1) := by decide +kernel
theorem kd_M_fired_6 : decode kb_M_fired 6 = .ok (.iload_n 1, 1) := by decide +kernel
theorem kd_M_fired_7 : decode kb_M_fired 7 = .ok (.invokevirtual 76, 3) := by decide +kernel
theorem kd_M_fired_10 : decode kb_M_fired 10 = .ok (.ifCond .eq 12, 3) := by decide +kernel
theorem kd_M_fired_13 : decode kb_M_fired 13 = .ok (.aload_n 0, 1) := by decide +kernel
theorem kd_M_fired_14 : decode kb_M_fired 14 = .ok (.getfield 23, 3) := by decide +kernel
theorem kd_M_fired_17 : decode kb_M_fired 17 = .ok (.iload_n 1, 1) := by decide +kernel
theorem kd_M_fired_18 : decode kb_M_fired 18 = .ok (.laload, 1) := by decide +kernel
theorem kd_M_fired_19 : decode kb_M_fired 19 = .ok (.goto 4, 3) := by decide +kernel
theorem kd_M_fired_22 : decode kb_M_fired 22 = .ok (.lconst 0, 1) := by decide +kernel
theorem kd_M_fired_23 : decode kb_M_fired 23 = .ok (.lreturn, 1) := by decide +kernel
theorem kd_M_recurrent_0 : decode kb_M_recurrent 0 = .ok (.aload_n 0, 1) := by decide +kernel
theorem kd_M_recurrent_1 : decode kb_M_recurrent 1 = .ok (.iconst 0, 1) := by decide +kernel
theorem kd_M_recurrent_2 : decode kb_M_recurrent 2 = .ok (.putfield 69, 3) := by decide +kernel
theorem kd_M_recurrent_5 : decode kb_M_recurrent 5 = .ok (.aload_n 0, 1) := by decide +kernel
theorem kd_M_recurrent_6 : decode kb_M_recurrent 6 = .ok (.iload_n 1, 1) := by decide +kernel
theorem kd_M_recurrent_7 : decode kb_M_recurrent 7 = .ok (.invokevirtual 76, 3) := by decide +kernel
theorem kd_M_recurrent_10 : decode kb_M_recurrent 10 = .ok (.ifCond .eq 12, 3) := by decide +kernel
theorem kd_M_recurrent_13 : decode kb_M_recurrent 13 = .ok (.aload_n 0, 1) := by decide +kernel
theorem kd_M_recurrent_14 : decode kb_M_recurrent 14 = .ok (.invokevirtual 133, 3) := by decide +kernel
theorem kd_M_recurrent_17 : decode kb_M_recurrent 17 = .ok (.lconst 0, 1) := by decide +kernel
theorem kd_M_recurrent_18 : decode kb_M_recurrent 18 = .ok (.lcmp, 1) := by decide +kernel
theorem kd_M_recurrent_19 : decode kb_M_recurrent 19 = .ok (.ifCond .ne 5, 3) := by decide +kernel
theorem kd_M_recurrent_22 : decode kb_M_recurrent 22 = .ok (.iconst (-1), 1) := by decide +kernel
theorem kd_M_recurrent_23 : decode kb_M_recurrent 23 = .ok (.ireturn, 1) := by decide +kernel
theorem kd_M_recurrent_24 : decode kb_M_recurrent 24 = .ok (.aload_n 0, 1) := by decide +kernel
theorem kd_M_recurrent_25 : decode kb_M_recurrent 25 = .ok (.invokevirtual 208, 3) := by decide +kernel
theorem kd_M_recurrent_28 : decode kb_M_recurrent 28 = .ok (.iconst 1, 1) := by decide +kernel
theorem kd_M_recurrent_29 : decode kb_M_recurrent 29 = .ok (.istore_n 2, 1) := by decide +kernel
theorem kd_M_recurrent_30 : decode kb_M_recurrent 30 = .ok (.iconst 0, 1) := by decide +kernel
theorem kd_M_recurrent_31 : decode kb_M_recurrent 31 = .ok (.istore_n 3, 1) := by decide +kernel
theorem kd_M_recurrent_32 : decode kb_M_recurrent 32 = .ok (.iload_n 3, 1) := by decide +kernel
theorem kd_M_recurrent_33 : decode kb_M_recurrent 33 = .ok (.aload_n 0, 1) := by decide +kernel
theorem kd_M_recurrent_34 : decode kb_M_recurrent 34 = .ok (.getfield 73, 3) := by decide +kernel
theorem kd_M_recurrent_37 : decode kb_M_recurrent 37 = .ok (.if_icmp .ge 39, 3) := by decide +kernel
theorem kd_M_recurrent_40 : decode kb_M_recurrent 40 = .ok (.iload_n 2, 1) := by decide +kernel
theorem kd_M_recurrent_41 : decode kb_M_recurrent 41 = .ok (.ifCond .eq 27, 3) := by decide +kernel
theorem kd_M_recurrent_44 : decode kb_M_recurrent 44 = .ok (.iload_n 3, 1) := by decide +kernel
theorem kd_M_recurrent_45 : decode kb_M_recurrent 45 = .ok (.iload_n 1, 1) := by decide +kernel
theorem kd_M_recurrent_46 : decode kb_M_recurrent 46 = .ok (.if_icmp .eq 18, 3) := by decide +kernel
theorem kd_M_recurrent_49 : decode kb_M_recurrent 49 = .ok (.aload_n 0, 1) := by decide +kernel
theorem kd_M_recurrent_50 : decode kb_M_recurrent 50 = .ok (.getfield 63, 3) := by decide +kernel
theorem kd_M_recurrent_53 : decode kb_M_recurrent 53 = .ok (.iload_n 3, 1) := by decide +kernel
theorem kd_M_recurrent_54 : decode kb_M_recurrent 54 = .ok (.laload, 1) := by decide +kernel
theorem kd_M_recurrent_55 : decode kb_M_recurrent 55 = .ok (.aload_n 0, 1) := by decide +kernel
theorem kd_M_recurrent_56 : decode kb_M_recurrent 56 = .ok (.iload_n 3, 1) := by decide +kernel
theorem kd_M_recurrent_57 : decode kb_M_recurrent 57 = .ok (.invokevirtual 201, 3) := by decide +kernel
theorem kd_M_recurrent_60 : decode kb_M_recurrent 60 = .ok (.lcmp, 1) := by decide +kernel
theorem kd_M_recurrent_61 : decode kb_M_recurrent 61 = .ok (.ifCond .ge 7, 3) := by decide +kernel
theorem kd_M_recurrent_64 : decode kb_M_recurrent 64 = .ok (.iconst 1, 1) := by decide +kernel
theorem kd_M_recurrent_65 : decode kb_M_recurrent 65 = .ok (.goto 4, 3) := by decide +kernel
theorem kd_M_recurrent_68 : decode kb_M_recurrent 68 = .ok (.iconst 0, 1) := by decide +kernel
theorem kd_M_recurrent_69 : decode kb_M_recurrent 69 = .ok (.istore_n 2, 1) := by decide +kernel
theorem kd_M_recurrent_70 : decode kb_M_recurrent 70 = .ok (.iinc 3 1, 3) := by decide +kernel
theorem kd_M_recurrent_73 : decode kb_M_recurrent 73 = .ok (.goto (-41), 3) := by decide +kernel
theorem kd_M_recurrent_76 : decode kb_M_recurrent 76 = .ok (.iload_n 2, 1) := by decide +kernel
theorem kd_M_recurrent_77 : decode kb_M_recurrent 77 = .ok (.ifCond .ne 5, 3) := by decide +kernel
theorem kd_M_recurrent_80 : decode kb_M_recurrent 80 = .ok (.iconst 0, 1) := by decide +kernel
theorem kd_M_recurrent_81 : decode kb_M_recurrent 81 = .ok (.ireturn, 1) := by decide +kernel
theorem kd_M_recurrent_82 : decode kb_M_recurrent 82 = .ok (.aload_n 0, 1) := by decide +kernel
theorem kd_M_recurrent_83 : decode kb_M_recurrent 83 = .ok (.iload_n 1, 1) := by decide +kernel
theorem kd_M_recurrent_84 : decode kb_M_recurrent 84 = .ok (.lconst 1, 1) := by decide +kernel
theorem kd_M_recurrent_85 : decode kb_M_recurrent 85 = .ok (.invokevirtual 204, 3) := by decide +kernel
theorem kd_M_recurrent_88 : decode kb_M_recurrent 88 = .ok (.aload_n 0, 1) := by decide +kernel
theorem kd_M_recurrent_89 : decode kb_M_recurrent 89 = .ok (.iload_n 1, 1) := by decide +kernel
theorem kd_M_recurrent_90 : decode kb_M_recurrent 90 = .ok (.invokevirtual 211, 3) := by decide +kernel
theorem kd_M_recurrent_93 : decode kb_M_recurrent 93 = .ok (.lstore_n 3, 1) := by decide +kernel
theorem kd_M_recurrent_94 : decode kb_M_recurrent 94 = .ok (.iconst 0, 1) := by decide +kernel
theorem kd_M_recurrent_95 : decode kb_M_recurrent 95 = .ok (.istore 5, 2) := by decide +kernel
theorem kd_M_recurrent_97 : decode kb_M_recurrent 97 = .ok (.iload 5, 2) := by decide +kernel
theorem kd_M_recurrent_99 : decode kb_M_recurrent 99 = .ok (.aload_n 0, 1) := by decide +kernel
theorem kd_M_recurrent_100 : decode kb_M_recurrent 100 = .ok (.getfield 73, 3) := by decide +kernel
theorem kd_M_recurrent_103 : decode kb_M_recurrent 103 = .ok (.if_icmp .ge 37, 3) := by decide +kernel
theorem kd_M_recurrent_106 : decode kb_M_recurrent 106 = .ok (.iload_n 2, 1) := by decide +kernel
theorem kd_M_recurrent_107 : decode kb_M_recurrent 107 = .ok (.ifCond .eq 25, 3) := by decide +kernel
theorem kd_M_recurrent_110 : decode kb_M_recurrent 110 = .ok (.iload 5, 2) := by decide +kernel
theorem kd_M_recurrent_112 : decode kb_M_recurrent 112 = .ok (.iload_n 1, 1) := by decide +kernel
theorem kd_M_recurrent_113 : decode kb_M_recurrent 113 = .ok (.if_icmp .eq 15, 3) := by decide +kernel
theorem kd_M_recurrent_116 : decode kb_M_recurrent 116 = .ok (.aload_n 0, 1) := by decide +kernel
theorem kd_M_recurrent_117 : decode kb_M_recurrent 117 = .ok (.getfield 66, 3) := by decide +kernel
theorem kd_M_recurrent_120 : decode kb_M_recurrent 120 = .ok (.iload 5, 2) := by decide +kernel
theorem kd_M_recurrent_122 : decode kb_M_recurrent 122 = .ok (.laload, 1) := by decide +kernel
theorem kd_M_recurrent_123 : decode kb_M_recurrent 123 = .ok (.lconst 1, 1) := by decide +kernel
theorem kd_M_recurrent_124 : decode kb_M_recurrent 124 = .ok (.lcmp, 1) := by decide +kernel
theorem kd_M_recurrent_125 : decode kb_M_recurrent 125 = .ok (.ifCond .ne 7, 3) := by decide +kernel
theorem kd_M_recurrent_128 : decode kb_M_recurrent 128 = .ok (.iconst 1, 1) := by decide +kernel
theorem kd_M_recurrent_129 : decode kb_M_recurrent 129 = .ok (.goto 4, 3) := by decide +kernel
theorem kd_M_recurrent_132 : decode kb_M_recurrent 132 = .ok (.iconst 0, 1) := by decide +kernel
theorem kd_M_recurrent_133 : decode kb_M_recurrent 133 = .ok (.istore_n 2, 1) := by decide +kernel
theorem kd_M_recurrent_134 : decode kb_M_recurrent 134 = .ok (.iinc 5 1, 3) := by decide +kernel
theorem kd_M_recurrent_137 : decode kb_M_recurrent 137 = .ok (.goto (-40), 3) := by decide +kernel
theorem kd_M_recurrent_140 : decode kb_M_recurrent 140 = .ok (.iload_n 2, 1) := by decide +kernel
theorem kd_M_recurrent_141 : decode kb_M_recurrent 141 = .ok (.ifCond .eq 7, 3) := by decide +kernel
theorem kd_M_recurrent_144 : decode kb_M_recurrent 144 = .ok (.iconst 1, 1) := by decide +kernel
theorem kd_M_recurrent_145 : decode kb_M_recurrent 145 = .ok (.goto 4, 3) := by decide +kernel
theorem kd_M_recurrent_148 : decode kb_M_recurrent 148 = .ok (.iconst 0, 1) := by decide +kernel
theorem kd_M_recurrent_149 : decode kb_M_recurrent 149 = .ok (.ireturn, 1) := by decide +kernel
theorem kd_M_powerOf_0 : decode kb_M_powerOf 0 = .ok (.lconst 1, 1) := by decide +kernel
theorem kd_M_powerOf_1 : decode kb_M_powerOf 1 = .ok (.lstore_n 3, 1) := by decide +kernel
theorem kd_M_powerOf_2 : decode kb_M_powerOf 2 = .ok (.iconst 0, 1) := by decide +kernel
theorem kd_M_powerOf_3 : decode kb_M_powerOf 3 = .ok (.istore 5, 2) := by decide +kernel
theorem kd_M_powerOf_5 : decode kb_M_powerOf 5 = .ok (.iload 5, 2) := by decide +kernel
theorem kd_M_powerOf_7 : decode kb_M_powerOf 7 = .ok (.iload_n 2, 1) := by decide +kernel
theorem kd_M_powerOf_8 : decode kb_M_powerOf 8 = .ok (.if_icmp .ge 13, 3) := by decide +kernel
theorem kd_M_powerOf_11 : decode kb_M_powerOf 11 = .ok (.lload_n 3, 1) := by decide +kernel
theorem kd_M_powerOf_12 : decode kb_M_powerOf 12 = .ok (.lload_n 0, 1) := by decide +kernel
theorem kd_M_powerOf_13 : decode kb_M_powerOf 13 = .ok (.lmul, 1) := by decide +kernel
theorem kd_M_powerOf_14 : decode kb_M_powerOf 14 = .ok (.lstore_n 3, 1) := by decide +kernel
theorem kd_M_powerOf_15 : decode kb_M_powerOf 15 = .ok (.iinc 5 1, 3) := by decide +kernel
theorem kd_M_powerOf_18 : decode kb_M_powerOf 18 = .ok (.goto (-13), 3) := by decide +kernel
theorem kd_M_powerOf_21 : decode kb_M_powerOf 21 = .ok (.lload_n 3, 1) := by decide +kernel
theorem kd_M_powerOf_22 : decode kb_M_powerOf 22 = .ok (.lreturn, 1) := by decide +kernel
theorem kd_M_rank_0 : decode kb_M_rank 0 = .ok (.aload_n 0, 1) := by decide +kernel
theorem kd_M_rank_1 : decode kb_M_rank 1 = .ok (.invokevirtual 121, 3) := by decide +kernel
theorem kd_M_rank_4 : decode kb_M_rank 4 = .ok (.iconst 0, 1) := by decide +kernel
theorem kd_M_rank_5 : decode kb_M_rank 5 = .ok (.istore_n 2, 1) := by decide +kernel
theorem kd_M_rank_6 : decode kb_M_rank 6 = .ok (.iconst 0, 1) := by decide +kernel
theorem kd_M_rank_7 : decode kb_M_rank 7 = .ok (.istore_n 3, 1) := by decide +kernel
theorem kd_M_rank_8 : decode kb_M_rank 8 = .ok (.iload_n 3, 1) := by decide +kernel
theorem kd_M_rank_9 : decode kb_M_rank 9 = .ok (.aload_n 0, 1) := by decide +kernel
theorem kd_M_rank_10 : decode kb_M_rank 10 = .ok (.getfield 80, 3) := by decide +kernel
theorem kd_M_rank_13 : decode kb_M_rank 13 = .ok (.if_icmp .ge 40, 3) := by decide +kernel
theorem kd_M_rank_16 : decode kb_M_rank 16 = .ok (.iload_n 1, 1) := by decide +kernel
theorem kd_M_rank_17 : decode kb_M_rank 17 = .ok (.iload_n 3, 1) := by decide +kernel
theorem kd_M_rank_18 : decode kb_M_rank 18 = .ok (.ishr, 1) := by decide +kernel
theorem kd_M_rank_19 : decode kb_M_rank 19 = .ok (.iconst 1, 1) := by decide +kernel
theorem kd_M_rank_20 : decode kb_M_rank 20 = .ok (.iand, 1) := by decide +kernel
theorem kd_M_rank_21 : decode kb_M_rank 21 = .ok (.iconst 1, 1) := by decide +kernel
theorem kd_M_rank_22 : decode kb_M_rank 22 = .ok (.if_icmp .ne 25, 3) := by decide +kernel
theorem kd_M_rank_25 : decode kb_M_rank 25 = .ok (.aload_n 0, 1) := by decide +kernel
theorem kd_M_rank_26 : decode kb_M_rank 26 = .ok (.aload_n 0, 1) := by decide +kernel
theorem kd_M_rank_27 : decode kb_M_rank 27 = .ok (.getfield 7, 3) := by decide +kernel
theorem kd_M_rank_30 : decode kb_M_rank 30 = .ok (.iload_n 3, 1) := by decide +kernel
theorem kd_M_rank_31 : decode kb_M_rank 31 = .ok (.iaload, 1) := by decide +kernel
theorem kd_M_rank_32 : decode kb_M_rank 32 = .ok (.aload_n 0, 1) := by decide +kernel
theorem kd_M_rank_33 : decode kb_M_rank 33 = .ok (.getfield 13, 3) := by decide +kernel
theorem kd_M_rank_36 : decode kb_M_rank 36 = .ok (.iload_n 3, 1) := by decide +kernel
theorem kd_M_rank_37 : decode kb_M_rank 37 = .ok (.iaload, 1) := by decide +kernel
theorem kd_M_rank_38 : decode kb_M_rank 38 = .ok (.invokevirtual 144, 3) := by decide +kernel
theorem kd_M_rank_41 : decode kb_M_rank 41 = .ok (.ifCond .eq 6, 3) := by decide +kernel
theorem kd_M_rank_44 : decode kb_M_rank 44 = .ok (.iinc 2 1, 3) := by decide +kernel
theorem kd_M_rank_47 : decode kb_M_rank 47 = .ok (.iinc 3 1, 3) := by decide +kernel
theorem kd_M_rank_50 : decode kb_M_rank 50 = .ok (.goto (-42), 3) := by decide +kernel
theorem kd_M_rank_53 : decode kb_M_rank 53 = .ok (.iload_n 2, 1) := by decide +kernel
theorem kd_M_rank_54 : decode kb_M_rank 54 = .ok (.ireturn, 1) := by decide +kernel
theorem kd_M_point_0 : decode kb_M_point 0 = .ok (.aload_n 0, 1) := by decide +kernel
theorem kd_M_point_1 : decode kb_M_point 1 = .ok (.aload_n 0, 1) := by decide +kernel
theorem kd_M_point_2 : decode kb_M_point 2 = .ok (.getfield 80, 3) := by decide +kernel
theorem kd_M_point_5 : decode kb_M_point 5 = .ok (.bipush 14, 2) := by decide +kernel
theorem kd_M_point_7 : decode kb_M_point 7 = .ok (.if_icmp .le 7, 3) := by decide +kernel
theorem kd_M_point_10 : decode kb_M_point 10 = .ok (.iconst 1, 1) := by decide +kernel
theorem kd_M_point_11 : decode kb_M_point 11 = .ok (.goto 4, 3) := by decide +kernel
theorem kd_M_point_14 : decode kb_M_point 14 = .ok (.iconst 0, 1) := by decide +kernel
theorem kd_M_point_15 : decode kb_M_point 15 = .ok (.putfield 69, 3) := by decide +kernel
theorem kd_M_point_18 : decode kb_M_point 18 = .ok (.aload_n 0, 1) := by decide +kernel
theorem kd_M_point_19 : decode kb_M_point 19 = .ok (.getfield 69, 3) := by decide +kernel
theorem kd_M_point_22 : decode kb_M_point 22 = .ok (.ifCond .le 5, 3) := by decide +kernel
theorem kd_M_point_25 : decode kb_M_point 25 = .ok (.lconst 0, 1) := by decide +kernel
theorem kd_M_point_26 : decode kb_M_point 26 = .ok (.lreturn, 1) := by decide +kernel
theorem kd_M_point_27 : decode kb_M_point 27 = .ok (.aload_n 0, 1) := by decide +kernel
theorem kd_M_point_28 : decode kb_M_point 28 = .ok (.iconst 1, 1) := by decide +kernel
theorem kd_M_point_29 : decode kb_M_point 29 = .ok (.aload_n 0, 1) := by decide +kernel
theorem kd_M_point_30 : decode kb_M_point 30 = .ok (.getfield 80, 3) := by decide +kernel
theorem kd_M_point_33 : decode kb_M_point 33 = .ok (.ishl, 1) := by decide +kernel
theorem kd_M_point_34 : decode kb_M_point 34 = .ok (.iconst 1, 1) := by decide +kernel
theorem kd_M_point_35 : decode kb_M_point 35 = .ok (.isub, 1) := by decide +kernel
theorem kd_M_point_36 : decode kb_M_point 36 = .ok (.invokevirtual 214, 3) := by decide +kernel
theorem kd_M_point_39 : decode kb_M_point 39 = .ok (.istore 5, 2) := by decide +kernel
theorem kd_M_point_41 : decode kb_M_point 41 = .ok (.lconst 0, 1) := by decide +kernel
theorem kd_M_point_42 : decode kb_M_point 42 = .ok (.lstore 6, 2) := by decide +kernel
theorem kd_M_point_44 : decode kb_M_point 44 = .ok (.iconst 0, 1) := by decide +kernel
theorem kd_M_point_45 : decode kb_M_point 45 = .ok (.istore 8, 2) := by decide +kernel
theorem kd_M_point_47 : decode kb_M_point 47 = .ok (.iload 8, 2) := by decide +kernel
theorem kd_M_point_49 : decode kb_M_point 49 = .ok (.iconst 1, 1) := by decide +kernel
theorem kd_M_point_50 : decode kb_M_point 50 = .ok (.aload_n 0, 1) := by decide +kernel
theorem kd_M_point_51 : decode kb_M_point 51 = .ok (.getfield 80, 3) := by decide +kernel
theorem kd_M_point_54 : decode kb_M_point 54 = .ok (.ishl, 1) := by decide +kernel
theorem kd_M_point_55 : decode kb_M_point 55 = .ok (.if_icmp .ge 78, 3) := by decide +kernel
theorem kd_M_point_58 : decode kb_M_point 58 = .ok (.iconst 0, 1) := by decide +kernel
theorem kd_M_point_59 : decode kb_M_point 59 = .ok (.istore 9, 2) := by decide +kernel
theorem kd_M_point_61 : decode kb_M_point 61 = .ok (.iconst 0, 1) := by decide +kernel
theorem kd_M_point_62 : decode kb_M_point 62 = .ok (.istore 10, 2) := by decide +kernel
theorem kd_M_point_64 : decode kb_M_point 64 = .ok (.iload 10, 2) := by decide +kernel
theorem kd_M_point_66 : decode kb_M_point 66 = .ok (.aload_n 0, 1) := by decide +kernel
theorem kd_M_point_67 : decode kb_M_point 67 = .ok (.getfield 80, 3) := by decide +kernel
theorem kd_M_point_70 : decode kb_M_point 70 = .ok (.if_icmp .ge 21, 3) := by decide +kernel
theorem kd_M_point_73 : decode kb_M_point 73 = .ok (.iload 9, 2) := by decide +kernel
theorem kd_M_point_75 : decode kb_M_point 75 = .ok (.iload 8, 2) := by decide +kernel
theorem kd_M_point_77 : decode kb_M_point 77 = .ok (.iload 10, 2) := by decide +kernel
theorem kd_M_point_79 : decode kb_M_point 79 = .ok (.ishr, 1) := by decide +kernel
theorem kd_M_point_80 : decode kb_M_point 80 = .ok (.iconst 1, 1) := by decide +kernel
theorem kd_M_point_81 : decode kb_M_point 81 = .ok (.iand, 1) := by decide +kernel
theorem kd_M_point_82 : decode kb_M_point 82 = .ok (.iadd, 1) := by decide +kernel
theorem kd_M_point_83 : decode kb_M_point 83 = .ok (.istore 9, 2) := by decide +kernel
theorem kd_M_point_85 : decode kb_M_point 85 = .ok (.iinc 10 1, 3) := by decide +kernel
theorem kd_M_point_88 : decode kb_M_point 88 = .ok (.goto (-24), 3) := by decide +kernel
theorem kd_M_point_91 : decode kb_M_point 91 = .ok (.aload_n 0, 1) := by decide +kernel
theorem kd_M_point_92 : decode kb_M_point 92 = .ok (.iload 8, 2) := by decide +kernel
theorem kd_M_point_94 : decode kb_M_point 94 = .ok (.invokevirtual 214, 3) := by decide +kernel
theorem kd_M_point_97 : decode kb_M_point 97 = .ok (.istore 10, 2) := by decide +kernel
theorem kd_M_point_99 : decode kb_M_point 99 = .ok (.lload 6, 2) := by decide +kernel
theorem kd_M_point_101 : decode kb_M_point 101 = .ok (.lload_n 1, 1) := by decide +kernel
theorem kd_M_point_102 : decode kb_M_point 102 = .ok (.lconst 1, 1) := by decide +kernel
theorem kd_M_point_103 : decode kb_M_point 103 = .ok (.lsub, 1) := by decide +kernel
theorem kd_M_point_104 : decode kb_M_point 104 = .ok (.iload 5, 2) := by decide +kernel
theorem kd_M_point_106 : decode kb_M_point 106 = .ok (.iload 10, 2) := by decide +kernel
theorem kd_M_point_108 : decode kb_M_point 108 = .ok (.isub, 1) := by decide +kernel
theorem kd_M_point_109 : decode kb_M_point 109 = .ok (.invokestatic 218, 3) := by decide +kernel
theorem kd_M_point_112 : decode kb_M_point 112 = .ok (.lload_n 3, 1) := by decide +kernel
theorem kd_M_point_113 : decode kb_M_point 113 = .ok (.lconst 1, 1) := by decide +kernel
theorem kd_M_point_114 : decode kb_M_point 114 = .ok (.lsub, 1) := by decide +kernel
theorem kd_M_point_115 : decode kb_M_point 115 = .ok (.iload 9, 2) := by decide +kernel
theorem kd_M_point_117 : decode kb_M_point 117 = .ok (.iload 10, 2) := by decide +kernel
theorem kd_M_point_119 : decode kb_M_point 119 = .ok (.isub, 1) := by decide +kernel
theorem kd_M_point_120 : decode kb_M_point 120 = .ok (.invokestatic 218, 3) := by decide +kernel
theorem kd_M_point_123 : decode kb_M_point 123 = .ok (.lmul, 1) := by decide +kernel
theorem kd_M_point_124 : decode kb_M_point 124 = .ok (.ladd, 1) := by decide +kernel
theorem kd_M_point_125 : decode kb_M_point 125 = .ok (.lstore 6, 2) := by decide +kernel
theorem kd_M_point_127 : decode kb_M_point 127 = .ok (.iinc 8 1, 3) := by decide +kernel
theorem kd_M_point_130 : decode kb_M_point 130 = .ok (.goto (-83), 3) := by decide +kernel
theorem kd_M_point_133 : decode kb_M_point 133 = .ok (.lload 6, 2) := by decide +kernel
theorem kd_M_point_135 : decode kb_M_point 135 = .ok (.lreturn, 1) := by decide +kernel
theorem kd_M_told_0 : decode kb_M_told 0 = .ok (.aload_n 0, 1) := by decide +kernel
theorem kd_M_told_1 : decode kb_M_told 1 = .ok (.iconst 0, 1) := by decide +kernel
theorem kd_M_told_2 : decode kb_M_told 2 = .ok (.putfield 69, 3) := by decide +kernel
theorem kd_M_told_5 : decode kb_M_told 5 = .ok (.iload_n 1, 1) := by decide +kernel
theorem kd_M_told_6 : decode kb_M_told 6 = .ok (.tableswitch 83 0 4 #[34, 39, 44, 59, 64], 34) := by decide +kernel
theorem kd_M_told_40 : decode kb_M_told 40 = .ok (.aload_n 0, 1) := by decide +kernel
theorem kd_M_told_41 : decode kb_M_told 41 = .ok (.getfield 73, 3) := by decide +kernel
theorem kd_M_told_44 : decode kb_M_told 44 = .ok (.ireturn, 1) := by decide +kernel
theorem kd_M_told_45 : decode kb_M_told 45 = .ok (.aload_n 0, 1) := by decide +kernel
theorem kd_M_told_46 : decode kb_M_told 46 = .ok (.getfield 80, 3) := by decide +kernel
theorem kd_M_told_49 : decode kb_M_told 49 = .ok (.ireturn, 1) := by decide +kernel
theorem kd_M_told_50 : decode kb_M_told 50 = .ok (.aload_n 0, 1) := by decide +kernel
theorem kd_M_told_51 : decode kb_M_told 51 = .ok (.getfield 73, 3) := by decide +kernel
theorem kd_M_told_54 : decode kb_M_told 54 = .ok (.aload_n 0, 1) := by decide +kernel
theorem kd_M_told_55 : decode kb_M_told 55 = .ok (.getfield 80, 3) := by decide +kernel
theorem kd_M_told_58 : decode kb_M_told 58 = .ok (.aload_n 0, 1) := by decide +kernel
theorem kd_M_told_59 : decode kb_M_told 59 = .ok (.invokevirtual 158, 3) := by decide +kernel
theorem kd_M_told_62 : decode kb_M_told 62 = .ok (.isub, 1) := by decide +kernel
theorem kd_M_told_63 : decode kb_M_told 63 = .ok (.isub, 1) := by decide +kernel
theorem kd_M_told_64 : decode kb_M_told 64 = .ok (.ireturn, 1) := by decide +kernel
theorem kd_M_told_65 : decode kb_M_told 65 = .ok (.aload_n 0, 1) := by decide +kernel
theorem kd_M_told_66 : decode kb_M_told 66 = .ok (.invokevirtual 158, 3) := by decide +kernel
theorem kd_M_told_69 : decode kb_M_told 69 = .ok (.ireturn, 1) := by decide +kernel
theorem kd_M_told_70 : decode kb_M_told 70 = .ok (.aload_n 0, 1) := by decide +kernel
theorem kd_M_told_71 : decode kb_M_told 71 = .ok (.invokevirtual 158, 3) := by decide +kernel
theorem kd_M_told_74 : decode kb_M_told 74 = .ok (.ifCond .ne 5, 3) := by decide +kernel
theorem kd_M_told_77 : decode kb_M_told 77 = .ok (.iconst 0, 1) := by decide +kernel
theorem kd_M_told_78 : decode kb_M_told 78 = .ok (.ireturn, 1) := by decide +kernel
theorem kd_M_told_79 : decode kb_M_told 79 = .ok (.aload_n 0, 1) := by decide +kernel
theorem kd_M_told_80 : decode kb_M_told 80 = .ok (.iconst 0, 1) := by decide +kernel
theorem kd_M_told_81 : decode kb_M_told 81 = .ok (.invokevirtual 162, 3) := by decide +kernel
theorem kd_M_told_84 : decode kb_M_told 84 = .ok (.aload_n 0, 1) := by decide +kernel
theorem kd_M_told_85 : decode kb_M_told 85 = .ok (.getfield 155, 3) := by decide +kernel
theorem kd_M_told_88 : decode kb_M_told 88 = .ok (.ireturn, 1) := by decide +kernel
theorem kd_M_told_89 : decode kb_M_told 89 = .ok (.iload_n 1, 1) := by decide +kernel
theorem kd_M_told_90 : decode kb_M_told 90 = .ok (.iconst 5, 1) := by decide +kernel
theorem kd_M_told_91 : decode kb_M_told 91 = .ok (.if_icmp .ne 21, 3) := by decide +kernel
theorem kd_M_told_94 : decode kb_M_told 94 = .ok (.aload_n 0, 1) := by decide +kernel
theorem kd_M_told_95 : decode kb_M_told 95 = .ok (.invokevirtual 197, 3) := by decide +kernel
theorem kd_M_told_98 : decode kb_M_told 98 = .ok (.ifCond .eq 10, 3) := by decide +kernel
theorem kd_M_told_101 : decode kb_M_told 101 = .ok (.aload_n 0, 1) := by decide +kernel
theorem kd_M_told_102 : decode kb_M_told 102 = .ok (.getfield 183, 3) := by decide +kernel
theorem kd_M_told_105 : decode kb_M_told 105 = .ok (.goto 8, 3) := by decide +kernel
theorem kd_M_told_108 : decode kb_M_told 108 = .ok (.iconst 0, 1) := by decide +kernel
theorem kd_M_told_109 : decode kb_M_told 109 = .ok (.goto 4, 3) := by decide +kernel
theorem kd_M_told_112 : decode kb_M_told 112 = .ok (.iconst (-1), 1) := by decide +kernel
theorem kd_M_told_113 : decode kb_M_told 113 = .ok (.ireturn, 1) := by decide +kernel
theorem kd_M_clear_0 : decode kb_M_clear 0 = .ok (.aload_n 0, 1) := by decide +kernel
theorem kd_M_clear_1 : decode kb_M_clear 1 = .ok (.iconst 0, 1) := by decide +kernel
theorem kd_M_clear_2 : decode kb_M_clear 2 = .ok (.putfield 69, 3) := by decide +kernel
theorem kd_M_clear_5 : decode kb_M_clear 5 = .ok (.aload_n 0, 1) := by decide +kernel
theorem kd_M_clear_6 : decode kb_M_clear 6 = .ok (.iconst 0, 1) := by decide +kernel
theorem kd_M_clear_7 : decode kb_M_clear 7 = .ok (.putfield 73, 3) := by decide +kernel
theorem kd_M_clear_10 : decode kb_M_clear 10 = .ok (.aload_n 0, 1) := by decide +kernel
theorem kd_M_clear_11 : decode kb_M_clear 11 = .ok (.iconst 0, 1) := by decide +kernel
theorem kd_M_clear_12 : decode kb_M_clear 12 = .ok (.putfield 80, 3) := by decide +kernel
theorem kd_M_clear_15 : decode kb_M_clear 15 = .ok (.return_, 1) := by decide +kernel
