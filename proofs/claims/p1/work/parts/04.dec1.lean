theorem kd_C_init_0 : decode kb_C_init 0 = .ok (.aload_n 0, 1) := by decide +kernel
theorem kd_C_init_1 : decode kb_C_init 1 = .ok (.invokespecial 1, 3) := by decide +kernel
theorem kd_C_init_4 : decode kb_C_init 4 = .ok (.aload_n 0, 1) := by decide +kernel
theorem kd_C_init_5 : decode kb_C_init 5 = .ok (.new 7, 3) := by decide +kernel
theorem kd_C_init_8 : decode kb_C_init 8 = .ok (.dup, 1) := by decide +kernel
theorem kd_C_init_9 : decode kb_C_init 9 = .ok (.invokespecial 9, 3) := by decide +kernel
theorem kd_C_init_12 : decode kb_C_init 12 = .ok (.putfield 10, 3) := by decide +kernel
theorem kd_C_init_15 : decode kb_C_init 15 = .ok (.new 16, 3) := by decide +kernel
theorem kd_C_init_18 : decode kb_C_init 18 = .ok (.dup, 1) := by decide +kernel
theorem kd_C_init_19 : decode kb_C_init 19 = .ok (.invokespecial 18, 3) := by decide +kernel
theorem kd_C_init_22 : decode kb_C_init 22 = .ok (.astore_n 1, 1) := by decide +kernel
theorem kd_C_init_23 : decode kb_C_init 23 = .ok (.new 19, 3) := by decide +kernel
theorem kd_C_init_26 : decode kb_C_init 26 = .ok (.dup, 1) := by decide +kernel
theorem kd_C_init_27 : decode kb_C_init 27 = .ok (.invokespecial 21, 3) := by decide +kernel
theorem kd_C_init_30 : decode kb_C_init 30 = .ok (.astore_n 2, 1) := by decide +kernel
theorem kd_C_init_31 : decode kb_C_init 31 = .ok (.aload_n 0, 1) := by decide +kernel
theorem kd_C_init_32 : decode kb_C_init 32 = .ok (.new 22, 3) := by decide +kernel
theorem kd_C_init_35 : decode kb_C_init 35 = .ok (.dup, 1) := by decide +kernel
theorem kd_C_init_36 : decode kb_C_init 36 = .ok (.aload_n 0, 1) := by decide +kernel
theorem kd_C_init_37 : decode kb_C_init 37 = .ok (.getfield 10, 3) := by decide +kernel
theorem kd_C_init_40 : decode kb_C_init 40 = .ok (.aload_n 1, 1) := by decide +kernel
theorem kd_C_init_41 : decode kb_C_init 41 = .ok (.aload_n 2, 1) := by decide +kernel
theorem kd_C_init_42 : decode kb_C_init 42 = .ok (.invokespecial 24, 3) := by decide +kernel
theorem kd_C_init_45 : decode kb_C_init 45 = .ok (.putfield 27, 3) := by decide +kernel
theorem kd_C_init_48 : decode kb_C_init 48 = .ok (.aload_n 0, 1) := by decide +kernel
theorem kd_C_init_49 : decode kb_C_init 49 = .ok (.new 31, 3) := by decide +kernel
theorem kd_C_init_52 : decode kb_C_init 52 = .ok (.dup, 1) := by decide +kernel
theorem kd_C_init_53 : decode kb_C_init 53 = .ok (.aload_n 0, 1) := by decide +kernel
theorem kd_C_init_54 : decode kb_C_init 54 = .ok (.getfield 10, 3) := by decide +kernel
theorem kd_C_init_57 : decode kb_C_init 57 = .ok (.aload_n 1, 1) := by decide +kernel
theorem kd_C_init_58 : decode kb_C_init 58 = .ok (.invokespecial 33, 3) := by decide +kernel
theorem kd_C_init_61 : decode kb_C_init 61 = .ok (.putfield 36, 3) := by decide +kernel
theorem kd_C_init_64 : decode kb_C_init 64 = .ok (.aload_n 0, 1) := by decide +kernel
theorem kd_C_init_65 : decode kb_C_init 65 = .ok (.new 40, 3) := by decide +kernel
theorem kd_C_init_68 : decode kb_C_init 68 = .ok (.dup, 1) := by decide +kernel
theorem kd_C_init_69 : decode kb_C_init 69 = .ok (.aload_n 0, 1) := by decide +kernel
theorem kd_C_init_70 : decode kb_C_init 70 = .ok (.getfield 10, 3) := by decide +kernel
theorem kd_C_init_73 : decode kb_C_init 73 = .ok (.aload_n 0, 1) := by decide +kernel
theorem kd_C_init_74 : decode kb_C_init 74 = .ok (.getfield 27, 3) := by decide +kernel
theorem kd_C_init_77 : decode kb_C_init 77 = .ok (.aload_n 2, 1) := by decide +kernel
theorem kd_C_init_78 : decode kb_C_init 78 = .ok (.invokespecial 42, 3) := by decide +kernel
theorem kd_C_init_81 : decode kb_C_init 81 = .ok (.putfield 45, 3) := by decide +kernel
theorem kd_C_init_84 : decode kb_C_init 84 = .ok (.aload_n 0, 1) := by decide +kernel
theorem kd_C_init_85 : decode kb_C_init 85 = .ok (.new 49, 3) := by decide +kernel
theorem kd_C_init_88 : decode kb_C_init 88 = .ok (.dup, 1) := by decide +kernel
theorem kd_C_init_89 : decode kb_C_init 89 = .ok (.aload_n 0, 1) := by decide +kernel
theorem kd_C_init_90 : decode kb_C_init 90 = .ok (.getfield 10, 3) := by decide +kernel
theorem kd_C_init_93 : decode kb_C_init 93 = .ok (.aload_n 2, 1) := by decide +kernel
theorem kd_C_init_94 : decode kb_C_init 94 = .ok (.invokespecial 51, 3) := by decide +kernel
theorem kd_C_init_97 : decode kb_C_init 97 = .ok (.putfield 54, 3) := by decide +kernel
theorem kd_C_init_100 : decode kb_C_init 100 = .ok (.aload_n 0, 1) := by decide +kernel
theorem kd_C_init_101 : decode kb_C_init 101 = .ok (.new 58, 3) := by decide +kernel
theorem kd_C_init_104 : decode kb_C_init 104 = .ok (.dup, 1) := by decide +kernel
theorem kd_C_init_105 : decode kb_C_init 105 = .ok (.aload_n 0, 1) := by decide +kernel
theorem kd_C_init_106 : decode kb_C_init 106 = .ok (.getfield 10, 3) := by decide +kernel
theorem kd_C_init_109 : decode kb_C_init 109 = .ok (.aload_n 1, 1) := by decide +kernel
theorem kd_C_init_110 : decode kb_C_init 110 = .ok (.invokespecial 60, 3) := by decide +kernel
theorem kd_C_init_113 : decode kb_C_init 113 = .ok (.putfield 61, 3) := by decide +kernel
theorem kd_C_init_116 : decode kb_C_init 116 = .ok (.return_, 1) := by decide +kernel
theorem kd_C_node_0 : decode kb_C_node 0 = .ok (.aload_n 0, 1) := by decide +kernel
theorem kd_C_node_1 : decode kb_C_node 1 = .ok (.getfield 10, 3) := by decide +kernel
theorem kd_C_node_4 : decode kb_C_node 4 = .ok (.getfield 65, 3) := by decide +kernel
theorem kd_C_node_7 : decode kb_C_node 7 = .ok (.bipush 10, 2) := by decide +kernel
theorem kd_C_node_9 : decode kb_C_node 9 = .ok (.if_icmp .lt 5, 3) := by decide +kernel
theorem kd_C_node_12 : decode kb_C_node 12 = .ok (.iconst (-1), 1) := by decide +kernel
theorem kd_C_node_13 : decode kb_C_node 13 = .ok (.ireturn, 1) := by decide +kernel
theorem kd_C_node_14 : decode kb_C_node 14 = .ok (.aload_n 0, 1) := by decide +kernel
theorem kd_C_node_15 : decode kb_C_node 15 = .ok (.getfield 10, 3) := by decide +kernel
theorem kd_C_node_18 : decode kb_C_node 18 = .ok (.dup, 1) := by decide +kernel
theorem kd_C_node_19 : decode kb_C_node 19 = .ok (.getfield 65, 3) := by decide +kernel
theorem kd_C_node_22 : decode kb_C_node 22 = .ok (.dup_x1, 1) := by decide +kernel
theorem kd_C_node_23 : decode kb_C_node 23 = .ok (.iconst 1, 1) := by decide +kernel
theorem kd_C_node_24 : decode kb_C_node 24 = .ok (.iadd, 1) := by decide +kernel
theorem kd_C_node_25 : decode kb_C_node 25 = .ok (.putfield 65, 3) := by decide +kernel
theorem kd_C_node_28 : decode kb_C_node 28 = .ok (.ireturn, 1) := by decide +kernel
theorem kd_C_arc_0 : decode kb_C_arc 0 = .ok (.aload_n 0, 1) := by decide +kernel
theorem kd_C_arc_1 : decode kb_C_arc 1 = .ok (.getfield 10, 3) := by decide +kernel
theorem kd_C_arc_4 : decode kb_C_arc 4 = .ok (.iload_n 1, 1) := by decide +kernel
theorem kd_C_arc_5 : decode kb_C_arc 5 = .ok (.invokevirtual 69, 3) := by decide +kernel
theorem kd_C_arc_8 : decode kb_C_arc 8 = .ok (.ifCond .eq 33, 3) := by decide +kernel
theorem kd_C_arc_11 : decode kb_C_arc 11 = .ok (.aload_n 0, 1) := by decide +kernel
theorem kd_C_arc_12 : decode kb_C_arc 12 = .ok (.getfield 10, 3) := by decide +kernel
theorem kd_C_arc_15 : decode kb_C_arc 15 = .ok (.iload_n 2, 1) := by decide +kernel
theorem kd_C_arc_16 : decode kb_C_arc 16 = .ok (.invokevirtual 69, 3) := by decide +kernel
theorem kd_C_arc_19 : decode kb_C_arc 19 = .ok (.ifCond .eq 22, 3) := by decide +kernel
theorem kd_C_arc_22 : decode kb_C_arc 22 = .ok (.iload_n 3, 1) := by decide +kernel
theorem kd_C_arc_23 : decode kb_C_arc 23 = .ok (.invokestatic 73, 3) := by decide +kernel
theorem kd_C_arc_26 : decode kb_C_arc 26 = .ok (.ifCond .eq 15, 3) := by decide +kernel
theorem kd_C_arc_29 : decode kb_C_arc 29 = .ok (.aload_n 0, 1) := by decide +kernel
theorem kd_C_arc_30 : decode kb_C_arc 30 = .ok (.getfield 10, 3) := by decide +kernel
theorem kd_C_arc_33 : decode kb_C_arc 33 = .ok (.getfield 76, 3) := by decide +kernel
theorem kd_C_arc_36 : decode kb_C_arc 36 = .ok (.bipush 30, 2) := by decide +kernel
theorem kd_C_arc_38 : decode kb_C_arc 38 = .ok (.if_icmp .lt 5, 3) := by decide +kernel
theorem kd_C_arc_41 : decode kb_C_arc 41 = .ok (.iconst (-1), 1) := by decide +kernel
theorem kd_C_arc_42 : decode kb_C_arc 42 = .ok (.ireturn, 1) := by decide +kernel
theorem kd_C_arc_43 : decode kb_C_arc 43 = .ok (.aload_n 0, 1) := by decide +kernel
theorem kd_C_arc_44 : decode kb_C_arc 44 = .ok (.getfield 10, 3) := by decide +kernel
theorem kd_C_arc_47 : decode kb_C_arc 47 = .ok (.getfield 79, 3) := by decide +kernel
theorem kd_C_arc_50 : decode kb_C_arc 50 = .ok (.aload_n 0, 1) := by decide +kernel
theorem kd_C_arc_51 : decode kb_C_arc 51 = .ok (.getfield 10, 3) := by decide +kernel
theorem kd_C_arc_54 : decode kb_C_arc 54 = .ok (.getfield 76, 3) := by decide +kernel
theorem kd_C_arc_57 : decode kb_C_arc 57 = .ok (.iload_n 1, 1) := by decide +kernel
theorem kd_C_arc_58 : decode kb_C_arc 58 = .ok (.iastore, 1) := by decide +kernel
theorem kd_C_arc_59 : decode kb_C_arc 59 = .ok (.aload_n 0, 1) := by decide +kernel
theorem kd_C_arc_60 : decode kb_C_arc 60 = .ok (.getfield 10, 3) := by decide +kernel
theorem kd_C_arc_63 : decode kb_C_arc 63 = .ok (.getfield 83, 3) := by decide +kernel
theorem kd_C_arc_66 : decode kb_C_arc 66 = .ok (.aload_n 0, 1) := by decide +kernel
theorem kd_C_arc_67 : decode kb_C_arc 67 = .ok (.getfield 10, 3) := by decide +kernel
theorem kd_C_arc_70 : decode kb_C_arc 70 = .ok (.getfield 76, 3) := by decide +kernel
theorem kd_C_arc_73 : decode kb_C_arc 73 = .ok (.iload_n 2, 1) := by decide +kernel
theorem kd_C_arc_74 : decode kb_C_arc 74 = .ok (.iastore, 1) := by decide +kernel
theorem kd_C_arc_75 : decode kb_C_arc 75 = .ok (.aload_n 0, 1) := by decide +kernel
theorem kd_C_arc_76 : decode kb_C_arc 76 = .ok (.getfield 10, 3) := by decide +kernel
theorem kd_C_arc_79 : decode kb_C_arc 79 = .ok (.getfield 86, 3) := by decide +kernel
theorem kd_C_arc_82 : decode kb_C_arc 82 = .ok (.aload_n 0, 1) := by decide +kernel
theorem kd_C_arc_83 : decode kb_C_arc 83 = .ok (.getfield 10, 3) := by decide +kernel
theorem kd_C_arc_86 : decode kb_C_arc 86 = .ok (.getfield 76, 3) := by decide +kernel
theorem kd_C_arc_89 : decode kb_C_arc 89 = .ok (.iload_n 3, 1) := by decide +kernel
theorem kd_C_arc_90 : decode kb_C_arc 90 = .ok (.iastore, 1) := by decide +kernel
theorem kd_C_arc_91 : decode kb_C_arc 91 = .ok (.aload_n 0, 1) := by decide +kernel
theorem kd_C_arc_92 : decode kb_C_arc 92 = .ok (.getfield 10, 3) := by decide +kernel
theorem kd_C_arc_95 : decode kb_C_arc 95 = .ok (.dup, 1) := by decide +kernel
theorem kd_C_arc_96 : decode kb_C_arc 96 = .ok (.getfield 76, 3) := by decide +kernel
theorem kd_C_arc_99 : decode kb_C_arc 99 = .ok (.dup_x1, 1) := by decide +kernel
theorem kd_C_arc_100 : decode kb_C_arc 100 = .ok (.iconst 1, 1) := by decide +kernel
theorem kd_C_arc_101 : decode kb_C_arc 101 = .ok (.iadd, 1) := by decide +kernel
theorem kd_C_arc_102 : decode kb_C_arc 102 = .ok (.putfield 76, 3) := by decide +kernel
theorem kd_C_arc_105 : decode kb_C_arc 105 = .ok (.ireturn, 1) := by decide +kernel
theorem kd_C_weigh_0 : decode kb_C_weigh 0 = .ok (.aload_n 0, 1) := by decide +kernel
theorem kd_C_weigh_1 : decode kb_C_weigh 1 = .ok (.getfield 10, 3) := by decide +kernel
theorem kd_C_weigh_4 : decode kb_C_weigh 4 = .ok (.iload_n 1, 1) := by decide +kernel
theorem kd_C_weigh_5 : decode kb_C_weigh 5 = .ok (.invokevirtual 89, 3) := by decide +kernel
theorem kd_C_weigh_8 : decode kb_C_weigh 8 = .ok (.ifCond .eq 10, 3) := by decide +kernel
theorem kd_C_weigh_11 : decode kb_C_weigh 11 = .ok (.iload_n 2, 1) := by decide +kernel
theorem kd_C_weigh_12 : decode kb_C_weigh 12 = .ok (.invokestatic 73, 3) := by decide +kernel
theorem kd_C_weigh_15 : decode kb_C_weigh 15 = .ok (.ifCond .ne 5, 3) := by decide +kernel
theorem kd_C_weigh_18 : decode kb_C_weigh 18 = .ok (.iconst (-1), 1) := by decide +kernel
theorem kd_C_weigh_19 : decode kb_C_weigh 19 = .ok (.ireturn, 1) := by decide +kernel
theorem kd_C_weigh_20 : decode kb_C_weigh 20 = .ok (.aload_n 0, 1) := by decide +kernel
theorem kd_C_weigh_21 : decode kb_C_weigh 21 = .ok (.getfield 10, 3) := by decide +kernel
theorem kd_C_weigh_24 : decode kb_C_weigh 24 = .ok (.getfield 86, 3) := by decide +kernel
theorem kd_C_weigh_27 : decode kb_C_weigh 27 = .ok (.iload_n 1, 1) := by decide +kernel
theorem kd_C_weigh_28 : decode kb_C_weigh 28 = .ok (.iaload, 1) := by decide +kernel
theorem kd_C_weigh_29 : decode kb_C_weigh 29 = .ok (.istore_n 3, 1) := by decide +kernel
theorem kd_C_weigh_30 : decode kb_C_weigh 30 = .ok (.aload_n 0, 1) := by decide +kernel
theorem kd_C_weigh_31 : decode kb_C_weigh 31 = .ok (.getfield 10, 3) := by decide +kernel
theorem kd_C_weigh_34 : decode kb_C_weigh 34 = .ok (.getfield 86, 3) := by decide +kernel
theorem kd_C_weigh_37 : decode kb_C_weigh 37 = .ok (.iload_n 1, 1) := by decide +kernel
theorem kd_C_weigh_38 : decode kb_C_weigh 38 = .ok (.iload_n 2, 1) := by decide +kernel
theorem kd_C_weigh_39 : decode kb_C_weigh 39 = .ok (.iastore, 1) := by decide +kernel
theorem kd_C_weigh_40 : decode kb_C_weigh 40 = .ok (.iload_n 3, 1) := by decide +kernel
theorem kd_C_weigh_41 : decode kb_C_weigh 41 = .ok (.ireturn, 1) := by decide +kernel
theorem kd_C_drop_0 : decode kb_C_drop 0 = .ok (.aload_n 0, 1) := by decide +kernel
theorem kd_C_drop_1 : decode kb_C_drop 1 = .ok (.getfield 10, 3) := by decide +kernel
theorem kd_C_drop_4 : decode kb_C_drop 4 = .ok (.getfield 76, 3) := by decide +kernel
theorem kd_C_drop_7 : decode kb_C_drop 7 = .ok (.ifCond .ne 5, 3) := by decide +kernel
theorem kd_C_drop_10 : decode kb_C_drop 10 = .ok (.iconst 0, 1) := by decide +kernel
theorem kd_C_drop_11 : decode kb_C_drop 11 = .ok (.ireturn, 1) := by decide +kernel
theorem kd_C_drop_12 : decode kb_C_drop 12 = .ok (.aload_n 0, 1) := by decide +kernel
theorem kd_C_drop_13 : decode kb_C_drop 13 = .ok (.getfield 10, 3) := by decide +kernel
theorem kd_C_drop_16 : decode kb_C_drop 16 = .ok (.dup, 1) := by decide +kernel
theorem kd_C_drop_17 : decode kb_C_drop 17 = .ok (.getfield 76, 3) := by decide +kernel
theorem kd_C_drop_20 : decode kb_C_drop 20 = .ok (.iconst 1, 1) := by decide +kernel
theorem kd_C_drop_21 : decode kb_C_drop 21 = .ok (.isub, 1) := by decide +kernel
theorem kd_C_drop_22 : decode kb_C_drop 22 = .ok (.putfield 76, 3) := by decide +kernel
theorem kd_C_drop_25 : decode kb_C_drop 25 = .ok (.iconst 1, 1) := by decide +kernel
theorem kd_C_drop_26 : decode kb_C_drop 26 = .ok (.ireturn, 1) := by decide +kernel
theorem kd_C_trees_0 : decode kb_C_trees 0 = .ok (.aload_n 0, 1) := by decide +kernel
theorem kd_C_trees_1 : decode kb_C_trees 1 = .ok (.getfield 27, 3) := by decide +kernel
theorem kd_C_trees_4 : decode kb_C_trees 4 = .ok (.invokevirtual 92, 3) := by decide +kernel
theorem kd_C_trees_7 : decode kb_C_trees 7 = .ok (.lreturn, 1) := by decide +kernel
theorem kd_C_through_0 : decode kb_C_through 0 = .ok (.aload_n 0, 1) := by decide +kernel
theorem kd_C_through_1 : decode kb_C_through 1 = .ok (.getfield 10, 3) := by decide +kernel
theorem kd_C_through_4 : decode kb_C_through 4 = .ok (.iload_n 1, 1) := by decide +kernel
theorem kd_C_through_5 : decode kb_C_through 5 = .ok (.invokevirtual 89, 3) := by decide +kernel
theorem kd_C_through_8 : decode kb_C_through 8 = .ok (.ifCond .eq 14, 3) := by decide +kernel
theorem kd_C_through_11 : decode kb_C_through 11 = .ok (.aload_n 0, 1) := by decide +kernel
theorem kd_C_through_12 : decode kb_C_through 12 = .ok (.getfield 27, 3) := by decide +kernel
theorem kd_C_through_15 : decode kb_C_through 15 = .ok (.iload_n 1, 1) := by decide +kernel
theorem kd_C_through_16 : decode kb_C_through 16 = .ok (.invokevirtual 96, 3) := by decide +kernel
theorem kd_C_through_19 : decode kb_C_through 19 = .ok (.goto 6, 3) := by decide +kernel
theorem kd_C_through_22 : decode kb_C_through 22 = .ok (.ldc2_w 100, 3) := by decide +kernel
theorem kd_C_through_25 : decode kb_C_through 25 = .ok (.lreturn, 1) := by decide +kernel
theorem kd_C_rooted_0 : decode kb_C_rooted 0 = .ok (.aload_n 0, 1) := by decide +kernel
theorem kd_C_rooted_1 : decode kb_C_rooted 1 = .ok (.getfield 10, 3) := by decide +kernel
theorem kd_C_rooted_4 : decode kb_C_rooted 4 = .ok (.iload_n 1, 1) := by decide +kernel
theorem kd_C_rooted_5 : decode kb_C_rooted 5 = .ok (.invokevirtual 69, 3) := by decide +kernel
theorem kd_C_rooted_8 : decode kb_C_rooted 8 = .ok (.ifCond .eq 14, 3) := by decide +kernel
theorem kd_C_rooted_11 : decode kb_C_rooted 11 = .ok (.aload_n 0, 1) := by decide +kernel
theorem kd_C_rooted_12 : decode kb_C_rooted 12 = .ok (.getfield 27, 3) := by decide +kernel
theorem kd_C_rooted_15 : decode kb_C_rooted 15 = .ok (.iload_n 1, 1) := by decide +kernel
theorem kd_C_rooted_16 : decode kb_C_rooted 16 = .ok (.invokevirtual 102, 3) := by decide +kernel
theorem kd_C_rooted_19 : decode kb_C_rooted 19 = .ok (.goto 6, 3) := by decide +kernel
theorem kd_C_rooted_22 : decode kb_C_rooted 22 = .ok (.ldc2_w 100, 3) := by decide +kernel
theorem kd_C_rooted_25 : decode kb_C_rooted 25 = .ok (.lreturn, 1) := by decide +kernel
theorem kd_C_forests_0 : decode kb_C_forests 0 = .ok (.aload_n 0, 1) := by decide +kernel
theorem kd_C_forests_1 : decode kb_C_forests 1 = .ok (.getfield 27, 3) := by decide +kernel
theorem kd_C_forests_4 : decode kb_C_forests 4 = .ok (.invokevirtual 105, 3) := by decide +kernel
theorem kd_C_forests_7 : decode kb_C_forests 7 = .ok (.lreturn, 1) := by decide +kernel
theorem kd_C_apart_0 : decode kb_C_apart 0 = .ok (.aload_n 0, 1) := by decide +kernel
theorem kd_C_apart_1 : decode kb_C_apart 1 = .ok (.getfield 10, 3) := by decide +kernel
theorem kd_C_apart_4 : decode kb_C_apart 4 = .ok (.iload_n 1, 1) := by decide +kernel
theorem kd_C_apart_5 : decode kb_C_apart 5 = .ok (.invokevirtual 69, 3) := by decide +kernel
theorem kd_C_apart_8 : decode kb_C_apart 8 = .ok (.ifCond .eq 19, 3) := by decide +kernel
theorem kd_C_apart_11 : decode kb_C_apart 11 = .ok (.aload_n 0, 1) := by decide +kernel
theorem kd_C_apart_12 : decode kb_C_apart 12 = .ok (.getfield 10, 3) := by decide +kernel
theorem kd_C_apart_15 : decode kb_C_apart 15 = .ok (.iload_n 2, 1) := by decide +kernel
theorem kd_C_apart_16 : decode kb_C_apart 16 = .ok (.invokevirtual 69, 3) := by decide +kernel
theorem kd_C_apart_19 : decode kb_C_apart 19 = .ok (.ifCond .eq 8, 3) := by decide +kernel
theorem kd_C_apart_22 : decode kb_C_apart 22 = .ok (.iload_n 1, 1) := by decide +kernel
theorem kd_C_apart_23 : decode kb_C_apart 23 = .ok (.iload_n 2, 1) := by decide +kernel
theorem kd_C_apart_24 : decode kb_C_apart 24 = .ok (.if_icmp .ne 5, 3) := by decide +kernel
theorem kd_C_apart_27 : decode kb_C_apart 27 = .ok (.lconst 0, 1) := by decide +kernel
theorem kd_C_apart_28 : decode kb_C_apart 28 = .ok (.lreturn, 1) := by decide +kernel
theorem kd_C_apart_29 : decode kb_C_apart 29 = .ok (.aload_n 0, 1) := by decide +kernel
theorem kd_C_apart_30 : decode kb_C_apart 30 = .ok (.getfield 27, 3) := by decide +kernel
theorem kd_C_apart_33 : decode kb_C_apart 33 = .ok (.iload_n 1, 1) := by decide +kernel
theorem kd_C_apart_34 : decode kb_C_apart 34 = .ok (.iload_n 2, 1) := by decide +kernel
theorem kd_C_apart_35 : decode kb_C_apart 35 = .ok (.invokevirtual 108, 3) := by decide +kernel
theorem kd_C_apart_38 : decode kb_C_apart 38 = .ok (.lreturn, 1) := by decide +kernel
theorem kd_C_resistance_0 : decode kb_C_resistance 0 = .ok (.aload_n 0, 1) := by decide +kernel
theorem kd_C_resistance_1 : decode kb_C_resistance 1 = .ok (.getfield 10, 3) := by decide +kernel
theorem kd_C_resistance_4 : decode kb_C_resistance 4 = .ok (.iload_n 1, 1) := by decide +kernel
theorem kd_C_resistance_5 : decode kb_C_resistance 5 = .ok (.invokevirtual 69, 3) := by decide +kernel
theorem kd_C_resistance_8 : decode kb_C_resistance 8 = .ok (.ifCond .eq 23, 3) := by decide +kernel
theorem kd_C_resistance_11 : decode kb_C_resistance 11 = .ok (.aload_n 0, 1) := by decide +kernel
theorem kd_C_resistance_12 : decode kb_C_resistance 12 = .ok (.getfield 10, 3) := by decide +kernel
theorem kd_C_resistance_15 : decode kb_C_resistance 15 = .ok (.iload_n 2, 1) := by decide +kernel
theorem kd_C_resistance_16 : decode kb_C_resistance 16 = .ok (.invokevirtual 69, 3) := by decide +kernel
theorem kd_C_resistance_19 : decode kb_C_resistance 19 = .ok (.ifCond .eq 12, 3) := by decide +kernel
theorem kd_C_resistance_22 : decode kb_C_resistance 22 = .ok (.iload_n 3, 1) := by decide +kernel
theorem kd_C_resistance_23 : decode kb_C_resistance 23 = .ok (.ifCond .lt 8, 3) := by decide +kernel
theorem kd_C_resistance_26 : decode kb_C_resistance 26 = .ok (.iload_n 3, 1) := by decide +kernel
theorem kd_C_resistance_27 : decode kb_C_resistance 27 = .ok (.iconst 1, 1) := by decide +kernel
theorem kd_C_resistance_28 : decode kb_C_resistance 28 = .ok (.if_icmp .le 7, 3) := by decide +kernel
theorem kd_C_resistance_31 : decode kb_C_resistance 31 = .ok (.ldc2_w 100, 3) := by decide +kernel
theorem kd_C_resistance_34 : decode kb_C_resistance 34 = .ok (.lreturn, 1) := by decide +kernel
theorem kd_C_resistance_35 : decode kb_C_resistance 35 = .ok (.aload_n 0, 1) := by decide +kernel
theorem kd_C_resistance_36 : decode kb_C_resistance 36 = .ok (.getfield 27, 3) := by decide +kernel
theorem kd_C_resistance_39 : decode kb_C_resistance 39 = .ok (.invokevirtual 92, 3) := by decide +kernel
theorem kd_C_resistance_42 : decode kb_C_resistance 42 = .ok (.lstore 4, 2) := by decide +kernel
theorem kd_C_resistance_44 : decode kb_C_resistance 44 = .ok (.lload 4, 2) := by decide +kernel
theorem kd_C_resistance_46 : decode kb_C_resistance 46 = .ok (.lconst 0, 1) := by decide +kernel
theorem kd_C_resistance_47 : decode kb_C_resistance 47 = .ok (.lcmp, 1) := by decide +kernel
theorem kd_C_resistance_48 : decode kb_C_resistance 48 = .ok (.ifCond .ne 7, 3) := by decide +kernel
theorem kd_C_resistance_51 : decode kb_C_resistance 51 = .ok (.ldc2_w 100, 3) := by decide +kernel
theorem kd_C_resistance_54 : decode kb_C_resistance 54 = .ok (.lreturn, 1) := by decide +kernel
theorem kd_C_resistance_55 : decode kb_C_resistance 55 = .ok (.aload_n 0, 1) := by decide +kernel
theorem kd_C_resistance_56 : decode kb_C_resistance 56 = .ok (.iload_n 1, 1) := by decide +kernel
theorem kd_C_resistance_57 : decode kb_C_resistance 57 = .ok (.iload_n 2, 1) := by decide +kernel
theorem kd_C_resistance_58 : decode kb_C_resistance 58 = .ok (.invokevirtual 112, 3) := by decide +kernel
theorem kd_C_resistance_61 : decode kb_C_resistance 61 = .ok (.lstore 6, 2) := by decide +kernel
theorem kd_C_resistance_63 : decode kb_C_resistance 63 = .ok (.lload 6, 2) := by decide +kernel
theorem kd_C_resistance_65 : decode kb_C_resistance 65 = .ok (.lload 4, 2) := by decide +kernel
theorem kd_C_resistance_67 : decode kb_C_resistance 67 = .ok (.invokestatic 115, 3) := by decide +kernel
theorem kd_C_resistance_70 : decode kb_C_resistance 70 = .ok (.lstore 8, 2) := by decide +kernel
theorem kd_C_resistance_72 : decode kb_C_resistance 72 = .ok (.lload 8, 2) := by decide +kernel
theorem kd_C_resistance_74 : decode kb_C_resistance 74 = .ok (.lconst 0, 1) := by decide +kernel
theorem kd_C_resistance_75 : decode kb_C_resistance 75 = .ok (.lcmp, 1) := by decide +kernel
theorem kd_C_resistance_76 : decode kb_C_resistance 76 = .ok (.ifCond .ne 7, 3) := by decide +kernel
theorem kd_C_resistance_79 : decode kb_C_resistance 79 = .ok (.ldc2_w 100, 3) := by decide +kernel
theorem kd_C_resistance_82 : decode kb_C_resistance 82 = .ok (.lreturn, 1) := by decide +kernel
theorem kd_C_resistance_83 : decode kb_C_resistance 83 = .ok (.iload_n 3, 1) := by decide +kernel
theorem kd_C_resistance_84 : decode kb_C_resistance 84 = .ok (.ifCond .ne 8, 3) := by decide +kernel
theorem kd_C_resistance_87 : decode kb_C_resistance 87 = .ok (.lload 6, 2) := by decide +kernel
theorem kd_C_resistance_89 : decode kb_C_resistance 89 = .ok (.goto 5, 3) := by decide +kernel
theorem kd_C_resistance_92 : decode kb_C_resistance 92 = .ok (.lload 4, 2) := by decide +kernel
theorem kd_C_resistance_94 : decode kb_C_resistance 94 = .ok (.lload 8, 2) := by decide +kernel
theorem kd_C_resistance_96 : decode kb_C_resistance 96 = .ok (.ldiv, 1) := by decide +kernel
theorem kd_C_resistance_97 : decode kb_C_resistance 97 = .ok (.lreturn, 1) := by decide +kernel
theorem kd_C_tours_0 : decode kb_C_tours 0 = .ok (.aload_n 0, 1) := by decide +kernel
theorem kd_C_tours_1 : decode kb_C_tours 1 = .ok (.getfield 27, 3) := by decide +kernel
theorem kd_C_tours_4 : decode kb_C_tours 4 = .ok (.invokevirtual 119, 3) := by decide +kernel
theorem kd_C_tours_7 : decode kb_C_tours 7 = .ok (.lreturn, 1) := by decide +kernel
theorem kd_C_drawn_0 : decode kb_C_drawn 0 = .ok (.aload_n 0, 1) := by decide +kernel
theorem kd_C_drawn_1 : decode kb_C_drawn 1 = .ok (.getfield 27, 3) := by decide +kernel
theorem kd_C_drawn_4 : decode kb_C_drawn 4 = .ok (.lload_n 1, 1) := by decide +kernel
theorem kd_C_drawn_5 : decode kb_C_drawn 5 = .ok (.invokevirtual 122, 3) := by decide +kernel
theorem kd_C_drawn_8 : decode kb_C_drawn 8 = .ok (.ireturn, 1) := by decide +kernel
theorem kd_C_place_0 : decode kb_C_place 0 = .ok (.aload_n 0, 1) := by decide +kernel
theorem kd_C_place_1 : decode kb_C_place 1 = .ok (.getfield 27, 3) := by decide +kernel
theorem kd_C_place_4 : decode kb_C_place 4 = .ok (.iload_n 1, 1) := by decide +kernel
theorem kd_C_place_5 : decode kb_C_place 5 = .ok (.invokevirtual 126, 3) := by decide +kernel
theorem kd_C_place_8 : decode kb_C_place 8 = .ok (.ifCond .eq 14, 3) := by decide +kernel
theorem kd_C_place_11 : decode kb_C_place 11 = .ok (.aload_n 0, 1) := by decide +kernel
theorem kd_C_place_12 : decode kb_C_place 12 = .ok (.getfield 27, 3) := by decide +kernel
theorem kd_C_place_15 : decode kb_C_place 15 = .ok (.iload_n 1, 1) := by decide +kernel
theorem kd_C_place_16 : decode kb_C_place 16 = .ok (.invokevirtual 129, 3) := by decide +kernel
theorem kd_C_place_19 : decode kb_C_place 19 = .ok (.goto 6, 3) := by decide +kernel
theorem kd_C_place_22 : decode kb_C_place 22 = .ok (.ldc2_w 100, 3) := by decide +kernel
theorem kd_C_place_25 : decode kb_C_place 25 = .ok (.lreturn, 1) := by decide +kernel
theorem kd_C_ring_0 : decode kb_C_ring 0 = .ok (.iload_n 1, 1) := by decide +kernel
theorem kd_C_ring_1 : decode kb_C_ring 1 = .ok (.ifCond .lt 7, 3) := by decide +kernel
theorem kd_C_ring_4 : decode kb_C_ring 4 = .ok (.iload_n 2, 1) := by decide +kernel
theorem kd_C_ring_5 : decode kb_C_ring 5 = .ok (.ifCond .ge 5, 3) := by decide +kernel
theorem kd_C_ring_8 : decode kb_C_ring 8 = .ok (.iconst (-1), 1) := by decide +kernel
theorem kd_C_ring_9 : decode kb_C_ring 9 = .ok (.ireturn, 1) := by decide +kernel
theorem kd_C_ring_10 : decode kb_C_ring 10 = .ok (.aload_n 0, 1) := by decide +kernel
theorem kd_C_ring_11 : decode kb_C_ring 11 = .ok (.getfield 36, 3) := by decide +kernel
theorem kd_C_ring_14 : decode kb_C_ring 14 = .ok (.iload_n 1, 1) := by decide +kernel
theorem kd_C_ring_15 : decode kb_C_ring 15 = .ok (.invokevirtual 132, 3) := by decide +kernel
theorem kd_C_ring_18 : decode kb_C_ring 18 = .ok (.iload_n 2, 1) := by decide +kernel
theorem kd_C_ring_19 : decode kb_C_ring 19 = .ok (.aload_n 0, 1) := by decide +kernel
theorem kd_C_ring_20 : decode kb_C_ring 20 = .ok (.getfield 36, 3) := by decide +kernel
theorem kd_C_ring_23 : decode kb_C_ring 23 = .ok (.getfield 136, 3) := by decide +kernel
theorem kd_C_ring_26 : decode kb_C_ring 26 = .ok (.if_icmp .ge 15, 3) := by decide +kernel
theorem kd_C_ring_29 : decode kb_C_ring 29 = .ok (.aload_n 0, 1) := by decide +kernel
theorem kd_C_ring_30 : decode kb_C_ring 30 = .ok (.getfield 36, 3) := by decide +kernel
theorem kd_C_ring_33 : decode kb_C_ring 33 = .ok (.getfield 139, 3) := by decide +kernel
theorem kd_C_ring_36 : decode kb_C_ring 36 = .ok (.iload_n 2, 1) := by decide +kernel
theorem kd_C_ring_37 : decode kb_C_ring 37 = .ok (.iaload, 1) := by decide +kernel
theorem kd_C_ring_38 : decode kb_C_ring 38 = .ok (.goto 4, 3) := by decide +kernel
theorem kd_C_ring_41 : decode kb_C_ring 41 = .ok (.iconst (-1), 1) := by decide +kernel
theorem kd_C_ring_42 : decode kb_C_ring 42 = .ok (.ireturn, 1) := by decide +kernel
theorem kd_C_group_0 : decode kb_C_group 0 = .ok (.aload_n 0, 1) := by decide +kernel
theorem kd_C_group_1 : decode kb_C_group 1 = .ok (.getfield 45, 3) := by decide +kernel
theorem kd_C_group_4 : decode kb_C_group 4 = .ok (.invokevirtual 142, 3) := by decide +kernel
theorem kd_C_group_7 : decode kb_C_group 7 = .ok (.iload_n 1, 1) := by decide +kernel
theorem kd_C_group_8 : decode kb_C_group 8 = .ok (.ifCond .lt 25, 3) := by decide +kernel
theorem kd_C_group_11 : decode kb_C_group 11 = .ok (.iload_n 1, 1) := by decide +kernel
theorem kd_C_group_12 : decode kb_C_group 12 = .ok (.aload_n 0, 1) := by decide +kernel
theorem kd_C_group_13 : decode kb_C_group 13 = .ok (.getfield 45, 3) := by decide +kernel
theorem kd_C_group_16 : decode kb_C_group 16 = .ok (.getfield 145, 3) := by decide +kernel
theorem kd_C_group_19 : decode kb_C_group 19 = .ok (.if_icmp .ge 14, 3) := by decide +kernel
theorem kd_C_group_22 : decode kb_C_group 22 = .ok (.aload_n 0, 1) := by decide +kernel
theorem kd_C_group_23 : decode kb_C_group 23 = .ok (.getfield 45, 3) := by decide +kernel
theorem kd_C_group_26 : decode kb_C_group 26 = .ok (.iload_n 1, 1) := by decide +kernel
theorem kd_C_group_27 : decode kb_C_group 27 = .ok (.invokevirtual 148, 3) := by decide +kernel
theorem kd_C_group_30 : decode kb_C_group 30 = .ok (.goto 6, 3) := by decide +kernel
theorem kd_C_group_33 : decode kb_C_group 33 = .ok (.ldc2_w 100, 3) := by decide +kernel
theorem kd_C_group_36 : decode kb_C_group 36 = .ok (.lreturn, 1) := by decide +kernel
theorem kd_C_chips_0 : decode kb_C_chips 0 = .ok (.aload_n 0, 1) := by decide +kernel
theorem kd_C_chips_1 : decode kb_C_chips 1 = .ok (.getfield 10, 3) := by decide +kernel
theorem kd_C_chips_4 : decode kb_C_chips 4 = .ok (.iload_n 1, 1) := by decide +kernel
theorem kd_C_chips_5 : decode kb_C_chips 5 = .ok (.invokevirtual 69, 3) := by decide +kernel
theorem kd_C_chips_8 : decode kb_C_chips 8 = .ok (.ifCond .eq 14, 3) := by decide +kernel
theorem kd_C_chips_11 : decode kb_C_chips 11 = .ok (.iload_n 2, 1) := by decide +kernel
theorem kd_C_chips_12 : decode kb_C_chips 12 = .ok (.ifCond .lt 10, 3) := by decide +kernel
theorem kd_C_chips_15 : decode kb_C_chips 15 = .ok (.iload_n 2, 1) := by decide +kernel
theorem kd_C_chips_16 : decode kb_C_chips 16 = .ok (.sipush 200, 3) := by decide +kernel
theorem kd_C_chips_19 : decode kb_C_chips 19 = .ok (.if_icmp .le 7, 3) := by decide +kernel
theorem kd_C_chips_22 : decode kb_C_chips 22 = .ok (.ldc2_w 100, 3) := by decide +kernel
theorem kd_C_chips_25 : decode kb_C_chips 25 = .ok (.lreturn, 1) := by decide +kernel
theorem kd_C_chips_26 : decode kb_C_chips 26 = .ok (.aload_n 0, 1) := by decide +kernel
theorem kd_C_chips_27 : decode kb_C_chips 27 = .ok (.getfield 54, 3) := by decide +kernel
theorem kd_C_chips_30 : decode kb_C_chips 30 = .ok (.getfield 151, 3) := by decide +kernel
theorem kd_C_chips_33 : decode kb_C_chips 33 = .ok (.iload_n 1, 1) := by decide +kernel
theorem kd_C_chips_34 : decode kb_C_chips 34 = .ok (.laload, 1) := by decide +kernel
theorem kd_C_chips_35 : decode kb_C_chips 35 = .ok (.lstore_n 3, 1) := by decide +kernel
theorem kd_C_chips_36 : decode kb_C_chips 36 = .ok (.aload_n 0, 1) := by decide +kernel
theorem kd_C_chips_37 : decode kb_C_chips 37 = .ok (.getfield 54, 3) := by decide +kernel
theorem kd_C_chips_40 : decode kb_C_chips 40 = .ok (.getfield 151, 3) := by decide +kernel
theorem kd_C_chips_43 : decode kb_C_chips 43 = .ok (.iload_n 1, 1) := by decide +kernel
theorem kd_C_chips_44 : decode kb_C_chips 44 = .ok (.iload_n 2, 1) := by decide +kernel
theorem kd_C_chips_45 : decode kb_C_chips 45 = .ok (.i2l, 1) := by decide +kernel
theorem kd_C_chips_46 : decode kb_C_chips 46 = .ok (.lastore, 1) := by decide +kernel
theorem kd_C_chips_47 : decode kb_C_chips 47 = .ok (.lload_n 3, 1) := by decide +kernel
theorem kd_C_chips_48 : decode kb_C_chips 48 = .ok (.lreturn, 1) := by decide +kernel
theorem kd_C_level_0 : decode kb_C_level 0 = .ok (.aload_n 0, 1) := by decide +kernel
theorem kd_C_level_1 : decode kb_C_level 1 = .ok (.getfield 10, 3) := by decide +kernel
theorem kd_C_level_4 : decode kb_C_level 4 = .ok (.iload_n 1, 1) := by decide +kernel
theorem kd_C_level_5 : decode kb_C_level 5 = .ok (.invokevirtual 69, 3) := by decide +kernel
theorem kd_C_level_8 : decode kb_C_level 8 = .ok (.ifCond .eq 15, 3) := by decide +kernel
theorem kd_C_level_11 : decode kb_C_level 11 = .ok (.aload_n 0, 1) := by decide +kernel
theorem kd_C_level_12 : decode kb_C_level 12 = .ok (.getfield 54, 3) := by decide +kernel
theorem kd_C_level_15 : decode kb_C_level 15 = .ok (.getfield 151, 3) := by decide +kernel
theorem kd_C_level_18 : decode kb_C_level 18 = .ok (.iload_n 1, 1) := by decide +kernel
theorem kd_C_level_19 : decode kb_C_level 19 = .ok (.laload, 1) := by decide +kernel
theorem kd_C_level_20 : decode kb_C_level 20 = .ok (.goto 6, 3) := by decide +kernel
theorem kd_C_level_23 : decode kb_C_level 23 = .ok (.ldc2_w 100, 3) := by decide +kernel
theorem kd_C_level_26 : decode kb_C_level 26 = .ok (.lreturn, 1) := by decide +kernel
theorem kd_C_settle_0 : decode kb_C_settle 0 = .ok (.aload_n 0, 1) := by decide +kernel
theorem kd_C_settle_1 : decode kb_C_settle 1 = .ok (.getfield 10, 3) := by decide +kernel
theorem kd_C_settle_4 : decode kb_C_settle 4 = .ok (.iload_n 1, 1) := by decide +kernel
theorem kd_C_settle_5 : decode kb_C_settle 5 = .ok (.invokevirtual 69, 3) := by decide +kernel
theorem kd_C_settle_8 : decode kb_C_settle 8 = .ok (.ifCond .eq 25, 3) := by decide +kernel
theorem kd_C_settle_11 : decode kb_C_settle 11 = .ok (.aload_n 0, 1) := by decide +kernel
theorem kd_C_settle_12 : decode kb_C_settle 12 = .ok (.getfield 36, 3) := by decide +kernel
theorem kd_C_settle_15 : decode kb_C_settle 15 = .ok (.invokevirtual 155, 3) := by decide +kernel
theorem kd_C_settle_18 : decode kb_C_settle 18 = .ok (.iconst 1, 1) := by decide +kernel
theorem kd_C_settle_19 : decode kb_C_settle 19 = .ok (.if_icmp .ne 14, 3) := by decide +kernel
theorem kd_C_settle_22 : decode kb_C_settle 22 = .ok (.aload_n 0, 1) := by decide +kernel
theorem kd_C_settle_23 : decode kb_C_settle 23 = .ok (.getfield 54, 3) := by decide +kernel
theorem kd_C_settle_26 : decode kb_C_settle 26 = .ok (.iload_n 1, 1) := by decide +kernel
theorem kd_C_settle_27 : decode kb_C_settle 27 = .ok (.invokevirtual 159, 3) := by decide +kernel
theorem kd_C_settle_30 : decode kb_C_settle 30 = .ok (.goto 6, 3) := by decide +kernel
theorem kd_C_settle_33 : decode kb_C_settle 33 = .ok (.ldc2_w 100, 3) := by decide +kernel
theorem kd_C_settle_36 : decode kb_C_settle 36 = .ok (.lreturn, 1) := by decide +kernel
theorem kd_C_fired_0 : decode kb_C_fired 0 = .ok (.aload_n 0, 1) := by decide +kernel
theorem kd_C_fired_1 : decode kb_C_fired 1 = .ok (.getfield 10, 3) := by decide +kernel
theorem kd_C_fired_4 : decode kb_C_fired 4 = .ok (.iload_n 1, 1) := by decide +kernel
theorem kd_C_fired_5 : decode kb_C_fired 5 = .ok (.invokevirtual 69, 3) := by decide +kernel
theorem kd_C_fired_8 : decode kb_C_fired 8 = .ok (.ifCond .eq 15, 3) := by decide +kernel
theorem kd_C_fired_11 : decode kb_C_fired 11 = .ok (.aload_n 0, 1) := by decide +kernel
theorem kd_C_fired_12 : decode kb_C_fired 12 = .ok (.getfield 54, 3) := by decide +kernel
theorem kd_C_fired_15 : decode kb_C_fired 15 = .ok (.getfield 162, 3) := by decide +kernel
theorem kd_C_fired_18 : decode kb_C_fired 18 = .ok (.iload_n 1, 1) := by decide +kernel
theorem kd_C_fired_19 : decode kb_C_fired 19 = .ok (.laload, 1) := by decide +kernel
theorem kd_C_fired_20 : decode kb_C_fired 20 = .ok (.goto 4, 3) := by decide +kernel
theorem kd_C_fired_23 : decode kb_C_fired 23 = .ok (.lconst 0, 1) := by decide +kernel
theorem kd_C_fired_24 : decode kb_C_fired 24 = .ok (.lreturn, 1) := by decide +kernel
theorem kd_C_recurrent_0 : decode kb_C_recurrent 0 = .ok (.aload_n 0, 1) := by decide +kernel
theorem kd_C_recurrent_1 : decode kb_C_recurrent 1 = .ok (.getfield 10, 3) := by decide +kernel
theorem kd_C_recurrent_4 : decode kb_C_recurrent 4 = .ok (.iload_n 1, 1) := by decide +kernel
theorem kd_C_recurrent_5 : decode kb_C_recurrent 5 = .ok (.invokevirtual 69, 3) := by decide +kernel
theorem kd_C_recurrent_8 : decode kb_C_recurrent 8 = .ok (.ifCond .eq 14, 3) := by decide +kernel
theorem kd_C_recurrent_11 : decode kb_C_recurrent 11 = .ok (.aload_n 0, 1) := by decide +kernel
theorem kd_C_recurrent_12 : decode kb_C_recurrent 12 = .ok (.getfield 36, 3) := by decide +kernel
theorem kd_C_recurrent_15 : decode kb_C_recurrent 15 = .ok (.invokevirtual 155, 3) := by decide +kernel
theorem kd_C_recurrent_18 : decode kb_C_recurrent 18 = .ok (.iconst 1, 1) := by decide +kernel
theorem kd_C_recurrent_19 : decode kb_C_recurrent 19 = .ok (.if_icmp .eq 5, 3) := by decide +kernel
theorem kd_C_recurrent_22 : decode kb_C_recurrent 22 = .ok (.iconst (-1), 1) := by decide +kernel
theorem kd_C_recurrent_23 : decode kb_C_recurrent 23 = .ok (.ireturn, 1) := by decide +kernel
theorem kd_C_recurrent_24 : decode kb_C_recurrent 24 = .ok (.aload_n 0, 1) := by decide +kernel
theorem kd_C_recurrent_25 : decode kb_C_recurrent 25 = .ok (.getfield 54, 3) := by decide +kernel
theorem kd_C_recurrent_28 : decode kb_C_recurrent 28 = .ok (.iload_n 1, 1) := by decide +kernel
theorem kd_C_recurrent_29 : decode kb_C_recurrent 29 = .ok (.invokevirtual 165, 3) := by decide +kernel
theorem kd_C_recurrent_32 : decode kb_C_recurrent 32 = .ok (.ifCond .eq 7, 3) := by decide +kernel
theorem kd_C_recurrent_35 : decode kb_C_recurrent 35 = .ok (.iconst 1, 1) := by decide +kernel
theorem kd_C_recurrent_36 : decode kb_C_recurrent 36 = .ok (.goto 4, 3) := by decide +kernel
theorem kd_C_recurrent_39 : decode kb_C_recurrent 39 = .ok (.iconst 0, 1) := by decide +kernel
theorem kd_C_recurrent_40 : decode kb_C_recurrent 40 = .ok (.ireturn, 1) := by decide +kernel
theorem kd_C_point_0 : decode kb_C_point 0 = .ok (.aload_n 0, 1) := by decide +kernel
theorem kd_C_point_1 : decode kb_C_point 1 = .ok (.getfield 10, 3) := by decide +kernel
theorem kd_C_point_4 : decode kb_C_point 4 = .ok (.getfield 76, 3) := by decide +kernel
theorem kd_C_point_7 : decode kb_C_point 7 = .ok (.bipush 14, 2) := by decide +kernel
theorem kd_C_point_9 : decode kb_C_point 9 = .ok (.if_icmp .le 13, 3) := by decide +kernel
theorem kd_C_point_12 : decode kb_C_point 12 = .ok (.new 168, 3) := by decide +kernel
theorem kd_C_point_15 : decode kb_C_point 15 = .ok (.dup, 1) := by decide +kernel
theorem kd_C_point_16 : decode kb_C_point 16 = .ok (.ldc 170, 2) := by decide +kernel
theorem kd_C_point_18 : decode kb_C_point 18 = .ok (.invokespecial 172, 3) := by decide +kernel
theorem kd_C_point_21 : decode kb_C_point 21 = .ok (.athrow, 1) := by decide +kernel
theorem kd_C_point_22 : decode kb_C_point 22 = .ok (.aload_n 0, 1) := by decide +kernel
theorem kd_C_point_23 : decode kb_C_point 23 = .ok (.getfield 61, 3) := by decide +kernel
theorem kd_C_point_26 : decode kb_C_point 26 = .ok (.lload_n 1, 1) := by decide +kernel
theorem kd_C_point_27 : decode kb_C_point 27 = .ok (.lload_n 3, 1) := by decide +kernel
theorem kd_C_point_28 : decode kb_C_point 28 = .ok (.invokevirtual 175, 3) := by decide +kernel
theorem kd_C_point_31 : decode kb_C_point 31 = .ok (.lreturn, 1) := by decide +kernel
theorem kd_C_told_0 : decode kb_C_told 0 = .ok (.iload_n 1, 1) := by decide +kernel
theorem kd_C_told_1 : decode kb_C_told 1 = .ok (.tableswitch 102 0 5 #[39, 47, 55, 63, 71, 87], 39) := by decide +kernel
theorem kd_C_told_40 : decode kb_C_told 40 = .ok (.aload_n 0, 1) := by decide +kernel
theorem kd_C_told_41 : decode kb_C_told 41 = .ok (.getfield 10, 3) := by decide +kernel
theorem kd_C_told_44 : decode kb_C_told 44 = .ok (.getfield 65, 3) := by decide +kernel
theorem kd_C_told_47 : decode kb_C_told 47 = .ok (.ireturn, 1) := by decide +kernel
theorem kd_C_told_48 : decode kb_C_told 48 = .ok (.aload_n 0, 1) := by decide +kernel
theorem kd_C_told_49 : decode kb_C_told 49 = .ok (.getfield 10, 3) := by decide +kernel
theorem kd_C_told_52 : decode kb_C_told 52 = .ok (.getfield 76, 3) := by decide +kernel
theorem kd_C_told_55 : decode kb_C_told 55 = .ok (.ireturn, 1) := by decide +kernel
theorem kd_C_told_56 : decode kb_C_told 56 = .ok (.aload_n 0, 1) := by decide +kernel
theorem kd_C_told_57 : decode kb_C_told 57 = .ok (.getfield 36, 3) := by decide +kernel
theorem kd_C_told_60 : decode kb_C_told 60 = .ok (.invokevirtual 155, 3) := by decide +kernel
theorem kd_C_told_63 : decode kb_C_told 63 = .ok (.ireturn, 1) := by decide +kernel
theorem kd_C_told_64 : decode kb_C_told 64 = .ok (.aload_n 0, 1) := by decide +kernel
theorem kd_C_told_65 : decode kb_C_told 65 = .ok (.getfield 36, 3) := by decide +kernel
theorem kd_C_told_68 : decode kb_C_told 68 = .ok (.invokevirtual 178, 3) := by decide +kernel
theorem kd_C_told_71 : decode kb_C_told 71 = .ok (.ireturn, 1) := by decide +kernel
theorem kd_C_told_72 : decode kb_C_told 72 = .ok (.aload_n 0, 1) := by decide +kernel
theorem kd_C_told_73 : decode kb_C_told 73 = .ok (.getfield 36, 3) := by decide +kernel
theorem kd_C_told_76 : decode kb_C_told 76 = .ok (.iconst 0, 1) := by decide +kernel
theorem kd_C_told_77 : decode kb_C_told 77 = .ok (.invokevirtual 132, 3) := by decide +kernel
theorem kd_C_told_80 : decode kb_C_told 80 = .ok (.aload_n 0, 1) := by decide +kernel
theorem kd_C_told_81 : decode kb_C_told 81 = .ok (.getfield 36, 3) := by decide +kernel
theorem kd_C_told_84 : decode kb_C_told 84 = .ok (.getfield 136, 3) := by decide +kernel
theorem kd_C_told_87 : decode kb_C_told 87 = .ok (.ireturn, 1) := by decide +kernel
theorem kd_C_told_88 : decode kb_C_told 88 = .ok (.aload_n 0, 1) := by decide +kernel
theorem kd_C_told_89 : decode kb_C_told 89 = .ok (.getfield 45, 3) := by decide +kernel
theorem kd_C_told_92 : decode kb_C_told 92 = .ok (.invokevirtual 142, 3) := by decide +kernel
theorem kd_C_told_95 : decode kb_C_told 95 = .ok (.aload_n 0, 1) := by decide +kernel
theorem kd_C_told_96 : decode kb_C_told 96 = .ok (.getfield 45, 3) := by decide +kernel
theorem kd_C_told_99 : decode kb_C_told 99 = .ok (.getfield 145, 3) := by decide +kernel
theorem kd_C_told_102 : decode kb_C_told 102 = .ok (.ireturn, 1) := by decide +kernel
theorem kd_C_told_103 : decode kb_C_told 103 = .ok (.iconst (-1), 1) := by decide +kernel
theorem kd_C_told_104 : decode kb_C_told 104 = .ok (.ireturn, 1) := by decide +kernel
theorem kd_C_clear_0 : decode kb_C_clear 0 = .ok (.aload_n 0, 1) := by decide +kernel
theorem kd_C_clear_1 : decode kb_C_clear 1 = .ok (.getfield 10, 3) := by decide +kernel
theorem kd_C_clear_4 : decode kb_C_clear 4 = .ok (.iconst 0, 1) := by decide +kernel
theorem kd_C_clear_5 : decode kb_C_clear 5 = .ok (.putfield 65, 3) := by decide +kernel
theorem kd_C_clear_8 : decode kb_C_clear 8 = .ok (.aload_n 0, 1) := by decide +kernel
theorem kd_C_clear_9 : decode kb_C_clear 9 = .ok (.getfield 10, 3) := by decide +kernel
theorem kd_C_clear_12 : decode kb_C_clear 12 = .ok (.iconst 0, 1) := by decide +kernel
theorem kd_C_clear_13 : decode kb_C_clear 13 = .ok (.putfield 76, 3) := by decide +kernel
theorem kd_C_clear_16 : decode kb_C_clear 16 = .ok (.aload_n 0, 1) := by decide +kernel
theorem kd_C_clear_17 : decode kb_C_clear 17 = .ok (.getfield 54, 3) := by decide +kernel
theorem kd_C_clear_20 : decode kb_C_clear 20 = .ok (.invokevirtual 180, 3) := by decide +kernel
theorem kd_C_clear_23 : decode kb_C_clear 23 = .ok (.return_, 1) := by decide +kernel
theorem kd_C_isWeight_0 : decode kb_C_isWeight 0 = .ok (.iload_n 0, 1) := by decide +kernel
theorem kd_C_isWeight_1 : decode kb_C_isWeight 1 = .ok (.iconst 1, 1) := by decide +kernel
theorem kd_C_isWeight_2 : decode kb_C_isWeight 2 = .ok (.if_icmp .lt 13, 3) := by decide +kernel
theorem kd_C_isWeight_5 : decode kb_C_isWeight 5 = .ok (.iload_n 0, 1) := by decide +kernel
theorem kd_C_isWeight_6 : decode kb_C_isWeight 6 = .ok (.bipush 9, 2) := by decide +kernel
theorem kd_C_isWeight_8 : decode kb_C_isWeight 8 = .ok (.if_icmp .gt 7, 3) := by decide +kernel
theorem kd_C_isWeight_11 : decode kb_C_isWeight 11 = .ok (.iconst 1, 1) := by decide +kernel
theorem kd_C_isWeight_12 : decode kb_C_isWeight 12 = .ok (.goto 4, 3) := by decide +kernel
theorem kd_C_isWeight_15 : decode kb_C_isWeight 15 = .ok (.iconst 0, 1) := by decide +kernel
theorem kd_C_isWeight_16 : decode kb_C_isWeight 16 = .ok (.ireturn, 1) := by decide +kernel
theorem kd_C_commonDivisor_0 : decode kb_C_commonDivisor 0 = .ok (.lload_n 0, 1) := by decide +kernel
theorem kd_C_commonDivisor_1 : decode kb_C_commonDivisor 1 = .ok (.lstore 4, 2) := by decide +kernel
theorem kd_C_commonDivisor_3 : decode kb_C_commonDivisor 3 = .ok (.lload_n 2, 1) := by decide +kernel
theorem kd_C_commonDivisor_4 : decode kb_C_commonDivisor 4 = .ok (.lstore 6, 2) := by decide +kernel
theorem kd_C_commonDivisor_6 : decode kb_C_commonDivisor 6 = .ok (.iconst 0, 1) := by decide +kernel
theorem kd_C_commonDivisor_7 : decode kb_C_commonDivisor 7 = .ok (.istore 8, 2) := by decide +kernel
theorem kd_C_commonDivisor_9 : decode kb_C_commonDivisor 9 = .ok (.iload 8, 2) := by decide +kernel
theorem kd_C_commonDivisor_11 : decode kb_C_commonDivisor 11 = .ok (.sipush 128, 3) := by decide +kernel
theorem kd_C_commonDivisor_14 : decode kb_C_commonDivisor 14 = .ok (.if_icmp .ge 31, 3) := by decide +kernel
theorem kd_C_commonDivisor_17 : decode kb_C_commonDivisor 17 = .ok (.lload 6, 2) := by decide +kernel
theorem kd_C_commonDivisor_19 : decode kb_C_commonDivisor 19 = .ok (.lconst 0, 1) := by decide +kernel
theorem kd_C_commonDivisor_20 : decode kb_C_commonDivisor 20 = .ok (.lcmp, 1) := by decide +kernel
theorem kd_C_commonDivisor_21 : decode kb_C_commonDivisor 21 = .ok (.ifCond .eq 24, 3) := by decide +kernel
theorem kd_C_commonDivisor_24 : decode kb_C_commonDivisor 24 = .ok (.lload 4, 2) := by decide +kernel
theorem kd_C_commonDivisor_26 : decode kb_C_commonDivisor 26 = .ok (.lload 6, 2) := by decide +kernel
theorem kd_C_commonDivisor_28 : decode kb_C_commonDivisor 28 = .ok (.lrem, 1) := by decide +kernel
theorem kd_C_commonDivisor_29 : decode kb_C_commonDivisor 29 = .ok (.lstore 9, 2) := by decide +kernel
theorem kd_C_commonDivisor_31 : decode kb_C_commonDivisor 31 = .ok (.lload 6, 2) := by decide +kernel
theorem kd_C_commonDivisor_33 : decode kb_C_commonDivisor 33 = .ok (.lstore 4, 2) := by decide +kernel
theorem kd_C_commonDivisor_35 : decode kb_C_commonDivisor 35 = .ok (.lload 9, 2) := by decide +kernel
theorem kd_C_commonDivisor_37 : decode kb_C_commonDivisor 37 = .ok (.lstore 6, 2) := by decide +kernel
theorem kd_C_commonDivisor_39 : decode kb_C_commonDivisor 39 = .ok (.iinc 8 1, 3) := by decide +kernel
theorem kd_C_commonDivisor_42 : decode kb_C_commonDivisor 42 = .ok (.goto (-33), 3) := by decide +kernel
theorem kd_C_commonDivisor_45 : decode kb_C_commonDivisor 45 = .ok (.lload 4, 2) := by decide +kernel
theorem kd_C_commonDivisor_47 : decode kb_C_commonDivisor 47 = .ok (.lreturn, 1) := by decide +kernel
theorem kd_N_init_0 : decode kb_N_init 0 = .ok (.aload_n 0, 1) := by decide +kernel
theorem kd_N_init_1 : decode kb_N_init 1 = .ok (.invokespecial 3, 3) := by decide +kernel
theorem kd_N_init_4 : decode kb_N_init 4 = .ok (.aload_n 0, 1) := by decide +kernel
theorem kd_N_init_5 : decode kb_N_init 5 = .ok (.bipush 30, 2) := by decide +kernel
theorem kd_N_init_7 : decode kb_N_init 7 = .ok (.newarray .int, 2) := by decide +kernel
theorem kd_N_init_9 : decode kb_N_init 9 = .ok (.putfield 9, 3) := by decide +kernel
theorem kd_N_init_12 : decode kb_N_init 12 = .ok (.aload_n 0, 1) := by decide +kernel
theorem kd_N_init_13 : decode kb_N_init 13 = .ok (.bipush 30, 2) := by decide +kernel
theorem kd_N_init_15 : decode kb_N_init 15 = .ok (.newarray .int, 2) := by decide +kernel
theorem kd_N_init_17 : decode kb_N_init 17 = .ok (.putfield 15, 3) := by decide +kernel
theorem kd_N_init_20 : decode kb_N_init 20 = .ok (.aload_n 0, 1) := by decide +kernel
theorem kd_N_init_21 : decode kb_N_init 21 = .ok (.bipush 30, 2) := by decide +kernel
theorem kd_N_init_23 : decode kb_N_init 23 = .ok (.newarray .int, 2) := by decide +kernel
theorem kd_N_init_25 : decode kb_N_init 25 = .ok (.putfield 18, 3) := by decide +kernel
theorem kd_N_init_28 : decode kb_N_init 28 = .ok (.return_, 1) := by decide +kernel
theorem kd_N_hasNode_0 : decode kb_N_hasNode 0 = .ok (.iload_n 1, 1) := by decide +kernel
theorem kd_N_hasNode_1 : decode kb_N_hasNode 1 = .ok (.ifCond .lt 15, 3) := by decide +kernel
theorem kd_N_hasNode_4 : decode kb_N_hasNode 4 = .ok (.iload_n 1, 1) := by decide +kernel
theorem kd_N_hasNode_5 : decode kb_N_hasNode 5 = .ok (.aload_n 0, 1) := by decide +kernel
theorem kd_N_hasNode_6 : decode kb_N_hasNode 6 = .ok (.getfield 21, 3) := by decide +kernel
theorem kd_N_hasNode_9 : decode kb_N_hasNode 9 = .ok (.if_icmp .ge 7, 3) := by decide +kernel
theorem kd_N_hasNode_12 : decode kb_N_hasNode 12 = .ok (.iconst 1, 1) := by decide +kernel
theorem kd_N_hasNode_13 : decode kb_N_hasNode 13 = .ok (.goto 4, 3) := by decide +kernel
theorem kd_N_hasNode_16 : decode kb_N_hasNode 16 = .ok (.iconst 0, 1) := by decide +kernel
theorem kd_N_hasNode_17 : decode kb_N_hasNode 17 = .ok (.ireturn, 1) := by decide +kernel
theorem kd_N_hasArc_0 : decode kb_N_hasArc 0 = .ok (.iload_n 1, 1) := by decide +kernel
theorem kd_N_hasArc_1 : decode kb_N_hasArc 1 = .ok (.ifCond .lt 15, 3) := by decide +kernel
theorem kd_N_hasArc_4 : decode kb_N_hasArc 4 = .ok (.iload_n 1, 1) := by decide +kernel
theorem kd_N_hasArc_5 : decode kb_N_hasArc 5 = .ok (.aload_n 0, 1) := by decide +kernel
theorem kd_N_hasArc_6 : decode kb_N_hasArc 6 = .ok (.getfield 25, 3) := by decide +kernel
theorem kd_N_hasArc_9 : decode kb_N_hasArc 9 = .ok (.if_icmp .ge 7, 3) := by decide +kernel
theorem kd_N_hasArc_12 : decode kb_N_hasArc 12 = .ok (.iconst 1, 1) := by decide +kernel
theorem kd_N_hasArc_13 : decode kb_N_hasArc 13 = .ok (.goto 4, 3) := by decide +kernel
theorem kd_N_hasArc_16 : decode kb_N_hasArc 16 = .ok (.iconst 0, 1) := by decide +kernel
theorem kd_N_hasArc_17 : decode kb_N_hasArc 17 = .ok (.ireturn, 1) := by decide +kernel
theorem kd_N_weightOutOf_0 : decode kb_N_weightOutOf 0 = .ok (.iconst 0, 1) := by decide +kernel
theorem kd_N_weightOutOf_1 : decode kb_N_weightOutOf 1 = .ok (.istore_n 2, 1) := by decide +kernel
theorem kd_N_weightOutOf_2 : decode kb_N_weightOutOf 2 = .ok (.iconst 0, 1) := by decide +kernel
theorem kd_N_weightOutOf_3 : decode kb_N_weightOutOf 3 = .ok (.istore_n 3, 1) := by decide +kernel
theorem kd_N_weightOutOf_4 : decode kb_N_weightOutOf 4 = .ok (.iload_n 3, 1) := by decide +kernel
theorem kd_N_weightOutOf_5 : decode kb_N_weightOutOf 5 = .ok (.aload_n 0, 1) := by decide +kernel
theorem kd_N_weightOutOf_6 : decode kb_N_weightOutOf 6 = .ok (.getfield 25, 3) := by decide +kernel
theorem kd_N_weightOutOf_9 : decode kb_N_weightOutOf 9 = .ok (.if_icmp .ge 32, 3) := by decide +kernel
theorem kd_N_weightOutOf_12 : decode kb_N_weightOutOf 12 = .ok (.iload_n 2, 1) := by decide +kernel
theorem kd_N_weightOutOf_13 : decode kb_N_weightOutOf 13 = .ok (.aload_n 0, 1) := by decide +kernel
theorem kd_N_weightOutOf_14 : decode kb_N_weightOutOf 14 = .ok (.getfield 9, 3) := by decide +kernel
theorem kd_N_weightOutOf_17 : decode kb_N_weightOutOf 17 = .ok (.iload_n 3, 1) := by decide +kernel
theorem kd_N_weightOutOf_18 : decode kb_N_weightOutOf 18 = .ok (.iaload, 1) := by decide +kernel
theorem kd_N_weightOutOf_19 : decode kb_N_weightOutOf 19 = .ok (.iload_n 1, 1) := by decide +kernel
theorem kd_N_weightOutOf_20 : decode kb_N_weightOutOf 20 = .ok (.if_icmp .ne 12, 3) := by decide +kernel
theorem kd_N_weightOutOf_23 : decode kb_N_weightOutOf 23 = .ok (.aload_n 0, 1) := by decide +kernel
theorem kd_N_weightOutOf_24 : decode kb_N_weightOutOf 24 = .ok (.getfield 18, 3) := by decide +kernel
theorem kd_N_weightOutOf_27 : decode kb_N_weightOutOf 27 = .ok (.iload_n 3, 1) := by decide +kernel
theorem kd_N_weightOutOf_28 : decode kb_N_weightOutOf 28 = .ok (.iaload, 1) := by decide +kernel
theorem kd_N_weightOutOf_29 : decode kb_N_weightOutOf 29 = .ok (.goto 4, 3) := by decide +kernel
theorem kd_N_weightOutOf_32 : decode kb_N_weightOutOf 32 = .ok (.iconst 0, 1) := by decide +kernel
theorem kd_N_weightOutOf_33 : decode kb_N_weightOutOf 33 = .ok (.iadd, 1) := by decide +kernel
theorem kd_N_weightOutOf_34 : decode kb_N_weightOutOf 34 = .ok (.istore_n 2, 1) := by decide +kernel
theorem kd_N_weightOutOf_35 : decode kb_N_weightOutOf 35 = .ok (.iinc 3 1, 3) := by decide +kernel
theorem kd_N_weightOutOf_38 : decode kb_N_weightOutOf 38 = .ok (.goto (-34), 3) := by decide +kernel
theorem kd_N_weightOutOf_41 : decode kb_N_weightOutOf 41 = .ok (.iload_n 2, 1) := by decide +kernel
theorem kd_N_weightOutOf_42 : decode kb_N_weightOutOf 42 = .ok (.ireturn, 1) := by decide +kernel
theorem kd_N_weightInto_0 : decode kb_N_weightInto 0 = .ok (.iconst 0, 1) := by decide +kernel
theorem kd_N_weightInto_1 : decode kb_N_weightInto 1 = .ok (.istore_n 2, 1) := by decide +kernel
theorem kd_N_weightInto_2 : decode kb_N_weightInto 2 = .ok (.iconst 0, 1) := by decide +kernel
theorem kd_N_weightInto_3 : decode kb_N_weightInto 3 = .ok (.istore_n 3, 1) := by decide +kernel
theorem kd_N_weightInto_4 : decode kb_N_weightInto 4 = .ok (.iload_n 3, 1) := by decide +kernel
theorem kd_N_weightInto_5 : decode kb_N_weightInto 5 = .ok (.aload_n 0, 1) := by decide +kernel
theorem kd_N_weightInto_6 : decode kb_N_weightInto 6 = .ok (.getfield 25, 3) := by decide +kernel
theorem kd_N_weightInto_9 : decode kb_N_weightInto 9 = .ok (.if_icmp .ge 32, 3) := by decide +kernel
theorem kd_N_weightInto_12 : decode kb_N_weightInto 12 = .ok (.iload_n 2, 1) := by decide +kernel
theorem kd_N_weightInto_13 : decode kb_N_weightInto 13 = .ok (.aload_n 0, 1) := by decide +kernel
theorem kd_N_weightInto_14 : decode kb_N_weightInto 14 = .ok (.getfield 15, 3) := by decide +kernel
theorem kd_N_weightInto_17 : decode kb_N_weightInto 17 = .ok (.iload_n 3, 1) := by decide +kernel
theorem kd_N_weightInto_18 : decode kb_N_weightInto 18 = .ok (.iaload, 1) := by decide +kernel
theorem kd_N_weightInto_19 : decode kb_N_weightInto 19 = .ok (.iload_n 1, 1) := by decide +kernel
theorem kd_N_weightInto_20 : decode kb_N_weightInto 20 = .ok (.if_icmp .ne 12, 3) := by decide +kernel
theorem kd_N_weightInto_23 : decode kb_N_weightInto 23 = .ok (.aload_n 0, 1) := by decide +kernel
theorem kd_N_weightInto_24 : decode kb_N_weightInto 24 = .ok (.getfield 18, 3) := by decide +kernel
theorem kd_N_weightInto_27 : decode kb_N_weightInto 27 = .ok (.iload_n 3, 1) := by decide +kernel
theorem kd_N_weightInto_28 : decode kb_N_weightInto 28 = .ok (.iaload, 1) := by decide +kernel
theorem kd_N_weightInto_29 : decode kb_N_weightInto 29 = .ok (.goto 4, 3) := by decide +kernel
theorem kd_N_weightInto_32 : decode kb_N_weightInto 32 = .ok (.iconst 0, 1) := by decide +kernel
theorem kd_N_weightInto_33 : decode kb_N_weightInto 33 = .ok (.iadd, 1) := by decide +kernel
theorem kd_N_weightInto_34 : decode kb_N_weightInto 34 = .ok (.istore_n 2, 1) := by decide +kernel
theorem kd_N_weightInto_35 : decode kb_N_weightInto 35 = .ok (.iinc 3 1, 3) := by decide +kernel
theorem kd_N_weightInto_38 : decode kb_N_weightInto 38 = .ok (.goto (-34), 3) := by decide +kernel
theorem kd_N_weightInto_41 : decode kb_N_weightInto 41 = .ok (.iload_n 2, 1) := by decide +kernel
theorem kd_N_weightInto_42 : decode kb_N_weightInto 42 = .ok (.ireturn, 1) := by decide +kernel
theorem kd_N_firstTrees_0 : decode kb_N_firstTrees 0 = .ok (.iconst 0, 1) := by decide +kernel
theorem kd_N_firstTrees_1 : decode kb_N_firstTrees 1 = .ok (.istore_n 2, 1) := by decide +kernel
theorem kd_N_firstTrees_2 : decode kb_N_firstTrees 2 = .ok (.aload_n 1, 1) := by decide +kernel
theorem kd_N_firstTrees_3 : decode kb_N_firstTrees 3 = .ok (.aload_n 0, 1) := by decide +kernel
theorem kd_N_firstTrees_4 : decode kb_N_firstTrees 4 = .ok (.getfield 21, 3) := by decide +kernel
theorem kd_N_firstTrees_7 : decode kb_N_firstTrees 7 = .ok (.invokevirtual 28, 3) := by decide +kernel
theorem kd_N_firstTrees_10 : decode kb_N_firstTrees 10 = .ok (.iconst 0, 1) := by decide +kernel
theorem kd_N_firstTrees_11 : decode kb_N_firstTrees 11 = .ok (.istore_n 3, 1) := by decide +kernel
theorem kd_N_firstTrees_12 : decode kb_N_firstTrees 12 = .ok (.iload_n 3, 1) := by decide +kernel
theorem kd_N_firstTrees_13 : decode kb_N_firstTrees 13 = .ok (.aload_n 0, 1) := by decide +kernel
theorem kd_N_firstTrees_14 : decode kb_N_firstTrees 14 = .ok (.getfield 25, 3) := by decide +kernel
theorem kd_N_firstTrees_17 : decode kb_N_firstTrees 17 = .ok (.if_icmp .ge 34, 3) := by decide +kernel
theorem kd_N_firstTrees_20 : decode kb_N_firstTrees 20 = .ok (.aload_n 1, 1) := by decide +kernel
theorem kd_N_firstTrees_21 : decode kb_N_firstTrees 21 = .ok (.aload_n 0, 1) := by decide +kernel
theorem kd_N_firstTrees_22 : decode kb_N_firstTrees 22 = .ok (.getfield 9, 3) := by decide +kernel
theorem kd_N_firstTrees_25 : decode kb_N_firstTrees 25 = .ok (.iload_n 3, 1) := by decide +kernel
theorem kd_N_firstTrees_26 : decode kb_N_firstTrees 26 = .ok (.iaload, 1) := by decide +kernel
theorem kd_N_firstTrees_27 : decode kb_N_firstTrees 27 = .ok (.aload_n 0, 1) := by decide +kernel
theorem kd_N_firstTrees_28 : decode kb_N_firstTrees 28 = .ok (.getfield 15, 3) := by decide +kernel
theorem kd_N_firstTrees_31 : decode kb_N_firstTrees 31 = .ok (.iload_n 3, 1) := by decide +kernel
theorem kd_N_firstTrees_32 : decode kb_N_firstTrees 32 = .ok (.iaload, 1) := by decide +kernel
theorem kd_N_firstTrees_33 : decode kb_N_firstTrees 33 = .ok (.invokevirtual 34, 3) := by decide +kernel
theorem kd_N_firstTrees_36 : decode kb_N_firstTrees 36 = .ok (.ifCond .eq 9, 3) := by decide +kernel
theorem kd_N_firstTrees_39 : decode kb_N_firstTrees 39 = .ok (.iload_n 2, 1) := by decide +kernel
theorem kd_N_firstTrees_40 : decode kb_N_firstTrees 40 = .ok (.iconst 1, 1) := by decide +kernel
theorem kd_N_firstTrees_41 : decode kb_N_firstTrees 41 = .ok (.iload_n 3, 1) := by decide +kernel
theorem kd_N_firstTrees_42 : decode kb_N_firstTrees 42 = .ok (.ishl, 1) := by decide +kernel
theorem kd_N_firstTrees_43 : decode kb_N_firstTrees 43 = .ok (.ior, 1) := by decide +kernel
theorem kd_N_firstTrees_44 : decode kb_N_firstTrees 44 = .ok (.istore_n 2, 1) := by decide +kernel
theorem kd_N_firstTrees_45 : decode kb_N_firstTrees 45 = .ok (.iinc 3 1, 3) := by decide +kernel
theorem kd_N_firstTrees_48 : decode kb_N_firstTrees 48 = .ok (.goto (-36), 3) := by decide +kernel
theorem kd_N_firstTrees_51 : decode kb_N_firstTrees 51 = .ok (.iload_n 2, 1) := by decide +kernel
theorem kd_N_firstTrees_52 : decode kb_N_firstTrees 52 = .ok (.ireturn, 1) := by decide +kernel
theorem kd_P_init_0 : decode kb_P_init 0 = .ok (.aload_n 0, 1) := by decide +kernel
theorem kd_P_init_1 : decode kb_P_init 1 = .ok (.invokespecial 3, 3) := by decide +kernel
theorem kd_P_init_4 : decode kb_P_init 4 = .ok (.aload_n 0, 1) := by decide +kernel
theorem kd_P_init_5 : decode kb_P_init 5 = .ok (.bipush 10, 2) := by decide +kernel
theorem kd_P_init_7 : decode kb_P_init 7 = .ok (.newarray .int, 2) := by decide +kernel
theorem kd_P_init_9 : decode kb_P_init 9 = .ok (.putfield 9, 3) := by decide +kernel
theorem kd_P_init_12 : decode kb_P_init 12 = .ok (.return_, 1) := by decide +kernel
theorem kd_P_split_0 : decode kb_P_split 0 = .ok (.aload_n 0, 1) := by decide +kernel
theorem kd_P_split_1 : decode kb_P_split 1 = .ok (.iload_n 1, 1) := by decide +kernel
theorem kd_P_split_2 : decode kb_P_split 2 = .ok (.putfield 15, 3) := by decide +kernel
theorem kd_P_split_5 : decode kb_P_split 5 = .ok (.aload_n 0, 1) := by decide +kernel
theorem kd_P_split_6 : decode kb_P_split 6 = .ok (.iload_n 1, 1) := by decide +kernel
theorem kd_P_split_7 : decode kb_P_split 7 = .ok (.putfield 19, 3) := by decide +kernel
theorem kd_P_split_10 : decode kb_P_split 10 = .ok (.iconst 0, 1) := by decide +kernel
theorem kd_P_split_11 : decode kb_P_split 11 = .ok (.istore_n 2, 1) := by decide +kernel
theorem kd_P_split_12 : decode kb_P_split 12 = .ok (.iload_n 2, 1) := by decide +kernel
theorem kd_P_split_13 : decode kb_P_split 13 = .ok (.iload_n 1, 1) := by decide +kernel
theorem kd_P_split_14 : decode kb_P_split 14 = .ok (.if_icmp .ge 16, 3) := by decide +kernel
theorem kd_P_split_17 : decode kb_P_split 17 = .ok (.aload_n 0, 1) := by decide +kernel
theorem kd_P_split_18 : decode kb_P_split 18 = .ok (.getfield 9, 3) := by decide +kernel
theorem kd_P_split_21 : decode kb_P_split 21 = .ok (.iload_n 2, 1) := by decide +kernel
theorem kd_P_split_22 : decode kb_P_split 22 = .ok (.iload_n 2, 1) := by decide +kernel
theorem kd_P_split_23 : decode kb_P_split 23 = .ok (.iastore, 1) := by decide +kernel
theorem kd_P_split_24 : decode kb_P_split 24 = .ok (.iinc 2 1, 3) := by decide +kernel
theorem kd_P_split_27 : decode kb_P_split 27 = .ok (.goto (-15), 3) := by decide +kernel
theorem kd_P_split_30 : decode kb_P_split 30 = .ok (.return_, 1) := by decide +kernel
theorem kd_P_become_0 : decode kb_P_become 0 = .ok (.aload_n 0, 1) := by decide +kernel
theorem kd_P_become_1 : decode kb_P_become 1 = .ok (.aload_n 1, 1) := by decide +kernel
theorem kd_P_become_2 : decode kb_P_become 2 = .ok (.getfield 15, 3) := by decide +kernel
theorem kd_P_become_5 : decode kb_P_become 5 = .ok (.putfield 15, 3) := by decide +kernel
theorem kd_P_become_8 : decode kb_P_become 8 = .ok (.aload_n 0, 1) := by decide +kernel
theorem kd_P_become_9 : decode kb_P_become 9 = .ok (.aload_n 1, 1) := by decide +kernel
theorem kd_P_become_10 : decode kb_P_become 10 = .ok (.getfield 19, 3) := by decide +kernel
theorem kd_P_become_13 : decode kb_P_become 13 = .ok (.putfield 19, 3) := by decide +kernel
theorem kd_P_become_16 : decode kb_P_become 16 = .ok (.aload_n 1, 1) := by decide +kernel
theorem kd_P_become_17 : decode kb_P_become 17 = .ok (.getfield 9, 3) := by decide +kernel
theorem kd_P_become_20 : decode kb_P_become 20 = .ok (.iconst 0, 1) := by decide +kernel
theorem kd_P_become_21 : decode kb_P_become 21 = .ok (.aload_n 0, 1) := by decide +kernel
theorem kd_P_become_22 : decode kb_P_become 22 = .ok (.getfield 9, 3) := by decide +kernel
theorem kd_P_become_25 : decode kb_P_become 25 = .ok (.iconst 0, 1) := by decide +kernel
theorem kd_P_become_26 : decode kb_P_become 26 = .ok (.aload_n 1, 1) := by decide +kernel
theorem kd_P_become_27 : decode kb_P_become 27 = .ok (.getfield 15, 3) := by decide +kernel
theorem kd_P_become_30 : decode kb_P_become 30 = .ok (.invokestatic 22, 3) := by decide +kernel
theorem kd_P_become_33 : decode kb_P_become 33 = .ok (.return_, 1) := by decide +kernel
theorem kd_P_areOne_0 : decode kb_P_areOne 0 = .ok (.aload_n 0, 1) := by decide +kernel
theorem kd_P_areOne_1 : decode kb_P_areOne 1 = .ok (.getfield 9, 3) := by decide +kernel
theorem kd_P_areOne_4 : decode kb_P_areOne 4 = .ok (.iload_n 1, 1) := by decide +kernel
theorem kd_P_areOne_5 : decode kb_P_areOne 5 = .ok (.iaload, 1) := by decide +kernel
theorem kd_P_areOne_6 : decode kb_P_areOne 6 = .ok (.aload_n 0, 1) := by decide +kernel
theorem kd_P_areOne_7 : decode kb_P_areOne 7 = .ok (.getfield 9, 3) := by decide +kernel
theorem kd_P_areOne_10 : decode kb_P_areOne 10 = .ok (.iload_n 2, 1) := by decide +kernel
theorem kd_P_areOne_11 : decode kb_P_areOne 11 = .ok (.iaload, 1) := by decide +kernel
theorem kd_P_areOne_12 : decode kb_P_areOne 12 = .ok (.if_icmp .ne 7, 3) := by decide +kernel
theorem kd_P_areOne_15 : decode kb_P_areOne 15 = .ok (.iconst 1, 1) := by decide +kernel
theorem kd_P_areOne_16 : decode kb_P_areOne 16 = .ok (.goto 4, 3) := by decide +kernel
theorem kd_P_areOne_19 : decode kb_P_areOne 19 = .ok (.iconst 0, 1) := by decide +kernel
theorem kd_P_areOne_20 : decode kb_P_areOne 20 = .ok (.ireturn, 1) := by decide +kernel
theorem kd_P_unite_0 : decode kb_P_unite 0 = .ok (.aload_n 0, 1) := by decide +kernel
theorem kd_P_unite_1 : decode kb_P_unite 1 = .ok (.getfield 9, 3) := by decide +kernel
theorem kd_P_unite_4 : decode kb_P_unite 4 = .ok (.iload_n 1, 1) := by decide +kernel
theorem kd_P_unite_5 : decode kb_P_unite 5 = .ok (.iaload, 1) := by decide +kernel
theorem kd_P_unite_6 : decode kb_P_unite 6 = .ok (.aload_n 0, 1) := by decide +kernel
theorem kd_P_unite_7 : decode kb_P_unite 7 = .ok (.getfield 9, 3) := by decide +kernel
theorem kd_P_unite_10 : decode kb_P_unite 10 = .ok (.iload_n 2, 1) := by decide +kernel
theorem kd_P_unite_11 : decode kb_P_unite 11 = .ok (.iaload, 1) := by decide +kernel
theorem kd_P_unite_12 : decode kb_P_unite 12 = .ok (.invokestatic 28, 3) := by decide +kernel
theorem kd_P_unite_15 : decode kb_P_unite 15 = .ok (.istore_n 3, 1) := by decide +kernel
theorem kd_P_unite_16 : decode kb_P_unite 16 = .ok (.aload_n 0, 1) := by decide +kernel
theorem kd_P_unite_17 : decode kb_P_unite 17 = .ok (.getfield 9, 3) := by decide +kernel
theorem kd_P_unite_20 : decode kb_P_unite 20 = .ok (.iload_n 1, 1) := by decide +kernel
theorem kd_P_unite_21 : decode kb_P_unite 21 = .ok (.iaload, 1) := by decide +kernel
theorem kd_P_unite_22 : decode kb_P_unite 22 = .ok (.aload_n 0, 1) := by decide +kernel
theorem kd_P_unite_23 : decode kb_P_unite 23 = .ok (.getfield 9, 3) := by decide +kernel
theorem kd_P_unite_26 : decode kb_P_unite 26 = .ok (.iload_n 2, 1) := by decide +kernel
theorem kd_P_unite_27 : decode kb_P_unite 27 = .ok (.iaload, 1) := by decide +kernel
theorem kd_P_unite_28 : decode kb_P_unite 28 = .ok (.invokestatic 34, 3) := by decide +kernel
theorem kd_P_unite_31 : decode kb_P_unite 31 = .ok (.istore 4, 2) := by decide +kernel
theorem kd_P_unite_33 : decode kb_P_unite 33 = .ok (.iload_n 3, 1) := by decide +kernel
theorem kd_P_unite_34 : decode kb_P_unite 34 = .ok (.iload 4, 2) := by decide +kernel
theorem kd_P_unite_36 : decode kb_P_unite 36 = .ok (.if_icmp .ne 5, 3) := by decide +kernel
theorem kd_P_unite_39 : decode kb_P_unite 39 = .ok (.iconst 0, 1) := by decide +kernel
theorem kd_P_unite_40 : decode kb_P_unite 40 = .ok (.ireturn, 1) := by decide +kernel
theorem kd_P_unite_41 : decode kb_P_unite 41 = .ok (.iconst 0, 1) := by decide +kernel
theorem kd_P_unite_42 : decode kb_P_unite 42 = .ok (.istore 5, 2) := by decide +kernel
theorem kd_P_unite_44 : decode kb_P_unite 44 = .ok (.iload 5, 2) := by decide +kernel
theorem kd_P_unite_46 : decode kb_P_unite 46 = .ok (.aload_n 0, 1) := by decide +kernel
theorem kd_P_unite_47 : decode kb_P_unite 47 = .ok (.getfield 15, 3) := by decide +kernel
theorem kd_P_unite_50 : decode kb_P_unite 50 = .ok (.if_icmp .ge 55, 3) := by decide +kernel
theorem kd_P_unite_53 : decode kb_P_unite 53 = .ok (.aload_n 0, 1) := by decide +kernel
theorem kd_P_unite_54 : decode kb_P_unite 54 = .ok (.getfield 9, 3) := by decide +kernel
theorem kd_P_unite_57 : decode kb_P_unite 57 = .ok (.iload 5, 2) := by decide +kernel
theorem kd_P_unite_59 : decode kb_P_unite 59 = .ok (.iaload, 1) := by decide +kernel
theorem kd_P_unite_60 : decode kb_P_unite 60 = .ok (.iload 4, 2) := by decide +kernel
theorem kd_P_unite_62 : decode kb_P_unite 62 = .ok (.if_icmp .ne 14, 3) := by decide +kernel
theorem kd_P_unite_65 : decode kb_P_unite 65 = .ok (.aload_n 0, 1) := by decide +kernel
theorem kd_P_unite_66 : decode kb_P_unite 66 = .ok (.getfield 9, 3) := by decide +kernel
theorem kd_P_unite_69 : decode kb_P_unite 69 = .ok (.iload 5, 2) := by decide +kernel
theorem kd_P_unite_71 : decode kb_P_unite 71 = .ok (.iload_n 3, 1) := by decide +kernel
theorem kd_P_unite_72 : decode kb_P_unite 72 = .ok (.iastore, 1) := by decide +kernel
theorem kd_P_unite_73 : decode kb_P_unite 73 = .ok (.goto 26, 3) := by decide +kernel
theorem kd_P_unite_76 : decode kb_P_unite 76 = .ok (.aload_n 0, 1) := by decide +kernel
theorem kd_P_unite_77 : decode kb_P_unite 77 = .ok (.getfield 9, 3) := by decide +kernel
theorem kd_P_unite_80 : decode kb_P_unite 80 = .ok (.iload 5, 2) := by decide +kernel
theorem kd_P_unite_82 : decode kb_P_unite 82 = .ok (.iaload, 1) := by decide +kernel
theorem kd_P_unite_83 : decode kb_P_unite 83 = .ok (.iload 4, 2) := by decide +kernel
theorem kd_P_unite_85 : decode kb_P_unite 85 = .ok (.if_icmp .le 14, 3) := by decide +kernel
theorem kd_P_unite_88 : decode kb_P_unite 88 = .ok (.aload_n 0, 1) := by decide +kernel
theorem kd_P_unite_89 : decode kb_P_unite 89 = .ok (.getfield 9, 3) := by decide +kernel
theorem kd_P_unite_92 : decode kb_P_unite 92 = .ok (.iload 5, 2) := by decide +kernel
theorem kd_P_unite_94 : decode kb_P_unite 94 = .ok (.dup2, 1) := by decide +kernel
theorem kd_P_unite_95 : decode kb_P_unite 95 = .ok (.iaload, 1) := by decide +kernel
theorem kd_P_unite_96 : decode kb_P_unite 96 = .ok (.iconst 1, 1) := by decide +kernel
theorem kd_P_unite_97 : decode kb_P_unite 97 = .ok (.isub, 1) := by decide +kernel
theorem kd_P_unite_98 : decode kb_P_unite 98 = .ok (.iastore, 1) := by decide +kernel
theorem kd_P_unite_99 : decode kb_P_unite 99 = .ok (.iinc 5 1, 3) := by decide +kernel
theorem kd_P_unite_102 : decode kb_P_unite 102 = .ok (.goto (-58), 3) := by decide +kernel
theorem kd_P_unite_105 : decode kb_P_unite 105 = .ok (.aload_n 0, 1) := by decide +kernel
theorem kd_P_unite_106 : decode kb_P_unite 106 = .ok (.dup, 1) := by decide +kernel
theorem kd_P_unite_107 : decode kb_P_unite 107 = .ok (.getfield 19, 3) := by decide +kernel
theorem kd_P_unite_110 : decode kb_P_unite 110 = .ok (.iconst 1, 1) := by decide +kernel
theorem kd_P_unite_111 : decode kb_P_unite 111 = .ok (.isub, 1) := by decide +kernel
theorem kd_P_unite_112 : decode kb_P_unite 112 = .ok (.putfield 19, 3) := by decide +kernel
theorem kd_P_unite_115 : decode kb_P_unite 115 = .ok (.iconst 1, 1) := by decide +kernel
theorem kd_P_unite_116 : decode kb_P_unite 116 = .ok (.ireturn, 1) := by decide +kernel
theorem kd_G_init_0 : decode kb_G_init 0 = .ok (.aload_n 0, 1) := by decide +kernel
theorem kd_G_init_1 : decode kb_G_init 1 = .ok (.invokespecial 3, 3) := by decide +kernel
theorem kd_G_init_4 : decode kb_G_init 4 = .ok (.aload_n 0, 1) := by decide +kernel
theorem kd_G_init_5 : decode kb_G_init 5 = .ok (.bipush 10, 2) := by decide +kernel
theorem kd_G_init_7 : decode kb_G_init 7 = .ok (.bipush 10, 2) := by decide +kernel
theorem kd_G_init_9 : decode kb_G_init 9 = .ok (.multianewarray 9 2, 4) := by decide +kernel
theorem kd_G_init_13 : decode kb_G_init 13 = .ok (.putfield 11, 3) := by decide +kernel
theorem kd_G_init_16 : decode kb_G_init 16 = .ok (.return_, 1) := by decide +kernel
theorem kd_G_blank_0 : decode kb_G_blank 0 = .ok (.aload_n 0, 1) := by decide +kernel
theorem kd_G_blank_1 : decode kb_G_blank 1 = .ok (.iload_n 1, 1) := by decide +kernel
theorem kd_G_blank_2 : decode kb_G_blank 2 = .ok (.putfield 16, 3) := by decide +kernel
theorem kd_G_blank_5 : decode kb_G_blank 5 = .ok (.iconst 0, 1) := by decide +kernel
theorem kd_G_blank_6 : decode kb_G_blank 6 = .ok (.istore_n 2, 1) := by decide +kernel
theorem kd_G_blank_7 : decode kb_G_blank 7 = .ok (.iload_n 2, 1) := by decide +kernel
theorem kd_G_blank_8 : decode kb_G_blank 8 = .ok (.aload_n 0, 1) := by decide +kernel
theorem kd_G_blank_9 : decode kb_G_blank 9 = .ok (.getfield 16, 3) := by decide +kernel
theorem kd_G_blank_12 : decode kb_G_blank 12 = .ok (.if_icmp .ge 34, 3) := by decide +kernel
theorem kd_G_blank_15 : decode kb_G_blank 15 = .ok (.iconst 0, 1) := by decide +kernel
theorem kd_G_blank_16 : decode kb_G_blank 16 = .ok (.istore_n 3, 1) := by decide +kernel
theorem kd_G_blank_17 : decode kb_G_blank 17 = .ok (.iload_n 3, 1) := by decide +kernel
theorem kd_G_blank_18 : decode kb_G_blank 18 = .ok (.aload_n 0, 1) := by decide +kernel
theorem kd_G_blank_19 : decode kb_G_blank 19 = .ok (.getfield 16, 3) := by decide +kernel
theorem kd_G_blank_22 : decode kb_G_blank 22 = .ok (.if_icmp .ge 18, 3) := by decide +kernel
theorem kd_G_blank_25 : decode kb_G_blank 25 = .ok (.aload_n 0, 1) := by decide +kernel
theorem kd_G_blank_26 : decode kb_G_blank 26 = .ok (.getfield 11, 3) := by decide +kernel
theorem kd_G_blank_29 : decode kb_G_blank 29 = .ok (.iload_n 2, 1) := by decide +kernel
theorem kd_G_blank_30 : decode kb_G_blank 30 = .ok (.aaload, 1) := by decide +kernel
theorem kd_G_blank_31 : decode kb_G_blank 31 = .ok (.iload_n 3, 1) := by decide +kernel
theorem kd_G_blank_32 : decode kb_G_blank 32 = .ok (.lconst 0, 1) := by decide +kernel
theorem kd_G_blank_33 : decode kb_G_blank 33 = .ok (.lastore, 1) := by decide +kernel
theorem kd_G_blank_34 : decode kb_G_blank 34 = .ok (.iinc 3 1, 3) := by decide +kernel
theorem kd_G_blank_37 : decode kb_G_blank 37 = .ok (.goto (-20), 3) := by decide +kernel
theorem kd_G_blank_40 : decode kb_G_blank 40 = .ok (.iinc 2 1, 3) := by decide +kernel
theorem kd_G_blank_43 : decode kb_G_blank 43 = .ok (.goto (-36), 3) := by decide +kernel
theorem kd_G_blank_46 : decode kb_G_blank 46 = .ok (.return_, 1) := by decide +kernel
theorem kd_G_addOneWay_0 : decode kb_G_addOneWay 0 = .ok (.aload_n 0, 1) := by decide +kernel
theorem kd_G_addOneWay_1 : decode kb_G_addOneWay 1 = .ok (.getfield 11, 3) := by decide +kernel
theorem kd_G_addOneWay_4 : decode kb_G_addOneWay 4 = .ok (.iload_n 1, 1) := by decide +kernel
theorem kd_G_addOneWay_5 : decode kb_G_addOneWay 5 = .ok (.aaload, 1) := by decide +kernel
theorem kd_G_addOneWay_6 : decode kb_G_addOneWay 6 = .ok (.iload_n 1, 1) := by decide +kernel
theorem kd_G_addOneWay_7 : decode kb_G_addOneWay 7 = .ok (.dup2, 1) := by decide +kernel
theorem kd_G_addOneWay_8 : decode kb_G_addOneWay 8 = .ok (.laload, 1) := by decide +kernel
theorem kd_G_addOneWay_9 : decode kb_G_addOneWay 9 = .ok (.iload_n 3, 1) := by decide +kernel
theorem kd_G_addOneWay_10 : decode kb_G_addOneWay 10 = .ok (.i2l, 1) := by decide +kernel
theorem kd_G_addOneWay_11 : decode kb_G_addOneWay 11 = .ok (.ladd, 1) := by decide +kernel
theorem kd_G_addOneWay_12 : decode kb_G_addOneWay 12 = .ok (.lastore, 1) := by decide +kernel
theorem kd_G_addOneWay_13 : decode kb_G_addOneWay 13 = .ok (.aload_n 0, 1) := by decide +kernel
theorem kd_G_addOneWay_14 : decode kb_G_addOneWay 14 = .ok (.getfield 11, 3) := by decide +kernel
theorem kd_G_addOneWay_17 : decode kb_G_addOneWay 17 = .ok (.iload_n 1, 1) := by decide +kernel
theorem kd_G_addOneWay_18 : decode kb_G_addOneWay 18 = .ok (.aaload, 1) := by decide +kernel
theorem kd_G_addOneWay_19 : decode kb_G_addOneWay 19 = .ok (.iload_n 2, 1) := by decide +kernel
theorem kd_G_addOneWay_20 : decode kb_G_addOneWay 20 = .ok (.dup2, 1) := by decide +kernel
theorem kd_G_addOneWay_21 : decode kb_G_addOneWay 21 = .ok (.laload, 1) := by decide +kernel
theorem kd_G_addOneWay_22 : decode kb_G_addOneWay 22 = .ok (.iload_n 3, 1) := by decide +kernel
theorem kd_G_addOneWay_23 : decode kb_G_addOneWay 23 = .ok (.i2l, 1) := by decide +kernel
theorem kd_G_addOneWay_24 : decode kb_G_addOneWay 24 = .ok (.lsub, 1) := by decide +kernel
theorem kd_G_addOneWay_25 : decode kb_G_addOneWay 25 = .ok (.lastore, 1) := by decide +kernel
theorem kd_G_addOneWay_26 : decode kb_G_addOneWay 26 = .ok (.return_, 1) := by decide +kernel
theorem kd_G_addBothWays_0 : decode kb_G_addBothWays 0 = .ok (.aload_n 0, 1) := by decide +kernel
theorem kd_G_addBothWays_1 : decode kb_G_addBothWays 1 = .ok (.iload_n 1, 1) := by decide +kernel
theorem kd_G_addBothWays_2 : decode kb_G_addBothWays 2 = .ok (.iload_n 2, 1) := by decide +kernel
theorem kd_G_addBothWays_3 : decode kb_G_addBothWays 3 = .ok (.iload_n 3, 1) := by decide +kernel
theorem kd_G_addBothWays_4 : decode kb_G_addBothWays 4 = .ok (.invokevirtual 20, 3) := by decide +kernel
theorem kd_G_addBothWays_7 : decode kb_G_addBothWays 7 = .ok (.aload_n 0, 1) := by decide +kernel
theorem kd_G_addBothWays_8 : decode kb_G_addBothWays 8 = .ok (.iload_n 2, 1) := by decide +kernel
theorem kd_G_addBothWays_9 : decode kb_G_addBothWays 9 = .ok (.iload_n 1, 1) := by decide +kernel
theorem kd_G_addBothWays_10 : decode kb_G_addBothWays 10 = .ok (.iload_n 3, 1) := by decide +kernel
theorem kd_G_addBothWays_11 : decode kb_G_addBothWays 11 = .ok (.invokevirtual 20, 3) := by decide +kernel
theorem kd_G_addBothWays_14 : decode kb_G_addBothWays 14 = .ok (.return_, 1) := by decide +kernel
theorem kd_G_fillBothWays_0 : decode kb_G_fillBothWays 0 = .ok (.aload_n 0, 1) := by decide +kernel
theorem kd_G_fillBothWays_1 : decode kb_G_fillBothWays 1 = .ok (.aload_n 1, 1) := by decide +kernel
theorem kd_G_fillBothWays_2 : decode kb_G_fillBothWays 2 = .ok (.getfield 24, 3) := by decide +kernel
theorem kd_G_fillBothWays_5 : decode kb_G_fillBothWays 5 = .ok (.invokevirtual 29, 3) := by decide +kernel
theorem kd_G_fillBothWays_8 : decode kb_G_fillBothWays 8 = .ok (.iconst 0, 1) := by decide +kernel
theorem kd_G_fillBothWays_9 : decode kb_G_fillBothWays 9 = .ok (.istore_n 2, 1) := by decide +kernel
theorem kd_G_fillBothWays_10 : decode kb_G_fillBothWays 10 = .ok (.iload_n 2, 1) := by decide +kernel
theorem kd_G_fillBothWays_11 : decode kb_G_fillBothWays 11 = .ok (.aload_n 1, 1) := by decide +kernel
theorem kd_G_fillBothWays_12 : decode kb_G_fillBothWays 12 = .ok (.getfield 33, 3) := by decide +kernel
theorem kd_G_fillBothWays_15 : decode kb_G_fillBothWays 15 = .ok (.if_icmp .ge 31, 3) := by decide +kernel
theorem kd_G_fillBothWays_18 : decode kb_G_fillBothWays 18 = .ok (.aload_n 0, 1) := by decide +kernel
theorem kd_G_fillBothWays_19 : decode kb_G_fillBothWays 19 = .ok (.aload_n 1, 1) := by decide +kernel
theorem kd_G_fillBothWays_20 : decode kb_G_fillBothWays 20 = .ok (.getfield 36, 3) := by decide +kernel
theorem kd_G_fillBothWays_23 : decode kb_G_fillBothWays 23 = .ok (.iload_n 2, 1) := by decide +kernel
theorem kd_G_fillBothWays_24 : decode kb_G_fillBothWays 24 = .ok (.iaload, 1) := by decide +kernel
theorem kd_G_fillBothWays_25 : decode kb_G_fillBothWays 25 = .ok (.aload_n 1, 1) := by decide +kernel
theorem kd_G_fillBothWays_26 : decode kb_G_fillBothWays 26 = .ok (.getfield 40, 3) := by decide +kernel
theorem kd_G_fillBothWays_29 : decode kb_G_fillBothWays 29 = .ok (.iload_n 2, 1) := by decide +kernel
theorem kd_G_fillBothWays_30 : decode kb_G_fillBothWays 30 = .ok (.iaload, 1) := by decide +kernel
theorem kd_G_fillBothWays_31 : decode kb_G_fillBothWays 31 = .ok (.aload_n 1, 1) := by decide +kernel
theorem kd_G_fillBothWays_32 : decode kb_G_fillBothWays 32 = .ok (.getfield 43, 3) := by decide +kernel
theorem kd_G_fillBothWays_35 : decode kb_G_fillBothWays 35 = .ok (.iload_n 2, 1) := by decide +kernel
theorem kd_G_fillBothWays_36 : decode kb_G_fillBothWays 36 = .ok (.iaload, 1) := by decide +kernel
theorem kd_G_fillBothWays_37 : decode kb_G_fillBothWays 37 = .ok (.invokevirtual 46, 3) := by decide +kernel
theorem kd_G_fillBothWays_40 : decode kb_G_fillBothWays 40 = .ok (.iinc 2 1, 3) := by decide +kernel
theorem kd_G_fillBothWays_43 : decode kb_G_fillBothWays 43 = .ok (.goto (-33), 3) := by decide +kernel
theorem kd_G_fillBothWays_46 : decode kb_G_fillBothWays 46 = .ok (.return_, 1) := by decide +kernel
theorem kd_G_fillOneWay_0 : decode kb_G_fillOneWay 0 = .ok (.aload_n 0, 1) := by decide +kernel
theorem kd_G_fillOneWay_1 : decode kb_G_fillOneWay 1 = .ok (.aload_n 1, 1) := by decide +kernel
theorem kd_G_fillOneWay_2 : decode kb_G_fillOneWay 2 = .ok (.getfield 24, 3) := by decide +kernel
theorem kd_G_fillOneWay_5 : decode kb_G_fillOneWay 5 = .ok (.invokevirtual 29, 3) := by decide +kernel
theorem kd_G_fillOneWay_8 : decode kb_G_fillOneWay 8 = .ok (.iconst 0, 1) := by decide +kernel
theorem kd_G_fillOneWay_9 : decode kb_G_fillOneWay 9 = .ok (.istore_n 2, 1) := by decide +kernel
theorem kd_G_fillOneWay_10 : decode kb_G_fillOneWay 10 = .ok (.iload_n 2, 1) := by decide +kernel
theorem kd_G_fillOneWay_11 : decode kb_G_fillOneWay 11 = .ok (.aload_n 1, 1) := by decide +kernel
theorem kd_G_fillOneWay_12 : decode kb_G_fillOneWay 12 = .ok (.getfield 33, 3) := by decide +kernel
theorem kd_G_fillOneWay_15 : decode kb_G_fillOneWay 15 = .ok (.if_icmp .ge 31, 3) := by decide +kernel
theorem kd_G_fillOneWay_18 : decode kb_G_fillOneWay 18 = .ok (.aload_n 0, 1) := by decide +kernel
theorem kd_G_fillOneWay_19 : decode kb_G_fillOneWay 19 = .ok (.aload_n 1, 1) := by decide +kernel
theorem kd_G_fillOneWay_20 : decode kb_G_fillOneWay 20 = .ok (.getfield 36, 3) := by decide +kernel
theorem kd_G_fillOneWay_23 : decode kb_G_fillOneWay 23 = .ok (.iload_n 2, 1) := by decide +kernel
theorem kd_G_fillOneWay_24 : decode kb_G_fillOneWay 24 = .ok (.iaload, 1) := by decide +kernel
theorem kd_G_fillOneWay_25 : decode kb_G_fillOneWay 25 = .ok (.aload_n 1, 1) := by decide +kernel
theorem kd_G_fillOneWay_26 : decode kb_G_fillOneWay 26 = .ok (.getfield 40, 3) := by decide +kernel
theorem kd_G_fillOneWay_29 : decode kb_G_fillOneWay 29 = .ok (.iload_n 2, 1) := by decide +kernel
theorem kd_G_fillOneWay_30 : decode kb_G_fillOneWay 30 = .ok (.iaload, 1) := by decide +kernel
theorem kd_G_fillOneWay_31 : decode kb_G_fillOneWay 31 = .ok (.aload_n 1, 1) := by decide +kernel
theorem kd_G_fillOneWay_32 : decode kb_G_fillOneWay 32 = .ok (.getfield 43, 3) := by decide +kernel
theorem kd_G_fillOneWay_35 : decode kb_G_fillOneWay 35 = .ok (.iload_n 2, 1) := by decide +kernel
theorem kd_G_fillOneWay_36 : decode kb_G_fillOneWay 36 = .ok (.iaload, 1) := by decide +kernel
theorem kd_G_fillOneWay_37 : decode kb_G_fillOneWay 37 = .ok (.invokevirtual 20, 3) := by decide +kernel
theorem kd_G_fillOneWay_40 : decode kb_G_fillOneWay 40 = .ok (.iinc 2 1, 3) := by decide +kernel
theorem kd_G_fillOneWay_43 : decode kb_G_fillOneWay 43 = .ok (.goto (-33), 3) := by decide +kernel
theorem kd_G_fillOneWay_46 : decode kb_G_fillOneWay 46 = .ok (.return_, 1) := by decide +kernel
theorem kd_G_strike_0 : decode kb_G_strike 0 = .ok (.iload_n 1, 1) := by decide +kernel
theorem kd_G_strike_1 : decode kb_G_strike 1 = .ok (.aload_n 0, 1) := by decide +kernel
theorem kd_G_strike_2 : decode kb_G_strike 2 = .ok (.getfield 16, 3) := by decide +kernel
theorem kd_G_strike_5 : decode kb_G_strike 5 = .ok (.if_icmp .lt 4, 3) := by decide +kernel
theorem kd_G_strike_8 : decode kb_G_strike 8 = .ok (.return_, 1) := by decide +kernel
theorem kd_G_strike_9 : decode kb_G_strike 9 = .ok (.iconst 0, 1) := by decide +kernel
theorem kd_G_strike_10 : decode kb_G_strike 10 = .ok (.istore_n 2, 1) := by decide +kernel
theorem kd_G_strike_11 : decode kb_G_strike 11 = .ok (.iload_n 2, 1) := by decide +kernel
theorem kd_G_strike_12 : decode kb_G_strike 12 = .ok (.aload_n 0, 1) := by decide +kernel
theorem kd_G_strike_13 : decode kb_G_strike 13 = .ok (.getfield 16, 3) := by decide +kernel
theorem kd_G_strike_16 : decode kb_G_strike 16 = .ok (.if_icmp .ge 27, 3) := by decide +kernel
theorem kd_G_strike_19 : decode kb_G_strike 19 = .ok (.aload_n 0, 1) := by decide +kernel
theorem kd_G_strike_20 : decode kb_G_strike 20 = .ok (.getfield 11, 3) := by decide +kernel
theorem kd_G_strike_23 : decode kb_G_strike 23 = .ok (.iload_n 1, 1) := by decide +kernel
theorem kd_G_strike_24 : decode kb_G_strike 24 = .ok (.aaload, 1) := by decide +kernel
theorem kd_G_strike_25 : decode kb_G_strike 25 = .ok (.iload_n 2, 1) := by decide +kernel
theorem kd_G_strike_26 : decode kb_G_strike 26 = .ok (.lconst 0, 1) := by decide +kernel
theorem kd_G_strike_27 : decode kb_G_strike 27 = .ok (.lastore, 1) := by decide +kernel
theorem kd_G_strike_28 : decode kb_G_strike 28 = .ok (.aload_n 0, 1) := by decide +kernel
theorem kd_G_strike_29 : decode kb_G_strike 29 = .ok (.getfield 11, 3) := by decide +kernel
theorem kd_G_strike_32 : decode kb_G_strike 32 = .ok (.iload_n 2, 1) := by decide +kernel
theorem kd_G_strike_33 : decode kb_G_strike 33 = .ok (.aaload, 1) := by decide +kernel
theorem kd_G_strike_34 : decode kb_G_strike 34 = .ok (.iload_n 1, 1) := by decide +kernel
theorem kd_G_strike_35 : decode kb_G_strike 35 = .ok (.lconst 0, 1) := by decide +kernel
theorem kd_G_strike_36 : decode kb_G_strike 36 = .ok (.lastore, 1) := by decide +kernel
theorem kd_G_strike_37 : decode kb_G_strike 37 = .ok (.iinc 2 1, 3) := by decide +kernel
theorem kd_G_strike_40 : decode kb_G_strike 40 = .ok (.goto (-29), 3) := by decide +kernel
theorem kd_G_strike_43 : decode kb_G_strike 43 = .ok (.aload_n 0, 1) := by decide +kernel
theorem kd_G_strike_44 : decode kb_G_strike 44 = .ok (.getfield 11, 3) := by decide +kernel
theorem kd_G_strike_47 : decode kb_G_strike 47 = .ok (.iload_n 1, 1) := by decide +kernel
theorem kd_G_strike_48 : decode kb_G_strike 48 = .ok (.aaload, 1) := by decide +kernel
theorem kd_G_strike_49 : decode kb_G_strike 49 = .ok (.iload_n 1, 1) := by decide +kernel
theorem kd_G_strike_50 : decode kb_G_strike 50 = .ok (.lconst 1, 1) := by decide +kernel
theorem kd_G_strike_51 : decode kb_G_strike 51 = .ok (.lastore, 1) := by decide +kernel
theorem kd_G_strike_52 : decode kb_G_strike 52 = .ok (.return_, 1) := by decide +kernel
theorem kd_G_swapRows_0 : decode kb_G_swapRows 0 = .ok (.aload_n 0, 1) := by decide +kernel
theorem kd_G_swapRows_1 : decode kb_G_swapRows 1 = .ok (.getfield 11, 3) := by decide +kernel
theorem kd_G_swapRows_4 : decode kb_G_swapRows 4 = .ok (.iload_n 1, 1) := by decide +kernel
theorem kd_G_swapRows_5 : decode kb_G_swapRows 5 = .ok (.aaload, 1) := by decide +kernel
theorem kd_G_swapRows_6 : decode kb_G_swapRows 6 = .ok (.astore_n 3, 1) := by decide +kernel
theorem kd_G_swapRows_7 : decode kb_G_swapRows 7 = .ok (.aload_n 0, 1) := by decide +kernel
theorem kd_G_swapRows_8 : decode kb_G_swapRows 8 = .ok (.getfield 11, 3) := by decide +kernel
theorem kd_G_swapRows_11 : decode kb_G_swapRows 11 = .ok (.iload_n 1, 1) := by decide +kernel
theorem kd_G_swapRows_12 : decode kb_G_swapRows 12 = .ok (.aload_n 0, 1) := by decide +kernel
theorem kd_G_swapRows_13 : decode kb_G_swapRows 13 = .ok (.getfield 11, 3) := by decide +kernel
theorem kd_G_swapRows_16 : decode kb_G_swapRows 16 = .ok (.iload_n 2, 1) := by decide +kernel
theorem kd_G_swapRows_17 : decode kb_G_swapRows 17 = .ok (.aaload, 1) := by decide +kernel
theorem kd_G_swapRows_18 : decode kb_G_swapRows 18 = .ok (.aastore, 1) := by decide +kernel
theorem kd_G_swapRows_19 : decode kb_G_swapRows 19 = .ok (.aload_n 0, 1) := by decide +kernel
theorem kd_G_swapRows_20 : decode kb_G_swapRows 20 = .ok (.getfield 11, 3) := by decide +kernel
theorem kd_G_swapRows_23 : decode kb_G_swapRows 23 = .ok (.iload_n 2, 1) := by decide +kernel
theorem kd_G_swapRows_24 : decode kb_G_swapRows 24 = .ok (.aload_n 3, 1) := by decide +kernel
theorem kd_G_swapRows_25 : decode kb_G_swapRows 25 = .ok (.aastore, 1) := by decide +kernel
theorem kd_G_swapRows_26 : decode kb_G_swapRows 26 = .ok (.return_, 1) := by decide +kernel
theorem kd_G_determinant_0 : decode kb_G_determinant 0 = .ok (.lconst 1, 1) := by decide +kernel
theorem kd_G_determinant_1 : decode kb_G_determinant 1 = .ok (.lstore_n 1, 1) := by decide +kernel
theorem kd_G_determinant_2 : decode kb_G_determinant 2 = .ok (.iconst 0, 1) := by decide +kernel
theorem kd_G_determinant_3 : decode kb_G_determinant 3 = .ok (.istore_n 3, 1) := by decide +kernel
theorem kd_G_determinant_4 : decode kb_G_determinant 4 = .ok (.iload_n 3, 1) := by decide +kernel
theorem kd_G_determinant_5 : decode kb_G_determinant 5 = .ok (.aload_n 0, 1) := by decide +kernel
theorem kd_G_determinant_6 : decode kb_G_determinant 6 = .ok (.getfield 16, 3) := by decide +kernel
theorem kd_G_determinant_9 : decode kb_G_determinant 9 = .ok (.if_icmp .ge 64, 3) := by decide +kernel
theorem kd_G_determinant_12 : decode kb_G_determinant 12 = .ok (.aload_n 0, 1) := by decide +kernel
theorem kd_G_determinant_13 : decode kb_G_determinant 13 = .ok (.iload_n 3, 1) := by decide +kernel
theorem kd_G_determinant_14 : decode kb_G_determinant 14 = .ok (.invokevirtual 49, 3) := by decide +kernel
theorem kd_G_determinant_17 : decode kb_G_determinant 17 = .ok (.istore 4, 2) := by decide +kernel
theorem kd_G_determinant_19 : decode kb_G_determinant 19 = .ok (.aload_n 0, 1) := by decide +kernel
theorem kd_G_determinant_20 : decode kb_G_determinant 20 = .ok (.getfield 11, 3) := by decide +kernel
theorem kd_G_determinant_23 : decode kb_G_determinant 23 = .ok (.iload 4, 2) := by decide +kernel
theorem kd_G_determinant_25 : decode kb_G_determinant 25 = .ok (.aaload, 1) := by decide +kernel
theorem kd_G_determinant_26 : decode kb_G_determinant 26 = .ok (.iload_n 3, 1) := by decide +kernel
theorem kd_G_determinant_27 : decode kb_G_determinant 27 = .ok (.laload, 1) := by decide +kernel
theorem kd_G_determinant_28 : decode kb_G_determinant 28 = .ok (.lconst 0, 1) := by decide +kernel
theorem kd_G_determinant_29 : decode kb_G_determinant 29 = .ok (.lcmp, 1) := by decide +kernel
theorem kd_G_determinant_30 : decode kb_G_determinant 30 = .ok (.ifCond .ne 5, 3) := by decide +kernel
theorem kd_G_determinant_33 : decode kb_G_determinant 33 = .ok (.lconst 0, 1) := by decide +kernel
theorem kd_G_determinant_34 : decode kb_G_determinant 34 = .ok (.lreturn, 1) := by decide +kernel
theorem kd_G_determinant_35 : decode kb_G_determinant 35 = .ok (.iload 4, 2) := by decide +kernel
theorem kd_G_determinant_37 : decode kb_G_determinant 37 = .ok (.iload_n 3, 1) := by decide +kernel
theorem kd_G_determinant_38 : decode kb_G_determinant 38 = .ok (.if_icmp .eq 13, 3) := by decide +kernel
theorem kd_G_determinant_41 : decode kb_G_determinant 41 = .ok (.aload_n 0, 1) := by decide +kernel
theorem kd_G_determinant_42 : decode kb_G_determinant 42 = .ok (.iload 4, 2) := by decide +kernel
theorem kd_G_determinant_44 : decode kb_G_determinant 44 = .ok (.iload_n 3, 1) := by decide +kernel
theorem kd_G_determinant_45 : decode kb_G_determinant 45 = .ok (.invokevirtual 53, 3) := by decide +kernel
theorem kd_G_determinant_48 : decode kb_G_determinant 48 = .ok (.lload_n 1, 1) := by decide +kernel
theorem kd_G_determinant_49 : decode kb_G_determinant 49 = .ok (.lneg, 1) := by decide +kernel
theorem kd_G_determinant_50 : decode kb_G_determinant 50 = .ok (.lstore_n 1, 1) := by decide +kernel
theorem kd_G_determinant_51 : decode kb_G_determinant 51 = .ok (.lload_n 1, 1) := by decide +kernel
theorem kd_G_determinant_52 : decode kb_G_determinant 52 = .ok (.aload_n 0, 1) := by decide +kernel
theorem kd_G_determinant_53 : decode kb_G_determinant 53 = .ok (.getfield 11, 3) := by decide +kernel
theorem kd_G_determinant_56 : decode kb_G_determinant 56 = .ok (.iload_n 3, 1) := by decide +kernel
theorem kd_G_determinant_57 : decode kb_G_determinant 57 = .ok (.aaload, 1) := by decide +kernel
theorem kd_G_determinant_58 : decode kb_G_determinant 58 = .ok (.iload_n 3, 1) := by decide +kernel
theorem kd_G_determinant_59 : decode kb_G_determinant 59 = .ok (.laload, 1) := by decide +kernel
theorem kd_G_determinant_60 : decode kb_G_determinant 60 = .ok (.lmul, 1) := by decide +kernel
theorem kd_G_determinant_61 : decode kb_G_determinant 61 = .ok (.lstore_n 1, 1) := by decide +kernel
theorem kd_G_determinant_62 : decode kb_G_determinant 62 = .ok (.aload_n 0, 1) := by decide +kernel
theorem kd_G_determinant_63 : decode kb_G_determinant 63 = .ok (.iload_n 3, 1) := by decide +kernel
theorem kd_G_determinant_64 : decode kb_G_determinant 64 = .ok (.invokevirtual 57, 3) := by decide +kernel
theorem kd_G_determinant_67 : decode kb_G_determinant 67 = .ok (.iinc 3 1, 3) := by decide +kernel
theorem kd_G_determinant_70 : decode kb_G_determinant 70 = .ok (.goto (-66), 3) := by decide +kernel
theorem kd_G_determinant_73 : decode kb_G_determinant 73 = .ok (.lload_n 1, 1) := by decide +kernel
theorem kd_G_determinant_74 : decode kb_G_determinant 74 = .ok (.lreturn, 1) := by decide +kernel
theorem kd_G_rowWithLowestBit_0 : decode kb_G_rowWithLowestBit 0 = .ok (.iload_n 1, 1) := by decide +kernel
theorem kd_G_rowWithLowestBit_1 : decode kb_G_rowWithLowestBit 1 = .ok (.istore_n 2, 1) := by decide +kernel
theorem kd_G_rowWithLowestBit_2 : decode kb_G_rowWithLowestBit 2 = .ok (.aload_n 0, 1) := by decide +kernel
theorem kd_G_rowWithLowestBit_3 : decode kb_G_rowWithLowestBit 3 = .ok (.getfield 11, 3) := by decide +kernel
theorem kd_G_rowWithLowestBit_6 : decode kb_G_rowWithLowestBit 6 = .ok (.iload_n 1, 1) := by decide +kernel
theorem kd_G_rowWithLowestBit_7 : decode kb_G_rowWithLowestBit 7 = .ok (.aaload, 1) := by decide +kernel
theorem kd_G_rowWithLowestBit_8 : decode kb_G_rowWithLowestBit 8 = .ok (.iload_n 1, 1) := by decide +kernel
theorem kd_G_rowWithLowestBit_9 : decode kb_G_rowWithLowestBit 9 = .ok (.laload, 1) := by decide +kernel
theorem kd_G_rowWithLowestBit_10 : decode kb_G_rowWithLowestBit 10 = .ok (.invokestatic 60, 3) := by decide +kernel
theorem kd_G_rowWithLowestBit_13 : decode kb_G_rowWithLowestBit 13 = .ok (.istore_n 3, 1) := by decide +kernel
theorem kd_G_rowWithLowestBit_14 : decode kb_G_rowWithLowestBit 14 = .ok (.iload_n 1, 1) := by decide +kernel
theorem kd_G_rowWithLowestBit_15 : decode kb_G_rowWithLowestBit 15 = .ok (.iconst 1, 1) := by decide +kernel
theorem kd_G_rowWithLowestBit_16 : decode kb_G_rowWithLowestBit 16 = .ok (.iadd, 1) := by decide +kernel
theorem kd_G_rowWithLowestBit_17 : decode kb_G_rowWithLowestBit 17 = .ok (.istore 4, 2) := by decide +kernel
theorem kd_G_rowWithLowestBit_19 : decode kb_G_rowWithLowestBit 19 = .ok (.iload 4, 2) := by decide +kernel
theorem kd_G_rowWithLowestBit_21 : decode kb_G_rowWithLowestBit 21 = .ok (.aload_n 0, 1) := by decide +kernel
theorem kd_G_rowWithLowestBit_22 : decode kb_G_rowWithLowestBit 22 = .ok (.getfield 16, 3) := by decide +kernel
theorem kd_G_rowWithLowestBit_25 : decode kb_G_rowWithLowestBit 25 = .ok (.if_icmp .ge 39, 3) := by decide +kernel
theorem kd_G_rowWithLowestBit_28 : decode kb_G_rowWithLowestBit 28 = .ok (.iload_n 3, 1) := by decide +kernel
theorem kd_G_rowWithLowestBit_29 : decode kb_G_rowWithLowestBit 29 = .ok (.ifCond .le 35, 3) := by decide +kernel
theorem kd_G_rowWithLowestBit_32 : decode kb_G_rowWithLowestBit 32 = .ok (.aload_n 0, 1) := by decide +kernel
theorem kd_G_rowWithLowestBit_33 : decode kb_G_rowWithLowestBit 33 = .ok (.getfield 11, 3) := by decide +kernel
theorem kd_G_rowWithLowestBit_36 : decode kb_G_rowWithLowestBit 36 = .ok (.iload 4, 2) := by decide +kernel
theorem kd_G_rowWithLowestBit_38 : decode kb_G_rowWithLowestBit 38 = .ok (.aaload, 1) := by decide +kernel
theorem kd_G_rowWithLowestBit_39 : decode kb_G_rowWithLowestBit 39 = .ok (.iload_n 1, 1) := by decide +kernel
theorem kd_G_rowWithLowestBit_40 : decode kb_G_rowWithLowestBit 40 = .ok (.laload, 1) := by decide +kernel
theorem kd_G_rowWithLowestBit_41 : decode kb_G_rowWithLowestBit 41 = .ok (.invokestatic 60, 3) := by decide +kernel
theorem kd_G_rowWithLowestBit_44 : decode kb_G_rowWithLowestBit 44 = .ok (.istore 5, 2) := by decide +kernel
theorem kd_G_rowWithLowestBit_46 : decode kb_G_rowWithLowestBit 46 = .ok (.iload 5, 2) := by decide +kernel
theorem kd_G_rowWithLowestBit_48 : decode kb_G_rowWithLowestBit 48 = .ok (.iload_n 3, 1) := by decide +kernel
theorem kd_G_rowWithLowestBit_49 : decode kb_G_rowWithLowestBit 49 = .ok (.if_icmp .ge 9, 3) := by decide +kernel
theorem kd_G_rowWithLowestBit_52 : decode kb_G_rowWithLowestBit 52 = .ok (.iload 4, 2) := by decide +kernel
theorem kd_G_rowWithLowestBit_54 : decode kb_G_rowWithLowestBit 54 = .ok (.istore_n 2, 1) := by decide +kernel
theorem kd_G_rowWithLowestBit_55 : decode kb_G_rowWithLowestBit 55 = .ok (.iload 5, 2) := by decide +kernel
theorem kd_G_rowWithLowestBit_57 : decode kb_G_rowWithLowestBit 57 = .ok (.istore_n 3, 1) := by decide +kernel
theorem kd_G_rowWithLowestBit_58 : decode kb_G_rowWithLowestBit 58 = .ok (.iinc 4 1, 3) := by decide +kernel
theorem kd_G_rowWithLowestBit_61 : decode kb_G_rowWithLowestBit 61 = .ok (.goto (-42), 3) := by decide +kernel
theorem kd_G_rowWithLowestBit_64 : decode kb_G_rowWithLowestBit 64 = .ok (.iload_n 2, 1) := by decide +kernel
theorem kd_G_rowWithLowestBit_65 : decode kb_G_rowWithLowestBit 65 = .ok (.ireturn, 1) := by decide +kernel
theorem kd_G_clearBelow_0 : decode kb_G_clearBelow 0 = .ok (.aload_n 0, 1) := by decide +kernel
theorem kd_G_clearBelow_1 : decode kb_G_clearBelow 1 = .ok (.getfield 11, 3) := by decide +kernel
theorem kd_G_clearBelow_4 : decode kb_G_clearBelow 4 = .ok (.iload_n 1, 1) := by decide +kernel
theorem kd_G_clearBelow_5 : decode kb_G_clearBelow 5 = .ok (.aaload, 1) := by decide +kernel
theorem kd_G_clearBelow_6 : decode kb_G_clearBelow 6 = .ok (.iload_n 1, 1) := by decide +kernel
theorem kd_G_clearBelow_7 : decode kb_G_clearBelow 7 = .ok (.laload, 1) := by decide +kernel
theorem kd_G_clearBelow_8 : decode kb_G_clearBelow 8 = .ok (.invokestatic 60, 3) := by decide +kernel
theorem kd_G_clearBelow_11 : decode kb_G_clearBelow 11 = .ok (.istore_n 2, 1) := by decide +kernel
theorem kd_G_clearBelow_12 : decode kb_G_clearBelow 12 = .ok (.aload_n 0, 1) := by decide +kernel
theorem kd_G_clearBelow_13 : decode kb_G_clearBelow 13 = .ok (.getfield 11, 3) := by decide +kernel
theorem kd_G_clearBelow_16 : decode kb_G_clearBelow 16 = .ok (.iload_n 1, 1) := by decide +kernel
theorem kd_G_clearBelow_17 : decode kb_G_clearBelow 17 = .ok (.aaload, 1) := by decide +kernel
theorem kd_G_clearBelow_18 : decode kb_G_clearBelow 18 = .ok (.iload_n 1, 1) := by decide +kernel
theorem kd_G_clearBelow_19 : decode kb_G_clearBelow 19 = .ok (.laload, 1) := by decide +kernel
theorem kd_G_clearBelow_20 : decode kb_G_clearBelow 20 = .ok (.iload_n 2, 1) := by decide +kernel
theorem kd_G_clearBelow_21 : decode kb_G_clearBelow 21 = .ok (.lshr, 1) := by decide +kernel
theorem kd_G_clearBelow_22 : decode kb_G_clearBelow 22 = .ok (.invokestatic 64, 3) := by decide +kernel
theorem kd_G_clearBelow_25 : decode kb_G_clearBelow 25 = .ok (.lstore_n 3, 1) := by decide +kernel
theorem kd_G_clearBelow_26 : decode kb_G_clearBelow 26 = .ok (.iload_n 1, 1) := by decide +kernel
theorem kd_G_clearBelow_27 : decode kb_G_clearBelow 27 = .ok (.iconst 1, 1) := by decide +kernel
theorem kd_G_clearBelow_28 : decode kb_G_clearBelow 28 = .ok (.iadd, 1) := by decide +kernel
theorem kd_G_clearBelow_29 : decode kb_G_clearBelow 29 = .ok (.istore 5, 2) := by decide +kernel
theorem kd_G_clearBelow_31 : decode kb_G_clearBelow 31 = .ok (.iload 5, 2) := by decide +kernel
theorem kd_G_clearBelow_33 : decode kb_G_clearBelow 33 = .ok (.aload_n 0, 1) := by decide +kernel
theorem kd_G_clearBelow_34 : decode kb_G_clearBelow 34 = .ok (.getfield 16, 3) := by decide +kernel
theorem kd_G_clearBelow_37 : decode kb_G_clearBelow 37 = .ok (.if_icmp .ge 81, 3) := by decide +kernel
theorem kd_G_clearBelow_40 : decode kb_G_clearBelow 40 = .ok (.aload_n 0, 1) := by decide +kernel
theorem kd_G_clearBelow_41 : decode kb_G_clearBelow 41 = .ok (.getfield 11, 3) := by decide +kernel
theorem kd_G_clearBelow_44 : decode kb_G_clearBelow 44 = .ok (.iload 5, 2) := by decide +kernel
theorem kd_G_clearBelow_46 : decode kb_G_clearBelow 46 = .ok (.aaload, 1) := by decide +kernel
theorem kd_G_clearBelow_47 : decode kb_G_clearBelow 47 = .ok (.iload_n 1, 1) := by decide +kernel
theorem kd_G_clearBelow_48 : decode kb_G_clearBelow 48 = .ok (.laload, 1) := by decide +kernel
theorem kd_G_clearBelow_49 : decode kb_G_clearBelow 49 = .ok (.lconst 0, 1) := by decide +kernel
theorem kd_G_clearBelow_50 : decode kb_G_clearBelow 50 = .ok (.lcmp, 1) := by decide +kernel
theorem kd_G_clearBelow_51 : decode kb_G_clearBelow 51 = .ok (.ifCond .eq 61, 3) := by decide +kernel
theorem kd_G_clearBelow_54 : decode kb_G_clearBelow 54 = .ok (.aload_n 0, 1) := by decide +kernel
theorem kd_G_clearBelow_55 : decode kb_G_clearBelow 55 = .ok (.getfield 11, 3) := by decide +kernel
theorem kd_G_clearBelow_58 : decode kb_G_clearBelow 58 = .ok (.iload 5, 2) := by decide +kernel
theorem kd_G_clearBelow_60 : decode kb_G_clearBelow 60 = .ok (.aaload, 1) := by decide +kernel
theorem kd_G_clearBelow_61 : decode kb_G_clearBelow 61 = .ok (.iload_n 1, 1) := by decide +kernel
theorem kd_G_clearBelow_62 : decode kb_G_clearBelow 62 = .ok (.laload, 1) := by decide +kernel
theorem kd_G_clearBelow_63 : decode kb_G_clearBelow 63 = .ok (.iload_n 2, 1) := by decide +kernel
theorem kd_G_clearBelow_64 : decode kb_G_clearBelow 64 = .ok (.lshr, 1) := by decide +kernel
theorem kd_G_clearBelow_65 : decode kb_G_clearBelow 65 = .ok (.lload_n 3, 1) := by decide +kernel
theorem kd_G_clearBelow_66 : decode kb_G_clearBelow 66 = .ok (.lmul, 1) := by decide +kernel
theorem kd_G_clearBelow_67 : decode kb_G_clearBelow 67 = .ok (.lstore 6, 2) := by decide +kernel
theorem kd_G_clearBelow_69 : decode kb_G_clearBelow 69 = .ok (.iload_n 1, 1) := by decide +kernel
theorem kd_G_clearBelow_70 : decode kb_G_clearBelow 70 = .ok (.istore 8, 2) := by decide +kernel
theorem kd_G_clearBelow_72 : decode kb_G_clearBelow 72 = .ok (.iload 8, 2) := by decide +kernel
theorem kd_G_clearBelow_74 : decode kb_G_clearBelow 74 = .ok (.aload_n 0, 1) := by decide +kernel
theorem kd_G_clearBelow_75 : decode kb_G_clearBelow 75 = .ok (.getfield 16, 3) := by decide +kernel
theorem kd_G_clearBelow_78 : decode kb_G_clearBelow 78 = .ok (.if_icmp .ge 34, 3) := by decide +kernel
theorem kd_G_clearBelow_81 : decode kb_G_clearBelow 81 = .ok (.aload_n 0, 1) := by decide +kernel
theorem kd_G_clearBelow_82 : decode kb_G_clearBelow 82 = .ok (.getfield 11, 3) := by decide +kernel
theorem kd_G_clearBelow_85 : decode kb_G_clearBelow 85 = .ok (.iload 5, 2) := by decide +kernel
theorem kd_G_clearBelow_87 : decode kb_G_clearBelow 87 = .ok (.aaload, 1) := by decide +kernel
theorem kd_G_clearBelow_88 : decode kb_G_clearBelow 88 = .ok (.iload 8, 2) := by decide +kernel
theorem kd_G_clearBelow_90 : decode kb_G_clearBelow 90 = .ok (.dup2, 1) := by decide +kernel
theorem kd_G_clearBelow_91 : decode kb_G_clearBelow 91 = .ok (.laload, 1) := by decide +kernel
theorem kd_G_clearBelow_92 : decode kb_G_clearBelow 92 = .ok (.lload 6, 2) := by decide +kernel
theorem kd_G_clearBelow_94 : decode kb_G_clearBelow 94 = .ok (.aload_n 0, 1) := by decide +kernel
theorem kd_G_clearBelow_95 : decode kb_G_clearBelow 95 = .ok (.getfield 11, 3) := by decide +kernel
theorem kd_G_clearBelow_98 : decode kb_G_clearBelow 98 = .ok (.iload_n 1, 1) := by decide +kernel
theorem kd_G_clearBelow_99 : decode kb_G_clearBelow 99 = .ok (.aaload, 1) := by decide +kernel
theorem kd_G_clearBelow_100 : decode kb_G_clearBelow 100 = .ok (.iload 8, 2) := by decide +kernel
theorem kd_G_clearBelow_102 : decode kb_G_clearBelow 102 = .ok (.laload, 1) := by decide +kernel
theorem kd_G_clearBelow_103 : decode kb_G_clearBelow 103 = .ok (.lmul, 1) := by decide +kernel
theorem kd_G_clearBelow_104 : decode kb_G_clearBelow 104 = .ok (.lsub, 1) := by decide +kernel
theorem kd_G_clearBelow_105 : decode kb_G_clearBelow 105 = .ok (.lastore, 1) := by decide +kernel
theorem kd_G_clearBelow_106 : decode kb_G_clearBelow 106 = .ok (.iinc 8 1, 3) := by decide +kernel
theorem kd_G_clearBelow_109 : decode kb_G_clearBelow 109 = .ok (.goto (-37), 3) := by decide +kernel
theorem kd_G_clearBelow_112 : decode kb_G_clearBelow 112 = .ok (.iinc 5 1, 3) := by decide +kernel
theorem kd_G_clearBelow_115 : decode kb_G_clearBelow 115 = .ok (.goto (-84), 3) := by decide +kernel
theorem kd_G_clearBelow_118 : decode kb_G_clearBelow 118 = .ok (.return_, 1) := by decide +kernel
theorem kd_G_twos_0 : decode kb_G_twos 0 = .ok (.lload_n 0, 1) := by decide +kernel
theorem kd_G_twos_1 : decode kb_G_twos 1 = .ok (.lconst 0, 1) := by decide +kernel
theorem kd_G_twos_2 : decode kb_G_twos 2 = .ok (.lcmp, 1) := by decide +kernel
theorem kd_G_twos_3 : decode kb_G_twos 3 = .ok (.ifCond .ne 6, 3) := by decide +kernel
theorem kd_G_twos_6 : decode kb_G_twos 6 = .ok (.bipush 64, 2) := by decide +kernel
theorem kd_G_twos_8 : decode kb_G_twos 8 = .ok (.ireturn, 1) := by decide +kernel
theorem kd_G_twos_9 : decode kb_G_twos 9 = .ok (.iconst 0, 1) := by decide +kernel
theorem kd_G_twos_10 : decode kb_G_twos 10 = .ok (.istore_n 2, 1) := by decide +kernel
theorem kd_G_twos_11 : decode kb_G_twos 11 = .ok (.iload_n 2, 1) := by decide +kernel
theorem kd_G_twos_12 : decode kb_G_twos 12 = .ok (.bipush 63, 2) := by decide +kernel
theorem kd_G_twos_14 : decode kb_G_twos 14 = .ok (.if_icmp .ge 19, 3) := by decide +kernel
theorem kd_G_twos_17 : decode kb_G_twos 17 = .ok (.lload_n 0, 1) := by decide +kernel
theorem kd_G_twos_18 : decode kb_G_twos 18 = .ok (.iload_n 2, 1) := by decide +kernel
theorem kd_G_twos_19 : decode kb_G_twos 19 = .ok (.lshr, 1) := by decide +kernel
theorem kd_G_twos_20 : decode kb_G_twos 20 = .ok (.lconst 1, 1) := by decide +kernel
theorem kd_G_twos_21 : decode kb_G_twos 21 = .ok (.land, 1) := by decide +kernel
theorem kd_G_twos_22 : decode kb_G_twos 22 = .ok (.lconst 0, 1) := by decide +kernel
theorem kd_G_twos_23 : decode kb_G_twos 23 = .ok (.lcmp, 1) := by decide +kernel
theorem kd_G_twos_24 : decode kb_G_twos 24 = .ok (.ifCond .ne 9, 3) := by decide +kernel
theorem kd_G_twos_27 : decode kb_G_twos 27 = .ok (.iinc 2 1, 3) := by decide +kernel
theorem kd_G_twos_30 : decode kb_G_twos 30 = .ok (.goto (-19), 3) := by decide +kernel
theorem kd_G_twos_33 : decode kb_G_twos 33 = .ok (.iload_n 2, 1) := by decide +kernel
theorem kd_G_twos_34 : decode kb_G_twos 34 = .ok (.ireturn, 1) := by decide +kernel
theorem kd_G_inverseOfOdd_0 : decode kb_G_inverseOfOdd 0 = .ok (.lload_n 0, 1) := by decide +kernel
theorem kd_G_inverseOfOdd_1 : decode kb_G_inverseOfOdd 1 = .ok (.lstore_n 2, 1) := by decide +kernel
theorem kd_G_inverseOfOdd_2 : decode kb_G_inverseOfOdd 2 = .ok (.iconst 3, 1) := by decide +kernel
theorem kd_G_inverseOfOdd_3 : decode kb_G_inverseOfOdd 3 = .ok (.istore 4, 2) := by decide +kernel
theorem kd_G_inverseOfOdd_5 : decode kb_G_inverseOfOdd 5 = .ok (.iload 4, 2) := by decide +kernel
theorem kd_G_inverseOfOdd_7 : decode kb_G_inverseOfOdd 7 = .ok (.bipush 64, 2) := by decide +kernel
theorem kd_G_inverseOfOdd_9 : decode kb_G_inverseOfOdd 9 = .ok (.if_icmp .ge 22, 3) := by decide +kernel
theorem kd_G_inverseOfOdd_12 : decode kb_G_inverseOfOdd 12 = .ok (.lload_n 2, 1) := by decide +kernel
theorem kd_G_inverseOfOdd_13 : decode kb_G_inverseOfOdd 13 = .ok (.ldc2_w 68, 3) := by decide +kernel
theorem kd_G_inverseOfOdd_16 : decode kb_G_inverseOfOdd 16 = .ok (.lload_n 0, 1) := by decide +kernel
theorem kd_G_inverseOfOdd_17 : decode kb_G_inverseOfOdd 17 = .ok (.lload_n 2, 1) := by decide +kernel
theorem kd_G_inverseOfOdd_18 : decode kb_G_inverseOfOdd 18 = .ok (.lmul, 1) := by decide +kernel
theorem kd_G_inverseOfOdd_19 : decode kb_G_inverseOfOdd 19 = .ok (.lsub, 1) := by decide +kernel
theorem kd_G_inverseOfOdd_20 : decode kb_G_inverseOfOdd 20 = .ok (.lmul, 1) := by decide +kernel
theorem kd_G_inverseOfOdd_21 : decode kb_G_inverseOfOdd 21 = .ok (.lstore_n 2, 1) := by decide +kernel
theorem kd_G_inverseOfOdd_22 : decode kb_G_inverseOfOdd 22 = .ok (.iload 4, 2) := by decide +kernel
theorem kd_G_inverseOfOdd_24 : decode kb_G_inverseOfOdd 24 = .ok (.iconst 2, 1) := by decide +kernel
theorem kd_G_inverseOfOdd_25 : decode kb_G_inverseOfOdd 25 = .ok (.imul, 1) := by decide +kernel
theorem kd_G_inverseOfOdd_26 : decode kb_G_inverseOfOdd 26 = .ok (.istore 4, 2) := by decide +kernel
theorem kd_G_inverseOfOdd_28 : decode kb_G_inverseOfOdd 28 = .ok (.goto (-23), 3) := by decide +kernel
theorem kd_G_inverseOfOdd_31 : decode kb_G_inverseOfOdd 31 = .ok (.lload_n 2, 1) := by decide +kernel
theorem kd_G_inverseOfOdd_32 : decode kb_G_inverseOfOdd 32 = .ok (.lreturn, 1) := by decide +kernel
theorem kd_T_init_0 : decode kb_T_init 0 = .ok (.aload_n 0, 1) := by decide +kernel
theorem kd_T_init_1 : decode kb_T_init 1 = .ok (.invokespecial 3, 3) := by decide +kernel
theorem kd_T_init_4 : decode kb_T_init 4 = .ok (.aload_n 0, 1) := by decide +kernel
theorem kd_T_init_5 : decode kb_T_init 5 = .ok (.aload_n 1, 1) := by decide +kernel
theorem kd_T_init_6 : decode kb_T_init 6 = .ok (.putfield 9, 3) := by decide +kernel
theorem kd_T_init_9 : decode kb_T_init 9 = .ok (.aload_n 0, 1) := by decide +kernel
theorem kd_T_init_10 : decode kb_T_init 10 = .ok (.aload_n 2, 1) := by decide +kernel
theorem kd_T_init_11 : decode kb_T_init 11 = .ok (.putfield 15, 3) := by decide +kernel
theorem kd_T_init_14 : decode kb_T_init 14 = .ok (.aload_n 0, 1) := by decide +kernel
theorem kd_T_init_15 : decode kb_T_init 15 = .ok (.aload_n 3, 1) := by decide +kernel
theorem kd_T_init_16 : decode kb_T_init 16 = .ok (.putfield 19, 3) := by decide +kernel
theorem kd_T_init_19 : decode kb_T_init 19 = .ok (.return_, 1) := by decide +kernel
theorem kd_T_sumOfAll_0 : decode kb_T_sumOfAll 0 = .ok (.aload_n 0, 1) := by decide +kernel
theorem kd_T_sumOfAll_1 : decode kb_T_sumOfAll 1 = .ok (.getfield 15, 3) := by decide +kernel
theorem kd_T_sumOfAll_4 : decode kb_T_sumOfAll 4 = .ok (.aload_n 0, 1) := by decide +kernel
theorem kd_T_sumOfAll_5 : decode kb_T_sumOfAll 5 = .ok (.getfield 9, 3) := by decide +kernel
theorem kd_T_sumOfAll_8 : decode kb_T_sumOfAll 8 = .ok (.getfield 23, 3) := by decide +kernel
theorem kd_T_sumOfAll_11 : decode kb_T_sumOfAll 11 = .ok (.invokevirtual 29, 3) := by decide +kernel
theorem kd_T_sumOfAll_14 : decode kb_T_sumOfAll 14 = .ok (.aload_n 0, 1) := by decide +kernel
theorem kd_T_sumOfAll_15 : decode kb_T_sumOfAll 15 = .ok (.iconst 0, 1) := by decide +kernel
theorem kd_T_sumOfAll_16 : decode kb_T_sumOfAll 16 = .ok (.invokevirtual 35, 3) := by decide +kernel
theorem kd_T_sumOfAll_19 : decode kb_T_sumOfAll 19 = .ok (.lreturn, 1) := by decide +kernel
theorem kd_T_sumOverParts_0 : decode kb_T_sumOverParts 0 = .ok (.aload_n 0, 1) := by decide +kernel
theorem kd_T_sumOverParts_1 : decode kb_T_sumOverParts 1 = .ok (.getfield 15, 3) := by decide +kernel
theorem kd_T_sumOverParts_4 : decode kb_T_sumOverParts 4 = .ok (.getfield 39, 3) := by decide +kernel
theorem kd_T_sumOverParts_7 : decode kb_T_sumOverParts 7 = .ok (.ifCond .ne 5, 3) := by decide +kernel
theorem kd_T_sumOverParts_10 : decode kb_T_sumOverParts 10 = .ok (.lconst 0, 1) := by decide +kernel
theorem kd_T_sumOverParts_11 : decode kb_T_sumOverParts 11 = .ok (.lreturn, 1) := by decide +kernel
theorem kd_T_sumOverParts_12 : decode kb_T_sumOverParts 12 = .ok (.aload_n 0, 1) := by decide +kernel
theorem kd_T_sumOverParts_13 : decode kb_T_sumOverParts 13 = .ok (.getfield 19, 3) := by decide +kernel
theorem kd_T_sumOverParts_16 : decode kb_T_sumOverParts 16 = .ok (.aload_n 0, 1) := by decide +kernel
theorem kd_T_sumOverParts_17 : decode kb_T_sumOverParts 17 = .ok (.getfield 15, 3) := by decide +kernel
theorem kd_T_sumOverParts_20 : decode kb_T_sumOverParts 20 = .ok (.getfield 39, 3) := by decide +kernel
theorem kd_T_sumOverParts_23 : decode kb_T_sumOverParts 23 = .ok (.invokevirtual 42, 3) := by decide +kernel
theorem kd_T_sumOverParts_26 : decode kb_T_sumOverParts 26 = .ok (.iload_n 1, 1) := by decide +kernel
theorem kd_T_sumOverParts_27 : decode kb_T_sumOverParts 27 = .ok (.istore_n 2, 1) := by decide +kernel
theorem kd_T_sumOverParts_28 : decode kb_T_sumOverParts 28 = .ok (.iload_n 2, 1) := by decide +kernel
theorem kd_T_sumOverParts_29 : decode kb_T_sumOverParts 29 = .ok (.aload_n 0, 1) := by decide +kernel
theorem kd_T_sumOverParts_30 : decode kb_T_sumOverParts 30 = .ok (.getfield 9, 3) := by decide +kernel
theorem kd_T_sumOverParts_33 : decode kb_T_sumOverParts 33 = .ok (.getfield 47, 3) := by decide +kernel
theorem kd_T_sumOverParts_36 : decode kb_T_sumOverParts 36 = .ok (.if_icmp .ge 59, 3) := by decide +kernel
theorem kd_T_sumOverParts_39 : decode kb_T_sumOverParts 39 = .ok (.aload_n 0, 1) := by decide +kernel
theorem kd_T_sumOverParts_40 : decode kb_T_sumOverParts 40 = .ok (.getfield 19, 3) := by decide +kernel
theorem kd_T_sumOverParts_43 : decode kb_T_sumOverParts 43 = .ok (.aload_n 0, 1) := by decide +kernel
theorem kd_T_sumOverParts_44 : decode kb_T_sumOverParts 44 = .ok (.getfield 15, 3) := by decide +kernel
theorem kd_T_sumOverParts_47 : decode kb_T_sumOverParts 47 = .ok (.getfield 50, 3) := by decide +kernel
theorem kd_T_sumOverParts_50 : decode kb_T_sumOverParts 50 = .ok (.aload_n 0, 1) := by decide +kernel
theorem kd_T_sumOverParts_51 : decode kb_T_sumOverParts 51 = .ok (.getfield 9, 3) := by decide +kernel
theorem kd_T_sumOverParts_54 : decode kb_T_sumOverParts 54 = .ok (.getfield 54, 3) := by decide +kernel
theorem kd_T_sumOverParts_57 : decode kb_T_sumOverParts 57 = .ok (.iload_n 2, 1) := by decide +kernel
theorem kd_T_sumOverParts_58 : decode kb_T_sumOverParts 58 = .ok (.iaload, 1) := by decide +kernel
theorem kd_T_sumOverParts_59 : decode kb_T_sumOverParts 59 = .ok (.iaload, 1) := by decide +kernel
theorem kd_T_sumOverParts_60 : decode kb_T_sumOverParts 60 = .ok (.aload_n 0, 1) := by decide +kernel
theorem kd_T_sumOverParts_61 : decode kb_T_sumOverParts 61 = .ok (.getfield 15, 3) := by decide +kernel
theorem kd_T_sumOverParts_64 : decode kb_T_sumOverParts 64 = .ok (.getfield 50, 3) := by decide +kernel
theorem kd_T_sumOverParts_67 : decode kb_T_sumOverParts 67 = .ok (.aload_n 0, 1) := by decide +kernel
theorem kd_T_sumOverParts_68 : decode kb_T_sumOverParts 68 = .ok (.getfield 9, 3) := by decide +kernel
theorem kd_T_sumOverParts_71 : decode kb_T_sumOverParts 71 = .ok (.getfield 57, 3) := by decide +kernel
theorem kd_T_sumOverParts_74 : decode kb_T_sumOverParts 74 = .ok (.iload_n 2, 1) := by decide +kernel
theorem kd_T_sumOverParts_75 : decode kb_T_sumOverParts 75 = .ok (.iaload, 1) := by decide +kernel
theorem kd_T_sumOverParts_76 : decode kb_T_sumOverParts 76 = .ok (.iaload, 1) := by decide +kernel
theorem kd_T_sumOverParts_77 : decode kb_T_sumOverParts 77 = .ok (.aload_n 0, 1) := by decide +kernel
theorem kd_T_sumOverParts_78 : decode kb_T_sumOverParts 78 = .ok (.getfield 9, 3) := by decide +kernel
theorem kd_T_sumOverParts_81 : decode kb_T_sumOverParts 81 = .ok (.getfield 60, 3) := by decide +kernel
theorem kd_T_sumOverParts_84 : decode kb_T_sumOverParts 84 = .ok (.iload_n 2, 1) := by decide +kernel
theorem kd_T_sumOverParts_85 : decode kb_T_sumOverParts 85 = .ok (.iaload, 1) := by decide +kernel
theorem kd_T_sumOverParts_86 : decode kb_T_sumOverParts 86 = .ok (.invokevirtual 63, 3) := by decide +kernel
theorem kd_T_sumOverParts_89 : decode kb_T_sumOverParts 89 = .ok (.iinc 2 1, 3) := by decide +kernel
theorem kd_T_sumOverParts_92 : decode kb_T_sumOverParts 92 = .ok (.goto (-64), 3) := by decide +kernel
theorem kd_T_sumOverParts_95 : decode kb_T_sumOverParts 95 = .ok (.aload_n 0, 1) := by decide +kernel
theorem kd_T_sumOverParts_96 : decode kb_T_sumOverParts 96 = .ok (.getfield 19, 3) := by decide +kernel
theorem kd_T_sumOverParts_99 : decode kb_T_sumOverParts 99 = .ok (.iconst 0, 1) := by decide +kernel
theorem kd_T_sumOverParts_100 : decode kb_T_sumOverParts 100 = .ok (.invokevirtual 67, 3) := by decide +kernel
theorem kd_T_sumOverParts_103 : decode kb_T_sumOverParts 103 = .ok (.aload_n 0, 1) := by decide +kernel
theorem kd_T_sumOverParts_104 : decode kb_T_sumOverParts 104 = .ok (.getfield 19, 3) := by decide +kernel
theorem kd_T_sumOverParts_107 : decode kb_T_sumOverParts 107 = .ok (.invokevirtual 70, 3) := by decide +kernel
theorem kd_T_sumOverParts_110 : decode kb_T_sumOverParts 110 = .ok (.lreturn, 1) := by decide +kernel
theorem kd_T_sumWith_0 : decode kb_T_sumWith 0 = .ok (.aload_n 0, 1) := by decide +kernel
theorem kd_T_sumWith_1 : decode kb_T_sumWith 1 = .ok (.getfield 15, 3) := by decide +kernel
theorem kd_T_sumWith_4 : decode kb_T_sumWith 4 = .ok (.aload_n 0, 1) := by decide +kernel
theorem kd_T_sumWith_5 : decode kb_T_sumWith 5 = .ok (.getfield 9, 3) := by decide +kernel
theorem kd_T_sumWith_8 : decode kb_T_sumWith 8 = .ok (.getfield 23, 3) := by decide +kernel
theorem kd_T_sumWith_11 : decode kb_T_sumWith 11 = .ok (.invokevirtual 29, 3) := by decide +kernel
theorem kd_T_sumWith_14 : decode kb_T_sumWith 14 = .ok (.aload_n 0, 1) := by decide +kernel
theorem kd_T_sumWith_15 : decode kb_T_sumWith 15 = .ok (.getfield 15, 3) := by decide +kernel
theorem kd_T_sumWith_18 : decode kb_T_sumWith 18 = .ok (.aload_n 0, 1) := by decide +kernel
theorem kd_T_sumWith_19 : decode kb_T_sumWith 19 = .ok (.getfield 9, 3) := by decide +kernel
theorem kd_T_sumWith_22 : decode kb_T_sumWith 22 = .ok (.getfield 54, 3) := by decide +kernel
theorem kd_T_sumWith_25 : decode kb_T_sumWith 25 = .ok (.iload_n 1, 1) := by decide +kernel
theorem kd_T_sumWith_26 : decode kb_T_sumWith 26 = .ok (.iaload, 1) := by decide +kernel
theorem kd_T_sumWith_27 : decode kb_T_sumWith 27 = .ok (.aload_n 0, 1) := by decide +kernel
theorem kd_T_sumWith_28 : decode kb_T_sumWith 28 = .ok (.getfield 9, 3) := by decide +kernel
theorem kd_T_sumWith_31 : decode kb_T_sumWith 31 = .ok (.getfield 57, 3) := by decide +kernel
theorem kd_T_sumWith_34 : decode kb_T_sumWith 34 = .ok (.iload_n 1, 1) := by decide +kernel
theorem kd_T_sumWith_35 : decode kb_T_sumWith 35 = .ok (.iaload, 1) := by decide +kernel
theorem kd_T_sumWith_36 : decode kb_T_sumWith 36 = .ok (.invokevirtual 74, 3) := by decide +kernel
theorem kd_T_sumWith_39 : decode kb_T_sumWith 39 = .ok (.ifCond .ne 5, 3) := by decide +kernel
theorem kd_T_sumWith_42 : decode kb_T_sumWith 42 = .ok (.lconst 0, 1) := by decide +kernel
theorem kd_T_sumWith_43 : decode kb_T_sumWith 43 = .ok (.lreturn, 1) := by decide +kernel
theorem kd_T_sumWith_44 : decode kb_T_sumWith 44 = .ok (.aload_n 0, 1) := by decide +kernel
theorem kd_T_sumWith_45 : decode kb_T_sumWith 45 = .ok (.getfield 9, 3) := by decide +kernel
theorem kd_T_sumWith_48 : decode kb_T_sumWith 48 = .ok (.getfield 60, 3) := by decide +kernel
theorem kd_T_sumWith_51 : decode kb_T_sumWith 51 = .ok (.iload_n 1, 1) := by decide +kernel
theorem kd_T_sumWith_52 : decode kb_T_sumWith 52 = .ok (.iaload, 1) := by decide +kernel
theorem kd_T_sumWith_53 : decode kb_T_sumWith 53 = .ok (.i2l, 1) := by decide +kernel
theorem kd_T_sumWith_54 : decode kb_T_sumWith 54 = .ok (.aload_n 0, 1) := by decide +kernel
theorem kd_T_sumWith_55 : decode kb_T_sumWith 55 = .ok (.iconst 0, 1) := by decide +kernel
theorem kd_T_sumWith_56 : decode kb_T_sumWith 56 = .ok (.invokevirtual 35, 3) := by decide +kernel
theorem kd_T_sumWith_59 : decode kb_T_sumWith 59 = .ok (.lmul, 1) := by decide +kernel
theorem kd_T_sumWith_60 : decode kb_T_sumWith 60 = .ok (.lreturn, 1) := by decide +kernel
theorem kd_T_sumTowards_0 : decode kb_T_sumTowards 0 = .ok (.aload_n 0, 1) := by decide +kernel
theorem kd_T_sumTowards_1 : decode kb_T_sumTowards 1 = .ok (.getfield 19, 3) := by decide +kernel
theorem kd_T_sumTowards_4 : decode kb_T_sumTowards 4 = .ok (.aload_n 0, 1) := by decide +kernel
theorem kd_T_sumTowards_5 : decode kb_T_sumTowards 5 = .ok (.getfield 9, 3) := by decide +kernel
theorem kd_T_sumTowards_8 : decode kb_T_sumTowards 8 = .ok (.invokevirtual 78, 3) := by decide +kernel
theorem kd_T_sumTowards_11 : decode kb_T_sumTowards 11 = .ok (.aload_n 0, 1) := by decide +kernel
theorem kd_T_sumTowards_12 : decode kb_T_sumTowards 12 = .ok (.getfield 19, 3) := by decide +kernel
theorem kd_T_sumTowards_15 : decode kb_T_sumTowards 15 = .ok (.iload_n 1, 1) := by decide +kernel
theorem kd_T_sumTowards_16 : decode kb_T_sumTowards 16 = .ok (.invokevirtual 67, 3) := by decide +kernel
theorem kd_T_sumTowards_19 : decode kb_T_sumTowards 19 = .ok (.aload_n 0, 1) := by decide +kernel
theorem kd_T_sumTowards_20 : decode kb_T_sumTowards 20 = .ok (.getfield 19, 3) := by decide +kernel
theorem kd_T_sumTowards_23 : decode kb_T_sumTowards 23 = .ok (.invokevirtual 70, 3) := by decide +kernel
theorem kd_T_sumTowards_26 : decode kb_T_sumTowards 26 = .ok (.lreturn, 1) := by decide +kernel
theorem kd_T_sumOfMarked_0 : decode kb_T_sumOfMarked 0 = .ok (.aload_n 0, 1) := by decide +kernel
theorem kd_T_sumOfMarked_1 : decode kb_T_sumOfMarked 1 = .ok (.getfield 19, 3) := by decide +kernel
theorem kd_T_sumOfMarked_4 : decode kb_T_sumOfMarked 4 = .ok (.aload_n 0, 1) := by decide +kernel
theorem kd_T_sumOfMarked_5 : decode kb_T_sumOfMarked 5 = .ok (.getfield 9, 3) := by decide +kernel
theorem kd_T_sumOfMarked_8 : decode kb_T_sumOfMarked 8 = .ok (.invokevirtual 82, 3) := by decide +kernel
theorem kd_T_sumOfMarked_11 : decode kb_T_sumOfMarked 11 = .ok (.iconst 0, 1) := by decide +kernel
theorem kd_T_sumOfMarked_12 : decode kb_T_sumOfMarked 12 = .ok (.istore_n 1, 1) := by decide +kernel
theorem kd_T_sumOfMarked_13 : decode kb_T_sumOfMarked 13 = .ok (.iload_n 1, 1) := by decide +kernel
theorem kd_T_sumOfMarked_14 : decode kb_T_sumOfMarked 14 = .ok (.aload_n 0, 1) := by decide +kernel
theorem kd_T_sumOfMarked_15 : decode kb_T_sumOfMarked 15 = .ok (.getfield 9, 3) := by decide +kernel
theorem kd_T_sumOfMarked_18 : decode kb_T_sumOfMarked 18 = .ok (.getfield 23, 3) := by decide +kernel
theorem kd_T_sumOfMarked_21 : decode kb_T_sumOfMarked 21 = .ok (.if_icmp .ge 24, 3) := by decide +kernel
theorem kd_T_sumOfMarked_24 : decode kb_T_sumOfMarked 24 = .ok (.aload_n 0, 1) := by decide +kernel
theorem kd_T_sumOfMarked_25 : decode kb_T_sumOfMarked 25 = .ok (.getfield 19, 3) := by decide +kernel
theorem kd_T_sumOfMarked_28 : decode kb_T_sumOfMarked 28 = .ok (.getfield 85, 3) := by decide +kernel
theorem kd_T_sumOfMarked_31 : decode kb_T_sumOfMarked 31 = .ok (.iload_n 1, 1) := by decide +kernel
theorem kd_T_sumOfMarked_32 : decode kb_T_sumOfMarked 32 = .ok (.aaload, 1) := by decide +kernel
theorem kd_T_sumOfMarked_33 : decode kb_T_sumOfMarked 33 = .ok (.iload_n 1, 1) := by decide +kernel
theorem kd_T_sumOfMarked_34 : decode kb_T_sumOfMarked 34 = .ok (.dup2, 1) := by decide +kernel
theorem kd_T_sumOfMarked_35 : decode kb_T_sumOfMarked 35 = .ok (.laload, 1) := by decide +kernel
theorem kd_T_sumOfMarked_36 : decode kb_T_sumOfMarked 36 = .ok (.lconst 1, 1) := by decide +kernel
theorem kd_T_sumOfMarked_37 : decode kb_T_sumOfMarked 37 = .ok (.ladd, 1) := by decide +kernel
theorem kd_T_sumOfMarked_38 : decode kb_T_sumOfMarked 38 = .ok (.lastore, 1) := by decide +kernel
theorem kd_T_sumOfMarked_39 : decode kb_T_sumOfMarked 39 = .ok (.iinc 1 1, 3) := by decide +kernel
theorem kd_T_sumOfMarked_42 : decode kb_T_sumOfMarked 42 = .ok (.goto (-29), 3) := by decide +kernel
theorem kd_T_sumOfMarked_45 : decode kb_T_sumOfMarked 45 = .ok (.aload_n 0, 1) := by decide +kernel
theorem kd_T_sumOfMarked_46 : decode kb_T_sumOfMarked 46 = .ok (.getfield 19, 3) := by decide +kernel
theorem kd_T_sumOfMarked_49 : decode kb_T_sumOfMarked 49 = .ok (.invokevirtual 70, 3) := by decide +kernel
theorem kd_T_sumOfMarked_52 : decode kb_T_sumOfMarked 52 = .ok (.lreturn, 1) := by decide +kernel
theorem kd_T_sumOfPairs_0 : decode kb_T_sumOfPairs 0 = .ok (.aload_n 0, 1) := by decide +kernel
theorem kd_T_sumOfPairs_1 : decode kb_T_sumOfPairs 1 = .ok (.getfield 19, 3) := by decide +kernel
theorem kd_T_sumOfPairs_4 : decode kb_T_sumOfPairs 4 = .ok (.aload_n 0, 1) := by decide +kernel
theorem kd_T_sumOfPairs_5 : decode kb_T_sumOfPairs 5 = .ok (.getfield 9, 3) := by decide +kernel
theorem kd_T_sumOfPairs_8 : decode kb_T_sumOfPairs 8 = .ok (.invokevirtual 82, 3) := by decide +kernel
theorem kd_T_sumOfPairs_11 : decode kb_T_sumOfPairs 11 = .ok (.aload_n 0, 1) := by decide +kernel
theorem kd_T_sumOfPairs_12 : decode kb_T_sumOfPairs 12 = .ok (.getfield 19, 3) := by decide +kernel
theorem kd_T_sumOfPairs_15 : decode kb_T_sumOfPairs 15 = .ok (.iload_n 1, 1) := by decide +kernel
theorem kd_T_sumOfPairs_16 : decode kb_T_sumOfPairs 16 = .ok (.invokevirtual 67, 3) := by decide +kernel
theorem kd_T_sumOfPairs_19 : decode kb_T_sumOfPairs 19 = .ok (.aload_n 0, 1) := by decide +kernel
theorem kd_T_sumOfPairs_20 : decode kb_T_sumOfPairs 20 = .ok (.getfield 19, 3) := by decide +kernel
theorem kd_T_sumOfPairs_23 : decode kb_T_sumOfPairs 23 = .ok (.iload_n 2, 1) := by decide +kernel
theorem kd_T_sumOfPairs_24 : decode kb_T_sumOfPairs 24 = .ok (.invokevirtual 67, 3) := by decide +kernel
theorem kd_T_sumOfPairs_27 : decode kb_T_sumOfPairs 27 = .ok (.aload_n 0, 1) := by decide +kernel
theorem kd_T_sumOfPairs_28 : decode kb_T_sumOfPairs 28 = .ok (.getfield 19, 3) := by decide +kernel
theorem kd_T_sumOfPairs_31 : decode kb_T_sumOfPairs 31 = .ok (.invokevirtual 70, 3) := by decide +kernel
theorem kd_T_sumOfPairs_34 : decode kb_T_sumOfPairs 34 = .ok (.lreturn, 1) := by decide +kernel
theorem kd_T_toursAlongAll_0 : decode kb_T_toursAlongAll 0 = .ok (.aload_n 0, 1) := by decide +kernel
theorem kd_T_toursAlongAll_1 : decode kb_T_toursAlongAll 1 = .ok (.getfield 9, 3) := by decide +kernel
theorem kd_T_toursAlongAll_4 : decode kb_T_toursAlongAll 4 = .ok (.getfield 47, 3) := by decide +kernel
theorem kd_T_toursAlongAll_7 : decode kb_T_toursAlongAll 7 = .ok (.ifCond .ne 5, 3) := by decide +kernel
theorem kd_T_toursAlongAll_10 : decode kb_T_toursAlongAll 10 = .ok (.lconst 0, 1) := by decide +kernel
theorem kd_T_toursAlongAll_11 : decode kb_T_toursAlongAll 11 = .ok (.lreturn, 1) := by decide +kernel
theorem kd_T_toursAlongAll_12 : decode kb_T_toursAlongAll 12 = .ok (.aload_n 0, 1) := by decide +kernel
theorem kd_T_toursAlongAll_13 : decode kb_T_toursAlongAll 13 = .ok (.getfield 19, 3) := by decide +kernel
theorem kd_T_toursAlongAll_16 : decode kb_T_toursAlongAll 16 = .ok (.aload_n 0, 1) := by decide +kernel
theorem kd_T_toursAlongAll_17 : decode kb_T_toursAlongAll 17 = .ok (.getfield 9, 3) := by decide +kernel
theorem kd_T_toursAlongAll_20 : decode kb_T_toursAlongAll 20 = .ok (.invokevirtual 78, 3) := by decide +kernel
theorem kd_T_toursAlongAll_23 : decode kb_T_toursAlongAll 23 = .ok (.lconst 1, 1) := by decide +kernel
theorem kd_T_toursAlongAll_24 : decode kb_T_toursAlongAll 24 = .ok (.lstore_n 1, 1) := by decide +kernel
theorem kd_T_toursAlongAll_25 : decode kb_T_toursAlongAll 25 = .ok (.iconst 0, 1) := by decide +kernel
theorem kd_T_toursAlongAll_26 : decode kb_T_toursAlongAll 26 = .ok (.istore_n 3, 1) := by decide +kernel
theorem kd_T_toursAlongAll_27 : decode kb_T_toursAlongAll 27 = .ok (.iload_n 3, 1) := by decide +kernel
theorem kd_T_toursAlongAll_28 : decode kb_T_toursAlongAll 28 = .ok (.aload_n 0, 1) := by decide +kernel
theorem kd_T_toursAlongAll_29 : decode kb_T_toursAlongAll 29 = .ok (.getfield 9, 3) := by decide +kernel
theorem kd_T_toursAlongAll_32 : decode kb_T_toursAlongAll 32 = .ok (.getfield 23, 3) := by decide +kernel
theorem kd_T_toursAlongAll_35 : decode kb_T_toursAlongAll 35 = .ok (.if_icmp .ge 57, 3) := by decide +kernel
theorem kd_T_toursAlongAll_38 : decode kb_T_toursAlongAll 38 = .ok (.aload_n 0, 1) := by decide +kernel
theorem kd_T_toursAlongAll_39 : decode kb_T_toursAlongAll 39 = .ok (.getfield 9, 3) := by decide +kernel
theorem kd_T_toursAlongAll_42 : decode kb_T_toursAlongAll 42 = .ok (.iload_n 3, 1) := by decide +kernel
theorem kd_T_toursAlongAll_43 : decode kb_T_toursAlongAll 43 = .ok (.invokevirtual 89, 3) := by decide +kernel
theorem kd_T_toursAlongAll_46 : decode kb_T_toursAlongAll 46 = .ok (.istore 4, 2) := by decide +kernel
theorem kd_T_toursAlongAll_48 : decode kb_T_toursAlongAll 48 = .ok (.iload 4, 2) := by decide +kernel
theorem kd_T_toursAlongAll_50 : decode kb_T_toursAlongAll 50 = .ok (.aload_n 0, 1) := by decide +kernel
theorem kd_T_toursAlongAll_51 : decode kb_T_toursAlongAll 51 = .ok (.getfield 9, 3) := by decide +kernel
theorem kd_T_toursAlongAll_54 : decode kb_T_toursAlongAll 54 = .ok (.iload_n 3, 1) := by decide +kernel
theorem kd_T_toursAlongAll_55 : decode kb_T_toursAlongAll 55 = .ok (.invokevirtual 93, 3) := by decide +kernel
theorem kd_T_toursAlongAll_58 : decode kb_T_toursAlongAll 58 = .ok (.if_icmp .eq 5, 3) := by decide +kernel
theorem kd_T_toursAlongAll_61 : decode kb_T_toursAlongAll 61 = .ok (.lconst 0, 1) := by decide +kernel
theorem kd_T_toursAlongAll_62 : decode kb_T_toursAlongAll 62 = .ok (.lreturn, 1) := by decide +kernel
theorem kd_T_toursAlongAll_63 : decode kb_T_toursAlongAll 63 = .ok (.iload 4, 2) := by decide +kernel
theorem kd_T_toursAlongAll_65 : decode kb_T_toursAlongAll 65 = .ok (.ifCond .ne 11, 3) := by decide +kernel
theorem kd_T_toursAlongAll_68 : decode kb_T_toursAlongAll 68 = .ok (.aload_n 0, 1) := by decide +kernel
theorem kd_T_toursAlongAll_69 : decode kb_T_toursAlongAll 69 = .ok (.getfield 19, 3) := by decide +kernel
theorem kd_T_toursAlongAll_72 : decode kb_T_toursAlongAll 72 = .ok (.iload_n 3, 1) := by decide +kernel
theorem kd_T_toursAlongAll_73 : decode kb_T_toursAlongAll 73 = .ok (.invokevirtual 67, 3) := by decide +kernel
theorem kd_T_toursAlongAll_76 : decode kb_T_toursAlongAll 76 = .ok (.lload_n 1, 1) := by decide +kernel
theorem kd_T_toursAlongAll_77 : decode kb_T_toursAlongAll 77 = .ok (.iload 4, 2) := by decide +kernel
theorem kd_T_toursAlongAll_79 : decode kb_T_toursAlongAll 79 = .ok (.iconst 1, 1) := by decide +kernel
theorem kd_T_toursAlongAll_80 : decode kb_T_toursAlongAll 80 = .ok (.isub, 1) := by decide +kernel
theorem kd_T_toursAlongAll_81 : decode kb_T_toursAlongAll 81 = .ok (.invokestatic 96, 3) := by decide +kernel
theorem kd_T_toursAlongAll_84 : decode kb_T_toursAlongAll 84 = .ok (.lmul, 1) := by decide +kernel
theorem kd_T_toursAlongAll_85 : decode kb_T_toursAlongAll 85 = .ok (.lstore_n 1, 1) := by decide +kernel
theorem kd_T_toursAlongAll_86 : decode kb_T_toursAlongAll 86 = .ok (.iinc 3 1, 3) := by decide +kernel
theorem kd_T_toursAlongAll_89 : decode kb_T_toursAlongAll 89 = .ok (.goto (-62), 3) := by decide +kernel
theorem kd_T_toursAlongAll_92 : decode kb_T_toursAlongAll 92 = .ok (.aload_n 0, 1) := by decide +kernel
theorem kd_T_toursAlongAll_93 : decode kb_T_toursAlongAll 93 = .ok (.getfield 19, 3) := by decide +kernel
theorem kd_T_toursAlongAll_96 : decode kb_T_toursAlongAll 96 = .ok (.aload_n 0, 1) := by decide +kernel
theorem kd_T_toursAlongAll_97 : decode kb_T_toursAlongAll 97 = .ok (.getfield 9, 3) := by decide +kernel
theorem kd_T_toursAlongAll_100 : decode kb_T_toursAlongAll 100 = .ok (.getfield 54, 3) := by decide +kernel
theorem kd_T_toursAlongAll_103 : decode kb_T_toursAlongAll 103 = .ok (.iconst 0, 1) := by decide +kernel
theorem kd_T_toursAlongAll_104 : decode kb_T_toursAlongAll 104 = .ok (.iaload, 1) := by decide +kernel
theorem kd_T_toursAlongAll_105 : decode kb_T_toursAlongAll 105 = .ok (.invokevirtual 67, 3) := by decide +kernel
theorem kd_T_toursAlongAll_108 : decode kb_T_toursAlongAll 108 = .ok (.lload_n 1, 1) := by decide +kernel
theorem kd_T_toursAlongAll_109 : decode kb_T_toursAlongAll 109 = .ok (.aload_n 0, 1) := by decide +kernel
theorem kd_T_toursAlongAll_110 : decode kb_T_toursAlongAll 110 = .ok (.getfield 19, 3) := by decide +kernel
theorem kd_T_toursAlongAll_113 : decode kb_T_toursAlongAll 113 = .ok (.invokevirtual 70, 3) := by decide +kernel
theorem kd_T_toursAlongAll_116 : decode kb_T_toursAlongAll 116 = .ok (.lmul, 1) := by decide +kernel
theorem kd_T_toursAlongAll_117 : decode kb_T_toursAlongAll 117 = .ok (.lreturn, 1) := by decide +kernel
theorem kd_T_factorial_0 : decode kb_T_factorial 0 = .ok (.lconst 1, 1) := by decide +kernel
theorem kd_T_factorial_1 : decode kb_T_factorial 1 = .ok (.lstore_n 1, 1) := by decide +kernel
theorem kd_T_factorial_2 : decode kb_T_factorial 2 = .ok (.iconst 2, 1) := by decide +kernel
theorem kd_T_factorial_3 : decode kb_T_factorial 3 = .ok (.istore_n 3, 1) := by decide +kernel
theorem kd_T_factorial_4 : decode kb_T_factorial 4 = .ok (.iload_n 3, 1) := by decide +kernel
theorem kd_T_factorial_5 : decode kb_T_factorial 5 = .ok (.iload_n 0, 1) := by decide +kernel
theorem kd_T_factorial_6 : decode kb_T_factorial 6 = .ok (.if_icmp .gt 14, 3) := by decide +kernel
theorem kd_T_factorial_9 : decode kb_T_factorial 9 = .ok (.lload_n 1, 1) := by decide +kernel
theorem kd_T_factorial_10 : decode kb_T_factorial 10 = .ok (.iload_n 3, 1) := by decide +kernel
theorem kd_T_factorial_11 : decode kb_T_factorial 11 = .ok (.i2l, 1) := by decide +kernel
theorem kd_T_factorial_12 : decode kb_T_factorial 12 = .ok (.lmul, 1) := by decide +kernel
theorem kd_T_factorial_13 : decode kb_T_factorial 13 = .ok (.lstore_n 1, 1) := by decide +kernel
theorem kd_T_factorial_14 : decode kb_T_factorial 14 = .ok (.iinc 3 1, 3) := by decide +kernel
theorem kd_T_factorial_17 : decode kb_T_factorial 17 = .ok (.goto (-13), 3) := by decide +kernel
theorem kd_T_factorial_20 : decode kb_T_factorial 20 = .ok (.lload_n 1, 1) := by decide +kernel
theorem kd_T_factorial_21 : decode kb_T_factorial 21 = .ok (.lreturn, 1) := by decide +kernel
theorem kd_T_treeAt_0 : decode kb_T_treeAt 0 = .ok (.aload_n 0, 1) := by decide +kernel
theorem kd_T_treeAt_1 : decode kb_T_treeAt 1 = .ok (.invokevirtual 99, 3) := by decide +kernel
theorem kd_T_treeAt_4 : decode kb_T_treeAt 4 = .ok (.lload_n 1, 1) := by decide +kernel
theorem kd_T_treeAt_5 : decode kb_T_treeAt 5 = .ok (.lconst 0, 1) := by decide +kernel
theorem kd_T_treeAt_6 : decode kb_T_treeAt 6 = .ok (.lcmp, 1) := by decide +kernel
theorem kd_T_treeAt_7 : decode kb_T_treeAt 7 = .ok (.ifCond .lt 12, 3) := by decide +kernel
theorem kd_T_treeAt_10 : decode kb_T_treeAt 10 = .ok (.lload_n 1, 1) := by decide +kernel
theorem kd_T_treeAt_11 : decode kb_T_treeAt 11 = .ok (.aload_n 0, 1) := by decide +kernel
theorem kd_T_treeAt_12 : decode kb_T_treeAt 12 = .ok (.getfield 102, 3) := by decide +kernel
theorem kd_T_treeAt_15 : decode kb_T_treeAt 15 = .ok (.lcmp, 1) := by decide +kernel
theorem kd_T_treeAt_16 : decode kb_T_treeAt 16 = .ok (.ifCond .lt 5, 3) := by decide +kernel
theorem kd_T_treeAt_19 : decode kb_T_treeAt 19 = .ok (.iconst (-1), 1) := by decide +kernel
theorem kd_T_treeAt_20 : decode kb_T_treeAt 20 = .ok (.ireturn, 1) := by decide +kernel
theorem kd_T_treeAt_21 : decode kb_T_treeAt 21 = .ok (.iconst 0, 1) := by decide +kernel
theorem kd_T_treeAt_22 : decode kb_T_treeAt 22 = .ok (.istore_n 3, 1) := by decide +kernel
theorem kd_T_treeAt_23 : decode kb_T_treeAt 23 = .ok (.lload_n 1, 1) := by decide +kernel
theorem kd_T_treeAt_24 : decode kb_T_treeAt 24 = .ok (.lstore 4, 2) := by decide +kernel
theorem kd_T_treeAt_26 : decode kb_T_treeAt 26 = .ok (.iconst 0, 1) := by decide +kernel
theorem kd_T_treeAt_27 : decode kb_T_treeAt 27 = .ok (.istore 6, 2) := by decide +kernel
theorem kd_T_treeAt_29 : decode kb_T_treeAt 29 = .ok (.iload 6, 2) := by decide +kernel
theorem kd_T_treeAt_31 : decode kb_T_treeAt 31 = .ok (.aload_n 0, 1) := by decide +kernel
theorem kd_T_treeAt_32 : decode kb_T_treeAt 32 = .ok (.getfield 9, 3) := by decide +kernel
theorem kd_T_treeAt_35 : decode kb_T_treeAt 35 = .ok (.getfield 47, 3) := by decide +kernel
theorem kd_T_treeAt_38 : decode kb_T_treeAt 38 = .ok (.if_icmp .ge 72, 3) := by decide +kernel
theorem kd_T_treeAt_41 : decode kb_T_treeAt 41 = .ok (.aload_n 0, 1) := by decide +kernel
theorem kd_T_treeAt_42 : decode kb_T_treeAt 42 = .ok (.getfield 15, 3) := by decide +kernel
theorem kd_T_treeAt_45 : decode kb_T_treeAt 45 = .ok (.getfield 39, 3) := by decide +kernel
theorem kd_T_treeAt_48 : decode kb_T_treeAt 48 = .ok (.iconst 1, 1) := by decide +kernel
theorem kd_T_treeAt_49 : decode kb_T_treeAt 49 = .ok (.if_icmp .le 61, 3) := by decide +kernel
theorem kd_T_treeAt_52 : decode kb_T_treeAt 52 = .ok (.aload_n 0, 1) := by decide +kernel
theorem kd_T_treeAt_53 : decode kb_T_treeAt 53 = .ok (.iload 6, 2) := by decide +kernel
theorem kd_T_treeAt_55 : decode kb_T_treeAt 55 = .ok (.invokevirtual 106, 3) := by decide +kernel
theorem kd_T_treeAt_58 : decode kb_T_treeAt 58 = .ok (.lstore 7, 2) := by decide +kernel
theorem kd_T_treeAt_60 : decode kb_T_treeAt 60 = .ok (.lload 4, 2) := by decide +kernel
theorem kd_T_treeAt_62 : decode kb_T_treeAt 62 = .ok (.lload 7, 2) := by decide +kernel
theorem kd_T_treeAt_64 : decode kb_T_treeAt 64 = .ok (.lcmp, 1) := by decide +kernel
theorem kd_T_treeAt_65 : decode kb_T_treeAt 65 = .ok (.ifCond .ge 21, 3) := by decide +kernel
theorem kd_T_treeAt_68 : decode kb_T_treeAt 68 = .ok (.iload_n 3, 1) := by decide +kernel
theorem kd_T_treeAt_69 : decode kb_T_treeAt 69 = .ok (.iconst 1, 1) := by decide +kernel
theorem kd_T_treeAt_70 : decode kb_T_treeAt 70 = .ok (.iload 6, 2) := by decide +kernel
theorem kd_T_treeAt_72 : decode kb_T_treeAt 72 = .ok (.ishl, 1) := by decide +kernel
theorem kd_T_treeAt_73 : decode kb_T_treeAt 73 = .ok (.ior, 1) := by decide +kernel
theorem kd_T_treeAt_74 : decode kb_T_treeAt 74 = .ok (.istore_n 3, 1) := by decide +kernel
theorem kd_T_treeAt_75 : decode kb_T_treeAt 75 = .ok (.aload_n 0, 1) := by decide +kernel
theorem kd_T_treeAt_76 : decode kb_T_treeAt 76 = .ok (.iload 6, 2) := by decide +kernel
theorem kd_T_treeAt_78 : decode kb_T_treeAt 78 = .ok (.lload 7, 2) := by decide +kernel
theorem kd_T_treeAt_80 : decode kb_T_treeAt 80 = .ok (.invokevirtual 109, 3) := by decide +kernel
theorem kd_T_treeAt_83 : decode kb_T_treeAt 83 = .ok (.goto 21, 3) := by decide +kernel
theorem kd_T_treeAt_86 : decode kb_T_treeAt 86 = .ok (.lload 4, 2) := by decide +kernel
theorem kd_T_treeAt_88 : decode kb_T_treeAt 88 = .ok (.lload 7, 2) := by decide +kernel
theorem kd_T_treeAt_90 : decode kb_T_treeAt 90 = .ok (.lsub, 1) := by decide +kernel
theorem kd_T_treeAt_91 : decode kb_T_treeAt 91 = .ok (.lstore 4, 2) := by decide +kernel
theorem kd_T_treeAt_93 : decode kb_T_treeAt 93 = .ok (.aload_n 0, 1) := by decide +kernel
theorem kd_T_treeAt_94 : decode kb_T_treeAt 94 = .ok (.dup, 1) := by decide +kernel
theorem kd_T_treeAt_95 : decode kb_T_treeAt 95 = .ok (.getfield 102, 3) := by decide +kernel
theorem kd_T_treeAt_98 : decode kb_T_treeAt 98 = .ok (.lload 7, 2) := by decide +kernel
theorem kd_T_treeAt_100 : decode kb_T_treeAt 100 = .ok (.lsub, 1) := by decide +kernel
theorem kd_T_treeAt_101 : decode kb_T_treeAt 101 = .ok (.putfield 102, 3) := by decide +kernel
theorem kd_T_treeAt_104 : decode kb_T_treeAt 104 = .ok (.iinc 6 1, 3) := by decide +kernel
theorem kd_T_treeAt_107 : decode kb_T_treeAt 107 = .ok (.goto (-78), 3) := by decide +kernel
theorem kd_T_treeAt_110 : decode kb_T_treeAt 110 = .ok (.iload_n 3, 1) := by decide +kernel
theorem kd_T_treeAt_111 : decode kb_T_treeAt 111 = .ok (.ireturn, 1) := by decide +kernel
theorem kd_T_sumBefore_0 : decode kb_T_sumBefore 0 = .ok (.aload_n 0, 1) := by decide +kernel
theorem kd_T_sumBefore_1 : decode kb_T_sumBefore 1 = .ok (.invokevirtual 99, 3) := by decide +kernel
theorem kd_T_sumBefore_4 : decode kb_T_sumBefore 4 = .ok (.lconst 0, 1) := by decide +kernel
theorem kd_T_sumBefore_5 : decode kb_T_sumBefore 5 = .ok (.lstore_n 2, 1) := by decide +kernel
theorem kd_T_sumBefore_6 : decode kb_T_sumBefore 6 = .ok (.iconst 0, 1) := by decide +kernel
theorem kd_T_sumBefore_7 : decode kb_T_sumBefore 7 = .ok (.istore 4, 2) := by decide +kernel
theorem kd_T_sumBefore_9 : decode kb_T_sumBefore 9 = .ok (.iload 4, 2) := by decide +kernel
theorem kd_T_sumBefore_11 : decode kb_T_sumBefore 11 = .ok (.aload_n 0, 1) := by decide +kernel
theorem kd_T_sumBefore_12 : decode kb_T_sumBefore 12 = .ok (.getfield 9, 3) := by decide +kernel
theorem kd_T_sumBefore_15 : decode kb_T_sumBefore 15 = .ok (.getfield 47, 3) := by decide +kernel
theorem kd_T_sumBefore_18 : decode kb_T_sumBefore 18 = .ok (.if_icmp .ge 65, 3) := by decide +kernel
theorem kd_T_sumBefore_21 : decode kb_T_sumBefore 21 = .ok (.aload_n 0, 1) := by decide +kernel
theorem kd_T_sumBefore_22 : decode kb_T_sumBefore 22 = .ok (.getfield 15, 3) := by decide +kernel
theorem kd_T_sumBefore_25 : decode kb_T_sumBefore 25 = .ok (.getfield 39, 3) := by decide +kernel
theorem kd_T_sumBefore_28 : decode kb_T_sumBefore 28 = .ok (.iconst 1, 1) := by decide +kernel
theorem kd_T_sumBefore_29 : decode kb_T_sumBefore 29 = .ok (.if_icmp .le 54, 3) := by decide +kernel
theorem kd_T_sumBefore_32 : decode kb_T_sumBefore 32 = .ok (.aload_n 0, 1) := by decide +kernel
theorem kd_T_sumBefore_33 : decode kb_T_sumBefore 33 = .ok (.iload 4, 2) := by decide +kernel
theorem kd_T_sumBefore_35 : decode kb_T_sumBefore 35 = .ok (.invokevirtual 106, 3) := by decide +kernel
theorem kd_T_sumBefore_38 : decode kb_T_sumBefore 38 = .ok (.lstore 5, 2) := by decide +kernel
theorem kd_T_sumBefore_40 : decode kb_T_sumBefore 40 = .ok (.iload_n 1, 1) := by decide +kernel
theorem kd_T_sumBefore_41 : decode kb_T_sumBefore 41 = .ok (.iload 4, 2) := by decide +kernel
theorem kd_T_sumBefore_43 : decode kb_T_sumBefore 43 = .ok (.ishr, 1) := by decide +kernel
theorem kd_T_sumBefore_44 : decode kb_T_sumBefore 44 = .ok (.iconst 1, 1) := by decide +kernel
theorem kd_T_sumBefore_45 : decode kb_T_sumBefore 45 = .ok (.iand, 1) := by decide +kernel
theorem kd_T_sumBefore_46 : decode kb_T_sumBefore 46 = .ok (.iconst 1, 1) := by decide +kernel
theorem kd_T_sumBefore_47 : decode kb_T_sumBefore 47 = .ok (.if_icmp .ne 14, 3) := by decide +kernel
theorem kd_T_sumBefore_50 : decode kb_T_sumBefore 50 = .ok (.aload_n 0, 1) := by decide +kernel
theorem kd_T_sumBefore_51 : decode kb_T_sumBefore 51 = .ok (.iload 4, 2) := by decide +kernel
theorem kd_T_sumBefore_53 : decode kb_T_sumBefore 53 = .ok (.lload 5, 2) := by decide +kernel
theorem kd_T_sumBefore_55 : decode kb_T_sumBefore 55 = .ok (.invokevirtual 109, 3) := by decide +kernel
theorem kd_T_sumBefore_58 : decode kb_T_sumBefore 58 = .ok (.goto 19, 3) := by decide +kernel
theorem kd_T_sumBefore_61 : decode kb_T_sumBefore 61 = .ok (.lload_n 2, 1) := by decide +kernel
theorem kd_T_sumBefore_62 : decode kb_T_sumBefore 62 = .ok (.lload 5, 2) := by decide +kernel
theorem kd_T_sumBefore_64 : decode kb_T_sumBefore 64 = .ok (.ladd, 1) := by decide +kernel
theorem kd_T_sumBefore_65 : decode kb_T_sumBefore 65 = .ok (.lstore_n 2, 1) := by decide +kernel
theorem kd_T_sumBefore_66 : decode kb_T_sumBefore 66 = .ok (.aload_n 0, 1) := by decide +kernel
theorem kd_T_sumBefore_67 : decode kb_T_sumBefore 67 = .ok (.dup, 1) := by decide +kernel
theorem kd_T_sumBefore_68 : decode kb_T_sumBefore 68 = .ok (.getfield 102, 3) := by decide +kernel
theorem kd_T_sumBefore_71 : decode kb_T_sumBefore 71 = .ok (.lload 5, 2) := by decide +kernel
theorem kd_T_sumBefore_73 : decode kb_T_sumBefore 73 = .ok (.lsub, 1) := by decide +kernel
theorem kd_T_sumBefore_74 : decode kb_T_sumBefore 74 = .ok (.putfield 102, 3) := by decide +kernel
theorem kd_T_sumBefore_77 : decode kb_T_sumBefore 77 = .ok (.iinc 4 1, 3) := by decide +kernel
theorem kd_T_sumBefore_80 : decode kb_T_sumBefore 80 = .ok (.goto (-71), 3) := by decide +kernel
theorem kd_T_sumBefore_83 : decode kb_T_sumBefore 83 = .ok (.lload_n 2, 1) := by decide +kernel
theorem kd_T_sumBefore_84 : decode kb_T_sumBefore 84 = .ok (.lreturn, 1) := by decide +kernel
theorem kd_T_beginChoice_0 : decode kb_T_beginChoice 0 = .ok (.aload_n 0, 1) := by decide +kernel
theorem kd_T_beginChoice_1 : decode kb_T_beginChoice 1 = .ok (.getfield 15, 3) := by decide +kernel
theorem kd_T_beginChoice_4 : decode kb_T_beginChoice 4 = .ok (.aload_n 0, 1) := by decide +kernel
theorem kd_T_beginChoice_5 : decode kb_T_beginChoice 5 = .ok (.getfield 9, 3) := by decide +kernel
theorem kd_T_beginChoice_8 : decode kb_T_beginChoice 8 = .ok (.getfield 23, 3) := by decide +kernel
theorem kd_T_beginChoice_11 : decode kb_T_beginChoice 11 = .ok (.invokevirtual 29, 3) := by decide +kernel
theorem kd_T_beginChoice_14 : decode kb_T_beginChoice 14 = .ok (.aload_n 0, 1) := by decide +kernel
theorem kd_T_beginChoice_15 : decode kb_T_beginChoice 15 = .ok (.aload_n 0, 1) := by decide +kernel
theorem kd_T_beginChoice_16 : decode kb_T_beginChoice 16 = .ok (.iconst 0, 1) := by decide +kernel
theorem kd_T_beginChoice_17 : decode kb_T_beginChoice 17 = .ok (.invokevirtual 35, 3) := by decide +kernel
theorem kd_T_beginChoice_20 : decode kb_T_beginChoice 20 = .ok (.putfield 102, 3) := by decide +kernel
theorem kd_T_beginChoice_23 : decode kb_T_beginChoice 23 = .ok (.aload_n 0, 1) := by decide +kernel
theorem kd_T_beginChoice_24 : decode kb_T_beginChoice 24 = .ok (.lconst 1, 1) := by decide +kernel
theorem kd_T_beginChoice_25 : decode kb_T_beginChoice 25 = .ok (.putfield 113, 3) := by decide +kernel
theorem kd_T_beginChoice_28 : decode kb_T_beginChoice 28 = .ok (.return_, 1) := by decide +kernel
theorem kd_T_sumIfTaken_0 : decode kb_T_sumIfTaken 0 = .ok (.aload_n 0, 1) := by decide +kernel
theorem kd_T_sumIfTaken_1 : decode kb_T_sumIfTaken 1 = .ok (.getfield 15, 3) := by decide +kernel
theorem kd_T_sumIfTaken_4 : decode kb_T_sumIfTaken 4 = .ok (.aload_n 0, 1) := by decide +kernel
theorem kd_T_sumIfTaken_5 : decode kb_T_sumIfTaken 5 = .ok (.getfield 9, 3) := by decide +kernel
theorem kd_T_sumIfTaken_8 : decode kb_T_sumIfTaken 8 = .ok (.getfield 54, 3) := by decide +kernel
theorem kd_T_sumIfTaken_11 : decode kb_T_sumIfTaken 11 = .ok (.iload_n 1, 1) := by decide +kernel
theorem kd_T_sumIfTaken_12 : decode kb_T_sumIfTaken 12 = .ok (.iaload, 1) := by decide +kernel
theorem kd_T_sumIfTaken_13 : decode kb_T_sumIfTaken 13 = .ok (.aload_n 0, 1) := by decide +kernel
theorem kd_T_sumIfTaken_14 : decode kb_T_sumIfTaken 14 = .ok (.getfield 9, 3) := by decide +kernel
theorem kd_T_sumIfTaken_17 : decode kb_T_sumIfTaken 17 = .ok (.getfield 57, 3) := by decide +kernel
theorem kd_T_sumIfTaken_20 : decode kb_T_sumIfTaken 20 = .ok (.iload_n 1, 1) := by decide +kernel
theorem kd_T_sumIfTaken_21 : decode kb_T_sumIfTaken 21 = .ok (.iaload, 1) := by decide +kernel
theorem kd_T_sumIfTaken_22 : decode kb_T_sumIfTaken 22 = .ok (.invokevirtual 116, 3) := by decide +kernel
theorem kd_T_sumIfTaken_25 : decode kb_T_sumIfTaken 25 = .ok (.ifCond .eq 5, 3) := by decide +kernel
theorem kd_T_sumIfTaken_28 : decode kb_T_sumIfTaken 28 = .ok (.lconst 0, 1) := by decide +kernel
theorem kd_T_sumIfTaken_29 : decode kb_T_sumIfTaken 29 = .ok (.lreturn, 1) := by decide +kernel
theorem kd_T_sumIfTaken_30 : decode kb_T_sumIfTaken 30 = .ok (.aload_n 0, 1) := by decide +kernel
theorem kd_T_sumIfTaken_31 : decode kb_T_sumIfTaken 31 = .ok (.getfield 102, 3) := by decide +kernel
theorem kd_T_sumIfTaken_34 : decode kb_T_sumIfTaken 34 = .ok (.aload_n 0, 1) := by decide +kernel
theorem kd_T_sumIfTaken_35 : decode kb_T_sumIfTaken 35 = .ok (.getfield 113, 3) := by decide +kernel
theorem kd_T_sumIfTaken_38 : decode kb_T_sumIfTaken 38 = .ok (.aload_n 0, 1) := by decide +kernel
theorem kd_T_sumIfTaken_39 : decode kb_T_sumIfTaken 39 = .ok (.iload_n 1, 1) := by decide +kernel
theorem kd_T_sumIfTaken_40 : decode kb_T_sumIfTaken 40 = .ok (.iconst 1, 1) := by decide +kernel
theorem kd_T_sumIfTaken_41 : decode kb_T_sumIfTaken 41 = .ok (.iadd, 1) := by decide +kernel
theorem kd_T_sumIfTaken_42 : decode kb_T_sumIfTaken 42 = .ok (.invokevirtual 35, 3) := by decide +kernel
theorem kd_T_sumIfTaken_45 : decode kb_T_sumIfTaken 45 = .ok (.lmul, 1) := by decide +kernel
theorem kd_T_sumIfTaken_46 : decode kb_T_sumIfTaken 46 = .ok (.lsub, 1) := by decide +kernel
theorem kd_T_sumIfTaken_47 : decode kb_T_sumIfTaken 47 = .ok (.lreturn, 1) := by decide +kernel
theorem kd_T_take_0 : decode kb_T_take 0 = .ok (.aload_n 0, 1) := by decide +kernel
theorem kd_T_take_1 : decode kb_T_take 1 = .ok (.lload_n 2, 1) := by decide +kernel
theorem kd_T_take_2 : decode kb_T_take 2 = .ok (.putfield 102, 3) := by decide +kernel
theorem kd_T_take_5 : decode kb_T_take 5 = .ok (.aload_n 0, 1) := by decide +kernel
theorem kd_T_take_6 : decode kb_T_take 6 = .ok (.dup, 1) := by decide +kernel
theorem kd_T_take_7 : decode kb_T_take 7 = .ok (.getfield 113, 3) := by decide +kernel
theorem kd_T_take_10 : decode kb_T_take 10 = .ok (.aload_n 0, 1) := by decide +kernel
theorem kd_T_take_11 : decode kb_T_take 11 = .ok (.getfield 9, 3) := by decide +kernel
theorem kd_T_take_14 : decode kb_T_take 14 = .ok (.getfield 60, 3) := by decide +kernel
theorem kd_T_take_17 : decode kb_T_take 17 = .ok (.iload_n 1, 1) := by decide +kernel
theorem kd_T_take_18 : decode kb_T_take 18 = .ok (.iaload, 1) := by decide +kernel
theorem kd_T_take_19 : decode kb_T_take 19 = .ok (.i2l, 1) := by decide +kernel
theorem kd_T_take_20 : decode kb_T_take 20 = .ok (.lmul, 1) := by decide +kernel
theorem kd_T_take_21 : decode kb_T_take 21 = .ok (.putfield 113, 3) := by decide +kernel
theorem kd_T_take_24 : decode kb_T_take 24 = .ok (.aload_n 0, 1) := by decide +kernel
theorem kd_T_take_25 : decode kb_T_take 25 = .ok (.getfield 15, 3) := by decide +kernel
theorem kd_T_take_28 : decode kb_T_take 28 = .ok (.aload_n 0, 1) := by decide +kernel
theorem kd_T_take_29 : decode kb_T_take 29 = .ok (.getfield 9, 3) := by decide +kernel
theorem kd_T_take_32 : decode kb_T_take 32 = .ok (.getfield 54, 3) := by decide +kernel
theorem kd_T_take_35 : decode kb_T_take 35 = .ok (.iload_n 1, 1) := by decide +kernel
theorem kd_T_take_36 : decode kb_T_take 36 = .ok (.iaload, 1) := by decide +kernel
theorem kd_T_take_37 : decode kb_T_take 37 = .ok (.aload_n 0, 1) := by decide +kernel
theorem kd_T_take_38 : decode kb_T_take 38 = .ok (.getfield 9, 3) := by decide +kernel
theorem kd_T_take_41 : decode kb_T_take 41 = .ok (.getfield 57, 3) := by decide +kernel
theorem kd_T_take_44 : decode kb_T_take 44 = .ok (.iload_n 1, 1) := by decide +kernel
theorem kd_T_take_45 : decode kb_T_take 45 = .ok (.iaload, 1) := by decide +kernel
theorem kd_T_take_46 : decode kb_T_take 46 = .ok (.invokevirtual 74, 3) := by decide +kernel
theorem kd_T_take_49 : decode kb_T_take 49 = .ok (.pop, 1) := by decide +kernel
theorem kd_T_take_50 : decode kb_T_take 50 = .ok (.return_, 1) := by decide +kernel
theorem kd_T_isTree_0 : decode kb_T_isTree 0 = .ok (.iload_n 1, 1) := by decide +kernel
theorem kd_T_isTree_1 : decode kb_T_isTree 1 = .ok (.ifCond .lt 15, 3) := by decide +kernel
theorem kd_T_isTree_4 : decode kb_T_isTree 4 = .ok (.iload_n 1, 1) := by decide +kernel
theorem kd_T_isTree_5 : decode kb_T_isTree 5 = .ok (.aload_n 0, 1) := by decide +kernel
theorem kd_T_isTree_6 : decode kb_T_isTree 6 = .ok (.getfield 9, 3) := by decide +kernel
theorem kd_T_isTree_9 : decode kb_T_isTree 9 = .ok (.getfield 47, 3) := by decide +kernel
theorem kd_T_isTree_12 : decode kb_T_isTree 12 = .ok (.ishr, 1) := by decide +kernel
theorem kd_T_isTree_13 : decode kb_T_isTree 13 = .ok (.ifCond .eq 5, 3) := by decide +kernel
theorem kd_T_isTree_16 : decode kb_T_isTree 16 = .ok (.iconst 0, 1) := by decide +kernel
theorem kd_T_isTree_17 : decode kb_T_isTree 17 = .ok (.ireturn, 1) := by decide +kernel
theorem kd_T_isTree_18 : decode kb_T_isTree 18 = .ok (.aload_n 0, 1) := by decide +kernel
theorem kd_T_isTree_19 : decode kb_T_isTree 19 = .ok (.getfield 15, 3) := by decide +kernel
theorem kd_T_isTree_22 : decode kb_T_isTree 22 = .ok (.aload_n 0, 1) := by decide +kernel
theorem kd_T_isTree_23 : decode kb_T_isTree 23 = .ok (.getfield 9, 3) := by decide +kernel
theorem kd_T_isTree_26 : decode kb_T_isTree 26 = .ok (.getfield 23, 3) := by decide +kernel
theorem kd_T_isTree_29 : decode kb_T_isTree 29 = .ok (.invokevirtual 29, 3) := by decide +kernel
theorem kd_T_isTree_32 : decode kb_T_isTree 32 = .ok (.iconst 0, 1) := by decide +kernel
theorem kd_T_isTree_33 : decode kb_T_isTree 33 = .ok (.istore_n 2, 1) := by decide +kernel
theorem kd_T_isTree_34 : decode kb_T_isTree 34 = .ok (.iload_n 2, 1) := by decide +kernel
theorem kd_T_isTree_35 : decode kb_T_isTree 35 = .ok (.aload_n 0, 1) := by decide +kernel
theorem kd_T_isTree_36 : decode kb_T_isTree 36 = .ok (.getfield 9, 3) := by decide +kernel
theorem kd_T_isTree_39 : decode kb_T_isTree 39 = .ok (.getfield 47, 3) := by decide +kernel
theorem kd_T_isTree_42 : decode kb_T_isTree 42 = .ok (.if_icmp .ge 58, 3) := by decide +kernel
theorem kd_T_isTree_45 : decode kb_T_isTree 45 = .ok (.iload_n 1, 1) := by decide +kernel
theorem kd_T_isTree_46 : decode kb_T_isTree 46 = .ok (.iload_n 2, 1) := by decide +kernel
theorem kd_T_isTree_47 : decode kb_T_isTree 47 = .ok (.ishr, 1) := by decide +kernel
theorem kd_T_isTree_48 : decode kb_T_isTree 48 = .ok (.iconst 1, 1) := by decide +kernel
theorem kd_T_isTree_49 : decode kb_T_isTree 49 = .ok (.iand, 1) := by decide +kernel
theorem kd_T_isTree_50 : decode kb_T_isTree 50 = .ok (.iconst 1, 1) := by decide +kernel
theorem kd_T_isTree_51 : decode kb_T_isTree 51 = .ok (.if_icmp .ne 7, 3) := by decide +kernel
theorem kd_T_isTree_54 : decode kb_T_isTree 54 = .ok (.iconst 1, 1) := by decide +kernel
theorem kd_T_isTree_55 : decode kb_T_isTree 55 = .ok (.goto 4, 3) := by decide +kernel
theorem kd_T_isTree_58 : decode kb_T_isTree 58 = .ok (.iconst 0, 1) := by decide +kernel
theorem kd_T_isTree_59 : decode kb_T_isTree 59 = .ok (.istore_n 3, 1) := by decide +kernel
theorem kd_T_isTree_60 : decode kb_T_isTree 60 = .ok (.iload_n 3, 1) := by decide +kernel
theorem kd_T_isTree_61 : decode kb_T_isTree 61 = .ok (.ifCond .eq 33, 3) := by decide +kernel
theorem kd_T_isTree_64 : decode kb_T_isTree 64 = .ok (.aload_n 0, 1) := by decide +kernel
theorem kd_T_isTree_65 : decode kb_T_isTree 65 = .ok (.getfield 15, 3) := by decide +kernel
theorem kd_T_isTree_68 : decode kb_T_isTree 68 = .ok (.aload_n 0, 1) := by decide +kernel
theorem kd_T_isTree_69 : decode kb_T_isTree 69 = .ok (.getfield 9, 3) := by decide +kernel
theorem kd_T_isTree_72 : decode kb_T_isTree 72 = .ok (.getfield 54, 3) := by decide +kernel
theorem kd_T_isTree_75 : decode kb_T_isTree 75 = .ok (.iload_n 2, 1) := by decide +kernel
theorem kd_T_isTree_76 : decode kb_T_isTree 76 = .ok (.iaload, 1) := by decide +kernel
theorem kd_T_isTree_77 : decode kb_T_isTree 77 = .ok (.aload_n 0, 1) := by decide +kernel
theorem kd_T_isTree_78 : decode kb_T_isTree 78 = .ok (.getfield 9, 3) := by decide +kernel
theorem kd_T_isTree_81 : decode kb_T_isTree 81 = .ok (.getfield 57, 3) := by decide +kernel
theorem kd_T_isTree_84 : decode kb_T_isTree 84 = .ok (.iload_n 2, 1) := by decide +kernel
theorem kd_T_isTree_85 : decode kb_T_isTree 85 = .ok (.iaload, 1) := by decide +kernel
theorem kd_T_isTree_86 : decode kb_T_isTree 86 = .ok (.invokevirtual 74, 3) := by decide +kernel
theorem kd_T_isTree_89 : decode kb_T_isTree 89 = .ok (.ifCond .ne 5, 3) := by decide +kernel
theorem kd_T_isTree_92 : decode kb_T_isTree 92 = .ok (.iconst 0, 1) := by decide +kernel
theorem kd_T_isTree_93 : decode kb_T_isTree 93 = .ok (.ireturn, 1) := by decide +kernel
theorem kd_T_isTree_94 : decode kb_T_isTree 94 = .ok (.iinc 2 1, 3) := by decide +kernel
theorem kd_T_isTree_97 : decode kb_T_isTree 97 = .ok (.goto (-63), 3) := by decide +kernel
theorem kd_T_isTree_100 : decode kb_T_isTree 100 = .ok (.aload_n 0, 1) := by decide +kernel
theorem kd_T_isTree_101 : decode kb_T_isTree 101 = .ok (.getfield 15, 3) := by decide +kernel
theorem kd_T_isTree_104 : decode kb_T_isTree 104 = .ok (.getfield 39, 3) := by decide +kernel
theorem kd_T_isTree_107 : decode kb_T_isTree 107 = .ok (.iconst 1, 1) := by decide +kernel
theorem kd_T_isTree_108 : decode kb_T_isTree 108 = .ok (.if_icmp .ne 7, 3) := by decide +kernel
theorem kd_T_isTree_111 : decode kb_T_isTree 111 = .ok (.iconst 1, 1) := by decide +kernel
theorem kd_T_isTree_112 : decode kb_T_isTree 112 = .ok (.goto 4, 3) := by decide +kernel
theorem kd_T_isTree_115 : decode kb_T_isTree 115 = .ok (.iconst 0, 1) := by decide +kernel
theorem kd_T_isTree_116 : decode kb_T_isTree 116 = .ok (.ireturn, 1) := by decide +kernel
