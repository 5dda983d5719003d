theorem dX5_init_0 : decode cX5_init 0 = .ok (.aload_n 0, 1) := by decide +kernel
theorem dX5_init_1 : decode cX5_init 1 = .ok (.invokespecial 1, 3) := by decide +kernel
theorem dX5_init_4 : decode cX5_init 4 = .ok (.aload_n 0, 1) := by decide +kernel
theorem dX5_init_5 : decode cX5_init 5 = .ok (.new 7, 3) := by decide +kernel
theorem dX5_init_8 : decode cX5_init 8 = .ok (.dup, 1) := by decide +kernel
theorem dX5_init_9 : decode cX5_init 9 = .ok (.invokespecial 9, 3) := by decide +kernel
theorem dX5_init_12 : decode cX5_init 12 = .ok (.putfield 10, 3) := by decide +kernel
theorem dX5_init_15 : decode cX5_init 15 = .ok (.aload_n 0, 1) := by decide +kernel
theorem dX5_init_16 : decode cX5_init 16 = .ok (.new 16, 3) := by decide +kernel
theorem dX5_init_19 : decode cX5_init 19 = .ok (.dup, 1) := by decide +kernel
theorem dX5_init_20 : decode cX5_init 20 = .ok (.invokespecial 18, 3) := by decide +kernel
theorem dX5_init_23 : decode cX5_init 23 = .ok (.putfield 19, 3) := by decide +kernel
theorem dX5_init_26 : decode cX5_init 26 = .ok (.aload_n 0, 1) := by decide +kernel
theorem dX5_init_27 : decode cX5_init 27 = .ok (.new 16, 3) := by decide +kernel
theorem dX5_init_30 : decode cX5_init 30 = .ok (.dup, 1) := by decide +kernel
theorem dX5_init_31 : decode cX5_init 31 = .ok (.invokespecial 18, 3) := by decide +kernel
theorem dX5_init_34 : decode cX5_init 34 = .ok (.putfield 23, 3) := by decide +kernel
theorem dX5_init_37 : decode cX5_init 37 = .ok (.aload_n 0, 1) := by decide +kernel
theorem dX5_init_38 : decode cX5_init 38 = .ok (.new 26, 3) := by decide +kernel
theorem dX5_init_41 : decode cX5_init 41 = .ok (.dup, 1) := by decide +kernel
theorem dX5_init_42 : decode cX5_init 42 = .ok (.invokespecial 28, 3) := by decide +kernel
theorem dX5_init_45 : decode cX5_init 45 = .ok (.putfield 29, 3) := by decide +kernel
theorem dX5_init_48 : decode cX5_init 48 = .ok (.aload_n 0, 1) := by decide +kernel
theorem dX5_init_49 : decode cX5_init 49 = .ok (.new 33, 3) := by decide +kernel
theorem dX5_init_52 : decode cX5_init 52 = .ok (.dup, 1) := by decide +kernel
theorem dX5_init_53 : decode cX5_init 53 = .ok (.invokespecial 35, 3) := by decide +kernel
theorem dX5_init_56 : decode cX5_init 56 = .ok (.putfield 36, 3) := by decide +kernel
theorem dX5_init_59 : decode cX5_init 59 = .ok (.aload_n 0, 1) := by decide +kernel
theorem dX5_init_60 : decode cX5_init 60 = .ok (.new 33, 3) := by decide +kernel
theorem dX5_init_63 : decode cX5_init 63 = .ok (.dup, 1) := by decide +kernel
theorem dX5_init_64 : decode cX5_init 64 = .ok (.invokespecial 35, 3) := by decide +kernel
theorem dX5_init_67 : decode cX5_init 67 = .ok (.putfield 40, 3) := by decide +kernel
theorem dX5_init_70 : decode cX5_init 70 = .ok (.aload_n 0, 1) := by decide +kernel
theorem dX5_init_71 : decode cX5_init 71 = .ok (.new 43, 3) := by decide +kernel
theorem dX5_init_74 : decode cX5_init 74 = .ok (.dup, 1) := by decide +kernel
theorem dX5_init_75 : decode cX5_init 75 = .ok (.invokespecial 45, 3) := by decide +kernel
theorem dX5_init_78 : decode cX5_init 78 = .ok (.putfield 46, 3) := by decide +kernel
theorem dX5_init_81 : decode cX5_init 81 = .ok (.aload_n 0, 1) := by decide +kernel
theorem dX5_init_82 : decode cX5_init 82 = .ok (.bipush 120, 2) := by decide +kernel
theorem dX5_init_84 : decode cX5_init 84 = .ok (.newarray .int, 2) := by decide +kernel
theorem dX5_init_86 : decode cX5_init 86 = .ok (.putfield 50, 3) := by decide +kernel
theorem dX5_init_89 : decode cX5_init 89 = .ok (.aload_n 0, 1) := by decide +kernel
theorem dX5_init_90 : decode cX5_init 90 = .ok (.bipush 7, 2) := by decide +kernel
theorem dX5_init_92 : decode cX5_init 92 = .ok (.newarray .int, 2) := by decide +kernel
theorem dX5_init_94 : decode cX5_init 94 = .ok (.putfield 54, 3) := by decide +kernel
theorem dX5_init_97 : decode cX5_init 97 = .ok (.aload_n 0, 1) := by decide +kernel
theorem dX5_init_98 : decode cX5_init 98 = .ok (.iconst 0, 1) := by decide +kernel
theorem dX5_init_99 : decode cX5_init 99 = .ok (.putfield 57, 3) := by decide +kernel
theorem dX5_init_102 : decode cX5_init 102 = .ok (.aload_n 0, 1) := by decide +kernel
theorem dX5_init_103 : decode cX5_init 103 = .ok (.iconst 0, 1) := by decide +kernel
theorem dX5_init_104 : decode cX5_init 104 = .ok (.putfield 61, 3) := by decide +kernel
theorem dX5_init_107 : decode cX5_init 107 = .ok (.return_, 1) := by decide +kernel
theorem dX5_feed_0 : decode cX5_feed 0 = .ok (.iload_n 1, 1) := by decide +kernel
theorem dX5_feed_1 : decode cX5_feed 1 = .ok (.iconst 1, 1) := by decide +kernel
theorem dX5_feed_2 : decode cX5_feed 2 = .ok (.if_icmp .ge 10, 3) := by decide +kernel
theorem dX5_feed_5 : decode cX5_feed 5 = .ok (.aload_n 0, 1) := by decide +kernel
theorem dX5_feed_6 : decode cX5_feed 6 = .ok (.bipush (-4), 2) := by decide +kernel
theorem dX5_feed_8 : decode cX5_feed 8 = .ok (.invokevirtual 65, 3) := by decide +kernel
theorem dX5_feed_11 : decode cX5_feed 11 = .ok (.ireturn, 1) := by decide +kernel
theorem dX5_feed_12 : decode cX5_feed 12 = .ok (.iload_n 1, 1) := by decide +kernel
theorem dX5_feed_13 : decode cX5_feed 13 = .ok (.bipush 8, 2) := by decide +kernel
theorem dX5_feed_15 : decode cX5_feed 15 = .ok (.if_icmp .gt 18, 3) := by decide +kernel
theorem dX5_feed_18 : decode cX5_feed 18 = .ok (.aload_n 0, 1) := by decide +kernel
theorem dX5_feed_19 : decode cX5_feed 19 = .ok (.getfield 10, 3) := by decide +kernel
theorem dX5_feed_22 : decode cX5_feed 22 = .ok (.getfield 69, 3) := by decide +kernel
theorem dX5_feed_25 : decode cX5_feed 25 = .ok (.iload_n 1, 1) := by decide +kernel
theorem dX5_feed_26 : decode cX5_feed 26 = .ok (.iadd, 1) := by decide +kernel
theorem dX5_feed_27 : decode cX5_feed 27 = .ok (.sipush 129, 3) := by decide +kernel
theorem dX5_feed_30 : decode cX5_feed 30 = .ok (.if_icmp .le 10, 3) := by decide +kernel
theorem dX5_feed_33 : decode cX5_feed 33 = .ok (.aload_n 0, 1) := by decide +kernel
theorem dX5_feed_34 : decode cX5_feed 34 = .ok (.bipush (-6), 2) := by decide +kernel
theorem dX5_feed_36 : decode cX5_feed 36 = .ok (.invokevirtual 65, 3) := by decide +kernel
theorem dX5_feed_39 : decode cX5_feed 39 = .ok (.ireturn, 1) := by decide +kernel
theorem dX5_feed_40 : decode cX5_feed 40 = .ok (.aload_n 0, 1) := by decide +kernel
theorem dX5_feed_41 : decode cX5_feed 41 = .ok (.getfield 10, 3) := by decide +kernel
theorem dX5_feed_44 : decode cX5_feed 44 = .ok (.iload_n 1, 1) := by decide +kernel
theorem dX5_feed_45 : decode cX5_feed 45 = .ok (.lload_n 2, 1) := by decide +kernel
theorem dX5_feed_46 : decode cX5_feed 46 = .ok (.invokevirtual 72, 3) := by decide +kernel
theorem dX5_feed_49 : decode cX5_feed 49 = .ok (.aload_n 0, 1) := by decide +kernel
theorem dX5_feed_50 : decode cX5_feed 50 = .ok (.getfield 10, 3) := by decide +kernel
theorem dX5_feed_53 : decode cX5_feed 53 = .ok (.getfield 69, 3) := by decide +kernel
theorem dX5_feed_56 : decode cX5_feed 56 = .ok (.ireturn, 1) := by decide +kernel
theorem dX5_read_0 : decode cX5_read 0 = .ok (.aload_n 0, 1) := by decide +kernel
theorem dX5_read_1 : decode cX5_read 1 = .ok (.getfield 10, 3) := by decide +kernel
theorem dX5_read_4 : decode cX5_read 4 = .ok (.invokevirtual 76, 3) := by decide +kernel
theorem dX5_read_7 : decode cX5_read 7 = .ok (.istore_n 1, 1) := by decide +kernel
theorem dX5_read_8 : decode cX5_read 8 = .ok (.iload_n 1, 1) := by decide +kernel
theorem dX5_read_9 : decode cX5_read 9 = .ok (.ifCond .ge 14, 3) := by decide +kernel
theorem dX5_read_12 : decode cX5_read 12 = .ok (.aload_n 0, 1) := by decide +kernel
theorem dX5_read_13 : decode cX5_read 13 = .ok (.getfield 10, 3) := by decide +kernel
theorem dX5_read_16 : decode cX5_read 16 = .ok (.aload_n 0, 1) := by decide +kernel
theorem dX5_read_17 : decode cX5_read 17 = .ok (.getfield 19, 3) := by decide +kernel
theorem dX5_read_20 : decode cX5_read 20 = .ok (.invokevirtual 80, 3) := by decide +kernel
theorem dX5_read_23 : decode cX5_read 23 = .ok (.aload_n 0, 1) := by decide +kernel
theorem dX5_read_24 : decode cX5_read 24 = .ok (.getfield 10, 3) := by decide +kernel
theorem dX5_read_27 : decode cX5_read 27 = .ok (.iconst 0, 1) := by decide +kernel
theorem dX5_read_28 : decode cX5_read 28 = .ok (.putfield 69, 3) := by decide +kernel
theorem dX5_read_31 : decode cX5_read 31 = .ok (.iload_n 1, 1) := by decide +kernel
theorem dX5_read_32 : decode cX5_read 32 = .ok (.ifCond .ge 13, 3) := by decide +kernel
theorem dX5_read_35 : decode cX5_read 35 = .ok (.aload_n 0, 1) := by decide +kernel
theorem dX5_read_36 : decode cX5_read 36 = .ok (.getfield 19, 3) := by decide +kernel
theorem dX5_read_39 : decode cX5_read 39 = .ok (.invokevirtual 84, 3) := by decide +kernel
theorem dX5_read_42 : decode cX5_read 42 = .ok (.goto 7, 3) := by decide +kernel
theorem dX5_read_45 : decode cX5_read 45 = .ok (.bipush (-20), 2) := by decide +kernel
theorem dX5_read_47 : decode cX5_read 47 = .ok (.iload_n 1, 1) := by decide +kernel
theorem dX5_read_48 : decode cX5_read 48 = .ok (.isub, 1) := by decide +kernel
theorem dX5_read_49 : decode cX5_read 49 = .ok (.ireturn, 1) := by decide +kernel
theorem dX5_cell_0 : decode cX5_cell 0 = .ok (.aload_n 0, 1) := by decide +kernel
theorem dX5_cell_1 : decode cX5_cell 1 = .ok (.getfield 19, 3) := by decide +kernel
theorem dX5_cell_4 : decode cX5_cell 4 = .ok (.iload_n 1, 1) := by decide +kernel
theorem dX5_cell_5 : decode cX5_cell 5 = .ok (.invokevirtual 87, 3) := by decide +kernel
theorem dX5_cell_8 : decode cX5_cell 8 = .ok (.istore_n 2, 1) := by decide +kernel
theorem dX5_cell_9 : decode cX5_cell 9 = .ok (.iload_n 2, 1) := by decide +kernel
theorem dX5_cell_10 : decode cX5_cell 10 = .ok (.ifCond .ge 11, 3) := by decide +kernel
theorem dX5_cell_13 : decode cX5_cell 13 = .ok (.aload_n 0, 1) := by decide +kernel
theorem dX5_cell_14 : decode cX5_cell 14 = .ok (.iconst (-1), 1) := by decide +kernel
theorem dX5_cell_15 : decode cX5_cell 15 = .ok (.invokevirtual 65, 3) := by decide +kernel
theorem dX5_cell_18 : decode cX5_cell 18 = .ok (.goto 11, 3) := by decide +kernel
theorem dX5_cell_21 : decode cX5_cell 21 = .ok (.aload_n 0, 1) := by decide +kernel
theorem dX5_cell_22 : decode cX5_cell 22 = .ok (.getfield 19, 3) := by decide +kernel
theorem dX5_cell_25 : decode cX5_cell 25 = .ok (.iload_n 2, 1) := by decide +kernel
theorem dX5_cell_26 : decode cX5_cell 26 = .ok (.invokevirtual 90, 3) := by decide +kernel
theorem dX5_cell_29 : decode cX5_cell 29 = .ok (.ireturn, 1) := by decide +kernel
theorem dX5_rule_0 : decode cX5_rule 0 = .ok (.iload_n 1, 1) := by decide +kernel
theorem dX5_rule_1 : decode cX5_rule 1 = .ok (.ifCond .lt 8, 3) := by decide +kernel
theorem dX5_rule_4 : decode cX5_rule 4 = .ok (.iload_n 1, 1) := by decide +kernel
theorem dX5_rule_5 : decode cX5_rule 5 = .ok (.iconst 3, 1) := by decide +kernel
theorem dX5_rule_6 : decode cX5_rule 6 = .ok (.if_icmp .le 12, 3) := by decide +kernel
theorem dX5_rule_9 : decode cX5_rule 9 = .ok (.ldc 93, 2) := by decide +kernel
theorem dX5_rule_11 : decode cX5_rule 11 = .ok (.aload_n 0, 1) := by decide +kernel
theorem dX5_rule_12 : decode cX5_rule 12 = .ok (.iconst (-1), 1) := by decide +kernel
theorem dX5_rule_13 : decode cX5_rule 13 = .ok (.invokevirtual 65, 3) := by decide +kernel
theorem dX5_rule_16 : decode cX5_rule 16 = .ok (.isub, 1) := by decide +kernel
theorem dX5_rule_17 : decode cX5_rule 17 = .ok (.ireturn, 1) := by decide +kernel
theorem dX5_rule_18 : decode cX5_rule 18 = .ok (.iload_n 2, 1) := by decide +kernel
theorem dX5_rule_19 : decode cX5_rule 19 = .ok (.iload_n 1, 1) := by decide +kernel
theorem dX5_rule_20 : decode cX5_rule 20 = .ok (.invokestatic 94, 3) := by decide +kernel
theorem dX5_rule_23 : decode cX5_rule 23 = .ok (.if_icmp .ge 13, 3) := by decide +kernel
theorem dX5_rule_26 : decode cX5_rule 26 = .ok (.ldc 93, 2) := by decide +kernel
theorem dX5_rule_28 : decode cX5_rule 28 = .ok (.aload_n 0, 1) := by decide +kernel
theorem dX5_rule_29 : decode cX5_rule 29 = .ok (.bipush (-4), 2) := by decide +kernel
theorem dX5_rule_31 : decode cX5_rule 31 = .ok (.invokevirtual 65, 3) := by decide +kernel
theorem dX5_rule_34 : decode cX5_rule 34 = .ok (.isub, 1) := by decide +kernel
theorem dX5_rule_35 : decode cX5_rule 35 = .ok (.ireturn, 1) := by decide +kernel
theorem dX5_rule_36 : decode cX5_rule 36 = .ok (.iload_n 2, 1) := by decide +kernel
theorem dX5_rule_37 : decode cX5_rule 37 = .ok (.iload_n 1, 1) := by decide +kernel
theorem dX5_rule_38 : decode cX5_rule 38 = .ok (.invokestatic 97, 3) := by decide +kernel
theorem dX5_rule_41 : decode cX5_rule 41 = .ok (.if_icmp .le 13, 3) := by decide +kernel
theorem dX5_rule_44 : decode cX5_rule 44 = .ok (.ldc 93, 2) := by decide +kernel
theorem dX5_rule_46 : decode cX5_rule 46 = .ok (.aload_n 0, 1) := by decide +kernel
theorem dX5_rule_47 : decode cX5_rule 47 = .ok (.bipush (-6), 2) := by decide +kernel
theorem dX5_rule_49 : decode cX5_rule 49 = .ok (.invokevirtual 65, 3) := by decide +kernel
theorem dX5_rule_52 : decode cX5_rule 52 = .ok (.isub, 1) := by decide +kernel
theorem dX5_rule_53 : decode cX5_rule 53 = .ok (.ireturn, 1) := by decide +kernel
theorem dX5_rule_54 : decode cX5_rule 54 = .ok (.aload_n 0, 1) := by decide +kernel
theorem dX5_rule_55 : decode cX5_rule 55 = .ok (.getfield 19, 3) := by decide +kernel
theorem dX5_rule_58 : decode cX5_rule 58 = .ok (.getfield 100, 3) := by decide +kernel
theorem dX5_rule_61 : decode cX5_rule 61 = .ok (.iload_n 1, 1) := by decide +kernel
theorem dX5_rule_62 : decode cX5_rule 62 = .ok (.invokevirtual 103, 3) := by decide +kernel
theorem dX5_rule_65 : decode cX5_rule 65 = .ok (.istore_n 3, 1) := by decide +kernel
theorem dX5_rule_66 : decode cX5_rule 66 = .ok (.aload_n 0, 1) := by decide +kernel
theorem dX5_rule_67 : decode cX5_rule 67 = .ok (.getfield 19, 3) := by decide +kernel
theorem dX5_rule_70 : decode cX5_rule 70 = .ok (.getfield 100, 3) := by decide +kernel
theorem dX5_rule_73 : decode cX5_rule 73 = .ok (.iload_n 1, 1) := by decide +kernel
theorem dX5_rule_74 : decode cX5_rule 74 = .ok (.iload_n 2, 1) := by decide +kernel
theorem dX5_rule_75 : decode cX5_rule 75 = .ok (.invokevirtual 106, 3) := by decide +kernel
theorem dX5_rule_78 : decode cX5_rule 78 = .ok (.iload_n 3, 1) := by decide +kernel
theorem dX5_rule_79 : decode cX5_rule 79 = .ok (.ireturn, 1) := by decide +kernel
theorem dX5_inner_0 : decode cX5_inner 0 = .ok (.aload_n 0, 1) := by decide +kernel
theorem dX5_inner_1 : decode cX5_inner 1 = .ok (.getfield 19, 3) := by decide +kernel
theorem dX5_inner_4 : decode cX5_inner 4 = .ok (.iload_n 1, 1) := by decide +kernel
theorem dX5_inner_5 : decode cX5_inner 5 = .ok (.invokevirtual 87, 3) := by decide +kernel
theorem dX5_inner_8 : decode cX5_inner 8 = .ok (.istore_n 2, 1) := by decide +kernel
theorem dX5_inner_9 : decode cX5_inner 9 = .ok (.iload_n 2, 1) := by decide +kernel
theorem dX5_inner_10 : decode cX5_inner 10 = .ok (.ifCond .ge 9, 3) := by decide +kernel
theorem dX5_inner_13 : decode cX5_inner 13 = .ok (.aload_n 0, 1) := by decide +kernel
theorem dX5_inner_14 : decode cX5_inner 14 = .ok (.iconst (-1), 1) := by decide +kernel
theorem dX5_inner_15 : decode cX5_inner 15 = .ok (.invokevirtual 65, 3) := by decide +kernel
theorem dX5_inner_18 : decode cX5_inner 18 = .ok (.ireturn, 1) := by decide +kernel
theorem dX5_inner_19 : decode cX5_inner 19 = .ok (.aload_n 0, 1) := by decide +kernel
theorem dX5_inner_20 : decode cX5_inner 20 = .ok (.invokevirtual 110, 3) := by decide +kernel
theorem dX5_inner_23 : decode cX5_inner 23 = .ok (.aload_n 0, 1) := by decide +kernel
theorem dX5_inner_24 : decode cX5_inner 24 = .ok (.getfield 36, 3) := by decide +kernel
theorem dX5_inner_27 : decode cX5_inner 27 = .ok (.iload_n 2, 1) := by decide +kernel
theorem dX5_inner_28 : decode cX5_inner 28 = .ok (.invokevirtual 113, 3) := by decide +kernel
theorem dX5_inner_31 : decode cX5_inner 31 = .ok (.ireturn, 1) := by decide +kernel
theorem dX5_near_0 : decode cX5_near 0 = .ok (.aload_n 0, 1) := by decide +kernel
theorem dX5_near_1 : decode cX5_near 1 = .ok (.getfield 19, 3) := by decide +kernel
theorem dX5_near_4 : decode cX5_near 4 = .ok (.iload_n 1, 1) := by decide +kernel
theorem dX5_near_5 : decode cX5_near 5 = .ok (.invokevirtual 87, 3) := by decide +kernel
theorem dX5_near_8 : decode cX5_near 8 = .ok (.istore_n 3, 1) := by decide +kernel
theorem dX5_near_9 : decode cX5_near 9 = .ok (.iload_n 3, 1) := by decide +kernel
theorem dX5_near_10 : decode cX5_near 10 = .ok (.ifCond .lt 10, 3) := by decide +kernel
theorem dX5_near_13 : decode cX5_near 13 = .ok (.iload_n 2, 1) := by decide +kernel
theorem dX5_near_14 : decode cX5_near 14 = .ok (.invokestatic 116, 3) := by decide +kernel
theorem dX5_near_17 : decode cX5_near 17 = .ok (.ifCond .ne 9, 3) := by decide +kernel
theorem dX5_near_20 : decode cX5_near 20 = .ok (.aload_n 0, 1) := by decide +kernel
theorem dX5_near_21 : decode cX5_near 21 = .ok (.iconst (-1), 1) := by decide +kernel
theorem dX5_near_22 : decode cX5_near 22 = .ok (.invokevirtual 65, 3) := by decide +kernel
theorem dX5_near_25 : decode cX5_near 25 = .ok (.ireturn, 1) := by decide +kernel
theorem dX5_near_26 : decode cX5_near 26 = .ok (.aload_n 0, 1) := by decide +kernel
theorem dX5_near_27 : decode cX5_near 27 = .ok (.invokevirtual 110, 3) := by decide +kernel
theorem dX5_near_30 : decode cX5_near 30 = .ok (.aload_n 0, 1) := by decide +kernel
theorem dX5_near_31 : decode cX5_near 31 = .ok (.getfield 36, 3) := by decide +kernel
theorem dX5_near_34 : decode cX5_near 34 = .ok (.iload_n 3, 1) := by decide +kernel
theorem dX5_near_35 : decode cX5_near 35 = .ok (.iload_n 2, 1) := by decide +kernel
theorem dX5_near_36 : decode cX5_near 36 = .ok (.invokevirtual 120, 3) := by decide +kernel
theorem dX5_near_39 : decode cX5_near 39 = .ok (.istore 4, 2) := by decide +kernel
theorem dX5_near_41 : decode cX5_near 41 = .ok (.iload 4, 2) := by decide +kernel
theorem dX5_near_43 : decode cX5_near 43 = .ok (.ifCond .ge 8, 3) := by decide +kernel
theorem dX5_near_46 : decode cX5_near 46 = .ok (.bipush (-9), 2) := by decide +kernel
theorem dX5_near_48 : decode cX5_near 48 = .ok (.goto 13, 3) := by decide +kernel
theorem dX5_near_51 : decode cX5_near 51 = .ok (.aload_n 0, 1) := by decide +kernel
theorem dX5_near_52 : decode cX5_near 52 = .ok (.getfield 36, 3) := by decide +kernel
theorem dX5_near_55 : decode cX5_near 55 = .ok (.iload_n 3, 1) := by decide +kernel
theorem dX5_near_56 : decode cX5_near 56 = .ok (.iload 4, 2) := by decide +kernel
theorem dX5_near_58 : decode cX5_near 58 = .ok (.invokevirtual 124, 3) := by decide +kernel
theorem dX5_near_61 : decode cX5_near 61 = .ok (.ireturn, 1) := by decide +kernel
theorem dX5_from_0 : decode cX5_from 0 = .ok (.aload_n 0, 1) := by decide +kernel
theorem dX5_from_1 : decode cX5_from 1 = .ok (.getfield 19, 3) := by decide +kernel
theorem dX5_from_4 : decode cX5_from 4 = .ok (.iload_n 1, 1) := by decide +kernel
theorem dX5_from_5 : decode cX5_from 5 = .ok (.invokevirtual 87, 3) := by decide +kernel
theorem dX5_from_8 : decode cX5_from 8 = .ok (.istore_n 3, 1) := by decide +kernel
theorem dX5_from_9 : decode cX5_from 9 = .ok (.iload_n 3, 1) := by decide +kernel
theorem dX5_from_10 : decode cX5_from 10 = .ok (.ifCond .lt 10, 3) := by decide +kernel
theorem dX5_from_13 : decode cX5_from 13 = .ok (.iload_n 2, 1) := by decide +kernel
theorem dX5_from_14 : decode cX5_from 14 = .ok (.invokestatic 116, 3) := by decide +kernel
theorem dX5_from_17 : decode cX5_from 17 = .ok (.ifCond .ne 9, 3) := by decide +kernel
theorem dX5_from_20 : decode cX5_from 20 = .ok (.aload_n 0, 1) := by decide +kernel
theorem dX5_from_21 : decode cX5_from 21 = .ok (.iconst (-1), 1) := by decide +kernel
theorem dX5_from_22 : decode cX5_from 22 = .ok (.invokevirtual 65, 3) := by decide +kernel
theorem dX5_from_25 : decode cX5_from 25 = .ok (.ireturn, 1) := by decide +kernel
theorem dX5_from_26 : decode cX5_from 26 = .ok (.aload_n 0, 1) := by decide +kernel
theorem dX5_from_27 : decode cX5_from 27 = .ok (.invokevirtual 110, 3) := by decide +kernel
theorem dX5_from_30 : decode cX5_from 30 = .ok (.aload_n 0, 1) := by decide +kernel
theorem dX5_from_31 : decode cX5_from 31 = .ok (.getfield 36, 3) := by decide +kernel
theorem dX5_from_34 : decode cX5_from 34 = .ok (.aload_n 0, 1) := by decide +kernel
theorem dX5_from_35 : decode cX5_from 35 = .ok (.getfield 36, 3) := by decide +kernel
theorem dX5_from_38 : decode cX5_from 38 = .ok (.iload_n 3, 1) := by decide +kernel
theorem dX5_from_39 : decode cX5_from 39 = .ok (.iload_n 2, 1) := by decide +kernel
theorem dX5_from_40 : decode cX5_from 40 = .ok (.invokevirtual 120, 3) := by decide +kernel
theorem dX5_from_43 : decode cX5_from 43 = .ok (.invokevirtual 127, 3) := by decide +kernel
theorem dX5_from_46 : decode cX5_from 46 = .ok (.invokestatic 130, 3) := by decide +kernel
theorem dX5_from_49 : decode cX5_from 49 = .ok (.ireturn, 1) := by decide +kernel
theorem dX5_whose_0 : decode cX5_whose 0 = .ok (.aload_n 0, 1) := by decide +kernel
theorem dX5_whose_1 : decode cX5_whose 1 = .ok (.getfield 19, 3) := by decide +kernel
theorem dX5_whose_4 : decode cX5_whose 4 = .ok (.iload_n 1, 1) := by decide +kernel
theorem dX5_whose_5 : decode cX5_whose 5 = .ok (.invokevirtual 87, 3) := by decide +kernel
theorem dX5_whose_8 : decode cX5_whose 8 = .ok (.istore_n 2, 1) := by decide +kernel
theorem dX5_whose_9 : decode cX5_whose 9 = .ok (.iload_n 2, 1) := by decide +kernel
theorem dX5_whose_10 : decode cX5_whose 10 = .ok (.ifCond .ge 6, 3) := by decide +kernel
theorem dX5_whose_13 : decode cX5_whose 13 = .ok (.bipush (-10), 2) := by decide +kernel
theorem dX5_whose_15 : decode cX5_whose 15 = .ok (.ireturn, 1) := by decide +kernel
theorem dX5_whose_16 : decode cX5_whose 16 = .ok (.aload_n 0, 1) := by decide +kernel
theorem dX5_whose_17 : decode cX5_whose 17 = .ok (.invokevirtual 133, 3) := by decide +kernel
theorem dX5_whose_20 : decode cX5_whose 20 = .ok (.aload_n 0, 1) := by decide +kernel
theorem dX5_whose_21 : decode cX5_whose 21 = .ok (.getfield 36, 3) := by decide +kernel
theorem dX5_whose_24 : decode cX5_whose 24 = .ok (.iload_n 2, 1) := by decide +kernel
theorem dX5_whose_25 : decode cX5_whose 25 = .ok (.invokevirtual 136, 3) := by decide +kernel
theorem dX5_whose_28 : decode cX5_whose 28 = .ok (.ireturn, 1) := by decide +kernel
theorem dX5_third_0 : decode cX5_third 0 = .ok (.aload_n 0, 1) := by decide +kernel
theorem dX5_third_1 : decode cX5_third 1 = .ok (.invokevirtual 133, 3) := by decide +kernel
theorem dX5_third_4 : decode cX5_third 4 = .ok (.aload_n 0, 1) := by decide +kernel
theorem dX5_third_5 : decode cX5_third 5 = .ok (.getfield 36, 3) := by decide +kernel
theorem dX5_third_8 : decode cX5_third 8 = .ok (.getfield 139, 3) := by decide +kernel
theorem dX5_third_11 : decode cX5_third 11 = .ok (.ireturn, 1) := by decide +kernel
theorem dX5_area_0 : decode cX5_area 0 = .ok (.iload_n 1, 1) := by decide +kernel
theorem dX5_area_1 : decode cX5_area 1 = .ok (.invokestatic 116, 3) := by decide +kernel
theorem dX5_area_4 : decode cX5_area 4 = .ok (.ifCond .ne 21, 3) := by decide +kernel
theorem dX5_area_7 : decode cX5_area 7 = .ok (.iload_n 1, 1) := by decide +kernel
theorem dX5_area_8 : decode cX5_area 8 = .ok (.bipush (-2), 2) := by decide +kernel
theorem dX5_area_10 : decode cX5_area 10 = .ok (.if_icmp .eq 15, 3) := by decide +kernel
theorem dX5_area_13 : decode cX5_area 13 = .ok (.iload_n 1, 1) := by decide +kernel
theorem dX5_area_14 : decode cX5_area 14 = .ok (.bipush (-3), 2) := by decide +kernel
theorem dX5_area_16 : decode cX5_area 16 = .ok (.if_icmp .eq 9, 3) := by decide +kernel
theorem dX5_area_19 : decode cX5_area 19 = .ok (.aload_n 0, 1) := by decide +kernel
theorem dX5_area_20 : decode cX5_area 20 = .ok (.iconst (-1), 1) := by decide +kernel
theorem dX5_area_21 : decode cX5_area 21 = .ok (.invokevirtual 65, 3) := by decide +kernel
theorem dX5_area_24 : decode cX5_area 24 = .ok (.ireturn, 1) := by decide +kernel
theorem dX5_area_25 : decode cX5_area 25 = .ok (.aload_n 0, 1) := by decide +kernel
theorem dX5_area_26 : decode cX5_area 26 = .ok (.invokevirtual 133, 3) := by decide +kernel
theorem dX5_area_29 : decode cX5_area 29 = .ok (.aload_n 0, 1) := by decide +kernel
theorem dX5_area_30 : decode cX5_area 30 = .ok (.getfield 36, 3) := by decide +kernel
theorem dX5_area_33 : decode cX5_area 33 = .ok (.iload_n 1, 1) := by decide +kernel
theorem dX5_area_34 : decode cX5_area 34 = .ok (.invokevirtual 142, 3) := by decide +kernel
theorem dX5_area_37 : decode cX5_area 37 = .ok (.ireturn, 1) := by decide +kernel
theorem dX5_shore_0 : decode cX5_shore 0 = .ok (.iload_n 1, 1) := by decide +kernel
theorem dX5_shore_1 : decode cX5_shore 1 = .ok (.invokestatic 116, 3) := by decide +kernel
theorem dX5_shore_4 : decode cX5_shore 4 = .ok (.ifCond .eq 14, 3) := by decide +kernel
theorem dX5_shore_7 : decode cX5_shore 7 = .ok (.aload_n 0, 1) := by decide +kernel
theorem dX5_shore_8 : decode cX5_shore 8 = .ok (.getfield 19, 3) := by decide +kernel
theorem dX5_shore_11 : decode cX5_shore 11 = .ok (.iload_n 1, 1) := by decide +kernel
theorem dX5_shore_12 : decode cX5_shore 12 = .ok (.invokevirtual 145, 3) := by decide +kernel
theorem dX5_shore_15 : decode cX5_shore 15 = .ok (.goto 8, 3) := by decide +kernel
theorem dX5_shore_18 : decode cX5_shore 18 = .ok (.aload_n 0, 1) := by decide +kernel
theorem dX5_shore_19 : decode cX5_shore 19 = .ok (.iconst (-1), 1) := by decide +kernel
theorem dX5_shore_20 : decode cX5_shore 20 = .ok (.invokevirtual 65, 3) := by decide +kernel
theorem dX5_shore_23 : decode cX5_shore 23 = .ok (.ireturn, 1) := by decide +kernel
theorem dX5_fair_0 : decode cX5_fair 0 = .ok (.aload_n 0, 1) := by decide +kernel
theorem dX5_fair_1 : decode cX5_fair 1 = .ok (.invokevirtual 133, 3) := by decide +kernel
theorem dX5_fair_4 : decode cX5_fair 4 = .ok (.aload_n 0, 1) := by decide +kernel
theorem dX5_fair_5 : decode cX5_fair 5 = .ok (.invokevirtual 148, 3) := by decide +kernel
theorem dX5_fair_8 : decode cX5_fair 8 = .ok (.ireturn, 1) := by decide +kernel
theorem dX5_bent_0 : decode cX5_bent 0 = .ok (.iload_n 1, 1) := by decide +kernel
theorem dX5_bent_1 : decode cX5_bent 1 = .ok (.ifCond .ge 10, 3) := by decide +kernel
theorem dX5_bent_4 : decode cX5_bent 4 = .ok (.aload_n 0, 1) := by decide +kernel
theorem dX5_bent_5 : decode cX5_bent 5 = .ok (.bipush (-4), 2) := by decide +kernel
theorem dX5_bent_7 : decode cX5_bent 7 = .ok (.invokevirtual 65, 3) := by decide +kernel
theorem dX5_bent_10 : decode cX5_bent 10 = .ok (.ireturn, 1) := by decide +kernel
theorem dX5_bent_11 : decode cX5_bent 11 = .ok (.iload_n 1, 1) := by decide +kernel
theorem dX5_bent_12 : decode cX5_bent 12 = .ok (.ldc 151, 2) := by decide +kernel
theorem dX5_bent_14 : decode cX5_bent 14 = .ok (.if_icmp .le 10, 3) := by decide +kernel
theorem dX5_bent_17 : decode cX5_bent 17 = .ok (.aload_n 0, 1) := by decide +kernel
theorem dX5_bent_18 : decode cX5_bent 18 = .ok (.bipush (-6), 2) := by decide +kernel
theorem dX5_bent_20 : decode cX5_bent 20 = .ok (.invokevirtual 65, 3) := by decide +kernel
theorem dX5_bent_23 : decode cX5_bent 23 = .ok (.ireturn, 1) := by decide +kernel
theorem dX5_bent_24 : decode cX5_bent 24 = .ok (.aload_n 0, 1) := by decide +kernel
theorem dX5_bent_25 : decode cX5_bent 25 = .ok (.invokevirtual 110, 3) := by decide +kernel
theorem dX5_bent_28 : decode cX5_bent 28 = .ok (.aload_n 0, 1) := by decide +kernel
theorem dX5_bent_29 : decode cX5_bent 29 = .ok (.getfield 36, 3) := by decide +kernel
theorem dX5_bent_32 : decode cX5_bent 32 = .ok (.aload_n 0, 1) := by decide +kernel
theorem dX5_bent_33 : decode cX5_bent 33 = .ok (.getfield 19, 3) := by decide +kernel
theorem dX5_bent_36 : decode cX5_bent 36 = .ok (.invokevirtual 152, 3) := by decide +kernel
theorem dX5_bent_39 : decode cX5_bent 39 = .ok (.iconst 0, 1) := by decide +kernel
theorem dX5_bent_40 : decode cX5_bent 40 = .ok (.istore_n 2, 1) := by decide +kernel
theorem dX5_bent_41 : decode cX5_bent 41 = .ok (.iload_n 2, 1) := by decide +kernel
theorem dX5_bent_42 : decode cX5_bent 42 = .ok (.bipush 50, 2) := by decide +kernel
theorem dX5_bent_44 : decode cX5_bent 44 = .ok (.if_icmp .gt 33, 3) := by decide +kernel
theorem dX5_bent_47 : decode cX5_bent 47 = .ok (.aload_n 0, 1) := by decide +kernel
theorem dX5_bent_48 : decode cX5_bent 48 = .ok (.iload_n 2, 1) := by decide +kernel
theorem dX5_bent_49 : decode cX5_bent 49 = .ok (.iload_n 1, 1) := by decide +kernel
theorem dX5_bent_50 : decode cX5_bent 50 = .ok (.invokevirtual 155, 3) := by decide +kernel
theorem dX5_bent_53 : decode cX5_bent 53 = .ok (.ifCond .eq 5, 3) := by decide +kernel
theorem dX5_bent_56 : decode cX5_bent 56 = .ok (.iload_n 2, 1) := by decide +kernel
theorem dX5_bent_57 : decode cX5_bent 57 = .ok (.ireturn, 1) := by decide +kernel
theorem dX5_bent_58 : decode cX5_bent 58 = .ok (.aload_n 0, 1) := by decide +kernel
theorem dX5_bent_59 : decode cX5_bent 59 = .ok (.iload_n 2, 1) := by decide +kernel
theorem dX5_bent_60 : decode cX5_bent 60 = .ok (.ineg, 1) := by decide +kernel
theorem dX5_bent_61 : decode cX5_bent 61 = .ok (.iload_n 1, 1) := by decide +kernel
theorem dX5_bent_62 : decode cX5_bent 62 = .ok (.invokevirtual 155, 3) := by decide +kernel
theorem dX5_bent_65 : decode cX5_bent 65 = .ok (.ifCond .eq 6, 3) := by decide +kernel
theorem dX5_bent_68 : decode cX5_bent 68 = .ok (.iload_n 2, 1) := by decide +kernel
theorem dX5_bent_69 : decode cX5_bent 69 = .ok (.ineg, 1) := by decide +kernel
theorem dX5_bent_70 : decode cX5_bent 70 = .ok (.ireturn, 1) := by decide +kernel
theorem dX5_bent_71 : decode cX5_bent 71 = .ok (.iinc 2 1, 3) := by decide +kernel
theorem dX5_bent_74 : decode cX5_bent 74 = .ok (.goto (-33), 3) := by decide +kernel
theorem dX5_bent_77 : decode cX5_bent 77 = .ok (.bipush (-100), 2) := by decide +kernel
theorem dX5_bent_79 : decode cX5_bent 79 = .ok (.ireturn, 1) := by decide +kernel
theorem dX5_pieces_0 : decode cX5_pieces 0 = .ok (.aload_n 0, 1) := by decide +kernel
theorem dX5_pieces_1 : decode cX5_pieces 1 = .ok (.invokevirtual 133, 3) := by decide +kernel
theorem dX5_pieces_4 : decode cX5_pieces 4 = .ok (.aload_n 0, 1) := by decide +kernel
theorem dX5_pieces_5 : decode cX5_pieces 5 = .ok (.getfield 46, 3) := by decide +kernel
theorem dX5_pieces_8 : decode cX5_pieces 8 = .ok (.aload_n 0, 1) := by decide +kernel
theorem dX5_pieces_9 : decode cX5_pieces 9 = .ok (.getfield 36, 3) := by decide +kernel
theorem dX5_pieces_12 : decode cX5_pieces 12 = .ok (.invokevirtual 159, 3) := by decide +kernel
theorem dX5_pieces_15 : decode cX5_pieces 15 = .ok (.ireturn, 1) := by decide +kernel
theorem dX5_turnings_0 : decode cX5_turnings 0 = .ok (.aload_n 0, 1) := by decide +kernel
theorem dX5_turnings_1 : decode cX5_turnings 1 = .ok (.invokevirtual 133, 3) := by decide +kernel
theorem dX5_turnings_4 : decode cX5_turnings 4 = .ok (.aload_n 0, 1) := by decide +kernel
theorem dX5_turnings_5 : decode cX5_turnings 5 = .ok (.getfield 46, 3) := by decide +kernel
theorem dX5_turnings_8 : decode cX5_turnings 8 = .ok (.aload_n 0, 1) := by decide +kernel
theorem dX5_turnings_9 : decode cX5_turnings 9 = .ok (.getfield 36, 3) := by decide +kernel
theorem dX5_turnings_12 : decode cX5_turnings 12 = .ok (.invokevirtual 163, 3) := by decide +kernel
theorem dX5_turnings_15 : decode cX5_turnings 15 = .ok (.ireturn, 1) := by decide +kernel
theorem dX5_moves_0 : decode cX5_moves 0 = .ok (.aload_n 0, 1) := by decide +kernel
theorem dX5_moves_1 : decode cX5_moves 1 = .ok (.getfield 19, 3) := by decide +kernel
theorem dX5_moves_4 : decode cX5_moves 4 = .ok (.iload_n 1, 1) := by decide +kernel
theorem dX5_moves_5 : decode cX5_moves 5 = .ok (.invokevirtual 87, 3) := by decide +kernel
theorem dX5_moves_8 : decode cX5_moves 8 = .ok (.istore_n 2, 1) := by decide +kernel
theorem dX5_moves_9 : decode cX5_moves 9 = .ok (.iload_n 2, 1) := by decide +kernel
theorem dX5_moves_10 : decode cX5_moves 10 = .ok (.ifCond .ge 9, 3) := by decide +kernel
theorem dX5_moves_13 : decode cX5_moves 13 = .ok (.aload_n 0, 1) := by decide +kernel
theorem dX5_moves_14 : decode cX5_moves 14 = .ok (.iconst (-1), 1) := by decide +kernel
theorem dX5_moves_15 : decode cX5_moves 15 = .ok (.invokevirtual 65, 3) := by decide +kernel
theorem dX5_moves_18 : decode cX5_moves 18 = .ok (.ireturn, 1) := by decide +kernel
theorem dX5_moves_19 : decode cX5_moves 19 = .ok (.aload_n 0, 1) := by decide +kernel
theorem dX5_moves_20 : decode cX5_moves 20 = .ok (.getfield 19, 3) := by decide +kernel
theorem dX5_moves_23 : decode cX5_moves 23 = .ok (.iload_n 2, 1) := by decide +kernel
theorem dX5_moves_24 : decode cX5_moves 24 = .ok (.invokevirtual 90, 3) := by decide +kernel
theorem dX5_moves_27 : decode cX5_moves 27 = .ok (.invokestatic 166, 3) := by decide +kernel
theorem dX5_moves_30 : decode cX5_moves 30 = .ok (.ifCond .ne 10, 3) := by decide +kernel
theorem dX5_moves_33 : decode cX5_moves 33 = .ok (.aload_n 0, 1) := by decide +kernel
theorem dX5_moves_34 : decode cX5_moves 34 = .ok (.bipush (-3), 2) := by decide +kernel
theorem dX5_moves_36 : decode cX5_moves 36 = .ok (.invokevirtual 65, 3) := by decide +kernel
theorem dX5_moves_39 : decode cX5_moves 39 = .ok (.ireturn, 1) := by decide +kernel
theorem dX5_moves_40 : decode cX5_moves 40 = .ok (.aload_n 0, 1) := by decide +kernel
theorem dX5_moves_41 : decode cX5_moves 41 = .ok (.invokevirtual 133, 3) := by decide +kernel
theorem dX5_moves_44 : decode cX5_moves 44 = .ok (.aload_n 0, 1) := by decide +kernel
theorem dX5_moves_45 : decode cX5_moves 45 = .ok (.iload_n 2, 1) := by decide +kernel
theorem dX5_moves_46 : decode cX5_moves 46 = .ok (.invokevirtual 169, 3) := by decide +kernel
theorem dX5_moves_49 : decode cX5_moves 49 = .ok (.ireturn, 1) := by decide +kernel
theorem dX5_most_0 : decode cX5_most 0 = .ok (.aload_n 0, 1) := by decide +kernel
theorem dX5_most_1 : decode cX5_most 1 = .ok (.invokevirtual 133, 3) := by decide +kernel
theorem dX5_most_4 : decode cX5_most 4 = .ok (.iconst (-1), 1) := by decide +kernel
theorem dX5_most_5 : decode cX5_most 5 = .ok (.istore_n 1, 1) := by decide +kernel
theorem dX5_most_6 : decode cX5_most 6 = .ok (.iconst (-1), 1) := by decide +kernel
theorem dX5_most_7 : decode cX5_most 7 = .ok (.istore_n 2, 1) := by decide +kernel
theorem dX5_most_8 : decode cX5_most 8 = .ok (.iconst 0, 1) := by decide +kernel
theorem dX5_most_9 : decode cX5_most 9 = .ok (.istore_n 3, 1) := by decide +kernel
theorem dX5_most_10 : decode cX5_most 10 = .ok (.iload_n 3, 1) := by decide +kernel
theorem dX5_most_11 : decode cX5_most 11 = .ok (.bipush 120, 2) := by decide +kernel
theorem dX5_most_13 : decode cX5_most 13 = .ok (.if_icmp .ge 41, 3) := by decide +kernel
theorem dX5_most_16 : decode cX5_most 16 = .ok (.aload_n 0, 1) := by decide +kernel
theorem dX5_most_17 : decode cX5_most 17 = .ok (.getfield 19, 3) := by decide +kernel
theorem dX5_most_20 : decode cX5_most 20 = .ok (.iload_n 3, 1) := by decide +kernel
theorem dX5_most_21 : decode cX5_most 21 = .ok (.invokevirtual 90, 3) := by decide +kernel
theorem dX5_most_24 : decode cX5_most 24 = .ok (.invokestatic 166, 3) := by decide +kernel
theorem dX5_most_27 : decode cX5_most 27 = .ok (.ifCond .eq 21, 3) := by decide +kernel
theorem dX5_most_30 : decode cX5_most 30 = .ok (.aload_n 0, 1) := by decide +kernel
theorem dX5_most_31 : decode cX5_most 31 = .ok (.iload_n 3, 1) := by decide +kernel
theorem dX5_most_32 : decode cX5_most 32 = .ok (.invokevirtual 169, 3) := by decide +kernel
theorem dX5_most_35 : decode cX5_most 35 = .ok (.istore 4, 2) := by decide +kernel
theorem dX5_most_37 : decode cX5_most 37 = .ok (.iload 4, 2) := by decide +kernel
theorem dX5_most_39 : decode cX5_most 39 = .ok (.iload_n 2, 1) := by decide +kernel
theorem dX5_most_40 : decode cX5_most 40 = .ok (.if_icmp .le 8, 3) := by decide +kernel
theorem dX5_most_43 : decode cX5_most 43 = .ok (.iload_n 3, 1) := by decide +kernel
theorem dX5_most_44 : decode cX5_most 44 = .ok (.istore_n 1, 1) := by decide +kernel
theorem dX5_most_45 : decode cX5_most 45 = .ok (.iload 4, 2) := by decide +kernel
theorem dX5_most_47 : decode cX5_most 47 = .ok (.istore_n 2, 1) := by decide +kernel
theorem dX5_most_48 : decode cX5_most 48 = .ok (.iinc 3 1, 3) := by decide +kernel
theorem dX5_most_51 : decode cX5_most 51 = .ok (.goto (-41), 3) := by decide +kernel
theorem dX5_most_54 : decode cX5_most 54 = .ok (.iload_n 1, 1) := by decide +kernel
theorem dX5_most_55 : decode cX5_most 55 = .ok (.invokestatic 130, 3) := by decide +kernel
theorem dX5_most_58 : decode cX5_most 58 = .ok (.ireturn, 1) := by decide +kernel
theorem dX5_well_0 : decode cX5_well 0 = .ok (.aload_n 0, 1) := by decide +kernel
theorem dX5_well_1 : decode cX5_well 1 = .ok (.getfield 19, 3) := by decide +kernel
theorem dX5_well_4 : decode cX5_well 4 = .ok (.iload_n 1, 1) := by decide +kernel
theorem dX5_well_5 : decode cX5_well 5 = .ok (.invokevirtual 87, 3) := by decide +kernel
theorem dX5_well_8 : decode cX5_well 8 = .ok (.istore_n 3, 1) := by decide +kernel
theorem dX5_well_9 : decode cX5_well 9 = .ok (.iload_n 3, 1) := by decide +kernel
theorem dX5_well_10 : decode cX5_well 10 = .ok (.ifCond .ge 9, 3) := by decide +kernel
theorem dX5_well_13 : decode cX5_well 13 = .ok (.aload_n 0, 1) := by decide +kernel
theorem dX5_well_14 : decode cX5_well 14 = .ok (.iconst (-1), 1) := by decide +kernel
theorem dX5_well_15 : decode cX5_well 15 = .ok (.invokevirtual 65, 3) := by decide +kernel
theorem dX5_well_18 : decode cX5_well 18 = .ok (.ireturn, 1) := by decide +kernel
theorem dX5_well_19 : decode cX5_well 19 = .ok (.aload_n 0, 1) := by decide +kernel
theorem dX5_well_20 : decode cX5_well 20 = .ok (.getfield 19, 3) := by decide +kernel
theorem dX5_well_23 : decode cX5_well 23 = .ok (.iload_n 3, 1) := by decide +kernel
theorem dX5_well_24 : decode cX5_well 24 = .ok (.invokevirtual 90, 3) := by decide +kernel
theorem dX5_well_27 : decode cX5_well 27 = .ok (.ifCond .eq 10, 3) := by decide +kernel
theorem dX5_well_30 : decode cX5_well 30 = .ok (.aload_n 0, 1) := by decide +kernel
theorem dX5_well_31 : decode cX5_well 31 = .ok (.bipush (-3), 2) := by decide +kernel
theorem dX5_well_33 : decode cX5_well 33 = .ok (.invokevirtual 65, 3) := by decide +kernel
theorem dX5_well_36 : decode cX5_well 36 = .ok (.ireturn, 1) := by decide +kernel
theorem dX5_well_37 : decode cX5_well 37 = .ok (.iload_n 2, 1) := by decide +kernel
theorem dX5_well_38 : decode cX5_well 38 = .ok (.iconst 1, 1) := by decide +kernel
theorem dX5_well_39 : decode cX5_well 39 = .ok (.if_icmp .ge 10, 3) := by decide +kernel
theorem dX5_well_42 : decode cX5_well 42 = .ok (.aload_n 0, 1) := by decide +kernel
theorem dX5_well_43 : decode cX5_well 43 = .ok (.bipush (-4), 2) := by decide +kernel
theorem dX5_well_45 : decode cX5_well 45 = .ok (.invokevirtual 65, 3) := by decide +kernel
theorem dX5_well_48 : decode cX5_well 48 = .ok (.ireturn, 1) := by decide +kernel
theorem dX5_well_49 : decode cX5_well 49 = .ok (.iload_n 2, 1) := by decide +kernel
theorem dX5_well_50 : decode cX5_well 50 = .ok (.bipush 99, 2) := by decide +kernel
theorem dX5_well_52 : decode cX5_well 52 = .ok (.if_icmp .gt 15, 3) := by decide +kernel
theorem dX5_well_55 : decode cX5_well 55 = .ok (.aload_n 0, 1) := by decide +kernel
theorem dX5_well_56 : decode cX5_well 56 = .ok (.getfield 19, 3) := by decide +kernel
theorem dX5_well_59 : decode cX5_well 59 = .ok (.getfield 172, 3) := by decide +kernel
theorem dX5_well_62 : decode cX5_well 62 = .ok (.bipush 12, 2) := by decide +kernel
theorem dX5_well_64 : decode cX5_well 64 = .ok (.if_icmp .lt 10, 3) := by decide +kernel
theorem dX5_well_67 : decode cX5_well 67 = .ok (.aload_n 0, 1) := by decide +kernel
theorem dX5_well_68 : decode cX5_well 68 = .ok (.bipush (-6), 2) := by decide +kernel
theorem dX5_well_70 : decode cX5_well 70 = .ok (.invokevirtual 65, 3) := by decide +kernel
theorem dX5_well_73 : decode cX5_well 73 = .ok (.ireturn, 1) := by decide +kernel
theorem dX5_well_74 : decode cX5_well 74 = .ok (.aload_n 0, 1) := by decide +kernel
theorem dX5_well_75 : decode cX5_well 75 = .ok (.getfield 19, 3) := by decide +kernel
theorem dX5_well_78 : decode cX5_well 78 = .ok (.iload_n 3, 1) := by decide +kernel
theorem dX5_well_79 : decode cX5_well 79 = .ok (.iload_n 2, 1) := by decide +kernel
theorem dX5_well_80 : decode cX5_well 80 = .ok (.invokevirtual 175, 3) := by decide +kernel
theorem dX5_well_83 : decode cX5_well 83 = .ok (.aload_n 0, 1) := by decide +kernel
theorem dX5_well_84 : decode cX5_well 84 = .ok (.getfield 19, 3) := by decide +kernel
theorem dX5_well_87 : decode cX5_well 87 = .ok (.getfield 172, 3) := by decide +kernel
theorem dX5_well_90 : decode cX5_well 90 = .ok (.ireturn, 1) := by decide +kernel
theorem dX5_worth_0 : decode cX5_worth 0 = .ok (.iload_n 1, 1) := by decide +kernel
theorem dX5_worth_1 : decode cX5_worth 1 = .ok (.invokestatic 116, 3) := by decide +kernel
theorem dX5_worth_4 : decode cX5_worth 4 = .ok (.ifCond .ne 9, 3) := by decide +kernel
theorem dX5_worth_7 : decode cX5_worth 7 = .ok (.aload_n 0, 1) := by decide +kernel
theorem dX5_worth_8 : decode cX5_worth 8 = .ok (.iconst (-1), 1) := by decide +kernel
theorem dX5_worth_9 : decode cX5_worth 9 = .ok (.invokevirtual 65, 3) := by decide +kernel
theorem dX5_worth_12 : decode cX5_worth 12 = .ok (.ireturn, 1) := by decide +kernel
theorem dX5_worth_13 : decode cX5_worth 13 = .ok (.aload_n 0, 1) := by decide +kernel
theorem dX5_worth_14 : decode cX5_worth 14 = .ok (.invokevirtual 133, 3) := by decide +kernel
theorem dX5_worth_17 : decode cX5_worth 17 = .ok (.aload_n 0, 1) := by decide +kernel
theorem dX5_worth_18 : decode cX5_worth 18 = .ok (.getfield 19, 3) := by decide +kernel
theorem dX5_worth_21 : decode cX5_worth 21 = .ok (.iload_n 1, 1) := by decide +kernel
theorem dX5_worth_22 : decode cX5_worth 22 = .ok (.aload_n 0, 1) := by decide +kernel
theorem dX5_worth_23 : decode cX5_worth 23 = .ok (.getfield 36, 3) := by decide +kernel
theorem dX5_worth_26 : decode cX5_worth 26 = .ok (.invokevirtual 178, 3) := by decide +kernel
theorem dX5_worth_29 : decode cX5_worth 29 = .ok (.ireturn, 1) := by decide +kernel
theorem dX5_chosen_0 : decode cX5_chosen 0 = .ok (.iload_n 1, 1) := by decide +kernel
theorem dX5_chosen_1 : decode cX5_chosen 1 = .ok (.invokestatic 116, 3) := by decide +kernel
theorem dX5_chosen_4 : decode cX5_chosen 4 = .ok (.ifCond .eq 14, 3) := by decide +kernel
theorem dX5_chosen_7 : decode cX5_chosen 7 = .ok (.aload_n 0, 1) := by decide +kernel
theorem dX5_chosen_8 : decode cX5_chosen 8 = .ok (.iload_n 1, 1) := by decide +kernel
theorem dX5_chosen_9 : decode cX5_chosen 9 = .ok (.invokevirtual 182, 3) := by decide +kernel
theorem dX5_chosen_12 : decode cX5_chosen 12 = .ok (.invokestatic 185, 3) := by decide +kernel
theorem dX5_chosen_15 : decode cX5_chosen 15 = .ok (.goto 8, 3) := by decide +kernel
theorem dX5_chosen_18 : decode cX5_chosen 18 = .ok (.aload_n 0, 1) := by decide +kernel
theorem dX5_chosen_19 : decode cX5_chosen 19 = .ok (.iconst (-1), 1) := by decide +kernel
theorem dX5_chosen_20 : decode cX5_chosen 20 = .ok (.invokevirtual 65, 3) := by decide +kernel
theorem dX5_chosen_23 : decode cX5_chosen 23 = .ok (.ireturn, 1) := by decide +kernel
theorem dX5_claims_0 : decode cX5_claims 0 = .ok (.aload_n 0, 1) := by decide +kernel
theorem dX5_claims_1 : decode cX5_claims 1 = .ok (.invokevirtual 188, 3) := by decide +kernel
theorem dX5_claims_4 : decode cX5_claims 4 = .ok (.iconst 0, 1) := by decide +kernel
theorem dX5_claims_5 : decode cX5_claims 5 = .ok (.istore_n 1, 1) := by decide +kernel
theorem dX5_claims_6 : decode cX5_claims 6 = .ok (.iconst 0, 1) := by decide +kernel
theorem dX5_claims_7 : decode cX5_claims 7 = .ok (.istore_n 2, 1) := by decide +kernel
theorem dX5_claims_8 : decode cX5_claims 8 = .ok (.iload_n 2, 1) := by decide +kernel
theorem dX5_claims_9 : decode cX5_claims 9 = .ok (.bipush 120, 2) := by decide +kernel
theorem dX5_claims_11 : decode cX5_claims 11 = .ok (.if_icmp .ge 21, 3) := by decide +kernel
theorem dX5_claims_14 : decode cX5_claims 14 = .ok (.aload_n 0, 1) := by decide +kernel
theorem dX5_claims_15 : decode cX5_claims 15 = .ok (.iload_n 2, 1) := by decide +kernel
theorem dX5_claims_16 : decode cX5_claims 16 = .ok (.invokevirtual 191, 3) := by decide +kernel
theorem dX5_claims_19 : decode cX5_claims 19 = .ok (.iconst 3, 1) := by decide +kernel
theorem dX5_claims_20 : decode cX5_claims 20 = .ok (.if_icmp .ne 6, 3) := by decide +kernel
theorem dX5_claims_23 : decode cX5_claims 23 = .ok (.iinc 1 1, 3) := by decide +kernel
theorem dX5_claims_26 : decode cX5_claims 26 = .ok (.iinc 2 1, 3) := by decide +kernel
theorem dX5_claims_29 : decode cX5_claims 29 = .ok (.goto (-21), 3) := by decide +kernel
theorem dX5_claims_32 : decode cX5_claims 32 = .ok (.iload_n 1, 1) := by decide +kernel
theorem dX5_claims_33 : decode cX5_claims 33 = .ok (.ireturn, 1) := by decide +kernel
theorem dX5_claimed_0 : decode cX5_claimed 0 = .ok (.aload_n 0, 1) := by decide +kernel
theorem dX5_claimed_1 : decode cX5_claimed 1 = .ok (.getfield 19, 3) := by decide +kernel
theorem dX5_claimed_4 : decode cX5_claimed 4 = .ok (.iload_n 1, 1) := by decide +kernel
theorem dX5_claimed_5 : decode cX5_claimed 5 = .ok (.invokevirtual 87, 3) := by decide +kernel
theorem dX5_claimed_8 : decode cX5_claimed 8 = .ok (.istore_n 2, 1) := by decide +kernel
theorem dX5_claimed_9 : decode cX5_claimed 9 = .ok (.iload_n 2, 1) := by decide +kernel
theorem dX5_claimed_10 : decode cX5_claimed 10 = .ok (.ifCond .ge 9, 3) := by decide +kernel
theorem dX5_claimed_13 : decode cX5_claimed 13 = .ok (.aload_n 0, 1) := by decide +kernel
theorem dX5_claimed_14 : decode cX5_claimed 14 = .ok (.iconst (-1), 1) := by decide +kernel
theorem dX5_claimed_15 : decode cX5_claimed 15 = .ok (.invokevirtual 65, 3) := by decide +kernel
theorem dX5_claimed_18 : decode cX5_claimed 18 = .ok (.ireturn, 1) := by decide +kernel
theorem dX5_claimed_19 : decode cX5_claimed 19 = .ok (.aload_n 0, 1) := by decide +kernel
theorem dX5_claimed_20 : decode cX5_claimed 20 = .ok (.invokevirtual 188, 3) := by decide +kernel
theorem dX5_claimed_23 : decode cX5_claimed 23 = .ok (.aload_n 0, 1) := by decide +kernel
theorem dX5_claimed_24 : decode cX5_claimed 24 = .ok (.iload_n 2, 1) := by decide +kernel
theorem dX5_claimed_25 : decode cX5_claimed 25 = .ok (.invokevirtual 191, 3) := by decide +kernel
theorem dX5_claimed_28 : decode cX5_claimed 28 = .ok (.ireturn, 1) := by decide +kernel
theorem dX5_meet_0 : decode cX5_meet 0 = .ok (.iload_n 1, 1) := by decide +kernel
theorem dX5_meet_1 : decode cX5_meet 1 = .ok (.ifCond .lt 7, 3) := by decide +kernel
theorem dX5_meet_4 : decode cX5_meet 4 = .ok (.iload_n 2, 1) := by decide +kernel
theorem dX5_meet_5 : decode cX5_meet 5 = .ok (.ifCond .ge 10, 3) := by decide +kernel
theorem dX5_meet_8 : decode cX5_meet 8 = .ok (.aload_n 0, 1) := by decide +kernel
theorem dX5_meet_9 : decode cX5_meet 9 = .ok (.bipush (-4), 2) := by decide +kernel
theorem dX5_meet_11 : decode cX5_meet 11 = .ok (.invokevirtual 65, 3) := by decide +kernel
theorem dX5_meet_14 : decode cX5_meet 14 = .ok (.ireturn, 1) := by decide +kernel
theorem dX5_meet_15 : decode cX5_meet 15 = .ok (.iload_n 1, 1) := by decide +kernel
theorem dX5_meet_16 : decode cX5_meet 16 = .ok (.bipush 120, 2) := by decide +kernel
theorem dX5_meet_18 : decode cX5_meet 18 = .ok (.if_icmp .gt 9, 3) := by decide +kernel
theorem dX5_meet_21 : decode cX5_meet 21 = .ok (.iload_n 2, 1) := by decide +kernel
theorem dX5_meet_22 : decode cX5_meet 22 = .ok (.bipush 120, 2) := by decide +kernel
theorem dX5_meet_24 : decode cX5_meet 24 = .ok (.if_icmp .le 10, 3) := by decide +kernel
theorem dX5_meet_27 : decode cX5_meet 27 = .ok (.aload_n 0, 1) := by decide +kernel
theorem dX5_meet_28 : decode cX5_meet 28 = .ok (.bipush (-6), 2) := by decide +kernel
theorem dX5_meet_30 : decode cX5_meet 30 = .ok (.invokevirtual 65, 3) := by decide +kernel
theorem dX5_meet_33 : decode cX5_meet 33 = .ok (.ireturn, 1) := by decide +kernel
theorem dX5_meet_34 : decode cX5_meet 34 = .ok (.iconst 0, 1) := by decide +kernel
theorem dX5_meet_35 : decode cX5_meet 35 = .ok (.istore_n 3, 1) := by decide +kernel
theorem dX5_meet_36 : decode cX5_meet 36 = .ok (.iload_n 3, 1) := by decide +kernel
theorem dX5_meet_37 : decode cX5_meet 37 = .ok (.bipush 12, 2) := by decide +kernel
theorem dX5_meet_39 : decode cX5_meet 39 = .ok (.if_icmp .ge 68, 3) := by decide +kernel
theorem dX5_meet_42 : decode cX5_meet 42 = .ok (.aload_n 0, 1) := by decide +kernel
theorem dX5_meet_43 : decode cX5_meet 43 = .ok (.getfield 29, 3) := by decide +kernel
theorem dX5_meet_46 : decode cX5_meet 46 = .ok (.aload_n 0, 1) := by decide +kernel
theorem dX5_meet_47 : decode cX5_meet 47 = .ok (.getfield 19, 3) := by decide +kernel
theorem dX5_meet_50 : decode cX5_meet 50 = .ok (.getfield 100, 3) := by decide +kernel
theorem dX5_meet_53 : decode cX5_meet 53 = .ok (.iload_n 3, 1) := by decide +kernel
theorem dX5_meet_54 : decode cX5_meet 54 = .ok (.invokevirtual 194, 3) := by decide +kernel
theorem dX5_meet_57 : decode cX5_meet 57 = .ok (.aload_n 0, 1) := by decide +kernel
theorem dX5_meet_58 : decode cX5_meet 58 = .ok (.getfield 36, 3) := by decide +kernel
theorem dX5_meet_61 : decode cX5_meet 61 = .ok (.aload_n 0, 1) := by decide +kernel
theorem dX5_meet_62 : decode cX5_meet 62 = .ok (.getfield 19, 3) := by decide +kernel
theorem dX5_meet_65 : decode cX5_meet 65 = .ok (.aload_n 0, 1) := by decide +kernel
theorem dX5_meet_66 : decode cX5_meet 66 = .ok (.getfield 29, 3) := by decide +kernel
theorem dX5_meet_69 : decode cX5_meet 69 = .ok (.invokevirtual 198, 3) := by decide +kernel
theorem dX5_meet_72 : decode cX5_meet 72 = .ok (.aload_n 0, 1) := by decide +kernel
theorem dX5_meet_73 : decode cX5_meet 73 = .ok (.getfield 36, 3) := by decide +kernel
theorem dX5_meet_76 : decode cX5_meet 76 = .ok (.iconst 0, 1) := by decide +kernel
theorem dX5_meet_77 : decode cX5_meet 77 = .ok (.invokevirtual 142, 3) := by decide +kernel
theorem dX5_meet_80 : decode cX5_meet 80 = .ok (.iload_n 1, 1) := by decide +kernel
theorem dX5_meet_81 : decode cX5_meet 81 = .ok (.if_icmp .lt 20, 3) := by decide +kernel
theorem dX5_meet_84 : decode cX5_meet 84 = .ok (.aload_n 0, 1) := by decide +kernel
theorem dX5_meet_85 : decode cX5_meet 85 = .ok (.getfield 36, 3) := by decide +kernel
theorem dX5_meet_88 : decode cX5_meet 88 = .ok (.iconst 1, 1) := by decide +kernel
theorem dX5_meet_89 : decode cX5_meet 89 = .ok (.invokevirtual 142, 3) := by decide +kernel
theorem dX5_meet_92 : decode cX5_meet 92 = .ok (.iload_n 2, 1) := by decide +kernel
theorem dX5_meet_93 : decode cX5_meet 93 = .ok (.if_icmp .lt 8, 3) := by decide +kernel
theorem dX5_meet_96 : decode cX5_meet 96 = .ok (.iload_n 3, 1) := by decide +kernel
theorem dX5_meet_97 : decode cX5_meet 97 = .ok (.invokestatic 185, 3) := by decide +kernel
theorem dX5_meet_100 : decode cX5_meet 100 = .ok (.ireturn, 1) := by decide +kernel
theorem dX5_meet_101 : decode cX5_meet 101 = .ok (.iinc 3 1, 3) := by decide +kernel
theorem dX5_meet_104 : decode cX5_meet 104 = .ok (.goto (-68), 3) := by decide +kernel
theorem dX5_meet_107 : decode cX5_meet 107 = .ok (.bipush (-9), 2) := by decide +kernel
theorem dX5_meet_109 : decode cX5_meet 109 = .ok (.ireturn, 1) := by decide +kernel
theorem dX5_put_0 : decode cX5_put 0 = .ok (.iload_n 1, 1) := by decide +kernel
theorem dX5_put_1 : decode cX5_put 1 = .ok (.bipush (-9), 2) := by decide +kernel
theorem dX5_put_3 : decode cX5_put 3 = .ok (.if_icmp .ge 10, 3) := by decide +kernel
theorem dX5_put_6 : decode cX5_put 6 = .ok (.aload_n 0, 1) := by decide +kernel
theorem dX5_put_7 : decode cX5_put 7 = .ok (.bipush (-4), 2) := by decide +kernel
theorem dX5_put_9 : decode cX5_put 9 = .ok (.invokevirtual 65, 3) := by decide +kernel
theorem dX5_put_12 : decode cX5_put 12 = .ok (.ireturn, 1) := by decide +kernel
theorem dX5_put_13 : decode cX5_put 13 = .ok (.iload_n 1, 1) := by decide +kernel
theorem dX5_put_14 : decode cX5_put 14 = .ok (.bipush 9, 2) := by decide +kernel
theorem dX5_put_16 : decode cX5_put 16 = .ok (.if_icmp .gt 22, 3) := by decide +kernel
theorem dX5_put_19 : decode cX5_put 19 = .ok (.aload_n 0, 1) := by decide +kernel
theorem dX5_put_20 : decode cX5_put 20 = .ok (.getfield 57, 3) := by decide +kernel
theorem dX5_put_23 : decode cX5_put 23 = .ok (.ifCond .lt 15, 3) := by decide +kernel
theorem dX5_put_26 : decode cX5_put 26 = .ok (.aload_n 0, 1) := by decide +kernel
theorem dX5_put_27 : decode cX5_put 27 = .ok (.getfield 57, 3) := by decide +kernel
theorem dX5_put_30 : decode cX5_put 30 = .ok (.aload_n 0, 1) := by decide +kernel
theorem dX5_put_31 : decode cX5_put 31 = .ok (.getfield 50, 3) := by decide +kernel
theorem dX5_put_34 : decode cX5_put 34 = .ok (.arraylength, 1) := by decide +kernel
theorem dX5_put_35 : decode cX5_put 35 = .ok (.if_icmp .lt 10, 3) := by decide +kernel
theorem dX5_put_38 : decode cX5_put 38 = .ok (.aload_n 0, 1) := by decide +kernel
theorem dX5_put_39 : decode cX5_put 39 = .ok (.bipush (-6), 2) := by decide +kernel
theorem dX5_put_41 : decode cX5_put 41 = .ok (.invokevirtual 65, 3) := by decide +kernel
theorem dX5_put_44 : decode cX5_put 44 = .ok (.ireturn, 1) := by decide +kernel
theorem dX5_put_45 : decode cX5_put 45 = .ok (.aload_n 0, 1) := by decide +kernel
theorem dX5_put_46 : decode cX5_put 46 = .ok (.getfield 50, 3) := by decide +kernel
theorem dX5_put_49 : decode cX5_put 49 = .ok (.aload_n 0, 1) := by decide +kernel
theorem dX5_put_50 : decode cX5_put 50 = .ok (.getfield 57, 3) := by decide +kernel
theorem dX5_put_53 : decode cX5_put 53 = .ok (.iload_n 1, 1) := by decide +kernel
theorem dX5_put_54 : decode cX5_put 54 = .ok (.iastore, 1) := by decide +kernel
theorem dX5_put_55 : decode cX5_put 55 = .ok (.aload_n 0, 1) := by decide +kernel
theorem dX5_put_56 : decode cX5_put 56 = .ok (.dup, 1) := by decide +kernel
theorem dX5_put_57 : decode cX5_put 57 = .ok (.getfield 57, 3) := by decide +kernel
theorem dX5_put_60 : decode cX5_put 60 = .ok (.iconst 1, 1) := by decide +kernel
theorem dX5_put_61 : decode cX5_put 61 = .ok (.iadd, 1) := by decide +kernel
theorem dX5_put_62 : decode cX5_put 62 = .ok (.putfield 57, 3) := by decide +kernel
theorem dX5_put_65 : decode cX5_put 65 = .ok (.aload_n 0, 1) := by decide +kernel
theorem dX5_put_66 : decode cX5_put 66 = .ok (.getfield 57, 3) := by decide +kernel
theorem dX5_put_69 : decode cX5_put 69 = .ok (.ireturn, 1) := by decide +kernel
theorem dX5_judge_0 : decode cX5_judge 0 = .ok (.aload_n 0, 1) := by decide +kernel
theorem dX5_judge_1 : decode cX5_judge 1 = .ok (.invokevirtual 133, 3) := by decide +kernel
theorem dX5_judge_4 : decode cX5_judge 4 = .ok (.aload_n 0, 1) := by decide +kernel
theorem dX5_judge_5 : decode cX5_judge 5 = .ok (.invokevirtual 202, 3) := by decide +kernel
theorem dX5_judge_8 : decode cX5_judge 8 = .ok (.istore_n 1, 1) := by decide +kernel
theorem dX5_judge_9 : decode cX5_judge 9 = .ok (.aload_n 0, 1) := by decide +kernel
theorem dX5_judge_10 : decode cX5_judge 10 = .ok (.iconst 0, 1) := by decide +kernel
theorem dX5_judge_11 : decode cX5_judge 11 = .ok (.putfield 57, 3) := by decide +kernel
theorem dX5_judge_14 : decode cX5_judge 14 = .ok (.iload_n 1, 1) := by decide +kernel
theorem dX5_judge_15 : decode cX5_judge 15 = .ok (.ireturn, 1) := by decide +kernel
theorem dX5_grow_0 : decode cX5_grow 0 = .ok (.aload_n 0, 1) := by decide +kernel
theorem dX5_grow_1 : decode cX5_grow 1 = .ok (.getfield 19, 3) := by decide +kernel
theorem dX5_grow_4 : decode cX5_grow 4 = .ok (.iload_n 1, 1) := by decide +kernel
theorem dX5_grow_5 : decode cX5_grow 5 = .ok (.invokevirtual 87, 3) := by decide +kernel
theorem dX5_grow_8 : decode cX5_grow 8 = .ok (.istore_n 3, 1) := by decide +kernel
theorem dX5_grow_9 : decode cX5_grow 9 = .ok (.iload_n 3, 1) := by decide +kernel
theorem dX5_grow_10 : decode cX5_grow 10 = .ok (.ifCond .lt 10, 3) := by decide +kernel
theorem dX5_grow_13 : decode cX5_grow 13 = .ok (.iload_n 2, 1) := by decide +kernel
theorem dX5_grow_14 : decode cX5_grow 14 = .ok (.invokestatic 116, 3) := by decide +kernel
theorem dX5_grow_17 : decode cX5_grow 17 = .ok (.ifCond .ne 9, 3) := by decide +kernel
theorem dX5_grow_20 : decode cX5_grow 20 = .ok (.aload_n 0, 1) := by decide +kernel
theorem dX5_grow_21 : decode cX5_grow 21 = .ok (.iconst (-1), 1) := by decide +kernel
theorem dX5_grow_22 : decode cX5_grow 22 = .ok (.invokevirtual 65, 3) := by decide +kernel
theorem dX5_grow_25 : decode cX5_grow 25 = .ok (.ireturn, 1) := by decide +kernel
theorem dX5_grow_26 : decode cX5_grow 26 = .ok (.aload_n 0, 1) := by decide +kernel
theorem dX5_grow_27 : decode cX5_grow 27 = .ok (.getfield 19, 3) := by decide +kernel
theorem dX5_grow_30 : decode cX5_grow 30 = .ok (.iload_n 3, 1) := by decide +kernel
theorem dX5_grow_31 : decode cX5_grow 31 = .ok (.invokevirtual 90, 3) := by decide +kernel
theorem dX5_grow_34 : decode cX5_grow 34 = .ok (.ifCond .eq 10, 3) := by decide +kernel
theorem dX5_grow_37 : decode cX5_grow 37 = .ok (.aload_n 0, 1) := by decide +kernel
theorem dX5_grow_38 : decode cX5_grow 38 = .ok (.bipush (-3), 2) := by decide +kernel
theorem dX5_grow_40 : decode cX5_grow 40 = .ok (.invokevirtual 65, 3) := by decide +kernel
theorem dX5_grow_43 : decode cX5_grow 43 = .ok (.ireturn, 1) := by decide +kernel
theorem dX5_grow_44 : decode cX5_grow 44 = .ok (.aload_n 0, 1) := by decide +kernel
theorem dX5_grow_45 : decode cX5_grow 45 = .ok (.getfield 19, 3) := by decide +kernel
theorem dX5_grow_48 : decode cX5_grow 48 = .ok (.iload_n 3, 1) := by decide +kernel
theorem dX5_grow_49 : decode cX5_grow 49 = .ok (.iconst 1, 1) := by decide +kernel
theorem dX5_grow_50 : decode cX5_grow 50 = .ok (.iload_n 2, 1) := by decide +kernel
theorem dX5_grow_51 : decode cX5_grow 51 = .ok (.iadd, 1) := by decide +kernel
theorem dX5_grow_52 : decode cX5_grow 52 = .ok (.invokevirtual 205, 3) := by decide +kernel
theorem dX5_grow_55 : decode cX5_grow 55 = .ok (.aload_n 0, 1) := by decide +kernel
theorem dX5_grow_56 : decode cX5_grow 56 = .ok (.getfield 19, 3) := by decide +kernel
theorem dX5_grow_59 : decode cX5_grow 59 = .ok (.iload_n 3, 1) := by decide +kernel
theorem dX5_grow_60 : decode cX5_grow 60 = .ok (.invokevirtual 208, 3) := by decide +kernel
theorem dX5_grow_63 : decode cX5_grow 63 = .ok (.iconst 1, 1) := by decide +kernel
theorem dX5_grow_64 : decode cX5_grow 64 = .ok (.ireturn, 1) := by decide +kernel
theorem dX5_drown_0 : decode cX5_drown 0 = .ok (.aload_n 0, 1) := by decide +kernel
theorem dX5_drown_1 : decode cX5_drown 1 = .ok (.getfield 19, 3) := by decide +kernel
theorem dX5_drown_4 : decode cX5_drown 4 = .ok (.iload_n 1, 1) := by decide +kernel
theorem dX5_drown_5 : decode cX5_drown 5 = .ok (.invokevirtual 87, 3) := by decide +kernel
theorem dX5_drown_8 : decode cX5_drown 8 = .ok (.istore_n 2, 1) := by decide +kernel
theorem dX5_drown_9 : decode cX5_drown 9 = .ok (.iload_n 2, 1) := by decide +kernel
theorem dX5_drown_10 : decode cX5_drown 10 = .ok (.ifCond .ge 9, 3) := by decide +kernel
theorem dX5_drown_13 : decode cX5_drown 13 = .ok (.aload_n 0, 1) := by decide +kernel
theorem dX5_drown_14 : decode cX5_drown 14 = .ok (.iconst (-1), 1) := by decide +kernel
theorem dX5_drown_15 : decode cX5_drown 15 = .ok (.invokevirtual 65, 3) := by decide +kernel
theorem dX5_drown_18 : decode cX5_drown 18 = .ok (.ireturn, 1) := by decide +kernel
theorem dX5_drown_19 : decode cX5_drown 19 = .ok (.aload_n 0, 1) := by decide +kernel
theorem dX5_drown_20 : decode cX5_drown 20 = .ok (.getfield 19, 3) := by decide +kernel
theorem dX5_drown_23 : decode cX5_drown 23 = .ok (.iload_n 2, 1) := by decide +kernel
theorem dX5_drown_24 : decode cX5_drown 24 = .ok (.invokevirtual 90, 3) := by decide +kernel
theorem dX5_drown_27 : decode cX5_drown 27 = .ok (.istore_n 3, 1) := by decide +kernel
theorem dX5_drown_28 : decode cX5_drown 28 = .ok (.iload_n 3, 1) := by decide +kernel
theorem dX5_drown_29 : decode cX5_drown 29 = .ok (.ifCond .ne 10, 3) := by decide +kernel
theorem dX5_drown_32 : decode cX5_drown 32 = .ok (.aload_n 0, 1) := by decide +kernel
theorem dX5_drown_33 : decode cX5_drown 33 = .ok (.bipush (-3), 2) := by decide +kernel
theorem dX5_drown_35 : decode cX5_drown 35 = .ok (.invokevirtual 65, 3) := by decide +kernel
theorem dX5_drown_38 : decode cX5_drown 38 = .ok (.ireturn, 1) := by decide +kernel
theorem dX5_drown_39 : decode cX5_drown 39 = .ok (.aload_n 0, 1) := by decide +kernel
theorem dX5_drown_40 : decode cX5_drown 40 = .ok (.getfield 19, 3) := by decide +kernel
theorem dX5_drown_43 : decode cX5_drown 43 = .ok (.iload_n 2, 1) := by decide +kernel
theorem dX5_drown_44 : decode cX5_drown 44 = .ok (.iconst 0, 1) := by decide +kernel
theorem dX5_drown_45 : decode cX5_drown 45 = .ok (.invokevirtual 205, 3) := by decide +kernel
theorem dX5_drown_48 : decode cX5_drown 48 = .ok (.iload_n 3, 1) := by decide +kernel
theorem dX5_drown_49 : decode cX5_drown 49 = .ok (.ireturn, 1) := by decide +kernel
theorem dX5_image_0 : decode cX5_image 0 = .ok (.aload_n 0, 1) := by decide +kernel
theorem dX5_image_1 : decode cX5_image 1 = .ok (.getfield 23, 3) := by decide +kernel
theorem dX5_image_4 : decode cX5_image 4 = .ok (.aload_n 0, 1) := by decide +kernel
theorem dX5_image_5 : decode cX5_image 5 = .ok (.getfield 19, 3) := by decide +kernel
theorem dX5_image_8 : decode cX5_image 8 = .ok (.invokevirtual 212, 3) := by decide +kernel
theorem dX5_image_11 : decode cX5_image 11 = .ok (.aload_n 0, 1) := by decide +kernel
theorem dX5_image_12 : decode cX5_image 12 = .ok (.iconst 1, 1) := by decide +kernel
theorem dX5_image_13 : decode cX5_image 13 = .ok (.putfield 61, 3) := by decide +kernel
theorem dX5_image_16 : decode cX5_image 16 = .ok (.aload_n 0, 1) := by decide +kernel
theorem dX5_image_17 : decode cX5_image 17 = .ok (.getfield 23, 3) := by decide +kernel
theorem dX5_image_20 : decode cX5_image 20 = .ok (.invokevirtual 84, 3) := by decide +kernel
theorem dX5_image_23 : decode cX5_image 23 = .ok (.ireturn, 1) := by decide +kernel
theorem dX5_on_0 : decode cX5_on 0 = .ok (.aload_n 0, 1) := by decide +kernel
theorem dX5_on_1 : decode cX5_on 1 = .ok (.getfield 61, 3) := by decide +kernel
theorem dX5_on_4 : decode cX5_on 4 = .ok (.ifCond .ne 10, 3) := by decide +kernel
theorem dX5_on_7 : decode cX5_on 7 = .ok (.aload_n 0, 1) := by decide +kernel
theorem dX5_on_8 : decode cX5_on 8 = .ok (.bipush (-3), 2) := by decide +kernel
theorem dX5_on_10 : decode cX5_on 10 = .ok (.invokevirtual 65, 3) := by decide +kernel
theorem dX5_on_13 : decode cX5_on 13 = .ok (.ireturn, 1) := by decide +kernel
theorem dX5_on_14 : decode cX5_on 14 = .ok (.aload_n 0, 1) := by decide +kernel
theorem dX5_on_15 : decode cX5_on 15 = .ok (.getfield 19, 3) := by decide +kernel
theorem dX5_on_18 : decode cX5_on 18 = .ok (.aload_n 0, 1) := by decide +kernel
theorem dX5_on_19 : decode cX5_on 19 = .ok (.getfield 23, 3) := by decide +kernel
theorem dX5_on_22 : decode cX5_on 22 = .ok (.invokevirtual 212, 3) := by decide +kernel
theorem dX5_on_25 : decode cX5_on 25 = .ok (.aload_n 0, 1) := by decide +kernel
theorem dX5_on_26 : decode cX5_on 26 = .ok (.getfield 19, 3) := by decide +kernel
theorem dX5_on_29 : decode cX5_on 29 = .ok (.invokevirtual 84, 3) := by decide +kernel
theorem dX5_on_32 : decode cX5_on 32 = .ok (.ireturn, 1) := by decide +kernel
theorem dX5_count_0 : decode cX5_count 0 = .ok (.iload_n 1, 1) := by decide +kernel
theorem dX5_count_1 : decode cX5_count 1 = .ok (.tableswitch 84 0 5 #[39, 47, 55, 63, 71, 79], 39) := by decide +kernel
theorem dX5_count_40 : decode cX5_count 40 = .ok (.aload_n 0, 1) := by decide +kernel
theorem dX5_count_41 : decode cX5_count 41 = .ok (.getfield 19, 3) := by decide +kernel
theorem dX5_count_44 : decode cX5_count 44 = .ok (.getfield 215, 3) := by decide +kernel
theorem dX5_count_47 : decode cX5_count 47 = .ok (.ireturn, 1) := by decide +kernel
theorem dX5_count_48 : decode cX5_count 48 = .ok (.aload_n 0, 1) := by decide +kernel
theorem dX5_count_49 : decode cX5_count 49 = .ok (.getfield 19, 3) := by decide +kernel
theorem dX5_count_52 : decode cX5_count 52 = .ok (.getfield 218, 3) := by decide +kernel
theorem dX5_count_55 : decode cX5_count 55 = .ok (.ireturn, 1) := by decide +kernel
theorem dX5_count_56 : decode cX5_count 56 = .ok (.aload_n 0, 1) := by decide +kernel
theorem dX5_count_57 : decode cX5_count 57 = .ok (.getfield 19, 3) := by decide +kernel
theorem dX5_count_60 : decode cX5_count 60 = .ok (.invokevirtual 221, 3) := by decide +kernel
theorem dX5_count_63 : decode cX5_count 63 = .ok (.ireturn, 1) := by decide +kernel
theorem dX5_count_64 : decode cX5_count 64 = .ok (.aload_n 0, 1) := by decide +kernel
theorem dX5_count_65 : decode cX5_count 65 = .ok (.getfield 19, 3) := by decide +kernel
theorem dX5_count_68 : decode cX5_count 68 = .ok (.getfield 172, 3) := by decide +kernel
theorem dX5_count_71 : decode cX5_count 71 = .ok (.ireturn, 1) := by decide +kernel
theorem dX5_count_72 : decode cX5_count 72 = .ok (.aload_n 0, 1) := by decide +kernel
theorem dX5_count_73 : decode cX5_count 73 = .ok (.getfield 10, 3) := by decide +kernel
theorem dX5_count_76 : decode cX5_count 76 = .ok (.getfield 69, 3) := by decide +kernel
theorem dX5_count_79 : decode cX5_count 79 = .ok (.ireturn, 1) := by decide +kernel
theorem dX5_count_80 : decode cX5_count 80 = .ok (.aload_n 0, 1) := by decide +kernel
theorem dX5_count_81 : decode cX5_count 81 = .ok (.getfield 57, 3) := by decide +kernel
theorem dX5_count_84 : decode cX5_count 84 = .ok (.ireturn, 1) := by decide +kernel
theorem dX5_count_85 : decode cX5_count 85 = .ok (.iload_n 1, 1) := by decide +kernel
theorem dX5_count_86 : decode cX5_count 86 = .ok (.bipush 10, 2) := by decide +kernel
theorem dX5_count_88 : decode cX5_count 88 = .ok (.if_icmp .le 21, 3) := by decide +kernel
theorem dX5_count_91 : decode cX5_count 91 = .ok (.iload_n 1, 1) := by decide +kernel
theorem dX5_count_92 : decode cX5_count 92 = .ok (.bipush 16, 2) := by decide +kernel
theorem dX5_count_94 : decode cX5_count 94 = .ok (.if_icmp .gt 15, 3) := by decide +kernel
theorem dX5_count_97 : decode cX5_count 97 = .ok (.aload_n 0, 1) := by decide +kernel
theorem dX5_count_98 : decode cX5_count 98 = .ok (.getfield 54, 3) := by decide +kernel
theorem dX5_count_101 : decode cX5_count 101 = .ok (.iload_n 1, 1) := by decide +kernel
theorem dX5_count_102 : decode cX5_count 102 = .ok (.bipush 10, 2) := by decide +kernel
theorem dX5_count_104 : decode cX5_count 104 = .ok (.isub, 1) := by decide +kernel
theorem dX5_count_105 : decode cX5_count 105 = .ok (.iaload, 1) := by decide +kernel
theorem dX5_count_106 : decode cX5_count 106 = .ok (.goto 5, 3) := by decide +kernel
theorem dX5_count_109 : decode cX5_count 109 = .ok (.bipush (-9), 2) := by decide +kernel
theorem dX5_count_111 : decode cX5_count 111 = .ok (.ireturn, 1) := by decide +kernel
theorem dX5_refuse_0 : decode cX5_refuse 0 = .ok (.iload_n 1, 1) := by decide +kernel
theorem dX5_refuse_1 : decode cX5_refuse 1 = .ok (.ineg, 1) := by decide +kernel
theorem dX5_refuse_2 : decode cX5_refuse 2 = .ok (.istore_n 2, 1) := by decide +kernel
theorem dX5_refuse_3 : decode cX5_refuse 3 = .ok (.iload_n 2, 1) := by decide +kernel
theorem dX5_refuse_4 : decode cX5_refuse 4 = .ok (.ifCond .le 22, 3) := by decide +kernel
theorem dX5_refuse_7 : decode cX5_refuse 7 = .ok (.iload_n 2, 1) := by decide +kernel
theorem dX5_refuse_8 : decode cX5_refuse 8 = .ok (.aload_n 0, 1) := by decide +kernel
theorem dX5_refuse_9 : decode cX5_refuse 9 = .ok (.getfield 54, 3) := by decide +kernel
theorem dX5_refuse_12 : decode cX5_refuse 12 = .ok (.arraylength, 1) := by decide +kernel
theorem dX5_refuse_13 : decode cX5_refuse 13 = .ok (.if_icmp .ge 13, 3) := by decide +kernel
theorem dX5_refuse_16 : decode cX5_refuse 16 = .ok (.aload_n 0, 1) := by decide +kernel
theorem dX5_refuse_17 : decode cX5_refuse 17 = .ok (.getfield 54, 3) := by decide +kernel
theorem dX5_refuse_20 : decode cX5_refuse 20 = .ok (.iload_n 2, 1) := by decide +kernel
theorem dX5_refuse_21 : decode cX5_refuse 21 = .ok (.dup2, 1) := by decide +kernel
theorem dX5_refuse_22 : decode cX5_refuse 22 = .ok (.iaload, 1) := by decide +kernel
theorem dX5_refuse_23 : decode cX5_refuse 23 = .ok (.iconst 1, 1) := by decide +kernel
theorem dX5_refuse_24 : decode cX5_refuse 24 = .ok (.iadd, 1) := by decide +kernel
theorem dX5_refuse_25 : decode cX5_refuse 25 = .ok (.iastore, 1) := by decide +kernel
theorem dX5_refuse_26 : decode cX5_refuse 26 = .ok (.iload_n 1, 1) := by decide +kernel
theorem dX5_refuse_27 : decode cX5_refuse 27 = .ok (.ireturn, 1) := by decide +kernel
theorem dX5_layBasesAsItIs_0 : decode cX5_layBasesAsItIs 0 = .ok (.aload_n 0, 1) := by decide +kernel
theorem dX5_layBasesAsItIs_1 : decode cX5_layBasesAsItIs 1 = .ok (.getfield 36, 3) := by decide +kernel
theorem dX5_layBasesAsItIs_4 : decode cX5_layBasesAsItIs 4 = .ok (.aload_n 0, 1) := by decide +kernel
theorem dX5_layBasesAsItIs_5 : decode cX5_layBasesAsItIs 5 = .ok (.getfield 19, 3) := by decide +kernel
theorem dX5_layBasesAsItIs_8 : decode cX5_layBasesAsItIs 8 = .ok (.aload_n 0, 1) := by decide +kernel
theorem dX5_layBasesAsItIs_9 : decode cX5_layBasesAsItIs 9 = .ok (.getfield 19, 3) := by decide +kernel
theorem dX5_layBasesAsItIs_12 : decode cX5_layBasesAsItIs 12 = .ok (.getfield 100, 3) := by decide +kernel
theorem dX5_layBasesAsItIs_15 : decode cX5_layBasesAsItIs 15 = .ok (.getfield 224, 3) := by decide +kernel
theorem dX5_layBasesAsItIs_18 : decode cX5_layBasesAsItIs 18 = .ok (.invokevirtual 227, 3) := by decide +kernel
theorem dX5_layBasesAsItIs_21 : decode cX5_layBasesAsItIs 21 = .ok (.aload_n 0, 1) := by decide +kernel
theorem dX5_layBasesAsItIs_22 : decode cX5_layBasesAsItIs 22 = .ok (.getfield 36, 3) := by decide +kernel
theorem dX5_layBasesAsItIs_25 : decode cX5_layBasesAsItIs 25 = .ok (.aload_n 0, 1) := by decide +kernel
theorem dX5_layBasesAsItIs_26 : decode cX5_layBasesAsItIs 26 = .ok (.getfield 19, 3) := by decide +kernel
theorem dX5_layBasesAsItIs_29 : decode cX5_layBasesAsItIs 29 = .ok (.aload_n 0, 1) := by decide +kernel
theorem dX5_layBasesAsItIs_30 : decode cX5_layBasesAsItIs 30 = .ok (.getfield 19, 3) := by decide +kernel
theorem dX5_layBasesAsItIs_33 : decode cX5_layBasesAsItIs 33 = .ok (.getfield 100, 3) := by decide +kernel
theorem dX5_layBasesAsItIs_36 : decode cX5_layBasesAsItIs 36 = .ok (.getfield 231, 3) := by decide +kernel
theorem dX5_layBasesAsItIs_39 : decode cX5_layBasesAsItIs 39 = .ok (.invokevirtual 234, 3) := by decide +kernel
theorem dX5_layBasesAsItIs_42 : decode cX5_layBasesAsItIs 42 = .ok (.return_, 1) := by decide +kernel
theorem dX5_drawAsItIs_0 : decode cX5_drawAsItIs 0 = .ok (.aload_n 0, 1) := by decide +kernel
theorem dX5_drawAsItIs_1 : decode cX5_drawAsItIs 1 = .ok (.getfield 36, 3) := by decide +kernel
theorem dX5_drawAsItIs_4 : decode cX5_drawAsItIs 4 = .ok (.aload_n 0, 1) := by decide +kernel
theorem dX5_drawAsItIs_5 : decode cX5_drawAsItIs 5 = .ok (.getfield 19, 3) := by decide +kernel
theorem dX5_drawAsItIs_8 : decode cX5_drawAsItIs 8 = .ok (.aload_n 0, 1) := by decide +kernel
theorem dX5_drawAsItIs_9 : decode cX5_drawAsItIs 9 = .ok (.getfield 19, 3) := by decide +kernel
theorem dX5_drawAsItIs_12 : decode cX5_drawAsItIs 12 = .ok (.getfield 100, 3) := by decide +kernel
theorem dX5_drawAsItIs_15 : decode cX5_drawAsItIs 15 = .ok (.invokevirtual 198, 3) := by decide +kernel
theorem dX5_drawAsItIs_18 : decode cX5_drawAsItIs 18 = .ok (.return_, 1) := by decide +kernel
theorem dX5_fairness_0 : decode cX5_fairness 0 = .ok (.aload_n 0, 1) := by decide +kernel
theorem dX5_fairness_1 : decode cX5_fairness 1 = .ok (.getfield 36, 3) := by decide +kernel
theorem dX5_fairness_4 : decode cX5_fairness 4 = .ok (.iconst 0, 1) := by decide +kernel
theorem dX5_fairness_5 : decode cX5_fairness 5 = .ok (.invokevirtual 142, 3) := by decide +kernel
theorem dX5_fairness_8 : decode cX5_fairness 8 = .ok (.aload_n 0, 1) := by decide +kernel
theorem dX5_fairness_9 : decode cX5_fairness 9 = .ok (.getfield 19, 3) := by decide +kernel
theorem dX5_fairness_12 : decode cX5_fairness 12 = .ok (.iconst 1, 1) := by decide +kernel
theorem dX5_fairness_13 : decode cX5_fairness 13 = .ok (.invokevirtual 145, 3) := by decide +kernel
theorem dX5_fairness_16 : decode cX5_fairness 16 = .ok (.imul, 1) := by decide +kernel
theorem dX5_fairness_17 : decode cX5_fairness 17 = .ok (.aload_n 0, 1) := by decide +kernel
theorem dX5_fairness_18 : decode cX5_fairness 18 = .ok (.getfield 36, 3) := by decide +kernel
theorem dX5_fairness_21 : decode cX5_fairness 21 = .ok (.iconst 1, 1) := by decide +kernel
theorem dX5_fairness_22 : decode cX5_fairness 22 = .ok (.invokevirtual 142, 3) := by decide +kernel
theorem dX5_fairness_25 : decode cX5_fairness 25 = .ok (.aload_n 0, 1) := by decide +kernel
theorem dX5_fairness_26 : decode cX5_fairness 26 = .ok (.getfield 19, 3) := by decide +kernel
theorem dX5_fairness_29 : decode cX5_fairness 29 = .ok (.iconst 0, 1) := by decide +kernel
theorem dX5_fairness_30 : decode cX5_fairness 30 = .ok (.invokevirtual 145, 3) := by decide +kernel
theorem dX5_fairness_33 : decode cX5_fairness 33 = .ok (.imul, 1) := by decide +kernel
theorem dX5_fairness_34 : decode cX5_fairness 34 = .ok (.isub, 1) := by decide +kernel
theorem dX5_fairness_35 : decode cX5_fairness 35 = .ok (.ireturn, 1) := by decide +kernel
theorem dX5_isFairWith_0 : decode cX5_isFairWith 0 = .ok (.aload_n 0, 1) := by decide +kernel
theorem dX5_isFairWith_1 : decode cX5_isFairWith 1 = .ok (.getfield 36, 3) := by decide +kernel
theorem dX5_isFairWith_4 : decode cX5_isFairWith 4 = .ok (.aload_n 0, 1) := by decide +kernel
theorem dX5_isFairWith_5 : decode cX5_isFairWith 5 = .ok (.getfield 19, 3) := by decide +kernel
theorem dX5_isFairWith_8 : decode cX5_isFairWith 8 = .ok (.aload_n 0, 1) := by decide +kernel
theorem dX5_isFairWith_9 : decode cX5_isFairWith 9 = .ok (.getfield 19, 3) := by decide +kernel
theorem dX5_isFairWith_12 : decode cX5_isFairWith 12 = .ok (.getfield 100, 3) := by decide +kernel
theorem dX5_isFairWith_15 : decode cX5_isFairWith 15 = .ok (.getfield 237, 3) := by decide +kernel
theorem dX5_isFairWith_18 : decode cX5_isFairWith 18 = .ok (.iload_n 1, 1) := by decide +kernel
theorem dX5_isFairWith_19 : decode cX5_isFairWith 19 = .ok (.invokevirtual 240, 3) := by decide +kernel
theorem dX5_isFairWith_22 : decode cX5_isFairWith 22 = .ok (.aload_n 0, 1) := by decide +kernel
theorem dX5_isFairWith_23 : decode cX5_isFairWith 23 = .ok (.invokevirtual 148, 3) := by decide +kernel
theorem dX5_isFairWith_26 : decode cX5_isFairWith 26 = .ok (.invokestatic 244, 3) := by decide +kernel
theorem dX5_isFairWith_29 : decode cX5_isFairWith 29 = .ok (.iload_n 2, 1) := by decide +kernel
theorem dX5_isFairWith_30 : decode cX5_isFairWith 30 = .ok (.if_icmp .gt 7, 3) := by decide +kernel
theorem dX5_isFairWith_33 : decode cX5_isFairWith 33 = .ok (.iconst 1, 1) := by decide +kernel
theorem dX5_isFairWith_34 : decode cX5_isFairWith 34 = .ok (.goto 4, 3) := by decide +kernel
theorem dX5_isFairWith_37 : decode cX5_isFairWith 37 = .ok (.iconst 0, 1) := by decide +kernel
theorem dX5_isFairWith_38 : decode cX5_isFairWith 38 = .ok (.ireturn, 1) := by decide +kernel
theorem dX5_movedWithout_0 : decode cX5_movedWithout 0 = .ok (.aload_n 0, 1) := by decide +kernel
theorem dX5_movedWithout_1 : decode cX5_movedWithout 1 = .ok (.getfield 19, 3) := by decide +kernel
theorem dX5_movedWithout_4 : decode cX5_movedWithout 4 = .ok (.iload_n 1, 1) := by decide +kernel
theorem dX5_movedWithout_5 : decode cX5_movedWithout 5 = .ok (.invokevirtual 90, 3) := by decide +kernel
theorem dX5_movedWithout_8 : decode cX5_movedWithout 8 = .ok (.istore_n 2, 1) := by decide +kernel
theorem dX5_movedWithout_9 : decode cX5_movedWithout 9 = .ok (.aload_n 0, 1) := by decide +kernel
theorem dX5_movedWithout_10 : decode cX5_movedWithout 10 = .ok (.getfield 19, 3) := by decide +kernel
theorem dX5_movedWithout_13 : decode cX5_movedWithout 13 = .ok (.iload_n 1, 1) := by decide +kernel
theorem dX5_movedWithout_14 : decode cX5_movedWithout 14 = .ok (.iconst 0, 1) := by decide +kernel
theorem dX5_movedWithout_15 : decode cX5_movedWithout 15 = .ok (.invokevirtual 205, 3) := by decide +kernel
theorem dX5_movedWithout_18 : decode cX5_movedWithout 18 = .ok (.aload_n 0, 1) := by decide +kernel
theorem dX5_movedWithout_19 : decode cX5_movedWithout 19 = .ok (.getfield 40, 3) := by decide +kernel
theorem dX5_movedWithout_22 : decode cX5_movedWithout 22 = .ok (.aload_n 0, 1) := by decide +kernel
theorem dX5_movedWithout_23 : decode cX5_movedWithout 23 = .ok (.getfield 19, 3) := by decide +kernel
theorem dX5_movedWithout_26 : decode cX5_movedWithout 26 = .ok (.aload_n 0, 1) := by decide +kernel
theorem dX5_movedWithout_27 : decode cX5_movedWithout 27 = .ok (.getfield 19, 3) := by decide +kernel
theorem dX5_movedWithout_30 : decode cX5_movedWithout 30 = .ok (.getfield 100, 3) := by decide +kernel
theorem dX5_movedWithout_33 : decode cX5_movedWithout 33 = .ok (.invokevirtual 198, 3) := by decide +kernel
theorem dX5_movedWithout_36 : decode cX5_movedWithout 36 = .ok (.aload_n 0, 1) := by decide +kernel
theorem dX5_movedWithout_37 : decode cX5_movedWithout 37 = .ok (.getfield 19, 3) := by decide +kernel
theorem dX5_movedWithout_40 : decode cX5_movedWithout 40 = .ok (.iload_n 1, 1) := by decide +kernel
theorem dX5_movedWithout_41 : decode cX5_movedWithout 41 = .ok (.iload_n 2, 1) := by decide +kernel
theorem dX5_movedWithout_42 : decode cX5_movedWithout 42 = .ok (.invokevirtual 205, 3) := by decide +kernel
theorem dX5_movedWithout_45 : decode cX5_movedWithout 45 = .ok (.aload_n 0, 1) := by decide +kernel
theorem dX5_movedWithout_46 : decode cX5_movedWithout 46 = .ok (.getfield 36, 3) := by decide +kernel
theorem dX5_movedWithout_49 : decode cX5_movedWithout 49 = .ok (.aload_n 0, 1) := by decide +kernel
theorem dX5_movedWithout_50 : decode cX5_movedWithout 50 = .ok (.getfield 40, 3) := by decide +kernel
theorem dX5_movedWithout_53 : decode cX5_movedWithout 53 = .ok (.iload_n 1, 1) := by decide +kernel
theorem dX5_movedWithout_54 : decode cX5_movedWithout 54 = .ok (.invokevirtual 249, 3) := by decide +kernel
theorem dX5_movedWithout_57 : decode cX5_movedWithout 57 = .ok (.ireturn, 1) := by decide +kernel
theorem dX5_bestOption_0 : decode cX5_bestOption 0 = .ok (.iconst 0, 1) := by decide +kernel
theorem dX5_bestOption_1 : decode cX5_bestOption 1 = .ok (.istore_n 2, 1) := by decide +kernel
theorem dX5_bestOption_2 : decode cX5_bestOption 2 = .ok (.iconst (-1), 1) := by decide +kernel
theorem dX5_bestOption_3 : decode cX5_bestOption 3 = .ok (.istore_n 3, 1) := by decide +kernel
theorem dX5_bestOption_4 : decode cX5_bestOption 4 = .ok (.iconst (-1), 1) := by decide +kernel
theorem dX5_bestOption_5 : decode cX5_bestOption 5 = .ok (.istore 4, 2) := by decide +kernel
theorem dX5_bestOption_7 : decode cX5_bestOption 7 = .ok (.iconst 0, 1) := by decide +kernel
theorem dX5_bestOption_8 : decode cX5_bestOption 8 = .ok (.istore 5, 2) := by decide +kernel
theorem dX5_bestOption_10 : decode cX5_bestOption 10 = .ok (.iload 5, 2) := by decide +kernel
theorem dX5_bestOption_12 : decode cX5_bestOption 12 = .ok (.bipush 12, 2) := by decide +kernel
theorem dX5_bestOption_14 : decode cX5_bestOption 14 = .ok (.if_icmp .ge 93, 3) := by decide +kernel
theorem dX5_bestOption_17 : decode cX5_bestOption 17 = .ok (.aload_n 0, 1) := by decide +kernel
theorem dX5_bestOption_18 : decode cX5_bestOption 18 = .ok (.getfield 29, 3) := by decide +kernel
theorem dX5_bestOption_21 : decode cX5_bestOption 21 = .ok (.aload_n 0, 1) := by decide +kernel
theorem dX5_bestOption_22 : decode cX5_bestOption 22 = .ok (.getfield 19, 3) := by decide +kernel
theorem dX5_bestOption_25 : decode cX5_bestOption 25 = .ok (.getfield 100, 3) := by decide +kernel
theorem dX5_bestOption_28 : decode cX5_bestOption 28 = .ok (.iload 5, 2) := by decide +kernel
theorem dX5_bestOption_30 : decode cX5_bestOption 30 = .ok (.invokevirtual 194, 3) := by decide +kernel
theorem dX5_bestOption_33 : decode cX5_bestOption 33 = .ok (.aload_n 0, 1) := by decide +kernel
theorem dX5_bestOption_34 : decode cX5_bestOption 34 = .ok (.getfield 36, 3) := by decide +kernel
theorem dX5_bestOption_37 : decode cX5_bestOption 37 = .ok (.aload_n 0, 1) := by decide +kernel
theorem dX5_bestOption_38 : decode cX5_bestOption 38 = .ok (.getfield 19, 3) := by decide +kernel
theorem dX5_bestOption_41 : decode cX5_bestOption 41 = .ok (.aload_n 0, 1) := by decide +kernel
theorem dX5_bestOption_42 : decode cX5_bestOption 42 = .ok (.getfield 29, 3) := by decide +kernel
theorem dX5_bestOption_45 : decode cX5_bestOption 45 = .ok (.invokevirtual 198, 3) := by decide +kernel
theorem dX5_bestOption_48 : decode cX5_bestOption 48 = .ok (.aload_n 0, 1) := by decide +kernel
theorem dX5_bestOption_49 : decode cX5_bestOption 49 = .ok (.getfield 19, 3) := by decide +kernel
theorem dX5_bestOption_52 : decode cX5_bestOption 52 = .ok (.iload_n 1, 1) := by decide +kernel
theorem dX5_bestOption_53 : decode cX5_bestOption 53 = .ok (.aload_n 0, 1) := by decide +kernel
theorem dX5_bestOption_54 : decode cX5_bestOption 54 = .ok (.getfield 36, 3) := by decide +kernel
theorem dX5_bestOption_57 : decode cX5_bestOption 57 = .ok (.invokevirtual 178, 3) := by decide +kernel
theorem dX5_bestOption_60 : decode cX5_bestOption 60 = .ok (.istore 6, 2) := by decide +kernel
theorem dX5_bestOption_62 : decode cX5_bestOption 62 = .ok (.aload_n 0, 1) := by decide +kernel
theorem dX5_bestOption_63 : decode cX5_bestOption 63 = .ok (.getfield 36, 3) := by decide +kernel
theorem dX5_bestOption_66 : decode cX5_bestOption 66 = .ok (.iload_n 1, 1) := by decide +kernel
theorem dX5_bestOption_67 : decode cX5_bestOption 67 = .ok (.invokevirtual 142, 3) := by decide +kernel
theorem dX5_bestOption_70 : decode cX5_bestOption 70 = .ok (.istore 7, 2) := by decide +kernel
theorem dX5_bestOption_72 : decode cX5_bestOption 72 = .ok (.iload 6, 2) := by decide +kernel
theorem dX5_bestOption_74 : decode cX5_bestOption 74 = .ok (.iload_n 3, 1) := by decide +kernel
theorem dX5_bestOption_75 : decode cX5_bestOption 75 = .ok (.if_icmp .gt 16, 3) := by decide +kernel
theorem dX5_bestOption_78 : decode cX5_bestOption 78 = .ok (.iload 6, 2) := by decide +kernel
theorem dX5_bestOption_80 : decode cX5_bestOption 80 = .ok (.iload_n 3, 1) := by decide +kernel
theorem dX5_bestOption_81 : decode cX5_bestOption 81 = .ok (.if_icmp .ne 20, 3) := by decide +kernel
theorem dX5_bestOption_84 : decode cX5_bestOption 84 = .ok (.iload 7, 2) := by decide +kernel
theorem dX5_bestOption_86 : decode cX5_bestOption 86 = .ok (.iload 4, 2) := by decide +kernel
theorem dX5_bestOption_88 : decode cX5_bestOption 88 = .ok (.if_icmp .le 13, 3) := by decide +kernel
theorem dX5_bestOption_91 : decode cX5_bestOption 91 = .ok (.iload 5, 2) := by decide +kernel
theorem dX5_bestOption_93 : decode cX5_bestOption 93 = .ok (.istore_n 2, 1) := by decide +kernel
theorem dX5_bestOption_94 : decode cX5_bestOption 94 = .ok (.iload 6, 2) := by decide +kernel
theorem dX5_bestOption_96 : decode cX5_bestOption 96 = .ok (.istore_n 3, 1) := by decide +kernel
theorem dX5_bestOption_97 : decode cX5_bestOption 97 = .ok (.iload 7, 2) := by decide +kernel
theorem dX5_bestOption_99 : decode cX5_bestOption 99 = .ok (.istore 4, 2) := by decide +kernel
theorem dX5_bestOption_101 : decode cX5_bestOption 101 = .ok (.iinc 5 1, 3) := by decide +kernel
theorem dX5_bestOption_104 : decode cX5_bestOption 104 = .ok (.goto (-94), 3) := by decide +kernel
theorem dX5_bestOption_107 : decode cX5_bestOption 107 = .ok (.iload_n 2, 1) := by decide +kernel
theorem dX5_bestOption_108 : decode cX5_bestOption 108 = .ok (.ireturn, 1) := by decide +kernel
theorem dX5_drawClaims_0 : decode cX5_drawClaims 0 = .ok (.aload_n 0, 1) := by decide +kernel
theorem dX5_drawClaims_1 : decode cX5_drawClaims 1 = .ok (.iconst 0, 1) := by decide +kernel
theorem dX5_drawClaims_2 : decode cX5_drawClaims 2 = .ok (.invokevirtual 182, 3) := by decide +kernel
theorem dX5_drawClaims_5 : decode cX5_drawClaims 5 = .ok (.istore_n 1, 1) := by decide +kernel
theorem dX5_drawClaims_6 : decode cX5_drawClaims 6 = .ok (.aload_n 0, 1) := by decide +kernel
theorem dX5_drawClaims_7 : decode cX5_drawClaims 7 = .ok (.iconst 1, 1) := by decide +kernel
theorem dX5_drawClaims_8 : decode cX5_drawClaims 8 = .ok (.invokevirtual 182, 3) := by decide +kernel
theorem dX5_drawClaims_11 : decode cX5_drawClaims 11 = .ok (.istore_n 2, 1) := by decide +kernel
theorem dX5_drawClaims_12 : decode cX5_drawClaims 12 = .ok (.aload_n 0, 1) := by decide +kernel
theorem dX5_drawClaims_13 : decode cX5_drawClaims 13 = .ok (.getfield 29, 3) := by decide +kernel
theorem dX5_drawClaims_16 : decode cX5_drawClaims 16 = .ok (.aload_n 0, 1) := by decide +kernel
theorem dX5_drawClaims_17 : decode cX5_drawClaims 17 = .ok (.getfield 19, 3) := by decide +kernel
theorem dX5_drawClaims_20 : decode cX5_drawClaims 20 = .ok (.getfield 100, 3) := by decide +kernel
theorem dX5_drawClaims_23 : decode cX5_drawClaims 23 = .ok (.iload_n 1, 1) := by decide +kernel
theorem dX5_drawClaims_24 : decode cX5_drawClaims 24 = .ok (.invokevirtual 194, 3) := by decide +kernel
theorem dX5_drawClaims_27 : decode cX5_drawClaims 27 = .ok (.aload_n 0, 1) := by decide +kernel
theorem dX5_drawClaims_28 : decode cX5_drawClaims 28 = .ok (.getfield 36, 3) := by decide +kernel
theorem dX5_drawClaims_31 : decode cX5_drawClaims 31 = .ok (.aload_n 0, 1) := by decide +kernel
theorem dX5_drawClaims_32 : decode cX5_drawClaims 32 = .ok (.getfield 19, 3) := by decide +kernel
theorem dX5_drawClaims_35 : decode cX5_drawClaims 35 = .ok (.aload_n 0, 1) := by decide +kernel
theorem dX5_drawClaims_36 : decode cX5_drawClaims 36 = .ok (.getfield 29, 3) := by decide +kernel
theorem dX5_drawClaims_39 : decode cX5_drawClaims 39 = .ok (.invokevirtual 198, 3) := by decide +kernel
theorem dX5_drawClaims_42 : decode cX5_drawClaims 42 = .ok (.aload_n 0, 1) := by decide +kernel
theorem dX5_drawClaims_43 : decode cX5_drawClaims 43 = .ok (.getfield 29, 3) := by decide +kernel
theorem dX5_drawClaims_46 : decode cX5_drawClaims 46 = .ok (.aload_n 0, 1) := by decide +kernel
theorem dX5_drawClaims_47 : decode cX5_drawClaims 47 = .ok (.getfield 19, 3) := by decide +kernel
theorem dX5_drawClaims_50 : decode cX5_drawClaims 50 = .ok (.getfield 100, 3) := by decide +kernel
theorem dX5_drawClaims_53 : decode cX5_drawClaims 53 = .ok (.iload_n 2, 1) := by decide +kernel
theorem dX5_drawClaims_54 : decode cX5_drawClaims 54 = .ok (.invokevirtual 194, 3) := by decide +kernel
theorem dX5_drawClaims_57 : decode cX5_drawClaims 57 = .ok (.aload_n 0, 1) := by decide +kernel
theorem dX5_drawClaims_58 : decode cX5_drawClaims 58 = .ok (.getfield 40, 3) := by decide +kernel
theorem dX5_drawClaims_61 : decode cX5_drawClaims 61 = .ok (.aload_n 0, 1) := by decide +kernel
theorem dX5_drawClaims_62 : decode cX5_drawClaims 62 = .ok (.getfield 19, 3) := by decide +kernel
theorem dX5_drawClaims_65 : decode cX5_drawClaims 65 = .ok (.aload_n 0, 1) := by decide +kernel
theorem dX5_drawClaims_66 : decode cX5_drawClaims 66 = .ok (.getfield 29, 3) := by decide +kernel
theorem dX5_drawClaims_69 : decode cX5_drawClaims 69 = .ok (.invokevirtual 198, 3) := by decide +kernel
theorem dX5_drawClaims_72 : decode cX5_drawClaims 72 = .ok (.return_, 1) := by decide +kernel
theorem dX5_claimOn_0 : decode cX5_claimOn 0 = .ok (.aload_n 0, 1) := by decide +kernel
theorem dX5_claimOn_1 : decode cX5_claimOn 1 = .ok (.getfield 36, 3) := by decide +kernel
theorem dX5_claimOn_4 : decode cX5_claimOn 4 = .ok (.iload_n 1, 1) := by decide +kernel
theorem dX5_claimOn_5 : decode cX5_claimOn 5 = .ok (.invokevirtual 136, 3) := by decide +kernel
theorem dX5_claimOn_8 : decode cX5_claimOn 8 = .ok (.ifCond .ne 7, 3) := by decide +kernel
theorem dX5_claimOn_11 : decode cX5_claimOn 11 = .ok (.iconst 1, 1) := by decide +kernel
theorem dX5_claimOn_12 : decode cX5_claimOn 12 = .ok (.goto 4, 3) := by decide +kernel
theorem dX5_claimOn_15 : decode cX5_claimOn 15 = .ok (.iconst 0, 1) := by decide +kernel
theorem dX5_claimOn_16 : decode cX5_claimOn 16 = .ok (.istore_n 2, 1) := by decide +kernel
theorem dX5_claimOn_17 : decode cX5_claimOn 17 = .ok (.aload_n 0, 1) := by decide +kernel
theorem dX5_claimOn_18 : decode cX5_claimOn 18 = .ok (.getfield 40, 3) := by decide +kernel
theorem dX5_claimOn_21 : decode cX5_claimOn 21 = .ok (.iload_n 1, 1) := by decide +kernel
theorem dX5_claimOn_22 : decode cX5_claimOn 22 = .ok (.invokevirtual 136, 3) := by decide +kernel
theorem dX5_claimOn_25 : decode cX5_claimOn 25 = .ok (.iconst 1, 1) := by decide +kernel
theorem dX5_claimOn_26 : decode cX5_claimOn 26 = .ok (.if_icmp .ne 7, 3) := by decide +kernel
theorem dX5_claimOn_29 : decode cX5_claimOn 29 = .ok (.iconst 2, 1) := by decide +kernel
theorem dX5_claimOn_30 : decode cX5_claimOn 30 = .ok (.goto 4, 3) := by decide +kernel
theorem dX5_claimOn_33 : decode cX5_claimOn 33 = .ok (.iconst 0, 1) := by decide +kernel
theorem dX5_claimOn_34 : decode cX5_claimOn 34 = .ok (.istore_n 3, 1) := by decide +kernel
theorem dX5_claimOn_35 : decode cX5_claimOn 35 = .ok (.iload_n 2, 1) := by decide +kernel
theorem dX5_claimOn_36 : decode cX5_claimOn 36 = .ok (.iload_n 3, 1) := by decide +kernel
theorem dX5_claimOn_37 : decode cX5_claimOn 37 = .ok (.iadd, 1) := by decide +kernel
theorem dX5_claimOn_38 : decode cX5_claimOn 38 = .ok (.ireturn, 1) := by decide +kernel
theorem dX5_firstWrong_0 : decode cX5_firstWrong 0 = .ok (.iconst 0, 1) := by decide +kernel
theorem dX5_firstWrong_1 : decode cX5_firstWrong 1 = .ok (.istore_n 1, 1) := by decide +kernel
theorem dX5_firstWrong_2 : decode cX5_firstWrong 2 = .ok (.iconst 0, 1) := by decide +kernel
theorem dX5_firstWrong_3 : decode cX5_firstWrong 3 = .ok (.istore_n 2, 1) := by decide +kernel
theorem dX5_firstWrong_4 : decode cX5_firstWrong 4 = .ok (.iload_n 2, 1) := by decide +kernel
theorem dX5_firstWrong_5 : decode cX5_firstWrong 5 = .ok (.bipush 120, 2) := by decide +kernel
theorem dX5_firstWrong_7 : decode cX5_firstWrong 7 = .ok (.if_icmp .ge 75, 3) := by decide +kernel
theorem dX5_firstWrong_10 : decode cX5_firstWrong 10 = .ok (.aload_n 0, 1) := by decide +kernel
theorem dX5_firstWrong_11 : decode cX5_firstWrong 11 = .ok (.getfield 19, 3) := by decide +kernel
theorem dX5_firstWrong_14 : decode cX5_firstWrong 14 = .ok (.iload_n 2, 1) := by decide +kernel
theorem dX5_firstWrong_15 : decode cX5_firstWrong 15 = .ok (.invokevirtual 90, 3) := by decide +kernel
theorem dX5_firstWrong_18 : decode cX5_firstWrong 18 = .ok (.istore_n 3, 1) := by decide +kernel
theorem dX5_firstWrong_19 : decode cX5_firstWrong 19 = .ok (.iload_n 3, 1) := by decide +kernel
theorem dX5_firstWrong_20 : decode cX5_firstWrong 20 = .ok (.bipush 8, 2) := by decide +kernel
theorem dX5_firstWrong_22 : decode cX5_firstWrong 22 = .ok (.if_icmp .eq 54, 3) := by decide +kernel
theorem dX5_firstWrong_25 : decode cX5_firstWrong 25 = .ok (.iload_n 1, 1) := by decide +kernel
theorem dX5_firstWrong_26 : decode cX5_firstWrong 26 = .ok (.aload_n 0, 1) := by decide +kernel
theorem dX5_firstWrong_27 : decode cX5_firstWrong 27 = .ok (.getfield 57, 3) := by decide +kernel
theorem dX5_firstWrong_30 : decode cX5_firstWrong 30 = .ok (.if_icmp .ge 12, 3) := by decide +kernel
theorem dX5_firstWrong_33 : decode cX5_firstWrong 33 = .ok (.iload_n 1, 1) := by decide +kernel
theorem dX5_firstWrong_34 : decode cX5_firstWrong 34 = .ok (.aload_n 0, 1) := by decide +kernel
theorem dX5_firstWrong_35 : decode cX5_firstWrong 35 = .ok (.getfield 50, 3) := by decide +kernel
theorem dX5_firstWrong_38 : decode cX5_firstWrong 38 = .ok (.arraylength, 1) := by decide +kernel
theorem dX5_firstWrong_39 : decode cX5_firstWrong 39 = .ok (.if_icmp .lt 8, 3) := by decide +kernel
theorem dX5_firstWrong_42 : decode cX5_firstWrong 42 = .ok (.iload_n 2, 1) := by decide +kernel
theorem dX5_firstWrong_43 : decode cX5_firstWrong 43 = .ok (.invokestatic 130, 3) := by decide +kernel
theorem dX5_firstWrong_46 : decode cX5_firstWrong 46 = .ok (.ireturn, 1) := by decide +kernel
theorem dX5_firstWrong_47 : decode cX5_firstWrong 47 = .ok (.iload_n 3, 1) := by decide +kernel
theorem dX5_firstWrong_48 : decode cX5_firstWrong 48 = .ok (.ifCond .ne 25, 3) := by decide +kernel
theorem dX5_firstWrong_51 : decode cX5_firstWrong 51 = .ok (.aload_n 0, 1) := by decide +kernel
theorem dX5_firstWrong_52 : decode cX5_firstWrong 52 = .ok (.getfield 50, 3) := by decide +kernel
theorem dX5_firstWrong_55 : decode cX5_firstWrong 55 = .ok (.iload_n 1, 1) := by decide +kernel
theorem dX5_firstWrong_56 : decode cX5_firstWrong 56 = .ok (.iaload, 1) := by decide +kernel
theorem dX5_firstWrong_57 : decode cX5_firstWrong 57 = .ok (.aload_n 0, 1) := by decide +kernel
theorem dX5_firstWrong_58 : decode cX5_firstWrong 58 = .ok (.getfield 36, 3) := by decide +kernel
theorem dX5_firstWrong_61 : decode cX5_firstWrong 61 = .ok (.iload_n 2, 1) := by decide +kernel
theorem dX5_firstWrong_62 : decode cX5_firstWrong 62 = .ok (.invokevirtual 136, 3) := by decide +kernel
theorem dX5_firstWrong_65 : decode cX5_firstWrong 65 = .ok (.if_icmp .eq 8, 3) := by decide +kernel
theorem dX5_firstWrong_68 : decode cX5_firstWrong 68 = .ok (.iload_n 2, 1) := by decide +kernel
theorem dX5_firstWrong_69 : decode cX5_firstWrong 69 = .ok (.invokestatic 130, 3) := by decide +kernel
theorem dX5_firstWrong_72 : decode cX5_firstWrong 72 = .ok (.ireturn, 1) := by decide +kernel
theorem dX5_firstWrong_73 : decode cX5_firstWrong 73 = .ok (.iinc 1 1, 3) := by decide +kernel
theorem dX5_firstWrong_76 : decode cX5_firstWrong 76 = .ok (.iinc 2 1, 3) := by decide +kernel
theorem dX5_firstWrong_79 : decode cX5_firstWrong 79 = .ok (.goto (-75), 3) := by decide +kernel
theorem dX5_firstWrong_82 : decode cX5_firstWrong 82 = .ok (.iload_n 1, 1) := by decide +kernel
theorem dX5_firstWrong_83 : decode cX5_firstWrong 83 = .ok (.aload_n 0, 1) := by decide +kernel
theorem dX5_firstWrong_84 : decode cX5_firstWrong 84 = .ok (.getfield 57, 3) := by decide +kernel
theorem dX5_firstWrong_87 : decode cX5_firstWrong 87 = .ok (.if_icmp .ge 9, 3) := by decide +kernel
theorem dX5_firstWrong_90 : decode cX5_firstWrong 90 = .ok (.sipush 9999, 3) := by decide +kernel
theorem dX5_firstWrong_93 : decode cX5_firstWrong 93 = .ok (.goto 5, 3) := by decide +kernel
theorem dX5_firstWrong_96 : decode cX5_firstWrong 96 = .ok (.bipush (-9), 2) := by decide +kernel
theorem dX5_firstWrong_98 : decode cX5_firstWrong 98 = .ok (.ireturn, 1) := by decide +kernel
theorem dX5_isLand_0 : decode cX5_isLand 0 = .ok (.iload_n 0, 1) := by decide +kernel
theorem dX5_isLand_1 : decode cX5_isLand 1 = .ok (.ifCond .lt 12, 3) := by decide +kernel
theorem dX5_isLand_4 : decode cX5_isLand 4 = .ok (.iload_n 0, 1) := by decide +kernel
theorem dX5_isLand_5 : decode cX5_isLand 5 = .ok (.iconst 3, 1) := by decide +kernel
theorem dX5_isLand_6 : decode cX5_isLand 6 = .ok (.if_icmp .ge 7, 3) := by decide +kernel
theorem dX5_isLand_9 : decode cX5_isLand 9 = .ok (.iconst 1, 1) := by decide +kernel
theorem dX5_isLand_10 : decode cX5_isLand 10 = .ok (.goto 4, 3) := by decide +kernel
theorem dX5_isLand_13 : decode cX5_isLand 13 = .ok (.iconst 0, 1) := by decide +kernel
theorem dX5_isLand_14 : decode cX5_isLand 14 = .ok (.ireturn, 1) := by decide +kernel
theorem dX5_isCoastOrIsland_0 : decode cX5_isCoastOrIsland 0 = .ok (.iload_n 0, 1) := by decide +kernel
theorem dX5_isCoastOrIsland_1 : decode cX5_isCoastOrIsland 1 = .ok (.iconst 1, 1) := by decide +kernel
theorem dX5_isCoastOrIsland_2 : decode cX5_isCoastOrIsland 2 = .ok (.if_icmp .lt 13, 3) := by decide +kernel
theorem dX5_isCoastOrIsland_5 : decode cX5_isCoastOrIsland 5 = .ok (.iload_n 0, 1) := by decide +kernel
theorem dX5_isCoastOrIsland_6 : decode cX5_isCoastOrIsland 6 = .ok (.bipush 7, 2) := by decide +kernel
theorem dX5_isCoastOrIsland_8 : decode cX5_isCoastOrIsland 8 = .ok (.if_icmp .ge 7, 3) := by decide +kernel
theorem dX5_isCoastOrIsland_11 : decode cX5_isCoastOrIsland 11 = .ok (.iconst 1, 1) := by decide +kernel
theorem dX5_isCoastOrIsland_12 : decode cX5_isCoastOrIsland 12 = .ok (.goto 4, 3) := by decide +kernel
theorem dX5_isCoastOrIsland_15 : decode cX5_isCoastOrIsland 15 = .ok (.iconst 0, 1) := by decide +kernel
theorem dX5_isCoastOrIsland_16 : decode cX5_isCoastOrIsland 16 = .ok (.ireturn, 1) := by decide +kernel
theorem dX5_toldOf_0 : decode cX5_toldOf 0 = .ok (.iload_n 0, 1) := by decide +kernel
theorem dX5_toldOf_1 : decode cX5_toldOf 1 = .ok (.ifCond .ge 8, 3) := by decide +kernel
theorem dX5_toldOf_4 : decode cX5_toldOf 4 = .ok (.bipush (-9), 2) := by decide +kernel
theorem dX5_toldOf_6 : decode cX5_toldOf 6 = .ok (.goto 15, 3) := by decide +kernel
theorem dX5_toldOf_9 : decode cX5_toldOf 9 = .ok (.bipush 100, 2) := by decide +kernel
theorem dX5_toldOf_11 : decode cX5_toldOf 11 = .ok (.iload_n 0, 1) := by decide +kernel
theorem dX5_toldOf_12 : decode cX5_toldOf 12 = .ok (.bipush 12, 2) := by decide +kernel
theorem dX5_toldOf_14 : decode cX5_toldOf 14 = .ok (.irem, 1) := by decide +kernel
theorem dX5_toldOf_15 : decode cX5_toldOf 15 = .ok (.imul, 1) := by decide +kernel
theorem dX5_toldOf_16 : decode cX5_toldOf 16 = .ok (.iload_n 0, 1) := by decide +kernel
theorem dX5_toldOf_17 : decode cX5_toldOf 17 = .ok (.bipush 12, 2) := by decide +kernel
theorem dX5_toldOf_19 : decode cX5_toldOf 19 = .ok (.idiv, 1) := by decide +kernel
theorem dX5_toldOf_20 : decode cX5_toldOf 20 = .ok (.iadd, 1) := by decide +kernel
theorem dX5_toldOf_21 : decode cX5_toldOf 21 = .ok (.ireturn, 1) := by decide +kernel
