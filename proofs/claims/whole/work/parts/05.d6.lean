theorem dX6_init_0 : decode cX6_init 0 = .ok (.aload_n 0, 1) := by decide +kernel
theorem dX6_init_1 : decode cX6_init 1 = .ok (.invokespecial 1, 3) := by decide +kernel
theorem dX6_init_4 : decode cX6_init 4 = .ok (.aload_n 0, 1) := by decide +kernel
theorem dX6_init_5 : decode cX6_init 5 = .ok (.bipush 7, 2) := by decide +kernel
theorem dX6_init_7 : decode cX6_init 7 = .ok (.newarray .int, 2) := by decide +kernel
theorem dX6_init_9 : decode cX6_init 9 = .ok (.putfield 7, 3) := by decide +kernel
theorem dX6_init_12 : decode cX6_init 12 = .ok (.aload_n 0, 1) := by decide +kernel
theorem dX6_init_13 : decode cX6_init 13 = .ok (.sipush 151, 3) := by decide +kernel
theorem dX6_init_16 : decode cX6_init 16 = .ok (.newarray .int, 2) := by decide +kernel
theorem dX6_init_18 : decode cX6_init 18 = .ok (.putfield 13, 3) := by decide +kernel
theorem dX6_init_21 : decode cX6_init 21 = .ok (.aload_n 0, 1) := by decide +kernel
theorem dX6_init_22 : decode cX6_init 22 = .ok (.sipush 151, 3) := by decide +kernel
theorem dX6_init_25 : decode cX6_init 25 = .ok (.newarray .int, 2) := by decide +kernel
theorem dX6_init_27 : decode cX6_init 27 = .ok (.putfield 16, 3) := by decide +kernel
theorem dX6_init_30 : decode cX6_init 30 = .ok (.aload_n 0, 1) := by decide +kernel
theorem dX6_init_31 : decode cX6_init 31 = .ok (.sipush 129, 3) := by decide +kernel
theorem dX6_init_34 : decode cX6_init 34 = .ok (.newarray .int, 2) := by decide +kernel
theorem dX6_init_36 : decode cX6_init 36 = .ok (.putfield 19, 3) := by decide +kernel
theorem dX6_init_39 : decode cX6_init 39 = .ok (.aload_n 0, 1) := by decide +kernel
theorem dX6_init_40 : decode cX6_init 40 = .ok (.bipush 120, 2) := by decide +kernel
theorem dX6_init_42 : decode cX6_init 42 = .ok (.newarray .int, 2) := by decide +kernel
theorem dX6_init_44 : decode cX6_init 44 = .ok (.putfield 22, 3) := by decide +kernel
theorem dX6_init_47 : decode cX6_init 47 = .ok (.aload_n 0, 1) := by decide +kernel
theorem dX6_init_48 : decode cX6_init 48 = .ok (.bipush 120, 2) := by decide +kernel
theorem dX6_init_50 : decode cX6_init 50 = .ok (.newarray .int, 2) := by decide +kernel
theorem dX6_init_52 : decode cX6_init 52 = .ok (.putfield 25, 3) := by decide +kernel
theorem dX6_init_55 : decode cX6_init 55 = .ok (.aload_n 0, 1) := by decide +kernel
theorem dX6_init_56 : decode cX6_init 56 = .ok (.bipush 120, 2) := by decide +kernel
theorem dX6_init_58 : decode cX6_init 58 = .ok (.newarray .int, 2) := by decide +kernel
theorem dX6_init_60 : decode cX6_init 60 = .ok (.putfield 28, 3) := by decide +kernel
theorem dX6_init_63 : decode cX6_init 63 = .ok (.aload_n 0, 1) := by decide +kernel
theorem dX6_init_64 : decode cX6_init 64 = .ok (.sipush 360, 3) := by decide +kernel
theorem dX6_init_67 : decode cX6_init 67 = .ok (.newarray .int, 2) := by decide +kernel
theorem dX6_init_69 : decode cX6_init 69 = .ok (.putfield 31, 3) := by decide +kernel
theorem dX6_init_72 : decode cX6_init 72 = .ok (.aload_n 0, 1) := by decide +kernel
theorem dX6_init_73 : decode cX6_init 73 = .ok (.sipush 360, 3) := by decide +kernel
theorem dX6_init_76 : decode cX6_init 76 = .ok (.newarray .int, 2) := by decide +kernel
theorem dX6_init_78 : decode cX6_init 78 = .ok (.putfield 34, 3) := by decide +kernel
theorem dX6_init_81 : decode cX6_init 81 = .ok (.aload_n 0, 1) := by decide +kernel
theorem dX6_init_82 : decode cX6_init 82 = .ok (.bipush 120, 2) := by decide +kernel
theorem dX6_init_84 : decode cX6_init 84 = .ok (.newarray .int, 2) := by decide +kernel
theorem dX6_init_86 : decode cX6_init 86 = .ok (.putfield 37, 3) := by decide +kernel
theorem dX6_init_89 : decode cX6_init 89 = .ok (.aload_n 0, 1) := by decide +kernel
theorem dX6_init_90 : decode cX6_init 90 = .ok (.bipush 120, 2) := by decide +kernel
theorem dX6_init_92 : decode cX6_init 92 = .ok (.newarray .int, 2) := by decide +kernel
theorem dX6_init_94 : decode cX6_init 94 = .ok (.putfield 40, 3) := by decide +kernel
theorem dX6_init_97 : decode cX6_init 97 = .ok (.aload_n 0, 1) := by decide +kernel
theorem dX6_init_98 : decode cX6_init 98 = .ok (.bipush 120, 2) := by decide +kernel
theorem dX6_init_100 : decode cX6_init 100 = .ok (.newarray .int, 2) := by decide +kernel
theorem dX6_init_102 : decode cX6_init 102 = .ok (.putfield 43, 3) := by decide +kernel
theorem dX6_init_105 : decode cX6_init 105 = .ok (.aload_n 0, 1) := by decide +kernel
theorem dX6_init_106 : decode cX6_init 106 = .ok (.bipush 120, 2) := by decide +kernel
theorem dX6_init_108 : decode cX6_init 108 = .ok (.newarray .int, 2) := by decide +kernel
theorem dX6_init_110 : decode cX6_init 110 = .ok (.putfield 46, 3) := by decide +kernel
theorem dX6_init_113 : decode cX6_init 113 = .ok (.aload_n 0, 1) := by decide +kernel
theorem dX6_init_114 : decode cX6_init 114 = .ok (.getfield 13, 3) := by decide +kernel
theorem dX6_init_117 : decode cX6_init 117 = .ok (.iconst 0, 1) := by decide +kernel
theorem dX6_init_118 : decode cX6_init 118 = .ok (.iconst 1, 1) := by decide +kernel
theorem dX6_init_119 : decode cX6_init 119 = .ok (.iastore, 1) := by decide +kernel
theorem dX6_init_120 : decode cX6_init 120 = .ok (.aload_n 0, 1) := by decide +kernel
theorem dX6_init_121 : decode cX6_init 121 = .ok (.getfield 13, 3) := by decide +kernel
theorem dX6_init_124 : decode cX6_init 124 = .ok (.iconst 1, 1) := by decide +kernel
theorem dX6_init_125 : decode cX6_init 125 = .ok (.iconst 1, 1) := by decide +kernel
theorem dX6_init_126 : decode cX6_init 126 = .ok (.iastore, 1) := by decide +kernel
theorem dX6_init_127 : decode cX6_init 127 = .ok (.aload_n 0, 1) := by decide +kernel
theorem dX6_init_128 : decode cX6_init 128 = .ok (.getfield 13, 3) := by decide +kernel
theorem dX6_init_131 : decode cX6_init 131 = .ok (.iconst 3, 1) := by decide +kernel
theorem dX6_init_132 : decode cX6_init 132 = .ok (.iconst 2, 1) := by decide +kernel
theorem dX6_init_133 : decode cX6_init 133 = .ok (.iastore, 1) := by decide +kernel
theorem dX6_init_134 : decode cX6_init 134 = .ok (.aload_n 0, 1) := by decide +kernel
theorem dX6_init_135 : decode cX6_init 135 = .ok (.getfield 13, 3) := by decide +kernel
theorem dX6_init_138 : decode cX6_init 138 = .ok (.iconst 4, 1) := by decide +kernel
theorem dX6_init_139 : decode cX6_init 139 = .ok (.bipush 20, 2) := by decide +kernel
theorem dX6_init_141 : decode cX6_init 141 = .ok (.iastore, 1) := by decide +kernel
theorem dX6_init_142 : decode cX6_init 142 = .ok (.return_, 1) := by decide +kernel
theorem dX6_refuse_0 : decode cX6_refuse 0 = .ok (.aload_n 0, 1) := by decide +kernel
theorem dX6_refuse_1 : decode cX6_refuse 1 = .ok (.getfield 7, 3) := by decide +kernel
theorem dX6_refuse_4 : decode cX6_refuse 4 = .ok (.iload_n 1, 1) := by decide +kernel
theorem dX6_refuse_5 : decode cX6_refuse 5 = .ok (.ineg, 1) := by decide +kernel
theorem dX6_refuse_6 : decode cX6_refuse 6 = .ok (.dup2, 1) := by decide +kernel
theorem dX6_refuse_7 : decode cX6_refuse 7 = .ok (.iaload, 1) := by decide +kernel
theorem dX6_refuse_8 : decode cX6_refuse 8 = .ok (.iconst 1, 1) := by decide +kernel
theorem dX6_refuse_9 : decode cX6_refuse 9 = .ok (.iadd, 1) := by decide +kernel
theorem dX6_refuse_10 : decode cX6_refuse 10 = .ok (.iastore, 1) := by decide +kernel
theorem dX6_refuse_11 : decode cX6_refuse 11 = .ok (.iload_n 1, 1) := by decide +kernel
theorem dX6_refuse_12 : decode cX6_refuse 12 = .ok (.ireturn, 1) := by decide +kernel
theorem dX6_isIn_0 : decode cX6_isIn 0 = .ok (.iload_n 0, 1) := by decide +kernel
theorem dX6_isIn_1 : decode cX6_isIn 1 = .ok (.ifCond .lt 12, 3) := by decide +kernel
theorem dX6_isIn_4 : decode cX6_isIn 4 = .ok (.iload_n 0, 1) := by decide +kernel
theorem dX6_isIn_5 : decode cX6_isIn 5 = .ok (.iload_n 1, 1) := by decide +kernel
theorem dX6_isIn_6 : decode cX6_isIn 6 = .ok (.if_icmp .ge 7, 3) := by decide +kernel
theorem dX6_isIn_9 : decode cX6_isIn 9 = .ok (.iconst 1, 1) := by decide +kernel
theorem dX6_isIn_10 : decode cX6_isIn 10 = .ok (.goto 4, 3) := by decide +kernel
theorem dX6_isIn_13 : decode cX6_isIn 13 = .ok (.iconst 0, 1) := by decide +kernel
theorem dX6_isIn_14 : decode cX6_isIn 14 = .ok (.ireturn, 1) := by decide +kernel
theorem dX6_within_0 : decode cX6_within 0 = .ok (.iload_n 0, 1) := by decide +kernel
theorem dX6_within_1 : decode cX6_within 1 = .ok (.iload_n 1, 1) := by decide +kernel
theorem dX6_within_2 : decode cX6_within 2 = .ok (.if_icmp .ge 8, 3) := by decide +kernel
theorem dX6_within_5 : decode cX6_within 5 = .ok (.bipush (-4), 2) := by decide +kernel
theorem dX6_within_7 : decode cX6_within 7 = .ok (.goto 14, 3) := by decide +kernel
theorem dX6_within_10 : decode cX6_within 10 = .ok (.iload_n 0, 1) := by decide +kernel
theorem dX6_within_11 : decode cX6_within 11 = .ok (.iload_n 2, 1) := by decide +kernel
theorem dX6_within_12 : decode cX6_within 12 = .ok (.if_icmp .le 8, 3) := by decide +kernel
theorem dX6_within_15 : decode cX6_within 15 = .ok (.bipush (-6), 2) := by decide +kernel
theorem dX6_within_17 : decode cX6_within 17 = .ok (.goto 4, 3) := by decide +kernel
theorem dX6_within_20 : decode cX6_within 20 = .ok (.iconst 0, 1) := by decide +kernel
theorem dX6_within_21 : decode cX6_within 21 = .ok (.ireturn, 1) := by decide +kernel
theorem dX6_isCell_0 : decode cX6_isCell 0 = .ok (.iload_n 1, 1) := by decide +kernel
theorem dX6_isCell_1 : decode cX6_isCell 1 = .ok (.ifCond .lt 33, 3) := by decide +kernel
theorem dX6_isCell_4 : decode cX6_isCell 4 = .ok (.iload_n 1, 1) := by decide +kernel
theorem dX6_isCell_5 : decode cX6_isCell 5 = .ok (.bipush 100, 2) := by decide +kernel
theorem dX6_isCell_7 : decode cX6_isCell 7 = .ok (.idiv, 1) := by decide +kernel
theorem dX6_isCell_8 : decode cX6_isCell 8 = .ok (.aload_n 0, 1) := by decide +kernel
theorem dX6_isCell_9 : decode cX6_isCell 9 = .ok (.getfield 13, 3) := by decide +kernel
theorem dX6_isCell_12 : decode cX6_isCell 12 = .ok (.iconst 0, 1) := by decide +kernel
theorem dX6_isCell_13 : decode cX6_isCell 13 = .ok (.iaload, 1) := by decide +kernel
theorem dX6_isCell_14 : decode cX6_isCell 14 = .ok (.if_icmp .ge 20, 3) := by decide +kernel
theorem dX6_isCell_17 : decode cX6_isCell 17 = .ok (.iload_n 1, 1) := by decide +kernel
theorem dX6_isCell_18 : decode cX6_isCell 18 = .ok (.bipush 100, 2) := by decide +kernel
theorem dX6_isCell_20 : decode cX6_isCell 20 = .ok (.irem, 1) := by decide +kernel
theorem dX6_isCell_21 : decode cX6_isCell 21 = .ok (.aload_n 0, 1) := by decide +kernel
theorem dX6_isCell_22 : decode cX6_isCell 22 = .ok (.getfield 13, 3) := by decide +kernel
theorem dX6_isCell_25 : decode cX6_isCell 25 = .ok (.iconst 1, 1) := by decide +kernel
theorem dX6_isCell_26 : decode cX6_isCell 26 = .ok (.iaload, 1) := by decide +kernel
theorem dX6_isCell_27 : decode cX6_isCell 27 = .ok (.if_icmp .ge 7, 3) := by decide +kernel
theorem dX6_isCell_30 : decode cX6_isCell 30 = .ok (.iconst 1, 1) := by decide +kernel
theorem dX6_isCell_31 : decode cX6_isCell 31 = .ok (.goto 4, 3) := by decide +kernel
theorem dX6_isCell_34 : decode cX6_isCell 34 = .ok (.iconst 0, 1) := by decide +kernel
theorem dX6_isCell_35 : decode cX6_isCell 35 = .ok (.ireturn, 1) := by decide +kernel
theorem dX6_many_0 : decode cX6_many 0 = .ok (.aload_n 0, 1) := by decide +kernel
theorem dX6_many_1 : decode cX6_many 1 = .ok (.getfield 13, 3) := by decide +kernel
theorem dX6_many_4 : decode cX6_many 4 = .ok (.iconst 0, 1) := by decide +kernel
theorem dX6_many_5 : decode cX6_many 5 = .ok (.iaload, 1) := by decide +kernel
theorem dX6_many_6 : decode cX6_many 6 = .ok (.aload_n 0, 1) := by decide +kernel
theorem dX6_many_7 : decode cX6_many 7 = .ok (.getfield 13, 3) := by decide +kernel
theorem dX6_many_10 : decode cX6_many 10 = .ok (.iconst 1, 1) := by decide +kernel
theorem dX6_many_11 : decode cX6_many 11 = .ok (.iaload, 1) := by decide +kernel
theorem dX6_many_12 : decode cX6_many 12 = .ok (.imul, 1) := by decide +kernel
theorem dX6_many_13 : decode cX6_many 13 = .ok (.ireturn, 1) := by decide +kernel
theorem dX6_of_0 : decode cX6_of 0 = .ok (.iload_n 1, 1) := by decide +kernel
theorem dX6_of_1 : decode cX6_of 1 = .ok (.bipush 100, 2) := by decide +kernel
theorem dX6_of_3 : decode cX6_of 3 = .ok (.irem, 1) := by decide +kernel
theorem dX6_of_4 : decode cX6_of 4 = .ok (.aload_n 0, 1) := by decide +kernel
theorem dX6_of_5 : decode cX6_of 5 = .ok (.getfield 13, 3) := by decide +kernel
theorem dX6_of_8 : decode cX6_of 8 = .ok (.iconst 0, 1) := by decide +kernel
theorem dX6_of_9 : decode cX6_of 9 = .ok (.iaload, 1) := by decide +kernel
theorem dX6_of_10 : decode cX6_of 10 = .ok (.imul, 1) := by decide +kernel
theorem dX6_of_11 : decode cX6_of 11 = .ok (.iload_n 1, 1) := by decide +kernel
theorem dX6_of_12 : decode cX6_of 12 = .ok (.bipush 100, 2) := by decide +kernel
theorem dX6_of_14 : decode cX6_of 14 = .ok (.idiv, 1) := by decide +kernel
theorem dX6_of_15 : decode cX6_of 15 = .ok (.iadd, 1) := by decide +kernel
theorem dX6_of_16 : decode cX6_of 16 = .ok (.ireturn, 1) := by decide +kernel
theorem dX6_told_0 : decode cX6_told 0 = .ok (.bipush 100, 2) := by decide +kernel
theorem dX6_told_2 : decode cX6_told 2 = .ok (.iload_n 1, 1) := by decide +kernel
theorem dX6_told_3 : decode cX6_told 3 = .ok (.aload_n 0, 1) := by decide +kernel
theorem dX6_told_4 : decode cX6_told 4 = .ok (.getfield 13, 3) := by decide +kernel
theorem dX6_told_7 : decode cX6_told 7 = .ok (.iconst 0, 1) := by decide +kernel
theorem dX6_told_8 : decode cX6_told 8 = .ok (.iaload, 1) := by decide +kernel
theorem dX6_told_9 : decode cX6_told 9 = .ok (.irem, 1) := by decide +kernel
theorem dX6_told_10 : decode cX6_told 10 = .ok (.imul, 1) := by decide +kernel
theorem dX6_told_11 : decode cX6_told 11 = .ok (.iload_n 1, 1) := by decide +kernel
theorem dX6_told_12 : decode cX6_told 12 = .ok (.aload_n 0, 1) := by decide +kernel
theorem dX6_told_13 : decode cX6_told 13 = .ok (.getfield 13, 3) := by decide +kernel
theorem dX6_told_16 : decode cX6_told 16 = .ok (.iconst 0, 1) := by decide +kernel
theorem dX6_told_17 : decode cX6_told 17 = .ok (.iaload, 1) := by decide +kernel
theorem dX6_told_18 : decode cX6_told 18 = .ok (.idiv, 1) := by decide +kernel
theorem dX6_told_19 : decode cX6_told 19 = .ok (.iadd, 1) := by decide +kernel
theorem dX6_told_20 : decode cX6_told 20 = .ok (.ireturn, 1) := by decide +kernel
theorem dX6_at_0 : decode cX6_at 0 = .ok (.aload_n 0, 1) := by decide +kernel
theorem dX6_at_1 : decode cX6_at 1 = .ok (.getfield 13, 3) := by decide +kernel
theorem dX6_at_4 : decode cX6_at 4 = .ok (.bipush 7, 2) := by decide +kernel
theorem dX6_at_6 : decode cX6_at 6 = .ok (.iload_n 1, 1) := by decide +kernel
theorem dX6_at_7 : decode cX6_at 7 = .ok (.iadd, 1) := by decide +kernel
theorem dX6_at_8 : decode cX6_at 8 = .ok (.iaload, 1) := by decide +kernel
theorem dX6_at_9 : decode cX6_at 9 = .ok (.ireturn, 1) := by decide +kernel
theorem dX6_feed_0 : decode cX6_feed 0 = .ok (.iload_n 1, 1) := by decide +kernel
theorem dX6_feed_1 : decode cX6_feed 1 = .ok (.iconst 1, 1) := by decide +kernel
theorem dX6_feed_2 : decode cX6_feed 2 = .ok (.if_icmp .ge 10, 3) := by decide +kernel
theorem dX6_feed_5 : decode cX6_feed 5 = .ok (.aload_n 0, 1) := by decide +kernel
theorem dX6_feed_6 : decode cX6_feed 6 = .ok (.bipush (-4), 2) := by decide +kernel
theorem dX6_feed_8 : decode cX6_feed 8 = .ok (.invokevirtual 49, 3) := by decide +kernel
theorem dX6_feed_11 : decode cX6_feed 11 = .ok (.ireturn, 1) := by decide +kernel
theorem dX6_feed_12 : decode cX6_feed 12 = .ok (.iload_n 1, 1) := by decide +kernel
theorem dX6_feed_13 : decode cX6_feed 13 = .ok (.bipush 8, 2) := by decide +kernel
theorem dX6_feed_15 : decode cX6_feed 15 = .ok (.if_icmp .gt 15, 3) := by decide +kernel
theorem dX6_feed_18 : decode cX6_feed 18 = .ok (.aload_n 0, 1) := by decide +kernel
theorem dX6_feed_19 : decode cX6_feed 19 = .ok (.getfield 53, 3) := by decide +kernel
theorem dX6_feed_22 : decode cX6_feed 22 = .ok (.iload_n 1, 1) := by decide +kernel
theorem dX6_feed_23 : decode cX6_feed 23 = .ok (.iadd, 1) := by decide +kernel
theorem dX6_feed_24 : decode cX6_feed 24 = .ok (.sipush 129, 3) := by decide +kernel
theorem dX6_feed_27 : decode cX6_feed 27 = .ok (.if_icmp .le 10, 3) := by decide +kernel
theorem dX6_feed_30 : decode cX6_feed 30 = .ok (.aload_n 0, 1) := by decide +kernel
theorem dX6_feed_31 : decode cX6_feed 31 = .ok (.bipush (-6), 2) := by decide +kernel
theorem dX6_feed_33 : decode cX6_feed 33 = .ok (.invokevirtual 49, 3) := by decide +kernel
theorem dX6_feed_36 : decode cX6_feed 36 = .ok (.ireturn, 1) := by decide +kernel
theorem dX6_feed_37 : decode cX6_feed 37 = .ok (.iconst 0, 1) := by decide +kernel
theorem dX6_feed_38 : decode cX6_feed 38 = .ok (.istore 4, 2) := by decide +kernel
theorem dX6_feed_40 : decode cX6_feed 40 = .ok (.iload 4, 2) := by decide +kernel
theorem dX6_feed_42 : decode cX6_feed 42 = .ok (.iload_n 1, 1) := by decide +kernel
theorem dX6_feed_43 : decode cX6_feed 43 = .ok (.if_icmp .ge 40, 3) := by decide +kernel
theorem dX6_feed_46 : decode cX6_feed 46 = .ok (.aload_n 0, 1) := by decide +kernel
theorem dX6_feed_47 : decode cX6_feed 47 = .ok (.getfield 19, 3) := by decide +kernel
theorem dX6_feed_50 : decode cX6_feed 50 = .ok (.aload_n 0, 1) := by decide +kernel
theorem dX6_feed_51 : decode cX6_feed 51 = .ok (.getfield 53, 3) := by decide +kernel
theorem dX6_feed_54 : decode cX6_feed 54 = .ok (.lload_n 2, 1) := by decide +kernel
theorem dX6_feed_55 : decode cX6_feed 55 = .ok (.bipush 8, 2) := by decide +kernel
theorem dX6_feed_57 : decode cX6_feed 57 = .ok (.iload 4, 2) := by decide +kernel
theorem dX6_feed_59 : decode cX6_feed 59 = .ok (.imul, 1) := by decide +kernel
theorem dX6_feed_60 : decode cX6_feed 60 = .ok (.lshr, 1) := by decide +kernel
theorem dX6_feed_61 : decode cX6_feed 61 = .ok (.ldc2_w 57, 3) := by decide +kernel
theorem dX6_feed_64 : decode cX6_feed 64 = .ok (.land, 1) := by decide +kernel
theorem dX6_feed_65 : decode cX6_feed 65 = .ok (.l2i, 1) := by decide +kernel
theorem dX6_feed_66 : decode cX6_feed 66 = .ok (.iastore, 1) := by decide +kernel
theorem dX6_feed_67 : decode cX6_feed 67 = .ok (.aload_n 0, 1) := by decide +kernel
theorem dX6_feed_68 : decode cX6_feed 68 = .ok (.dup, 1) := by decide +kernel
theorem dX6_feed_69 : decode cX6_feed 69 = .ok (.getfield 53, 3) := by decide +kernel
theorem dX6_feed_72 : decode cX6_feed 72 = .ok (.iconst 1, 1) := by decide +kernel
theorem dX6_feed_73 : decode cX6_feed 73 = .ok (.iadd, 1) := by decide +kernel
theorem dX6_feed_74 : decode cX6_feed 74 = .ok (.putfield 53, 3) := by decide +kernel
theorem dX6_feed_77 : decode cX6_feed 77 = .ok (.iinc 4 1, 3) := by decide +kernel
theorem dX6_feed_80 : decode cX6_feed 80 = .ok (.goto (-40), 3) := by decide +kernel
theorem dX6_feed_83 : decode cX6_feed 83 = .ok (.aload_n 0, 1) := by decide +kernel
theorem dX6_feed_84 : decode cX6_feed 84 = .ok (.getfield 53, 3) := by decide +kernel
theorem dX6_feed_87 : decode cX6_feed 87 = .ok (.ireturn, 1) := by decide +kernel
theorem dX6_kindOf_0 : decode cX6_kindOf 0 = .ok (.iload_n 0, 1) := by decide +kernel
theorem dX6_kindOf_1 : decode cX6_kindOf 1 = .ok (.lookupswitch 93 #[(46, 75), (65, 77), (66, 79), (67, 81), (97, 83), (98, 85), (99, 87), (114, 90)], 75) := by decide +kernel
theorem dX6_kindOf_76 : decode cX6_kindOf 76 = .ok (.iconst 0, 1) := by decide +kernel
theorem dX6_kindOf_77 : decode cX6_kindOf 77 = .ok (.ireturn, 1) := by decide +kernel
theorem dX6_kindOf_78 : decode cX6_kindOf 78 = .ok (.iconst 1, 1) := by decide +kernel
theorem dX6_kindOf_79 : decode cX6_kindOf 79 = .ok (.ireturn, 1) := by decide +kernel
theorem dX6_kindOf_80 : decode cX6_kindOf 80 = .ok (.iconst 2, 1) := by decide +kernel
theorem dX6_kindOf_81 : decode cX6_kindOf 81 = .ok (.ireturn, 1) := by decide +kernel
theorem dX6_kindOf_82 : decode cX6_kindOf 82 = .ok (.iconst 3, 1) := by decide +kernel
theorem dX6_kindOf_83 : decode cX6_kindOf 83 = .ok (.ireturn, 1) := by decide +kernel
theorem dX6_kindOf_84 : decode cX6_kindOf 84 = .ok (.iconst 4, 1) := by decide +kernel
theorem dX6_kindOf_85 : decode cX6_kindOf 85 = .ok (.ireturn, 1) := by decide +kernel
theorem dX6_kindOf_86 : decode cX6_kindOf 86 = .ok (.iconst 5, 1) := by decide +kernel
theorem dX6_kindOf_87 : decode cX6_kindOf 87 = .ok (.ireturn, 1) := by decide +kernel
theorem dX6_kindOf_88 : decode cX6_kindOf 88 = .ok (.bipush 6, 2) := by decide +kernel
theorem dX6_kindOf_90 : decode cX6_kindOf 90 = .ok (.ireturn, 1) := by decide +kernel
theorem dX6_kindOf_91 : decode cX6_kindOf 91 = .ok (.bipush 7, 2) := by decide +kernel
theorem dX6_kindOf_93 : decode cX6_kindOf 93 = .ok (.ireturn, 1) := by decide +kernel
theorem dX6_kindOf_94 : decode cX6_kindOf 94 = .ok (.iconst (-1), 1) := by decide +kernel
theorem dX6_kindOf_95 : decode cX6_kindOf 95 = .ok (.ireturn, 1) := by decide +kernel
theorem dX6_reads_0 : decode cX6_reads 0 = .ok (.iconst 0, 1) := by decide +kernel
theorem dX6_reads_1 : decode cX6_reads 1 = .ok (.istore_n 1, 1) := by decide +kernel
theorem dX6_reads_2 : decode cX6_reads 2 = .ok (.iconst 0, 1) := by decide +kernel
theorem dX6_reads_3 : decode cX6_reads 3 = .ok (.istore_n 2, 1) := by decide +kernel
theorem dX6_reads_4 : decode cX6_reads 4 = .ok (.aload_n 0, 1) := by decide +kernel
theorem dX6_reads_5 : decode cX6_reads 5 = .ok (.iconst 0, 1) := by decide +kernel
theorem dX6_reads_6 : decode cX6_reads 6 = .ok (.putfield 59, 3) := by decide +kernel
theorem dX6_reads_9 : decode cX6_reads 9 = .ok (.aload_n 0, 1) := by decide +kernel
theorem dX6_reads_10 : decode cX6_reads 10 = .ok (.iconst 0, 1) := by decide +kernel
theorem dX6_reads_11 : decode cX6_reads 11 = .ok (.putfield 62, 3) := by decide +kernel
theorem dX6_reads_14 : decode cX6_reads 14 = .ok (.aload_n 0, 1) := by decide +kernel
theorem dX6_reads_15 : decode cX6_reads 15 = .ok (.getfield 62, 3) := by decide +kernel
theorem dX6_reads_18 : decode cX6_reads 18 = .ok (.aload_n 0, 1) := by decide +kernel
theorem dX6_reads_19 : decode cX6_reads 19 = .ok (.getfield 53, 3) := by decide +kernel
theorem dX6_reads_22 : decode cX6_reads 22 = .ok (.if_icmp .ge 124, 3) := by decide +kernel
theorem dX6_reads_25 : decode cX6_reads 25 = .ok (.aload_n 0, 1) := by decide +kernel
theorem dX6_reads_26 : decode cX6_reads 26 = .ok (.getfield 19, 3) := by decide +kernel
theorem dX6_reads_29 : decode cX6_reads 29 = .ok (.aload_n 0, 1) := by decide +kernel
theorem dX6_reads_30 : decode cX6_reads 30 = .ok (.getfield 62, 3) := by decide +kernel
theorem dX6_reads_33 : decode cX6_reads 33 = .ok (.iaload, 1) := by decide +kernel
theorem dX6_reads_34 : decode cX6_reads 34 = .ok (.istore_n 3, 1) := by decide +kernel
theorem dX6_reads_35 : decode cX6_reads 35 = .ok (.iload_n 3, 1) := by decide +kernel
theorem dX6_reads_36 : decode cX6_reads 36 = .ok (.bipush 47, 2) := by decide +kernel
theorem dX6_reads_38 : decode cX6_reads 38 = .ok (.if_icmp .ne 40, 3) := by decide +kernel
theorem dX6_reads_41 : decode cX6_reads 41 = .ok (.iload_n 1, 1) := by decide +kernel
theorem dX6_reads_42 : decode cX6_reads 42 = .ok (.ifCond .eq 21, 3) := by decide +kernel
theorem dX6_reads_45 : decode cX6_reads 45 = .ok (.iload_n 2, 1) := by decide +kernel
theorem dX6_reads_46 : decode cX6_reads 46 = .ok (.ifCond .le 11, 3) := by decide +kernel
theorem dX6_reads_49 : decode cX6_reads 49 = .ok (.iload_n 1, 1) := by decide +kernel
theorem dX6_reads_50 : decode cX6_reads 50 = .ok (.aload_n 0, 1) := by decide +kernel
theorem dX6_reads_51 : decode cX6_reads 51 = .ok (.getfield 59, 3) := by decide +kernel
theorem dX6_reads_54 : decode cX6_reads 54 = .ok (.if_icmp .lt 9, 3) := by decide +kernel
theorem dX6_reads_57 : decode cX6_reads 57 = .ok (.iload_n 2, 1) := by decide +kernel
theorem dX6_reads_58 : decode cX6_reads 58 = .ok (.bipush 9, 2) := by decide +kernel
theorem dX6_reads_60 : decode cX6_reads 60 = .ok (.if_icmp .ne 5, 3) := by decide +kernel
theorem dX6_reads_63 : decode cX6_reads 63 = .ok (.iconst 0, 1) := by decide +kernel
theorem dX6_reads_64 : decode cX6_reads 64 = .ok (.ireturn, 1) := by decide +kernel
theorem dX6_reads_65 : decode cX6_reads 65 = .ok (.aload_n 0, 1) := by decide +kernel
theorem dX6_reads_66 : decode cX6_reads 66 = .ok (.iload_n 1, 1) := by decide +kernel
theorem dX6_reads_67 : decode cX6_reads 67 = .ok (.putfield 59, 3) := by decide +kernel
theorem dX6_reads_70 : decode cX6_reads 70 = .ok (.iconst 0, 1) := by decide +kernel
theorem dX6_reads_71 : decode cX6_reads 71 = .ok (.istore_n 1, 1) := by decide +kernel
theorem dX6_reads_72 : decode cX6_reads 72 = .ok (.iinc 2 1, 3) := by decide +kernel
theorem dX6_reads_75 : decode cX6_reads 75 = .ok (.goto 58, 3) := by decide +kernel
theorem dX6_reads_78 : decode cX6_reads 78 = .ok (.iload_n 1, 1) := by decide +kernel
theorem dX6_reads_79 : decode cX6_reads 79 = .ok (.bipush 12, 2) := by decide +kernel
theorem dX6_reads_81 : decode cX6_reads 81 = .ok (.if_icmp .eq 22, 3) := by decide +kernel
theorem dX6_reads_84 : decode cX6_reads 84 = .ok (.iload_n 2, 1) := by decide +kernel
theorem dX6_reads_85 : decode cX6_reads 85 = .ok (.ifCond .le 11, 3) := by decide +kernel
theorem dX6_reads_88 : decode cX6_reads 88 = .ok (.iload_n 1, 1) := by decide +kernel
theorem dX6_reads_89 : decode cX6_reads 89 = .ok (.aload_n 0, 1) := by decide +kernel
theorem dX6_reads_90 : decode cX6_reads 90 = .ok (.getfield 59, 3) := by decide +kernel
theorem dX6_reads_93 : decode cX6_reads 93 = .ok (.if_icmp .eq 10, 3) := by decide +kernel
theorem dX6_reads_96 : decode cX6_reads 96 = .ok (.iload_n 3, 1) := by decide +kernel
theorem dX6_reads_97 : decode cX6_reads 97 = .ok (.invokestatic 65, 3) := by decide +kernel
theorem dX6_reads_100 : decode cX6_reads 100 = .ok (.ifCond .ge 5, 3) := by decide +kernel
theorem dX6_reads_103 : decode cX6_reads 103 = .ok (.iconst 0, 1) := by decide +kernel
theorem dX6_reads_104 : decode cX6_reads 104 = .ok (.ireturn, 1) := by decide +kernel
theorem dX6_reads_105 : decode cX6_reads 105 = .ok (.aload_n 0, 1) := by decide +kernel
theorem dX6_reads_106 : decode cX6_reads 106 = .ok (.getfield 22, 3) := by decide +kernel
theorem dX6_reads_109 : decode cX6_reads 109 = .ok (.iload_n 2, 1) := by decide +kernel
theorem dX6_reads_110 : decode cX6_reads 110 = .ok (.ifCond .ne 7, 3) := by decide +kernel
theorem dX6_reads_113 : decode cX6_reads 113 = .ok (.iconst 0, 1) := by decide +kernel
theorem dX6_reads_114 : decode cX6_reads 114 = .ok (.goto 9, 3) := by decide +kernel
theorem dX6_reads_117 : decode cX6_reads 117 = .ok (.iload_n 2, 1) := by decide +kernel
theorem dX6_reads_118 : decode cX6_reads 118 = .ok (.aload_n 0, 1) := by decide +kernel
theorem dX6_reads_119 : decode cX6_reads 119 = .ok (.getfield 59, 3) := by decide +kernel
theorem dX6_reads_122 : decode cX6_reads 122 = .ok (.imul, 1) := by decide +kernel
theorem dX6_reads_123 : decode cX6_reads 123 = .ok (.iload_n 1, 1) := by decide +kernel
theorem dX6_reads_124 : decode cX6_reads 124 = .ok (.iadd, 1) := by decide +kernel
theorem dX6_reads_125 : decode cX6_reads 125 = .ok (.iload_n 3, 1) := by decide +kernel
theorem dX6_reads_126 : decode cX6_reads 126 = .ok (.invokestatic 65, 3) := by decide +kernel
theorem dX6_reads_129 : decode cX6_reads 129 = .ok (.iastore, 1) := by decide +kernel
theorem dX6_reads_130 : decode cX6_reads 130 = .ok (.iinc 1 1, 3) := by decide +kernel
theorem dX6_reads_133 : decode cX6_reads 133 = .ok (.aload_n 0, 1) := by decide +kernel
theorem dX6_reads_134 : decode cX6_reads 134 = .ok (.dup, 1) := by decide +kernel
theorem dX6_reads_135 : decode cX6_reads 135 = .ok (.getfield 62, 3) := by decide +kernel
theorem dX6_reads_138 : decode cX6_reads 138 = .ok (.iconst 1, 1) := by decide +kernel
theorem dX6_reads_139 : decode cX6_reads 139 = .ok (.iadd, 1) := by decide +kernel
theorem dX6_reads_140 : decode cX6_reads 140 = .ok (.putfield 62, 3) := by decide +kernel
theorem dX6_reads_143 : decode cX6_reads 143 = .ok (.goto (-129), 3) := by decide +kernel
theorem dX6_reads_146 : decode cX6_reads 146 = .ok (.iload_n 1, 1) := by decide +kernel
theorem dX6_reads_147 : decode cX6_reads 147 = .ok (.ifCond .eq 15, 3) := by decide +kernel
theorem dX6_reads_150 : decode cX6_reads 150 = .ok (.iload_n 2, 1) := by decide +kernel
theorem dX6_reads_151 : decode cX6_reads 151 = .ok (.ifCond .le 13, 3) := by decide +kernel
theorem dX6_reads_154 : decode cX6_reads 154 = .ok (.iload_n 1, 1) := by decide +kernel
theorem dX6_reads_155 : decode cX6_reads 155 = .ok (.aload_n 0, 1) := by decide +kernel
theorem dX6_reads_156 : decode cX6_reads 156 = .ok (.getfield 59, 3) := by decide +kernel
theorem dX6_reads_159 : decode cX6_reads 159 = .ok (.if_icmp .ge 5, 3) := by decide +kernel
theorem dX6_reads_162 : decode cX6_reads 162 = .ok (.iconst 0, 1) := by decide +kernel
theorem dX6_reads_163 : decode cX6_reads 163 = .ok (.ireturn, 1) := by decide +kernel
theorem dX6_reads_164 : decode cX6_reads 164 = .ok (.aload_n 0, 1) := by decide +kernel
theorem dX6_reads_165 : decode cX6_reads 165 = .ok (.iload_n 1, 1) := by decide +kernel
theorem dX6_reads_166 : decode cX6_reads 166 = .ok (.putfield 59, 3) := by decide +kernel
theorem dX6_reads_169 : decode cX6_reads 169 = .ok (.aload_n 0, 1) := by decide +kernel
theorem dX6_reads_170 : decode cX6_reads 170 = .ok (.iload_n 2, 1) := by decide +kernel
theorem dX6_reads_171 : decode cX6_reads 171 = .ok (.iconst 1, 1) := by decide +kernel
theorem dX6_reads_172 : decode cX6_reads 172 = .ok (.iadd, 1) := by decide +kernel
theorem dX6_reads_173 : decode cX6_reads 173 = .ok (.putfield 68, 3) := by decide +kernel
theorem dX6_reads_176 : decode cX6_reads 176 = .ok (.iconst 1, 1) := by decide +kernel
theorem dX6_reads_177 : decode cX6_reads 177 = .ok (.ireturn, 1) := by decide +kernel
theorem dX6_read_0 : decode cX6_read 0 = .ok (.aload_n 0, 1) := by decide +kernel
theorem dX6_read_1 : decode cX6_read 1 = .ok (.invokevirtual 71, 3) := by decide +kernel
theorem dX6_read_4 : decode cX6_read 4 = .ok (.istore_n 1, 1) := by decide +kernel
theorem dX6_read_5 : decode cX6_read 5 = .ok (.aload_n 0, 1) := by decide +kernel
theorem dX6_read_6 : decode cX6_read 6 = .ok (.iconst 0, 1) := by decide +kernel
theorem dX6_read_7 : decode cX6_read 7 = .ok (.putfield 53, 3) := by decide +kernel
theorem dX6_read_10 : decode cX6_read 10 = .ok (.iload_n 1, 1) := by decide +kernel
theorem dX6_read_11 : decode cX6_read 11 = .ok (.ifCond .ne 11, 3) := by decide +kernel
theorem dX6_read_14 : decode cX6_read 14 = .ok (.bipush (-20), 2) := by decide +kernel
theorem dX6_read_16 : decode cX6_read 16 = .ok (.aload_n 0, 1) := by decide +kernel
theorem dX6_read_17 : decode cX6_read 17 = .ok (.getfield 62, 3) := by decide +kernel
theorem dX6_read_20 : decode cX6_read 20 = .ok (.isub, 1) := by decide +kernel
theorem dX6_read_21 : decode cX6_read 21 = .ok (.ireturn, 1) := by decide +kernel
theorem dX6_read_22 : decode cX6_read 22 = .ok (.aload_n 0, 1) := by decide +kernel
theorem dX6_read_23 : decode cX6_read 23 = .ok (.getfield 13, 3) := by decide +kernel
theorem dX6_read_26 : decode cX6_read 26 = .ok (.iconst 0, 1) := by decide +kernel
theorem dX6_read_27 : decode cX6_read 27 = .ok (.aload_n 0, 1) := by decide +kernel
theorem dX6_read_28 : decode cX6_read 28 = .ok (.getfield 59, 3) := by decide +kernel
theorem dX6_read_31 : decode cX6_read 31 = .ok (.iastore, 1) := by decide +kernel
theorem dX6_read_32 : decode cX6_read 32 = .ok (.aload_n 0, 1) := by decide +kernel
theorem dX6_read_33 : decode cX6_read 33 = .ok (.getfield 13, 3) := by decide +kernel
theorem dX6_read_36 : decode cX6_read 36 = .ok (.iconst 1, 1) := by decide +kernel
theorem dX6_read_37 : decode cX6_read 37 = .ok (.aload_n 0, 1) := by decide +kernel
theorem dX6_read_38 : decode cX6_read 38 = .ok (.getfield 68, 3) := by decide +kernel
theorem dX6_read_41 : decode cX6_read 41 = .ok (.iastore, 1) := by decide +kernel
theorem dX6_read_42 : decode cX6_read 42 = .ok (.aload_n 0, 1) := by decide +kernel
theorem dX6_read_43 : decode cX6_read 43 = .ok (.getfield 13, 3) := by decide +kernel
theorem dX6_read_46 : decode cX6_read 46 = .ok (.bipush 6, 2) := by decide +kernel
theorem dX6_read_48 : decode cX6_read 48 = .ok (.iconst 0, 1) := by decide +kernel
theorem dX6_read_49 : decode cX6_read 49 = .ok (.iastore, 1) := by decide +kernel
theorem dX6_read_50 : decode cX6_read 50 = .ok (.iconst 0, 1) := by decide +kernel
theorem dX6_read_51 : decode cX6_read 51 = .ok (.istore_n 2, 1) := by decide +kernel
theorem dX6_read_52 : decode cX6_read 52 = .ok (.iload_n 2, 1) := by decide +kernel
theorem dX6_read_53 : decode cX6_read 53 = .ok (.aload_n 0, 1) := by decide +kernel
theorem dX6_read_54 : decode cX6_read 54 = .ok (.invokevirtual 75, 3) := by decide +kernel
theorem dX6_read_57 : decode cX6_read 57 = .ok (.if_icmp .ge 24, 3) := by decide +kernel
theorem dX6_read_60 : decode cX6_read 60 = .ok (.aload_n 0, 1) := by decide +kernel
theorem dX6_read_61 : decode cX6_read 61 = .ok (.getfield 13, 3) := by decide +kernel
theorem dX6_read_64 : decode cX6_read 64 = .ok (.bipush 7, 2) := by decide +kernel
theorem dX6_read_66 : decode cX6_read 66 = .ok (.iload_n 2, 1) := by decide +kernel
theorem dX6_read_67 : decode cX6_read 67 = .ok (.iadd, 1) := by decide +kernel
theorem dX6_read_68 : decode cX6_read 68 = .ok (.aload_n 0, 1) := by decide +kernel
theorem dX6_read_69 : decode cX6_read 69 = .ok (.getfield 22, 3) := by decide +kernel
theorem dX6_read_72 : decode cX6_read 72 = .ok (.iload_n 2, 1) := by decide +kernel
theorem dX6_read_73 : decode cX6_read 73 = .ok (.iaload, 1) := by decide +kernel
theorem dX6_read_74 : decode cX6_read 74 = .ok (.iastore, 1) := by decide +kernel
theorem dX6_read_75 : decode cX6_read 75 = .ok (.iinc 2 1, 3) := by decide +kernel
theorem dX6_read_78 : decode cX6_read 78 = .ok (.goto (-26), 3) := by decide +kernel
theorem dX6_read_81 : decode cX6_read 81 = .ok (.aload_n 0, 1) := by decide +kernel
theorem dX6_read_82 : decode cX6_read 82 = .ok (.invokevirtual 75, 3) := by decide +kernel
theorem dX6_read_85 : decode cX6_read 85 = .ok (.ireturn, 1) := by decide +kernel
theorem dX6_cell_0 : decode cX6_cell 0 = .ok (.aload_n 0, 1) := by decide +kernel
theorem dX6_cell_1 : decode cX6_cell 1 = .ok (.iload_n 1, 1) := by decide +kernel
theorem dX6_cell_2 : decode cX6_cell 2 = .ok (.invokevirtual 79, 3) := by decide +kernel
theorem dX6_cell_5 : decode cX6_cell 5 = .ok (.ifCond .eq 15, 3) := by decide +kernel
theorem dX6_cell_8 : decode cX6_cell 8 = .ok (.aload_n 0, 1) := by decide +kernel
theorem dX6_cell_9 : decode cX6_cell 9 = .ok (.aload_n 0, 1) := by decide +kernel
theorem dX6_cell_10 : decode cX6_cell 10 = .ok (.iload_n 1, 1) := by decide +kernel
theorem dX6_cell_11 : decode cX6_cell 11 = .ok (.invokevirtual 83, 3) := by decide +kernel
theorem dX6_cell_14 : decode cX6_cell 14 = .ok (.invokevirtual 86, 3) := by decide +kernel
theorem dX6_cell_17 : decode cX6_cell 17 = .ok (.goto 8, 3) := by decide +kernel
theorem dX6_cell_20 : decode cX6_cell 20 = .ok (.aload_n 0, 1) := by decide +kernel
theorem dX6_cell_21 : decode cX6_cell 21 = .ok (.iconst (-1), 1) := by decide +kernel
theorem dX6_cell_22 : decode cX6_cell 22 = .ok (.invokevirtual 49, 3) := by decide +kernel
theorem dX6_cell_25 : decode cX6_cell 25 = .ok (.ireturn, 1) := by decide +kernel
theorem dX6_least_0 : decode cX6_least 0 = .ok (.iload_n 0, 1) := by decide +kernel
theorem dX6_least_1 : decode cX6_least 1 = .ok (.iconst 3, 1) := by decide +kernel
theorem dX6_least_2 : decode cX6_least 2 = .ok (.if_icmp .ne 8, 3) := by decide +kernel
theorem dX6_least_5 : decode cX6_least 5 = .ok (.bipush (-50), 2) := by decide +kernel
theorem dX6_least_7 : decode cX6_least 7 = .ok (.goto 4, 3) := by decide +kernel
theorem dX6_least_10 : decode cX6_least 10 = .ok (.iconst 0, 1) := by decide +kernel
theorem dX6_least_11 : decode cX6_least 11 = .ok (.ireturn, 1) := by decide +kernel
theorem dX6_most_0 : decode cX6_most 0 = .ok (.iload_n 0, 1) := by decide +kernel
theorem dX6_most_1 : decode cX6_most 1 = .ok (.ifCond .ne 8, 3) := by decide +kernel
theorem dX6_most_4 : decode cX6_most 4 = .ok (.bipush 9, 2) := by decide +kernel
theorem dX6_most_6 : decode cX6_most 6 = .ok (.goto 24, 3) := by decide +kernel
theorem dX6_most_9 : decode cX6_most 9 = .ok (.iload_n 0, 1) := by decide +kernel
theorem dX6_most_10 : decode cX6_most 10 = .ok (.iconst 1, 1) := by decide +kernel
theorem dX6_most_11 : decode cX6_most 11 = .ok (.if_icmp .ne 7, 3) := by decide +kernel
theorem dX6_most_14 : decode cX6_most 14 = .ok (.iconst 2, 1) := by decide +kernel
theorem dX6_most_15 : decode cX6_most 15 = .ok (.goto 15, 3) := by decide +kernel
theorem dX6_most_18 : decode cX6_most 18 = .ok (.iload_n 0, 1) := by decide +kernel
theorem dX6_most_19 : decode cX6_most 19 = .ok (.iconst 2, 1) := by decide +kernel
theorem dX6_most_20 : decode cX6_most 20 = .ok (.if_icmp .ne 8, 3) := by decide +kernel
theorem dX6_most_23 : decode cX6_most 23 = .ok (.bipush 20, 2) := by decide +kernel
theorem dX6_most_25 : decode cX6_most 25 = .ok (.goto 5, 3) := by decide +kernel
theorem dX6_most_28 : decode cX6_most 28 = .ok (.bipush 50, 2) := by decide +kernel
theorem dX6_most_30 : decode cX6_most 30 = .ok (.ireturn, 1) := by decide +kernel
theorem dX6_rule_0 : decode cX6_rule 0 = .ok (.iload_n 1, 1) := by decide +kernel
theorem dX6_rule_1 : decode cX6_rule 1 = .ok (.iconst 4, 1) := by decide +kernel
theorem dX6_rule_2 : decode cX6_rule 2 = .ok (.invokestatic 89, 3) := by decide +kernel
theorem dX6_rule_5 : decode cX6_rule 5 = .ok (.ifCond .eq 18, 3) := by decide +kernel
theorem dX6_rule_8 : decode cX6_rule 8 = .ok (.iload_n 2, 1) := by decide +kernel
theorem dX6_rule_9 : decode cX6_rule 9 = .ok (.iload_n 1, 1) := by decide +kernel
theorem dX6_rule_10 : decode cX6_rule 10 = .ok (.invokestatic 93, 3) := by decide +kernel
theorem dX6_rule_13 : decode cX6_rule 13 = .ok (.iload_n 1, 1) := by decide +kernel
theorem dX6_rule_14 : decode cX6_rule 14 = .ok (.invokestatic 96, 3) := by decide +kernel
theorem dX6_rule_17 : decode cX6_rule 17 = .ok (.invokestatic 99, 3) := by decide +kernel
theorem dX6_rule_20 : decode cX6_rule 20 = .ok (.goto 4, 3) := by decide +kernel
theorem dX6_rule_23 : decode cX6_rule 23 = .ok (.iconst (-1), 1) := by decide +kernel
theorem dX6_rule_24 : decode cX6_rule 24 = .ok (.istore_n 3, 1) := by decide +kernel
theorem dX6_rule_25 : decode cX6_rule 25 = .ok (.iload_n 3, 1) := by decide +kernel
theorem dX6_rule_26 : decode cX6_rule 26 = .ok (.ifCond .eq 12, 3) := by decide +kernel
theorem dX6_rule_29 : decode cX6_rule 29 = .ok (.ldc 103, 2) := by decide +kernel
theorem dX6_rule_31 : decode cX6_rule 31 = .ok (.aload_n 0, 1) := by decide +kernel
theorem dX6_rule_32 : decode cX6_rule 32 = .ok (.iload_n 3, 1) := by decide +kernel
theorem dX6_rule_33 : decode cX6_rule 33 = .ok (.invokevirtual 49, 3) := by decide +kernel
theorem dX6_rule_36 : decode cX6_rule 36 = .ok (.isub, 1) := by decide +kernel
theorem dX6_rule_37 : decode cX6_rule 37 = .ok (.ireturn, 1) := by decide +kernel
theorem dX6_rule_38 : decode cX6_rule 38 = .ok (.aload_n 0, 1) := by decide +kernel
theorem dX6_rule_39 : decode cX6_rule 39 = .ok (.getfield 13, 3) := by decide +kernel
theorem dX6_rule_42 : decode cX6_rule 42 = .ok (.iconst 2, 1) := by decide +kernel
theorem dX6_rule_43 : decode cX6_rule 43 = .ok (.iload_n 1, 1) := by decide +kernel
theorem dX6_rule_44 : decode cX6_rule 44 = .ok (.iadd, 1) := by decide +kernel
theorem dX6_rule_45 : decode cX6_rule 45 = .ok (.iaload, 1) := by decide +kernel
theorem dX6_rule_46 : decode cX6_rule 46 = .ok (.istore 4, 2) := by decide +kernel
theorem dX6_rule_48 : decode cX6_rule 48 = .ok (.aload_n 0, 1) := by decide +kernel
theorem dX6_rule_49 : decode cX6_rule 49 = .ok (.getfield 13, 3) := by decide +kernel
theorem dX6_rule_52 : decode cX6_rule 52 = .ok (.iconst 2, 1) := by decide +kernel
theorem dX6_rule_53 : decode cX6_rule 53 = .ok (.iload_n 1, 1) := by decide +kernel
theorem dX6_rule_54 : decode cX6_rule 54 = .ok (.iadd, 1) := by decide +kernel
theorem dX6_rule_55 : decode cX6_rule 55 = .ok (.iload_n 2, 1) := by decide +kernel
theorem dX6_rule_56 : decode cX6_rule 56 = .ok (.iastore, 1) := by decide +kernel
theorem dX6_rule_57 : decode cX6_rule 57 = .ok (.iload 4, 2) := by decide +kernel
theorem dX6_rule_59 : decode cX6_rule 59 = .ok (.ireturn, 1) := by decide +kernel
theorem dX6_shoreFrom_0 : decode cX6_shoreFrom 0 = .ok (.iload_n 1, 1) := by decide +kernel
theorem dX6_shoreFrom_1 : decode cX6_shoreFrom 1 = .ok (.aload_n 0, 1) := by decide +kernel
theorem dX6_shoreFrom_2 : decode cX6_shoreFrom 2 = .ok (.getfield 13, 3) := by decide +kernel
theorem dX6_shoreFrom_5 : decode cX6_shoreFrom 5 = .ok (.iconst 0, 1) := by decide +kernel
theorem dX6_shoreFrom_6 : decode cX6_shoreFrom 6 = .ok (.iaload, 1) := by decide +kernel
theorem dX6_shoreFrom_7 : decode cX6_shoreFrom 7 = .ok (.irem, 1) := by decide +kernel
theorem dX6_shoreFrom_8 : decode cX6_shoreFrom 8 = .ok (.iload_n 2, 1) := by decide +kernel
theorem dX6_shoreFrom_9 : decode cX6_shoreFrom 9 = .ok (.iadd, 1) := by decide +kernel
theorem dX6_shoreFrom_10 : decode cX6_shoreFrom 10 = .ok (.istore 4, 2) := by decide +kernel
theorem dX6_shoreFrom_12 : decode cX6_shoreFrom 12 = .ok (.iload_n 1, 1) := by decide +kernel
theorem dX6_shoreFrom_13 : decode cX6_shoreFrom 13 = .ok (.aload_n 0, 1) := by decide +kernel
theorem dX6_shoreFrom_14 : decode cX6_shoreFrom 14 = .ok (.getfield 13, 3) := by decide +kernel
theorem dX6_shoreFrom_17 : decode cX6_shoreFrom 17 = .ok (.iconst 0, 1) := by decide +kernel
theorem dX6_shoreFrom_18 : decode cX6_shoreFrom 18 = .ok (.iaload, 1) := by decide +kernel
theorem dX6_shoreFrom_19 : decode cX6_shoreFrom 19 = .ok (.idiv, 1) := by decide +kernel
theorem dX6_shoreFrom_20 : decode cX6_shoreFrom 20 = .ok (.iload_n 3, 1) := by decide +kernel
theorem dX6_shoreFrom_21 : decode cX6_shoreFrom 21 = .ok (.iadd, 1) := by decide +kernel
theorem dX6_shoreFrom_22 : decode cX6_shoreFrom 22 = .ok (.istore 5, 2) := by decide +kernel
theorem dX6_shoreFrom_24 : decode cX6_shoreFrom 24 = .ok (.iload 4, 2) := by decide +kernel
theorem dX6_shoreFrom_26 : decode cX6_shoreFrom 26 = .ok (.ifCond .lt 71, 3) := by decide +kernel
theorem dX6_shoreFrom_29 : decode cX6_shoreFrom 29 = .ok (.iload 4, 2) := by decide +kernel
theorem dX6_shoreFrom_31 : decode cX6_shoreFrom 31 = .ok (.aload_n 0, 1) := by decide +kernel
theorem dX6_shoreFrom_32 : decode cX6_shoreFrom 32 = .ok (.getfield 13, 3) := by decide +kernel
theorem dX6_shoreFrom_35 : decode cX6_shoreFrom 35 = .ok (.iconst 0, 1) := by decide +kernel
theorem dX6_shoreFrom_36 : decode cX6_shoreFrom 36 = .ok (.iaload, 1) := by decide +kernel
theorem dX6_shoreFrom_37 : decode cX6_shoreFrom 37 = .ok (.if_icmp .ge 60, 3) := by decide +kernel
theorem dX6_shoreFrom_40 : decode cX6_shoreFrom 40 = .ok (.iload 5, 2) := by decide +kernel
theorem dX6_shoreFrom_42 : decode cX6_shoreFrom 42 = .ok (.ifCond .lt 55, 3) := by decide +kernel
theorem dX6_shoreFrom_45 : decode cX6_shoreFrom 45 = .ok (.iload 5, 2) := by decide +kernel
theorem dX6_shoreFrom_47 : decode cX6_shoreFrom 47 = .ok (.aload_n 0, 1) := by decide +kernel
theorem dX6_shoreFrom_48 : decode cX6_shoreFrom 48 = .ok (.getfield 13, 3) := by decide +kernel
theorem dX6_shoreFrom_51 : decode cX6_shoreFrom 51 = .ok (.iconst 1, 1) := by decide +kernel
theorem dX6_shoreFrom_52 : decode cX6_shoreFrom 52 = .ok (.iaload, 1) := by decide +kernel
theorem dX6_shoreFrom_53 : decode cX6_shoreFrom 53 = .ok (.if_icmp .ge 44, 3) := by decide +kernel
theorem dX6_shoreFrom_56 : decode cX6_shoreFrom 56 = .ok (.iload 5, 2) := by decide +kernel
theorem dX6_shoreFrom_58 : decode cX6_shoreFrom 58 = .ok (.aload_n 0, 1) := by decide +kernel
theorem dX6_shoreFrom_59 : decode cX6_shoreFrom 59 = .ok (.getfield 13, 3) := by decide +kernel
theorem dX6_shoreFrom_62 : decode cX6_shoreFrom 62 = .ok (.iconst 0, 1) := by decide +kernel
theorem dX6_shoreFrom_63 : decode cX6_shoreFrom 63 = .ok (.iaload, 1) := by decide +kernel
theorem dX6_shoreFrom_64 : decode cX6_shoreFrom 64 = .ok (.imul, 1) := by decide +kernel
theorem dX6_shoreFrom_65 : decode cX6_shoreFrom 65 = .ok (.iload 4, 2) := by decide +kernel
theorem dX6_shoreFrom_67 : decode cX6_shoreFrom 67 = .ok (.iadd, 1) := by decide +kernel
theorem dX6_shoreFrom_68 : decode cX6_shoreFrom 68 = .ok (.istore 6, 2) := by decide +kernel
theorem dX6_shoreFrom_70 : decode cX6_shoreFrom 70 = .ok (.aload_n 0, 1) := by decide +kernel
theorem dX6_shoreFrom_71 : decode cX6_shoreFrom 71 = .ok (.iload 6, 2) := by decide +kernel
theorem dX6_shoreFrom_73 : decode cX6_shoreFrom 73 = .ok (.invokevirtual 86, 3) := by decide +kernel
theorem dX6_shoreFrom_76 : decode cX6_shoreFrom 76 = .ok (.ifCond .eq 6, 3) := by decide +kernel
theorem dX6_shoreFrom_79 : decode cX6_shoreFrom 79 = .ok (.iload 6, 2) := by decide +kernel
theorem dX6_shoreFrom_81 : decode cX6_shoreFrom 81 = .ok (.ireturn, 1) := by decide +kernel
theorem dX6_shoreFrom_82 : decode cX6_shoreFrom 82 = .ok (.iload 4, 2) := by decide +kernel
theorem dX6_shoreFrom_84 : decode cX6_shoreFrom 84 = .ok (.iload_n 2, 1) := by decide +kernel
theorem dX6_shoreFrom_85 : decode cX6_shoreFrom 85 = .ok (.iadd, 1) := by decide +kernel
theorem dX6_shoreFrom_86 : decode cX6_shoreFrom 86 = .ok (.istore 4, 2) := by decide +kernel
theorem dX6_shoreFrom_88 : decode cX6_shoreFrom 88 = .ok (.iload 5, 2) := by decide +kernel
theorem dX6_shoreFrom_90 : decode cX6_shoreFrom 90 = .ok (.iload_n 3, 1) := by decide +kernel
theorem dX6_shoreFrom_91 : decode cX6_shoreFrom 91 = .ok (.iadd, 1) := by decide +kernel
theorem dX6_shoreFrom_92 : decode cX6_shoreFrom 92 = .ok (.istore 5, 2) := by decide +kernel
theorem dX6_shoreFrom_94 : decode cX6_shoreFrom 94 = .ok (.goto (-70), 3) := by decide +kernel
theorem dX6_shoreFrom_97 : decode cX6_shoreFrom 97 = .ok (.bipush (-9), 2) := by decide +kernel
theorem dX6_shoreFrom_99 : decode cX6_shoreFrom 99 = .ok (.ireturn, 1) := by decide +kernel
theorem dX6_isClosed_0 : decode cX6_isClosed 0 = .ok (.aload_n 0, 1) := by decide +kernel
theorem dX6_isClosed_1 : decode cX6_isClosed 1 = .ok (.iload_n 1, 1) := by decide +kernel
theorem dX6_isClosed_2 : decode cX6_isClosed 2 = .ok (.iload_n 2, 1) := by decide +kernel
theorem dX6_isClosed_3 : decode cX6_isClosed 3 = .ok (.ineg, 1) := by decide +kernel
theorem dX6_isClosed_4 : decode cX6_isClosed 4 = .ok (.iload_n 3, 1) := by decide +kernel
theorem dX6_isClosed_5 : decode cX6_isClosed 5 = .ok (.ineg, 1) := by decide +kernel
theorem dX6_isClosed_6 : decode cX6_isClosed 6 = .ok (.invokevirtual 104, 3) := by decide +kernel
theorem dX6_isClosed_9 : decode cX6_isClosed 9 = .ok (.istore 5, 2) := by decide +kernel
theorem dX6_isClosed_11 : decode cX6_isClosed 11 = .ok (.aload_n 0, 1) := by decide +kernel
theorem dX6_isClosed_12 : decode cX6_isClosed 12 = .ok (.iload_n 1, 1) := by decide +kernel
theorem dX6_isClosed_13 : decode cX6_isClosed 13 = .ok (.iload_n 2, 1) := by decide +kernel
theorem dX6_isClosed_14 : decode cX6_isClosed 14 = .ok (.iload_n 3, 1) := by decide +kernel
theorem dX6_isClosed_15 : decode cX6_isClosed 15 = .ok (.invokevirtual 104, 3) := by decide +kernel
theorem dX6_isClosed_18 : decode cX6_isClosed 18 = .ok (.istore 6, 2) := by decide +kernel
theorem dX6_isClosed_20 : decode cX6_isClosed 20 = .ok (.iload 5, 2) := by decide +kernel
theorem dX6_isClosed_22 : decode cX6_isClosed 22 = .ok (.ifCond .lt 34, 3) := by decide +kernel
theorem dX6_isClosed_25 : decode cX6_isClosed 25 = .ok (.iload 6, 2) := by decide +kernel
theorem dX6_isClosed_27 : decode cX6_isClosed 27 = .ok (.ifCond .lt 29, 3) := by decide +kernel
theorem dX6_isClosed_30 : decode cX6_isClosed 30 = .ok (.aload_n 0, 1) := by decide +kernel
theorem dX6_isClosed_31 : decode cX6_isClosed 31 = .ok (.iload 5, 2) := by decide +kernel
theorem dX6_isClosed_33 : decode cX6_isClosed 33 = .ok (.invokevirtual 86, 3) := by decide +kernel
theorem dX6_isClosed_36 : decode cX6_isClosed 36 = .ok (.iload 4, 2) := by decide +kernel
theorem dX6_isClosed_38 : decode cX6_isClosed 38 = .ok (.iconst 1, 1) := by decide +kernel
theorem dX6_isClosed_39 : decode cX6_isClosed 39 = .ok (.iadd, 1) := by decide +kernel
theorem dX6_isClosed_40 : decode cX6_isClosed 40 = .ok (.if_icmp .ne 16, 3) := by decide +kernel
theorem dX6_isClosed_43 : decode cX6_isClosed 43 = .ok (.aload_n 0, 1) := by decide +kernel
theorem dX6_isClosed_44 : decode cX6_isClosed 44 = .ok (.iload 6, 2) := by decide +kernel
theorem dX6_isClosed_46 : decode cX6_isClosed 46 = .ok (.invokevirtual 86, 3) := by decide +kernel
theorem dX6_isClosed_49 : decode cX6_isClosed 49 = .ok (.iload 4, 2) := by decide +kernel
theorem dX6_isClosed_51 : decode cX6_isClosed 51 = .ok (.iconst 1, 1) := by decide +kernel
theorem dX6_isClosed_52 : decode cX6_isClosed 52 = .ok (.iadd, 1) := by decide +kernel
theorem dX6_isClosed_53 : decode cX6_isClosed 53 = .ok (.if_icmp .eq 5, 3) := by decide +kernel
theorem dX6_isClosed_56 : decode cX6_isClosed 56 = .ok (.iconst 0, 1) := by decide +kernel
theorem dX6_isClosed_57 : decode cX6_isClosed 57 = .ok (.ireturn, 1) := by decide +kernel
theorem dX6_isClosed_58 : decode cX6_isClosed 58 = .ok (.iload_n 2, 1) := by decide +kernel
theorem dX6_isClosed_59 : decode cX6_isClosed 59 = .ok (.iconst 1, 1) := by decide +kernel
theorem dX6_isClosed_60 : decode cX6_isClosed 60 = .ok (.if_icmp .ne 11, 3) := by decide +kernel
theorem dX6_isClosed_63 : decode cX6_isClosed 63 = .ok (.iload 6, 2) := by decide +kernel
theorem dX6_isClosed_65 : decode cX6_isClosed 65 = .ok (.iload 5, 2) := by decide +kernel
theorem dX6_isClosed_67 : decode cX6_isClosed 67 = .ok (.isub, 1) := by decide +kernel
theorem dX6_isClosed_68 : decode cX6_isClosed 68 = .ok (.goto 15, 3) := by decide +kernel
theorem dX6_isClosed_71 : decode cX6_isClosed 71 = .ok (.iload 6, 2) := by decide +kernel
theorem dX6_isClosed_73 : decode cX6_isClosed 73 = .ok (.iload 5, 2) := by decide +kernel
theorem dX6_isClosed_75 : decode cX6_isClosed 75 = .ok (.isub, 1) := by decide +kernel
theorem dX6_isClosed_76 : decode cX6_isClosed 76 = .ok (.aload_n 0, 1) := by decide +kernel
theorem dX6_isClosed_77 : decode cX6_isClosed 77 = .ok (.getfield 13, 3) := by decide +kernel
theorem dX6_isClosed_80 : decode cX6_isClosed 80 = .ok (.iconst 0, 1) := by decide +kernel
theorem dX6_isClosed_81 : decode cX6_isClosed 81 = .ok (.iaload, 1) := by decide +kernel
theorem dX6_isClosed_82 : decode cX6_isClosed 82 = .ok (.idiv, 1) := by decide +kernel
theorem dX6_isClosed_83 : decode cX6_isClosed 83 = .ok (.iconst 1, 1) := by decide +kernel
theorem dX6_isClosed_84 : decode cX6_isClosed 84 = .ok (.isub, 1) := by decide +kernel
theorem dX6_isClosed_85 : decode cX6_isClosed 85 = .ok (.aload_n 0, 1) := by decide +kernel
theorem dX6_isClosed_86 : decode cX6_isClosed 86 = .ok (.getfield 13, 3) := by decide +kernel
theorem dX6_isClosed_89 : decode cX6_isClosed 89 = .ok (.iconst 2, 1) := by decide +kernel
theorem dX6_isClosed_90 : decode cX6_isClosed 90 = .ok (.iaload, 1) := by decide +kernel
theorem dX6_isClosed_91 : decode cX6_isClosed 91 = .ok (.if_icmp .gt 7, 3) := by decide +kernel
theorem dX6_isClosed_94 : decode cX6_isClosed 94 = .ok (.iconst 1, 1) := by decide +kernel
theorem dX6_isClosed_95 : decode cX6_isClosed 95 = .ok (.goto 4, 3) := by decide +kernel
theorem dX6_isClosed_98 : decode cX6_isClosed 98 = .ok (.iconst 0, 1) := by decide +kernel
theorem dX6_isClosed_99 : decode cX6_isClosed 99 = .ok (.ireturn, 1) := by decide +kernel
theorem dX6_innerBy_0 : decode cX6_innerBy 0 = .ok (.iconst 0, 1) := by decide +kernel
theorem dX6_innerBy_1 : decode cX6_innerBy 1 = .ok (.istore_n 2, 1) := by decide +kernel
theorem dX6_innerBy_2 : decode cX6_innerBy 2 = .ok (.iload_n 2, 1) := by decide +kernel
theorem dX6_innerBy_3 : decode cX6_innerBy 3 = .ok (.iconst 3, 1) := by decide +kernel
theorem dX6_innerBy_4 : decode cX6_innerBy 4 = .ok (.if_icmp .ge 41, 3) := by decide +kernel
theorem dX6_innerBy_7 : decode cX6_innerBy 7 = .ok (.aload_n 0, 1) := by decide +kernel
theorem dX6_innerBy_8 : decode cX6_innerBy 8 = .ok (.iload_n 1, 1) := by decide +kernel
theorem dX6_innerBy_9 : decode cX6_innerBy 9 = .ok (.invokevirtual 86, 3) := by decide +kernel
theorem dX6_innerBy_12 : decode cX6_innerBy 12 = .ok (.ifCond .ne 33, 3) := by decide +kernel
theorem dX6_innerBy_15 : decode cX6_innerBy 15 = .ok (.aload_n 0, 1) := by decide +kernel
theorem dX6_innerBy_16 : decode cX6_innerBy 16 = .ok (.iload_n 1, 1) := by decide +kernel
theorem dX6_innerBy_17 : decode cX6_innerBy 17 = .ok (.iconst 1, 1) := by decide +kernel
theorem dX6_innerBy_18 : decode cX6_innerBy 18 = .ok (.iconst 0, 1) := by decide +kernel
theorem dX6_innerBy_19 : decode cX6_innerBy 19 = .ok (.iload_n 2, 1) := by decide +kernel
theorem dX6_innerBy_20 : decode cX6_innerBy 20 = .ok (.invokevirtual 107, 3) := by decide +kernel
theorem dX6_innerBy_23 : decode cX6_innerBy 23 = .ok (.ifCond .ne 14, 3) := by decide +kernel
theorem dX6_innerBy_26 : decode cX6_innerBy 26 = .ok (.aload_n 0, 1) := by decide +kernel
theorem dX6_innerBy_27 : decode cX6_innerBy 27 = .ok (.iload_n 1, 1) := by decide +kernel
theorem dX6_innerBy_28 : decode cX6_innerBy 28 = .ok (.iconst 0, 1) := by decide +kernel
theorem dX6_innerBy_29 : decode cX6_innerBy 29 = .ok (.iconst 1, 1) := by decide +kernel
theorem dX6_innerBy_30 : decode cX6_innerBy 30 = .ok (.iload_n 2, 1) := by decide +kernel
theorem dX6_innerBy_31 : decode cX6_innerBy 31 = .ok (.invokevirtual 107, 3) := by decide +kernel
theorem dX6_innerBy_34 : decode cX6_innerBy 34 = .ok (.ifCond .eq 5, 3) := by decide +kernel
theorem dX6_innerBy_37 : decode cX6_innerBy 37 = .ok (.iload_n 2, 1) := by decide +kernel
theorem dX6_innerBy_38 : decode cX6_innerBy 38 = .ok (.ireturn, 1) := by decide +kernel
theorem dX6_innerBy_39 : decode cX6_innerBy 39 = .ok (.iinc 2 1, 3) := by decide +kernel
theorem dX6_innerBy_42 : decode cX6_innerBy 42 = .ok (.goto (-40), 3) := by decide +kernel
theorem dX6_innerBy_45 : decode cX6_innerBy 45 = .ok (.bipush (-9), 2) := by decide +kernel
theorem dX6_innerBy_47 : decode cX6_innerBy 47 = .ok (.ireturn, 1) := by decide +kernel
theorem dX6_countOf_0 : decode cX6_countOf 0 = .ok (.aload_n 0, 1) := by decide +kernel
theorem dX6_countOf_1 : decode cX6_countOf 1 = .ok (.iload_n 1, 1) := by decide +kernel
theorem dX6_countOf_2 : decode cX6_countOf 2 = .ok (.invokevirtual 86, 3) := by decide +kernel
theorem dX6_countOf_5 : decode cX6_countOf 5 = .ok (.iload_n 2, 1) := by decide +kernel
theorem dX6_countOf_6 : decode cX6_countOf 6 = .ok (.iconst 1, 1) := by decide +kernel
theorem dX6_countOf_7 : decode cX6_countOf 7 = .ok (.iadd, 1) := by decide +kernel
theorem dX6_countOf_8 : decode cX6_countOf 8 = .ok (.if_icmp .eq 13, 3) := by decide +kernel
theorem dX6_countOf_11 : decode cX6_countOf 11 = .ok (.aload_n 0, 1) := by decide +kernel
theorem dX6_countOf_12 : decode cX6_countOf 12 = .ok (.getfield 25, 3) := by decide +kernel
theorem dX6_countOf_15 : decode cX6_countOf 15 = .ok (.iload_n 1, 1) := by decide +kernel
theorem dX6_countOf_16 : decode cX6_countOf 16 = .ok (.iaload, 1) := by decide +kernel
theorem dX6_countOf_17 : decode cX6_countOf 17 = .ok (.iload_n 2, 1) := by decide +kernel
theorem dX6_countOf_18 : decode cX6_countOf 18 = .ok (.if_icmp .ne 5, 3) := by decide +kernel
theorem dX6_countOf_21 : decode cX6_countOf 21 = .ok (.iconst 1, 1) := by decide +kernel
theorem dX6_countOf_22 : decode cX6_countOf 22 = .ok (.ireturn, 1) := by decide +kernel
theorem dX6_countOf_23 : decode cX6_countOf 23 = .ok (.aload_n 0, 1) := by decide +kernel
theorem dX6_countOf_24 : decode cX6_countOf 24 = .ok (.iload_n 1, 1) := by decide +kernel
theorem dX6_countOf_25 : decode cX6_countOf 25 = .ok (.invokevirtual 86, 3) := by decide +kernel
theorem dX6_countOf_28 : decode cX6_countOf 28 = .ok (.iconst 3, 1) := by decide +kernel
theorem dX6_countOf_29 : decode cX6_countOf 29 = .ok (.iload_n 2, 1) := by decide +kernel
theorem dX6_countOf_30 : decode cX6_countOf 30 = .ok (.iadd, 1) := by decide +kernel
theorem dX6_countOf_31 : decode cX6_countOf 31 = .ok (.iconst 1, 1) := by decide +kernel
theorem dX6_countOf_32 : decode cX6_countOf 32 = .ok (.iadd, 1) := by decide +kernel
theorem dX6_countOf_33 : decode cX6_countOf 33 = .ok (.if_icmp .ne 12, 3) := by decide +kernel
theorem dX6_countOf_36 : decode cX6_countOf 36 = .ok (.aload_n 0, 1) := by decide +kernel
theorem dX6_countOf_37 : decode cX6_countOf 37 = .ok (.getfield 13, 3) := by decide +kernel
theorem dX6_countOf_40 : decode cX6_countOf 40 = .ok (.iconst 3, 1) := by decide +kernel
theorem dX6_countOf_41 : decode cX6_countOf 41 = .ok (.iaload, 1) := by decide +kernel
theorem dX6_countOf_42 : decode cX6_countOf 42 = .ok (.ifCond .ne 7, 3) := by decide +kernel
theorem dX6_countOf_45 : decode cX6_countOf 45 = .ok (.iconst 0, 1) := by decide +kernel
theorem dX6_countOf_46 : decode cX6_countOf 46 = .ok (.goto 18, 3) := by decide +kernel
theorem dX6_countOf_49 : decode cX6_countOf 49 = .ok (.aload_n 0, 1) := by decide +kernel
theorem dX6_countOf_50 : decode cX6_countOf 50 = .ok (.getfield 13, 3) := by decide +kernel
theorem dX6_countOf_53 : decode cX6_countOf 53 = .ok (.iconst 3, 1) := by decide +kernel
theorem dX6_countOf_54 : decode cX6_countOf 54 = .ok (.iaload, 1) := by decide +kernel
theorem dX6_countOf_55 : decode cX6_countOf 55 = .ok (.iconst 1, 1) := by decide +kernel
theorem dX6_countOf_56 : decode cX6_countOf 56 = .ok (.if_icmp .ne 7, 3) := by decide +kernel
theorem dX6_countOf_59 : decode cX6_countOf 59 = .ok (.iconst 4, 1) := by decide +kernel
theorem dX6_countOf_60 : decode cX6_countOf 60 = .ok (.goto 4, 3) := by decide +kernel
theorem dX6_countOf_63 : decode cX6_countOf 63 = .ok (.iconst 1, 1) := by decide +kernel
theorem dX6_countOf_64 : decode cX6_countOf 64 = .ok (.ireturn, 1) := by decide +kernel
theorem dX6_findNear_0 : decode cX6_findNear 0 = .ok (.bipush (-9), 2) := by decide +kernel
theorem dX6_findNear_2 : decode cX6_findNear 2 = .ok (.istore_n 3, 1) := by decide +kernel
theorem dX6_findNear_3 : decode cX6_findNear 3 = .ok (.bipush (-9), 2) := by decide +kernel
theorem dX6_findNear_5 : decode cX6_findNear 5 = .ok (.istore 4, 2) := by decide +kernel
theorem dX6_findNear_7 : decode cX6_findNear 7 = .ok (.iconst 0, 1) := by decide +kernel
theorem dX6_findNear_8 : decode cX6_findNear 8 = .ok (.istore 5, 2) := by decide +kernel
theorem dX6_findNear_10 : decode cX6_findNear 10 = .ok (.iload 5, 2) := by decide +kernel
theorem dX6_findNear_12 : decode cX6_findNear 12 = .ok (.aload_n 0, 1) := by decide +kernel
theorem dX6_findNear_13 : decode cX6_findNear 13 = .ok (.invokevirtual 75, 3) := by decide +kernel
theorem dX6_findNear_16 : decode cX6_findNear 16 = .ok (.if_icmp .ge 102, 3) := by decide +kernel
theorem dX6_findNear_19 : decode cX6_findNear 19 = .ok (.aload_n 0, 1) := by decide +kernel
theorem dX6_findNear_20 : decode cX6_findNear 20 = .ok (.iload 5, 2) := by decide +kernel
theorem dX6_findNear_22 : decode cX6_findNear 22 = .ok (.iload_n 2, 1) := by decide +kernel
theorem dX6_findNear_23 : decode cX6_findNear 23 = .ok (.invokevirtual 111, 3) := by decide +kernel
theorem dX6_findNear_26 : decode cX6_findNear 26 = .ok (.istore 6, 2) := by decide +kernel
theorem dX6_findNear_28 : decode cX6_findNear 28 = .ok (.iload 6, 2) := by decide +kernel
theorem dX6_findNear_30 : decode cX6_findNear 30 = .ok (.ifCond .ne 6, 3) := by decide +kernel
theorem dX6_findNear_33 : decode cX6_findNear 33 = .ok (.goto 79, 3) := by decide +kernel
theorem dX6_findNear_36 : decode cX6_findNear 36 = .ok (.iload_n 1, 1) := by decide +kernel
theorem dX6_findNear_37 : decode cX6_findNear 37 = .ok (.aload_n 0, 1) := by decide +kernel
theorem dX6_findNear_38 : decode cX6_findNear 38 = .ok (.getfield 13, 3) := by decide +kernel
theorem dX6_findNear_41 : decode cX6_findNear 41 = .ok (.iconst 0, 1) := by decide +kernel
theorem dX6_findNear_42 : decode cX6_findNear 42 = .ok (.iaload, 1) := by decide +kernel
theorem dX6_findNear_43 : decode cX6_findNear 43 = .ok (.irem, 1) := by decide +kernel
theorem dX6_findNear_44 : decode cX6_findNear 44 = .ok (.iload 5, 2) := by decide +kernel
theorem dX6_findNear_46 : decode cX6_findNear 46 = .ok (.aload_n 0, 1) := by decide +kernel
theorem dX6_findNear_47 : decode cX6_findNear 47 = .ok (.getfield 13, 3) := by decide +kernel
theorem dX6_findNear_50 : decode cX6_findNear 50 = .ok (.iconst 0, 1) := by decide +kernel
theorem dX6_findNear_51 : decode cX6_findNear 51 = .ok (.iaload, 1) := by decide +kernel
theorem dX6_findNear_52 : decode cX6_findNear 52 = .ok (.irem, 1) := by decide +kernel
theorem dX6_findNear_53 : decode cX6_findNear 53 = .ok (.isub, 1) := by decide +kernel
theorem dX6_findNear_54 : decode cX6_findNear 54 = .ok (.istore 7, 2) := by decide +kernel
theorem dX6_findNear_56 : decode cX6_findNear 56 = .ok (.iload_n 1, 1) := by decide +kernel
theorem dX6_findNear_57 : decode cX6_findNear 57 = .ok (.aload_n 0, 1) := by decide +kernel
theorem dX6_findNear_58 : decode cX6_findNear 58 = .ok (.getfield 13, 3) := by decide +kernel
theorem dX6_findNear_61 : decode cX6_findNear 61 = .ok (.iconst 0, 1) := by decide +kernel
theorem dX6_findNear_62 : decode cX6_findNear 62 = .ok (.iaload, 1) := by decide +kernel
theorem dX6_findNear_63 : decode cX6_findNear 63 = .ok (.idiv, 1) := by decide +kernel
theorem dX6_findNear_64 : decode cX6_findNear 64 = .ok (.iload 5, 2) := by decide +kernel
theorem dX6_findNear_66 : decode cX6_findNear 66 = .ok (.aload_n 0, 1) := by decide +kernel
theorem dX6_findNear_67 : decode cX6_findNear 67 = .ok (.getfield 13, 3) := by decide +kernel
theorem dX6_findNear_70 : decode cX6_findNear 70 = .ok (.iconst 0, 1) := by decide +kernel
theorem dX6_findNear_71 : decode cX6_findNear 71 = .ok (.iaload, 1) := by decide +kernel
theorem dX6_findNear_72 : decode cX6_findNear 72 = .ok (.idiv, 1) := by decide +kernel
theorem dX6_findNear_73 : decode cX6_findNear 73 = .ok (.isub, 1) := by decide +kernel
theorem dX6_findNear_74 : decode cX6_findNear 74 = .ok (.istore 8, 2) := by decide +kernel
theorem dX6_findNear_76 : decode cX6_findNear 76 = .ok (.iload 6, 2) := by decide +kernel
theorem dX6_findNear_78 : decode cX6_findNear 78 = .ok (.iload 7, 2) := by decide +kernel
theorem dX6_findNear_80 : decode cX6_findNear 80 = .ok (.iload 7, 2) := by decide +kernel
theorem dX6_findNear_82 : decode cX6_findNear 82 = .ok (.imul, 1) := by decide +kernel
theorem dX6_findNear_83 : decode cX6_findNear 83 = .ok (.iload 8, 2) := by decide +kernel
theorem dX6_findNear_85 : decode cX6_findNear 85 = .ok (.iload 8, 2) := by decide +kernel
theorem dX6_findNear_87 : decode cX6_findNear 87 = .ok (.imul, 1) := by decide +kernel
theorem dX6_findNear_88 : decode cX6_findNear 88 = .ok (.iadd, 1) := by decide +kernel
theorem dX6_findNear_89 : decode cX6_findNear 89 = .ok (.imul, 1) := by decide +kernel
theorem dX6_findNear_90 : decode cX6_findNear 90 = .ok (.istore 9, 2) := by decide +kernel
theorem dX6_findNear_92 : decode cX6_findNear 92 = .ok (.iload_n 3, 1) := by decide +kernel
theorem dX6_findNear_93 : decode cX6_findNear 93 = .ok (.ifCond .lt 12, 3) := by decide +kernel
theorem dX6_findNear_96 : decode cX6_findNear 96 = .ok (.iload 9, 2) := by decide +kernel
theorem dX6_findNear_98 : decode cX6_findNear 98 = .ok (.iload_n 3, 1) := by decide +kernel
theorem dX6_findNear_99 : decode cX6_findNear 99 = .ok (.if_icmp .lt 6, 3) := by decide +kernel
theorem dX6_findNear_102 : decode cX6_findNear 102 = .ok (.goto 10, 3) := by decide +kernel
theorem dX6_findNear_105 : decode cX6_findNear 105 = .ok (.iload 9, 2) := by decide +kernel
theorem dX6_findNear_107 : decode cX6_findNear 107 = .ok (.istore_n 3, 1) := by decide +kernel
theorem dX6_findNear_108 : decode cX6_findNear 108 = .ok (.iload 5, 2) := by decide +kernel
theorem dX6_findNear_110 : decode cX6_findNear 110 = .ok (.istore 4, 2) := by decide +kernel
theorem dX6_findNear_112 : decode cX6_findNear 112 = .ok (.iinc 5 1, 3) := by decide +kernel
theorem dX6_findNear_115 : decode cX6_findNear 115 = .ok (.goto (-105), 3) := by decide +kernel
theorem dX6_findNear_118 : decode cX6_findNear 118 = .ok (.aload_n 0, 1) := by decide +kernel
theorem dX6_findNear_119 : decode cX6_findNear 119 = .ok (.getfield 31, 3) := by decide +kernel
theorem dX6_findNear_122 : decode cX6_findNear 122 = .ok (.bipush 120, 2) := by decide +kernel
theorem dX6_findNear_124 : decode cX6_findNear 124 = .ok (.iload_n 2, 1) := by decide +kernel
theorem dX6_findNear_125 : decode cX6_findNear 125 = .ok (.imul, 1) := by decide +kernel
theorem dX6_findNear_126 : decode cX6_findNear 126 = .ok (.iload_n 1, 1) := by decide +kernel
theorem dX6_findNear_127 : decode cX6_findNear 127 = .ok (.iadd, 1) := by decide +kernel
theorem dX6_findNear_128 : decode cX6_findNear 128 = .ok (.iload_n 3, 1) := by decide +kernel
theorem dX6_findNear_129 : decode cX6_findNear 129 = .ok (.iastore, 1) := by decide +kernel
theorem dX6_findNear_130 : decode cX6_findNear 130 = .ok (.aload_n 0, 1) := by decide +kernel
theorem dX6_findNear_131 : decode cX6_findNear 131 = .ok (.getfield 34, 3) := by decide +kernel
theorem dX6_findNear_134 : decode cX6_findNear 134 = .ok (.bipush 120, 2) := by decide +kernel
theorem dX6_findNear_136 : decode cX6_findNear 136 = .ok (.iload_n 2, 1) := by decide +kernel
theorem dX6_findNear_137 : decode cX6_findNear 137 = .ok (.imul, 1) := by decide +kernel
theorem dX6_findNear_138 : decode cX6_findNear 138 = .ok (.iload_n 1, 1) := by decide +kernel
theorem dX6_findNear_139 : decode cX6_findNear 139 = .ok (.iadd, 1) := by decide +kernel
theorem dX6_findNear_140 : decode cX6_findNear 140 = .ok (.iload 4, 2) := by decide +kernel
theorem dX6_findNear_142 : decode cX6_findNear 142 = .ok (.iastore, 1) := by decide +kernel
theorem dX6_findNear_143 : decode cX6_findNear 143 = .ok (.return_, 1) := by decide +kernel
theorem dX6_whoseBy_0 : decode cX6_whoseBy 0 = .ok (.aload_n 0, 1) := by decide +kernel
theorem dX6_whoseBy_1 : decode cX6_whoseBy 1 = .ok (.iload_n 1, 1) := by decide +kernel
theorem dX6_whoseBy_2 : decode cX6_whoseBy 2 = .ok (.invokevirtual 86, 3) := by decide +kernel
theorem dX6_whoseBy_5 : decode cX6_whoseBy 5 = .ok (.ifCond .eq 6, 3) := by decide +kernel
theorem dX6_whoseBy_8 : decode cX6_whoseBy 8 = .ok (.bipush (-9), 2) := by decide +kernel
theorem dX6_whoseBy_10 : decode cX6_whoseBy 10 = .ok (.ireturn, 1) := by decide +kernel
theorem dX6_whoseBy_11 : decode cX6_whoseBy 11 = .ok (.aload_n 0, 1) := by decide +kernel
theorem dX6_whoseBy_12 : decode cX6_whoseBy 12 = .ok (.getfield 25, 3) := by decide +kernel
theorem dX6_whoseBy_15 : decode cX6_whoseBy 15 = .ok (.iload_n 1, 1) := by decide +kernel
theorem dX6_whoseBy_16 : decode cX6_whoseBy 16 = .ok (.iaload, 1) := by decide +kernel
theorem dX6_whoseBy_17 : decode cX6_whoseBy 17 = .ok (.ifCond .lt 10, 3) := by decide +kernel
theorem dX6_whoseBy_20 : decode cX6_whoseBy 20 = .ok (.aload_n 0, 1) := by decide +kernel
theorem dX6_whoseBy_21 : decode cX6_whoseBy 21 = .ok (.getfield 25, 3) := by decide +kernel
theorem dX6_whoseBy_24 : decode cX6_whoseBy 24 = .ok (.iload_n 1, 1) := by decide +kernel
theorem dX6_whoseBy_25 : decode cX6_whoseBy 25 = .ok (.iaload, 1) := by decide +kernel
theorem dX6_whoseBy_26 : decode cX6_whoseBy 26 = .ok (.ireturn, 1) := by decide +kernel
theorem dX6_whoseBy_27 : decode cX6_whoseBy 27 = .ok (.bipush (-3), 2) := by decide +kernel
theorem dX6_whoseBy_29 : decode cX6_whoseBy 29 = .ok (.istore_n 2, 1) := by decide +kernel
theorem dX6_whoseBy_30 : decode cX6_whoseBy 30 = .ok (.iconst 0, 1) := by decide +kernel
theorem dX6_whoseBy_31 : decode cX6_whoseBy 31 = .ok (.istore_n 3, 1) := by decide +kernel
theorem dX6_whoseBy_32 : decode cX6_whoseBy 32 = .ok (.iconst 0, 1) := by decide +kernel
theorem dX6_whoseBy_33 : decode cX6_whoseBy 33 = .ok (.istore 4, 2) := by decide +kernel
theorem dX6_whoseBy_35 : decode cX6_whoseBy 35 = .ok (.iconst 0, 1) := by decide +kernel
theorem dX6_whoseBy_36 : decode cX6_whoseBy 36 = .ok (.istore 5, 2) := by decide +kernel
theorem dX6_whoseBy_38 : decode cX6_whoseBy 38 = .ok (.iload 5, 2) := by decide +kernel
theorem dX6_whoseBy_40 : decode cX6_whoseBy 40 = .ok (.iconst 3, 1) := by decide +kernel
theorem dX6_whoseBy_41 : decode cX6_whoseBy 41 = .ok (.if_icmp .ge 134, 3) := by decide +kernel
theorem dX6_whoseBy_44 : decode cX6_whoseBy 44 = .ok (.aload_n 0, 1) := by decide +kernel
theorem dX6_whoseBy_45 : decode cX6_whoseBy 45 = .ok (.getfield 31, 3) := by decide +kernel
theorem dX6_whoseBy_48 : decode cX6_whoseBy 48 = .ok (.bipush 120, 2) := by decide +kernel
theorem dX6_whoseBy_50 : decode cX6_whoseBy 50 = .ok (.iload 5, 2) := by decide +kernel
theorem dX6_whoseBy_52 : decode cX6_whoseBy 52 = .ok (.imul, 1) := by decide +kernel
theorem dX6_whoseBy_53 : decode cX6_whoseBy 53 = .ok (.iload_n 1, 1) := by decide +kernel
theorem dX6_whoseBy_54 : decode cX6_whoseBy 54 = .ok (.iadd, 1) := by decide +kernel
theorem dX6_whoseBy_55 : decode cX6_whoseBy 55 = .ok (.iaload, 1) := by decide +kernel
theorem dX6_whoseBy_56 : decode cX6_whoseBy 56 = .ok (.istore 6, 2) := by decide +kernel
theorem dX6_whoseBy_58 : decode cX6_whoseBy 58 = .ok (.iload 6, 2) := by decide +kernel
theorem dX6_whoseBy_60 : decode cX6_whoseBy 60 = .ok (.ifCond .lt 109, 3) := by decide +kernel
theorem dX6_whoseBy_63 : decode cX6_whoseBy 63 = .ok (.iload 6, 2) := by decide +kernel
theorem dX6_whoseBy_65 : decode cX6_whoseBy 65 = .ok (.aload_n 0, 1) := by decide +kernel
theorem dX6_whoseBy_66 : decode cX6_whoseBy 66 = .ok (.getfield 13, 3) := by decide +kernel
theorem dX6_whoseBy_69 : decode cX6_whoseBy 69 = .ok (.iconst 4, 1) := by decide +kernel
theorem dX6_whoseBy_70 : decode cX6_whoseBy 70 = .ok (.iaload, 1) := by decide +kernel
theorem dX6_whoseBy_71 : decode cX6_whoseBy 71 = .ok (.aload_n 0, 1) := by decide +kernel
theorem dX6_whoseBy_72 : decode cX6_whoseBy 72 = .ok (.getfield 13, 3) := by decide +kernel
theorem dX6_whoseBy_75 : decode cX6_whoseBy 75 = .ok (.iconst 4, 1) := by decide +kernel
theorem dX6_whoseBy_76 : decode cX6_whoseBy 76 = .ok (.iaload, 1) := by decide +kernel
theorem dX6_whoseBy_77 : decode cX6_whoseBy 77 = .ok (.imul, 1) := by decide +kernel
theorem dX6_whoseBy_78 : decode cX6_whoseBy 78 = .ok (.if_icmp .le 6, 3) := by decide +kernel
theorem dX6_whoseBy_81 : decode cX6_whoseBy 81 = .ok (.goto 88, 3) := by decide +kernel
theorem dX6_whoseBy_84 : decode cX6_whoseBy 84 = .ok (.iload 6, 2) := by decide +kernel
theorem dX6_whoseBy_86 : decode cX6_whoseBy 86 = .ok (.iload 5, 2) := by decide +kernel
theorem dX6_whoseBy_88 : decode cX6_whoseBy 88 = .ok (.ifCond .ne 15, 3) := by decide +kernel
theorem dX6_whoseBy_91 : decode cX6_whoseBy 91 = .ok (.bipush 100, 2) := by decide +kernel
theorem dX6_whoseBy_93 : decode cX6_whoseBy 93 = .ok (.aload_n 0, 1) := by decide +kernel
theorem dX6_whoseBy_94 : decode cX6_whoseBy 94 = .ok (.getfield 13, 3) := by decide +kernel
theorem dX6_whoseBy_97 : decode cX6_whoseBy 97 = .ok (.iconst 5, 1) := by decide +kernel
theorem dX6_whoseBy_98 : decode cX6_whoseBy 98 = .ok (.iaload, 1) := by decide +kernel
theorem dX6_whoseBy_99 : decode cX6_whoseBy 99 = .ok (.isub, 1) := by decide +kernel
theorem dX6_whoseBy_100 : decode cX6_whoseBy 100 = .ok (.goto 23, 3) := by decide +kernel
theorem dX6_whoseBy_103 : decode cX6_whoseBy 103 = .ok (.iload 5, 2) := by decide +kernel
theorem dX6_whoseBy_105 : decode cX6_whoseBy 105 = .ok (.iconst 1, 1) := by decide +kernel
theorem dX6_whoseBy_106 : decode cX6_whoseBy 106 = .ok (.if_icmp .ne 15, 3) := by decide +kernel
theorem dX6_whoseBy_109 : decode cX6_whoseBy 109 = .ok (.bipush 100, 2) := by decide +kernel
theorem dX6_whoseBy_111 : decode cX6_whoseBy 111 = .ok (.aload_n 0, 1) := by decide +kernel
theorem dX6_whoseBy_112 : decode cX6_whoseBy 112 = .ok (.getfield 13, 3) := by decide +kernel
theorem dX6_whoseBy_115 : decode cX6_whoseBy 115 = .ok (.iconst 5, 1) := by decide +kernel
theorem dX6_whoseBy_116 : decode cX6_whoseBy 116 = .ok (.iaload, 1) := by decide +kernel
theorem dX6_whoseBy_117 : decode cX6_whoseBy 117 = .ok (.iadd, 1) := by decide +kernel
theorem dX6_whoseBy_118 : decode cX6_whoseBy 118 = .ok (.goto 5, 3) := by decide +kernel
theorem dX6_whoseBy_121 : decode cX6_whoseBy 121 = .ok (.bipush 100, 2) := by decide +kernel
theorem dX6_whoseBy_123 : decode cX6_whoseBy 123 = .ok (.imul, 1) := by decide +kernel
theorem dX6_whoseBy_124 : decode cX6_whoseBy 124 = .ok (.istore 7, 2) := by decide +kernel
theorem dX6_whoseBy_126 : decode cX6_whoseBy 126 = .ok (.iload_n 2, 1) := by decide +kernel
theorem dX6_whoseBy_127 : decode cX6_whoseBy 127 = .ok (.bipush (-3), 2) := by decide +kernel
theorem dX6_whoseBy_129 : decode cX6_whoseBy 129 = .ok (.if_icmp .eq 12, 3) := by decide +kernel
theorem dX6_whoseBy_132 : decode cX6_whoseBy 132 = .ok (.iload 7, 2) := by decide +kernel
theorem dX6_whoseBy_134 : decode cX6_whoseBy 134 = .ok (.iload_n 3, 1) := by decide +kernel
theorem dX6_whoseBy_135 : decode cX6_whoseBy 135 = .ok (.if_icmp .le 6, 3) := by decide +kernel
theorem dX6_whoseBy_138 : decode cX6_whoseBy 138 = .ok (.goto 31, 3) := by decide +kernel
theorem dX6_whoseBy_141 : decode cX6_whoseBy 141 = .ok (.iload_n 2, 1) := by decide +kernel
theorem dX6_whoseBy_142 : decode cX6_whoseBy 142 = .ok (.bipush (-3), 2) := by decide +kernel
theorem dX6_whoseBy_144 : decode cX6_whoseBy 144 = .ok (.if_icmp .eq 16, 3) := by decide +kernel
theorem dX6_whoseBy_147 : decode cX6_whoseBy 147 = .ok (.iload 7, 2) := by decide +kernel
theorem dX6_whoseBy_149 : decode cX6_whoseBy 149 = .ok (.iload_n 3, 1) := by decide +kernel
theorem dX6_whoseBy_150 : decode cX6_whoseBy 150 = .ok (.if_icmp .ne 10, 3) := by decide +kernel
theorem dX6_whoseBy_153 : decode cX6_whoseBy 153 = .ok (.iload 4, 2) := by decide +kernel
theorem dX6_whoseBy_155 : decode cX6_whoseBy 155 = .ok (.iconst 1, 1) := by decide +kernel
theorem dX6_whoseBy_156 : decode cX6_whoseBy 156 = .ok (.iadd, 1) := by decide +kernel
theorem dX6_whoseBy_157 : decode cX6_whoseBy 157 = .ok (.goto 4, 3) := by decide +kernel
theorem dX6_whoseBy_160 : decode cX6_whoseBy 160 = .ok (.iconst 1, 1) := by decide +kernel
theorem dX6_whoseBy_161 : decode cX6_whoseBy 161 = .ok (.istore 4, 2) := by decide +kernel
theorem dX6_whoseBy_163 : decode cX6_whoseBy 163 = .ok (.iload 5, 2) := by decide +kernel
theorem dX6_whoseBy_165 : decode cX6_whoseBy 165 = .ok (.istore_n 2, 1) := by decide +kernel
theorem dX6_whoseBy_166 : decode cX6_whoseBy 166 = .ok (.iload 7, 2) := by decide +kernel
theorem dX6_whoseBy_168 : decode cX6_whoseBy 168 = .ok (.istore_n 3, 1) := by decide +kernel
theorem dX6_whoseBy_169 : decode cX6_whoseBy 169 = .ok (.iinc 5 1, 3) := by decide +kernel
theorem dX6_whoseBy_172 : decode cX6_whoseBy 172 = .ok (.goto (-134), 3) := by decide +kernel
theorem dX6_whoseBy_175 : decode cX6_whoseBy 175 = .ok (.aload_n 0, 1) := by decide +kernel
theorem dX6_whoseBy_176 : decode cX6_whoseBy 176 = .ok (.dup, 1) := by decide +kernel
theorem dX6_whoseBy_177 : decode cX6_whoseBy 177 = .ok (.getfield 115, 3) := by decide +kernel
theorem dX6_whoseBy_180 : decode cX6_whoseBy 180 = .ok (.iload 4, 2) := by decide +kernel
theorem dX6_whoseBy_182 : decode cX6_whoseBy 182 = .ok (.iconst 3, 1) := by decide +kernel
theorem dX6_whoseBy_183 : decode cX6_whoseBy 183 = .ok (.if_icmp .ne 7, 3) := by decide +kernel
theorem dX6_whoseBy_186 : decode cX6_whoseBy 186 = .ok (.iconst 1, 1) := by decide +kernel
theorem dX6_whoseBy_187 : decode cX6_whoseBy 187 = .ok (.goto 4, 3) := by decide +kernel
theorem dX6_whoseBy_190 : decode cX6_whoseBy 190 = .ok (.iconst 0, 1) := by decide +kernel
theorem dX6_whoseBy_191 : decode cX6_whoseBy 191 = .ok (.iadd, 1) := by decide +kernel
theorem dX6_whoseBy_192 : decode cX6_whoseBy 192 = .ok (.putfield 115, 3) := by decide +kernel
theorem dX6_whoseBy_195 : decode cX6_whoseBy 195 = .ok (.iload 4, 2) := by decide +kernel
theorem dX6_whoseBy_197 : decode cX6_whoseBy 197 = .ok (.iconst 1, 1) := by decide +kernel
theorem dX6_whoseBy_198 : decode cX6_whoseBy 198 = .ok (.if_icmp .le 8, 3) := by decide +kernel
theorem dX6_whoseBy_201 : decode cX6_whoseBy 201 = .ok (.bipush (-2), 2) := by decide +kernel
theorem dX6_whoseBy_203 : decode cX6_whoseBy 203 = .ok (.goto 4, 3) := by decide +kernel
theorem dX6_whoseBy_206 : decode cX6_whoseBy 206 = .ok (.iload_n 2, 1) := by decide +kernel
theorem dX6_whoseBy_207 : decode cX6_whoseBy 207 = .ok (.ireturn, 1) := by decide +kernel
theorem dX6_find_0 : decode cX6_find 0 = .ok (.aload_n 0, 1) := by decide +kernel
theorem dX6_find_1 : decode cX6_find 1 = .ok (.iconst 0, 1) := by decide +kernel
theorem dX6_find_2 : decode cX6_find 2 = .ok (.putfield 115, 3) := by decide +kernel
theorem dX6_find_5 : decode cX6_find 5 = .ok (.iconst 0, 1) := by decide +kernel
theorem dX6_find_6 : decode cX6_find 6 = .ok (.istore_n 1, 1) := by decide +kernel
theorem dX6_find_7 : decode cX6_find 7 = .ok (.iload_n 1, 1) := by decide +kernel
theorem dX6_find_8 : decode cX6_find 8 = .ok (.aload_n 0, 1) := by decide +kernel
theorem dX6_find_9 : decode cX6_find 9 = .ok (.invokevirtual 75, 3) := by decide +kernel
theorem dX6_find_12 : decode cX6_find 12 = .ok (.if_icmp .ge 20, 3) := by decide +kernel
theorem dX6_find_15 : decode cX6_find 15 = .ok (.aload_n 0, 1) := by decide +kernel
theorem dX6_find_16 : decode cX6_find 16 = .ok (.getfield 25, 3) := by decide +kernel
theorem dX6_find_19 : decode cX6_find 19 = .ok (.iload_n 1, 1) := by decide +kernel
theorem dX6_find_20 : decode cX6_find 20 = .ok (.aload_n 0, 1) := by decide +kernel
theorem dX6_find_21 : decode cX6_find 21 = .ok (.iload_n 1, 1) := by decide +kernel
theorem dX6_find_22 : decode cX6_find 22 = .ok (.invokevirtual 118, 3) := by decide +kernel
theorem dX6_find_25 : decode cX6_find 25 = .ok (.iastore, 1) := by decide +kernel
theorem dX6_find_26 : decode cX6_find 26 = .ok (.iinc 1 1, 3) := by decide +kernel
theorem dX6_find_29 : decode cX6_find 29 = .ok (.goto (-22), 3) := by decide +kernel
theorem dX6_find_32 : decode cX6_find 32 = .ok (.iconst 0, 1) := by decide +kernel
theorem dX6_find_33 : decode cX6_find 33 = .ok (.istore_n 1, 1) := by decide +kernel
theorem dX6_find_34 : decode cX6_find 34 = .ok (.iload_n 1, 1) := by decide +kernel
theorem dX6_find_35 : decode cX6_find 35 = .ok (.aload_n 0, 1) := by decide +kernel
theorem dX6_find_36 : decode cX6_find 36 = .ok (.invokevirtual 75, 3) := by decide +kernel
theorem dX6_find_39 : decode cX6_find 39 = .ok (.if_icmp .ge 28, 3) := by decide +kernel
theorem dX6_find_42 : decode cX6_find 42 = .ok (.iconst 0, 1) := by decide +kernel
theorem dX6_find_43 : decode cX6_find 43 = .ok (.istore_n 2, 1) := by decide +kernel
theorem dX6_find_44 : decode cX6_find 44 = .ok (.iload_n 2, 1) := by decide +kernel
theorem dX6_find_45 : decode cX6_find 45 = .ok (.iconst 3, 1) := by decide +kernel
theorem dX6_find_46 : decode cX6_find 46 = .ok (.if_icmp .ge 15, 3) := by decide +kernel
theorem dX6_find_49 : decode cX6_find 49 = .ok (.aload_n 0, 1) := by decide +kernel
theorem dX6_find_50 : decode cX6_find 50 = .ok (.iload_n 1, 1) := by decide +kernel
theorem dX6_find_51 : decode cX6_find 51 = .ok (.iload_n 2, 1) := by decide +kernel
theorem dX6_find_52 : decode cX6_find 52 = .ok (.invokevirtual 121, 3) := by decide +kernel
theorem dX6_find_55 : decode cX6_find 55 = .ok (.iinc 2 1, 3) := by decide +kernel
theorem dX6_find_58 : decode cX6_find 58 = .ok (.goto (-14), 3) := by decide +kernel
theorem dX6_find_61 : decode cX6_find 61 = .ok (.iinc 1 1, 3) := by decide +kernel
theorem dX6_find_64 : decode cX6_find 64 = .ok (.goto (-30), 3) := by decide +kernel
theorem dX6_find_67 : decode cX6_find 67 = .ok (.iconst 0, 1) := by decide +kernel
theorem dX6_find_68 : decode cX6_find 68 = .ok (.istore_n 1, 1) := by decide +kernel
theorem dX6_find_69 : decode cX6_find 69 = .ok (.iload_n 1, 1) := by decide +kernel
theorem dX6_find_70 : decode cX6_find 70 = .ok (.aload_n 0, 1) := by decide +kernel
theorem dX6_find_71 : decode cX6_find 71 = .ok (.invokevirtual 75, 3) := by decide +kernel
theorem dX6_find_74 : decode cX6_find 74 = .ok (.if_icmp .ge 20, 3) := by decide +kernel
theorem dX6_find_77 : decode cX6_find 77 = .ok (.aload_n 0, 1) := by decide +kernel
theorem dX6_find_78 : decode cX6_find 78 = .ok (.getfield 28, 3) := by decide +kernel
theorem dX6_find_81 : decode cX6_find 81 = .ok (.iload_n 1, 1) := by decide +kernel
theorem dX6_find_82 : decode cX6_find 82 = .ok (.aload_n 0, 1) := by decide +kernel
theorem dX6_find_83 : decode cX6_find 83 = .ok (.iload_n 1, 1) := by decide +kernel
theorem dX6_find_84 : decode cX6_find 84 = .ok (.invokevirtual 125, 3) := by decide +kernel
theorem dX6_find_87 : decode cX6_find 87 = .ok (.iastore, 1) := by decide +kernel
theorem dX6_find_88 : decode cX6_find 88 = .ok (.iinc 1 1, 3) := by decide +kernel
theorem dX6_find_91 : decode cX6_find 91 = .ok (.goto (-22), 3) := by decide +kernel
theorem dX6_find_94 : decode cX6_find 94 = .ok (.return_, 1) := by decide +kernel
theorem dX6_inner_0 : decode cX6_inner 0 = .ok (.aload_n 0, 1) := by decide +kernel
theorem dX6_inner_1 : decode cX6_inner 1 = .ok (.iload_n 1, 1) := by decide +kernel
theorem dX6_inner_2 : decode cX6_inner 2 = .ok (.invokevirtual 79, 3) := by decide +kernel
theorem dX6_inner_5 : decode cX6_inner 5 = .ok (.ifCond .ne 9, 3) := by decide +kernel
theorem dX6_inner_8 : decode cX6_inner 8 = .ok (.aload_n 0, 1) := by decide +kernel
theorem dX6_inner_9 : decode cX6_inner 9 = .ok (.iconst (-1), 1) := by decide +kernel
theorem dX6_inner_10 : decode cX6_inner 10 = .ok (.invokevirtual 49, 3) := by decide +kernel
theorem dX6_inner_13 : decode cX6_inner 13 = .ok (.ireturn, 1) := by decide +kernel
theorem dX6_inner_14 : decode cX6_inner 14 = .ok (.aload_n 0, 1) := by decide +kernel
theorem dX6_inner_15 : decode cX6_inner 15 = .ok (.invokevirtual 128, 3) := by decide +kernel
theorem dX6_inner_18 : decode cX6_inner 18 = .ok (.aload_n 0, 1) := by decide +kernel
theorem dX6_inner_19 : decode cX6_inner 19 = .ok (.getfield 25, 3) := by decide +kernel
theorem dX6_inner_22 : decode cX6_inner 22 = .ok (.aload_n 0, 1) := by decide +kernel
theorem dX6_inner_23 : decode cX6_inner 23 = .ok (.iload_n 1, 1) := by decide +kernel
theorem dX6_inner_24 : decode cX6_inner 24 = .ok (.invokevirtual 83, 3) := by decide +kernel
theorem dX6_inner_27 : decode cX6_inner 27 = .ok (.iaload, 1) := by decide +kernel
theorem dX6_inner_28 : decode cX6_inner 28 = .ok (.ireturn, 1) := by decide +kernel
theorem dX6_near_0 : decode cX6_near 0 = .ok (.aload_n 0, 1) := by decide +kernel
theorem dX6_near_1 : decode cX6_near 1 = .ok (.iload_n 1, 1) := by decide +kernel
theorem dX6_near_2 : decode cX6_near 2 = .ok (.invokevirtual 79, 3) := by decide +kernel
theorem dX6_near_5 : decode cX6_near 5 = .ok (.ifCond .eq 11, 3) := by decide +kernel
theorem dX6_near_8 : decode cX6_near 8 = .ok (.iload_n 2, 1) := by decide +kernel
theorem dX6_near_9 : decode cX6_near 9 = .ok (.iconst 3, 1) := by decide +kernel
theorem dX6_near_10 : decode cX6_near 10 = .ok (.invokestatic 89, 3) := by decide +kernel
theorem dX6_near_13 : decode cX6_near 13 = .ok (.ifCond .ne 9, 3) := by decide +kernel
theorem dX6_near_16 : decode cX6_near 16 = .ok (.aload_n 0, 1) := by decide +kernel
theorem dX6_near_17 : decode cX6_near 17 = .ok (.iconst (-1), 1) := by decide +kernel
theorem dX6_near_18 : decode cX6_near 18 = .ok (.invokevirtual 49, 3) := by decide +kernel
theorem dX6_near_21 : decode cX6_near 21 = .ok (.ireturn, 1) := by decide +kernel
theorem dX6_near_22 : decode cX6_near 22 = .ok (.aload_n 0, 1) := by decide +kernel
theorem dX6_near_23 : decode cX6_near 23 = .ok (.invokevirtual 128, 3) := by decide +kernel
theorem dX6_near_26 : decode cX6_near 26 = .ok (.aload_n 0, 1) := by decide +kernel
theorem dX6_near_27 : decode cX6_near 27 = .ok (.getfield 31, 3) := by decide +kernel
theorem dX6_near_30 : decode cX6_near 30 = .ok (.bipush 120, 2) := by decide +kernel
theorem dX6_near_32 : decode cX6_near 32 = .ok (.iload_n 2, 1) := by decide +kernel
theorem dX6_near_33 : decode cX6_near 33 = .ok (.imul, 1) := by decide +kernel
theorem dX6_near_34 : decode cX6_near 34 = .ok (.aload_n 0, 1) := by decide +kernel
theorem dX6_near_35 : decode cX6_near 35 = .ok (.iload_n 1, 1) := by decide +kernel
theorem dX6_near_36 : decode cX6_near 36 = .ok (.invokevirtual 83, 3) := by decide +kernel
theorem dX6_near_39 : decode cX6_near 39 = .ok (.iadd, 1) := by decide +kernel
theorem dX6_near_40 : decode cX6_near 40 = .ok (.iaload, 1) := by decide +kernel
theorem dX6_near_41 : decode cX6_near 41 = .ok (.ireturn, 1) := by decide +kernel
theorem dX6_from_0 : decode cX6_from 0 = .ok (.aload_n 0, 1) := by decide +kernel
theorem dX6_from_1 : decode cX6_from 1 = .ok (.iload_n 1, 1) := by decide +kernel
theorem dX6_from_2 : decode cX6_from 2 = .ok (.invokevirtual 79, 3) := by decide +kernel
theorem dX6_from_5 : decode cX6_from 5 = .ok (.ifCond .eq 11, 3) := by decide +kernel
theorem dX6_from_8 : decode cX6_from 8 = .ok (.iload_n 2, 1) := by decide +kernel
theorem dX6_from_9 : decode cX6_from 9 = .ok (.iconst 3, 1) := by decide +kernel
theorem dX6_from_10 : decode cX6_from 10 = .ok (.invokestatic 89, 3) := by decide +kernel
theorem dX6_from_13 : decode cX6_from 13 = .ok (.ifCond .ne 9, 3) := by decide +kernel
theorem dX6_from_16 : decode cX6_from 16 = .ok (.aload_n 0, 1) := by decide +kernel
theorem dX6_from_17 : decode cX6_from 17 = .ok (.iconst (-1), 1) := by decide +kernel
theorem dX6_from_18 : decode cX6_from 18 = .ok (.invokevirtual 49, 3) := by decide +kernel
theorem dX6_from_21 : decode cX6_from 21 = .ok (.ireturn, 1) := by decide +kernel
theorem dX6_from_22 : decode cX6_from 22 = .ok (.aload_n 0, 1) := by decide +kernel
theorem dX6_from_23 : decode cX6_from 23 = .ok (.invokevirtual 128, 3) := by decide +kernel
theorem dX6_from_26 : decode cX6_from 26 = .ok (.aload_n 0, 1) := by decide +kernel
theorem dX6_from_27 : decode cX6_from 27 = .ok (.getfield 34, 3) := by decide +kernel
theorem dX6_from_30 : decode cX6_from 30 = .ok (.bipush 120, 2) := by decide +kernel
theorem dX6_from_32 : decode cX6_from 32 = .ok (.iload_n 2, 1) := by decide +kernel
theorem dX6_from_33 : decode cX6_from 33 = .ok (.imul, 1) := by decide +kernel
theorem dX6_from_34 : decode cX6_from 34 = .ok (.aload_n 0, 1) := by decide +kernel
theorem dX6_from_35 : decode cX6_from 35 = .ok (.iload_n 1, 1) := by decide +kernel
theorem dX6_from_36 : decode cX6_from 36 = .ok (.invokevirtual 83, 3) := by decide +kernel
theorem dX6_from_39 : decode cX6_from 39 = .ok (.iadd, 1) := by decide +kernel
theorem dX6_from_40 : decode cX6_from 40 = .ok (.iaload, 1) := by decide +kernel
theorem dX6_from_41 : decode cX6_from 41 = .ok (.istore_n 3, 1) := by decide +kernel
theorem dX6_from_42 : decode cX6_from 42 = .ok (.iload_n 3, 1) := by decide +kernel
theorem dX6_from_43 : decode cX6_from 43 = .ok (.ifCond .ge 8, 3) := by decide +kernel
theorem dX6_from_46 : decode cX6_from 46 = .ok (.bipush (-9), 2) := by decide +kernel
theorem dX6_from_48 : decode cX6_from 48 = .ok (.goto 8, 3) := by decide +kernel
theorem dX6_from_51 : decode cX6_from 51 = .ok (.aload_n 0, 1) := by decide +kernel
theorem dX6_from_52 : decode cX6_from 52 = .ok (.iload_n 3, 1) := by decide +kernel
theorem dX6_from_53 : decode cX6_from 53 = .ok (.invokevirtual 131, 3) := by decide +kernel
theorem dX6_from_56 : decode cX6_from 56 = .ok (.ireturn, 1) := by decide +kernel
theorem dX6_whose_0 : decode cX6_whose 0 = .ok (.aload_n 0, 1) := by decide +kernel
theorem dX6_whose_1 : decode cX6_whose 1 = .ok (.iload_n 1, 1) := by decide +kernel
theorem dX6_whose_2 : decode cX6_whose 2 = .ok (.invokevirtual 79, 3) := by decide +kernel
theorem dX6_whose_5 : decode cX6_whose 5 = .ok (.ifCond .ne 6, 3) := by decide +kernel
theorem dX6_whose_8 : decode cX6_whose 8 = .ok (.bipush (-10), 2) := by decide +kernel
theorem dX6_whose_10 : decode cX6_whose 10 = .ok (.ireturn, 1) := by decide +kernel
theorem dX6_whose_11 : decode cX6_whose 11 = .ok (.aload_n 0, 1) := by decide +kernel
theorem dX6_whose_12 : decode cX6_whose 12 = .ok (.invokevirtual 128, 3) := by decide +kernel
theorem dX6_whose_15 : decode cX6_whose 15 = .ok (.aload_n 0, 1) := by decide +kernel
theorem dX6_whose_16 : decode cX6_whose 16 = .ok (.getfield 28, 3) := by decide +kernel
theorem dX6_whose_19 : decode cX6_whose 19 = .ok (.aload_n 0, 1) := by decide +kernel
theorem dX6_whose_20 : decode cX6_whose 20 = .ok (.iload_n 1, 1) := by decide +kernel
theorem dX6_whose_21 : decode cX6_whose 21 = .ok (.invokevirtual 83, 3) := by decide +kernel
theorem dX6_whose_24 : decode cX6_whose 24 = .ok (.iaload, 1) := by decide +kernel
theorem dX6_whose_25 : decode cX6_whose 25 = .ok (.ireturn, 1) := by decide +kernel
theorem dX6_third_0 : decode cX6_third 0 = .ok (.aload_n 0, 1) := by decide +kernel
theorem dX6_third_1 : decode cX6_third 1 = .ok (.invokevirtual 128, 3) := by decide +kernel
theorem dX6_third_4 : decode cX6_third 4 = .ok (.aload_n 0, 1) := by decide +kernel
theorem dX6_third_5 : decode cX6_third 5 = .ok (.getfield 115, 3) := by decide +kernel
theorem dX6_third_8 : decode cX6_third 8 = .ok (.ireturn, 1) := by decide +kernel
theorem dX6_areaOf_0 : decode cX6_areaOf 0 = .ok (.iconst 0, 1) := by decide +kernel
theorem dX6_areaOf_1 : decode cX6_areaOf 1 = .ok (.istore_n 2, 1) := by decide +kernel
theorem dX6_areaOf_2 : decode cX6_areaOf 2 = .ok (.iconst 0, 1) := by decide +kernel
theorem dX6_areaOf_3 : decode cX6_areaOf 3 = .ok (.istore_n 3, 1) := by decide +kernel
theorem dX6_areaOf_4 : decode cX6_areaOf 4 = .ok (.iload_n 3, 1) := by decide +kernel
theorem dX6_areaOf_5 : decode cX6_areaOf 5 = .ok (.aload_n 0, 1) := by decide +kernel
theorem dX6_areaOf_6 : decode cX6_areaOf 6 = .ok (.invokevirtual 75, 3) := by decide +kernel
theorem dX6_areaOf_9 : decode cX6_areaOf 9 = .ok (.if_icmp .ge 27, 3) := by decide +kernel
theorem dX6_areaOf_12 : decode cX6_areaOf 12 = .ok (.iload_n 2, 1) := by decide +kernel
theorem dX6_areaOf_13 : decode cX6_areaOf 13 = .ok (.aload_n 0, 1) := by decide +kernel
theorem dX6_areaOf_14 : decode cX6_areaOf 14 = .ok (.getfield 28, 3) := by decide +kernel
theorem dX6_areaOf_17 : decode cX6_areaOf 17 = .ok (.iload_n 3, 1) := by decide +kernel
theorem dX6_areaOf_18 : decode cX6_areaOf 18 = .ok (.iaload, 1) := by decide +kernel
theorem dX6_areaOf_19 : decode cX6_areaOf 19 = .ok (.iload_n 1, 1) := by decide +kernel
theorem dX6_areaOf_20 : decode cX6_areaOf 20 = .ok (.if_icmp .ne 7, 3) := by decide +kernel
theorem dX6_areaOf_23 : decode cX6_areaOf 23 = .ok (.iconst 1, 1) := by decide +kernel
theorem dX6_areaOf_24 : decode cX6_areaOf 24 = .ok (.goto 4, 3) := by decide +kernel
theorem dX6_areaOf_27 : decode cX6_areaOf 27 = .ok (.iconst 0, 1) := by decide +kernel
theorem dX6_areaOf_28 : decode cX6_areaOf 28 = .ok (.iadd, 1) := by decide +kernel
theorem dX6_areaOf_29 : decode cX6_areaOf 29 = .ok (.istore_n 2, 1) := by decide +kernel
theorem dX6_areaOf_30 : decode cX6_areaOf 30 = .ok (.iinc 3 1, 3) := by decide +kernel
theorem dX6_areaOf_33 : decode cX6_areaOf 33 = .ok (.goto (-29), 3) := by decide +kernel
theorem dX6_areaOf_36 : decode cX6_areaOf 36 = .ok (.iload_n 2, 1) := by decide +kernel
theorem dX6_areaOf_37 : decode cX6_areaOf 37 = .ok (.ireturn, 1) := by decide +kernel
theorem dX6_area_0 : decode cX6_area 0 = .ok (.iload_n 1, 1) := by decide +kernel
theorem dX6_area_1 : decode cX6_area 1 = .ok (.iconst 3, 1) := by decide +kernel
theorem dX6_area_2 : decode cX6_area 2 = .ok (.invokestatic 89, 3) := by decide +kernel
theorem dX6_area_5 : decode cX6_area 5 = .ok (.ifCond .ne 21, 3) := by decide +kernel
theorem dX6_area_8 : decode cX6_area 8 = .ok (.iload_n 1, 1) := by decide +kernel
theorem dX6_area_9 : decode cX6_area 9 = .ok (.bipush (-2), 2) := by decide +kernel
theorem dX6_area_11 : decode cX6_area 11 = .ok (.if_icmp .eq 15, 3) := by decide +kernel
theorem dX6_area_14 : decode cX6_area 14 = .ok (.iload_n 1, 1) := by decide +kernel
theorem dX6_area_15 : decode cX6_area 15 = .ok (.bipush (-3), 2) := by decide +kernel
theorem dX6_area_17 : decode cX6_area 17 = .ok (.if_icmp .eq 9, 3) := by decide +kernel
theorem dX6_area_20 : decode cX6_area 20 = .ok (.aload_n 0, 1) := by decide +kernel
theorem dX6_area_21 : decode cX6_area 21 = .ok (.iconst (-1), 1) := by decide +kernel
theorem dX6_area_22 : decode cX6_area 22 = .ok (.invokevirtual 49, 3) := by decide +kernel
theorem dX6_area_25 : decode cX6_area 25 = .ok (.ireturn, 1) := by decide +kernel
theorem dX6_area_26 : decode cX6_area 26 = .ok (.aload_n 0, 1) := by decide +kernel
theorem dX6_area_27 : decode cX6_area 27 = .ok (.invokevirtual 128, 3) := by decide +kernel
theorem dX6_area_30 : decode cX6_area 30 = .ok (.aload_n 0, 1) := by decide +kernel
theorem dX6_area_31 : decode cX6_area 31 = .ok (.iload_n 1, 1) := by decide +kernel
theorem dX6_area_32 : decode cX6_area 32 = .ok (.invokevirtual 134, 3) := by decide +kernel
theorem dX6_area_35 : decode cX6_area 35 = .ok (.ireturn, 1) := by decide +kernel
theorem dX6_isSea_0 : decode cX6_isSea 0 = .ok (.iload_n 1, 1) := by decide +kernel
theorem dX6_isSea_1 : decode cX6_isSea 1 = .ok (.ifCond .lt 48, 3) := by decide +kernel
theorem dX6_isSea_4 : decode cX6_isSea 4 = .ok (.iload_n 1, 1) := by decide +kernel
theorem dX6_isSea_5 : decode cX6_isSea 5 = .ok (.aload_n 0, 1) := by decide +kernel
theorem dX6_isSea_6 : decode cX6_isSea 6 = .ok (.getfield 13, 3) := by decide +kernel
theorem dX6_isSea_9 : decode cX6_isSea 9 = .ok (.iconst 0, 1) := by decide +kernel
theorem dX6_isSea_10 : decode cX6_isSea 10 = .ok (.iaload, 1) := by decide +kernel
theorem dX6_isSea_11 : decode cX6_isSea 11 = .ok (.if_icmp .ge 38, 3) := by decide +kernel
theorem dX6_isSea_14 : decode cX6_isSea 14 = .ok (.iload_n 2, 1) := by decide +kernel
theorem dX6_isSea_15 : decode cX6_isSea 15 = .ok (.ifCond .lt 34, 3) := by decide +kernel
theorem dX6_isSea_18 : decode cX6_isSea 18 = .ok (.iload_n 2, 1) := by decide +kernel
theorem dX6_isSea_19 : decode cX6_isSea 19 = .ok (.aload_n 0, 1) := by decide +kernel
theorem dX6_isSea_20 : decode cX6_isSea 20 = .ok (.getfield 13, 3) := by decide +kernel
theorem dX6_isSea_23 : decode cX6_isSea 23 = .ok (.iconst 1, 1) := by decide +kernel
theorem dX6_isSea_24 : decode cX6_isSea 24 = .ok (.iaload, 1) := by decide +kernel
theorem dX6_isSea_25 : decode cX6_isSea 25 = .ok (.if_icmp .ge 24, 3) := by decide +kernel
theorem dX6_isSea_28 : decode cX6_isSea 28 = .ok (.aload_n 0, 1) := by decide +kernel
theorem dX6_isSea_29 : decode cX6_isSea 29 = .ok (.iload_n 2, 1) := by decide +kernel
theorem dX6_isSea_30 : decode cX6_isSea 30 = .ok (.aload_n 0, 1) := by decide +kernel
theorem dX6_isSea_31 : decode cX6_isSea 31 = .ok (.getfield 13, 3) := by decide +kernel
theorem dX6_isSea_34 : decode cX6_isSea 34 = .ok (.iconst 0, 1) := by decide +kernel
theorem dX6_isSea_35 : decode cX6_isSea 35 = .ok (.iaload, 1) := by decide +kernel
theorem dX6_isSea_36 : decode cX6_isSea 36 = .ok (.imul, 1) := by decide +kernel
theorem dX6_isSea_37 : decode cX6_isSea 37 = .ok (.iload_n 1, 1) := by decide +kernel
theorem dX6_isSea_38 : decode cX6_isSea 38 = .ok (.iadd, 1) := by decide +kernel
theorem dX6_isSea_39 : decode cX6_isSea 39 = .ok (.invokevirtual 86, 3) := by decide +kernel
theorem dX6_isSea_42 : decode cX6_isSea 42 = .ok (.ifCond .ne 7, 3) := by decide +kernel
theorem dX6_isSea_45 : decode cX6_isSea 45 = .ok (.iconst 1, 1) := by decide +kernel
theorem dX6_isSea_46 : decode cX6_isSea 46 = .ok (.goto 4, 3) := by decide +kernel
theorem dX6_isSea_49 : decode cX6_isSea 49 = .ok (.iconst 0, 1) := by decide +kernel
theorem dX6_isSea_50 : decode cX6_isSea 50 = .ok (.ireturn, 1) := by decide +kernel
theorem dX6_shoreOf_0 : decode cX6_shoreOf 0 = .ok (.iconst 0, 1) := by decide +kernel
theorem dX6_shoreOf_1 : decode cX6_shoreOf 1 = .ok (.istore_n 2, 1) := by decide +kernel
theorem dX6_shoreOf_2 : decode cX6_shoreOf 2 = .ok (.iconst 0, 1) := by decide +kernel
theorem dX6_shoreOf_3 : decode cX6_shoreOf 3 = .ok (.istore_n 3, 1) := by decide +kernel
theorem dX6_shoreOf_4 : decode cX6_shoreOf 4 = .ok (.iload_n 3, 1) := by decide +kernel
theorem dX6_shoreOf_5 : decode cX6_shoreOf 5 = .ok (.aload_n 0, 1) := by decide +kernel
theorem dX6_shoreOf_6 : decode cX6_shoreOf 6 = .ok (.invokevirtual 75, 3) := by decide +kernel
theorem dX6_shoreOf_9 : decode cX6_shoreOf 9 = .ok (.if_icmp .ge 100, 3) := by decide +kernel
theorem dX6_shoreOf_12 : decode cX6_shoreOf 12 = .ok (.iload_n 3, 1) := by decide +kernel
theorem dX6_shoreOf_13 : decode cX6_shoreOf 13 = .ok (.aload_n 0, 1) := by decide +kernel
theorem dX6_shoreOf_14 : decode cX6_shoreOf 14 = .ok (.getfield 13, 3) := by decide +kernel
theorem dX6_shoreOf_17 : decode cX6_shoreOf 17 = .ok (.iconst 0, 1) := by decide +kernel
theorem dX6_shoreOf_18 : decode cX6_shoreOf 18 = .ok (.iaload, 1) := by decide +kernel
theorem dX6_shoreOf_19 : decode cX6_shoreOf 19 = .ok (.irem, 1) := by decide +kernel
theorem dX6_shoreOf_20 : decode cX6_shoreOf 20 = .ok (.istore 4, 2) := by decide +kernel
theorem dX6_shoreOf_22 : decode cX6_shoreOf 22 = .ok (.iload_n 3, 1) := by decide +kernel
theorem dX6_shoreOf_23 : decode cX6_shoreOf 23 = .ok (.aload_n 0, 1) := by decide +kernel
theorem dX6_shoreOf_24 : decode cX6_shoreOf 24 = .ok (.getfield 13, 3) := by decide +kernel
theorem dX6_shoreOf_27 : decode cX6_shoreOf 27 = .ok (.iconst 0, 1) := by decide +kernel
theorem dX6_shoreOf_28 : decode cX6_shoreOf 28 = .ok (.iaload, 1) := by decide +kernel
theorem dX6_shoreOf_29 : decode cX6_shoreOf 29 = .ok (.idiv, 1) := by decide +kernel
theorem dX6_shoreOf_30 : decode cX6_shoreOf 30 = .ok (.istore 5, 2) := by decide +kernel
theorem dX6_shoreOf_32 : decode cX6_shoreOf 32 = .ok (.iload_n 2, 1) := by decide +kernel
theorem dX6_shoreOf_33 : decode cX6_shoreOf 33 = .ok (.aload_n 0, 1) := by decide +kernel
theorem dX6_shoreOf_34 : decode cX6_shoreOf 34 = .ok (.iload_n 3, 1) := by decide +kernel
theorem dX6_shoreOf_35 : decode cX6_shoreOf 35 = .ok (.invokevirtual 86, 3) := by decide +kernel
theorem dX6_shoreOf_38 : decode cX6_shoreOf 38 = .ok (.iload_n 1, 1) := by decide +kernel
theorem dX6_shoreOf_39 : decode cX6_shoreOf 39 = .ok (.iconst 1, 1) := by decide +kernel
theorem dX6_shoreOf_40 : decode cX6_shoreOf 40 = .ok (.iadd, 1) := by decide +kernel
theorem dX6_shoreOf_41 : decode cX6_shoreOf 41 = .ok (.if_icmp .ne 59, 3) := by decide +kernel
theorem dX6_shoreOf_44 : decode cX6_shoreOf 44 = .ok (.aload_n 0, 1) := by decide +kernel
theorem dX6_shoreOf_45 : decode cX6_shoreOf 45 = .ok (.iload 4, 2) := by decide +kernel
theorem dX6_shoreOf_47 : decode cX6_shoreOf 47 = .ok (.iconst 1, 1) := by decide +kernel
theorem dX6_shoreOf_48 : decode cX6_shoreOf 48 = .ok (.isub, 1) := by decide +kernel
theorem dX6_shoreOf_49 : decode cX6_shoreOf 49 = .ok (.iload 5, 2) := by decide +kernel
theorem dX6_shoreOf_51 : decode cX6_shoreOf 51 = .ok (.invokevirtual 137, 3) := by decide +kernel
theorem dX6_shoreOf_54 : decode cX6_shoreOf 54 = .ok (.ifCond .ne 42, 3) := by decide +kernel
theorem dX6_shoreOf_57 : decode cX6_shoreOf 57 = .ok (.aload_n 0, 1) := by decide +kernel
theorem dX6_shoreOf_58 : decode cX6_shoreOf 58 = .ok (.iload 4, 2) := by decide +kernel
theorem dX6_shoreOf_60 : decode cX6_shoreOf 60 = .ok (.iconst 1, 1) := by decide +kernel
theorem dX6_shoreOf_61 : decode cX6_shoreOf 61 = .ok (.iadd, 1) := by decide +kernel
theorem dX6_shoreOf_62 : decode cX6_shoreOf 62 = .ok (.iload 5, 2) := by decide +kernel
theorem dX6_shoreOf_64 : decode cX6_shoreOf 64 = .ok (.invokevirtual 137, 3) := by decide +kernel
theorem dX6_shoreOf_67 : decode cX6_shoreOf 67 = .ok (.ifCond .ne 29, 3) := by decide +kernel
theorem dX6_shoreOf_70 : decode cX6_shoreOf 70 = .ok (.aload_n 0, 1) := by decide +kernel
theorem dX6_shoreOf_71 : decode cX6_shoreOf 71 = .ok (.iload 4, 2) := by decide +kernel
theorem dX6_shoreOf_73 : decode cX6_shoreOf 73 = .ok (.iload 5, 2) := by decide +kernel
theorem dX6_shoreOf_75 : decode cX6_shoreOf 75 = .ok (.iconst 1, 1) := by decide +kernel
theorem dX6_shoreOf_76 : decode cX6_shoreOf 76 = .ok (.isub, 1) := by decide +kernel
theorem dX6_shoreOf_77 : decode cX6_shoreOf 77 = .ok (.invokevirtual 137, 3) := by decide +kernel
theorem dX6_shoreOf_80 : decode cX6_shoreOf 80 = .ok (.ifCond .ne 16, 3) := by decide +kernel
theorem dX6_shoreOf_83 : decode cX6_shoreOf 83 = .ok (.aload_n 0, 1) := by decide +kernel
theorem dX6_shoreOf_84 : decode cX6_shoreOf 84 = .ok (.iload 4, 2) := by decide +kernel
theorem dX6_shoreOf_86 : decode cX6_shoreOf 86 = .ok (.iload 5, 2) := by decide +kernel
theorem dX6_shoreOf_88 : decode cX6_shoreOf 88 = .ok (.iconst 1, 1) := by decide +kernel
theorem dX6_shoreOf_89 : decode cX6_shoreOf 89 = .ok (.iadd, 1) := by decide +kernel
theorem dX6_shoreOf_90 : decode cX6_shoreOf 90 = .ok (.invokevirtual 137, 3) := by decide +kernel
theorem dX6_shoreOf_93 : decode cX6_shoreOf 93 = .ok (.ifCond .eq 7, 3) := by decide +kernel
theorem dX6_shoreOf_96 : decode cX6_shoreOf 96 = .ok (.iconst 1, 1) := by decide +kernel
theorem dX6_shoreOf_97 : decode cX6_shoreOf 97 = .ok (.goto 4, 3) := by decide +kernel
theorem dX6_shoreOf_100 : decode cX6_shoreOf 100 = .ok (.iconst 0, 1) := by decide +kernel
theorem dX6_shoreOf_101 : decode cX6_shoreOf 101 = .ok (.iadd, 1) := by decide +kernel
theorem dX6_shoreOf_102 : decode cX6_shoreOf 102 = .ok (.istore_n 2, 1) := by decide +kernel
theorem dX6_shoreOf_103 : decode cX6_shoreOf 103 = .ok (.iinc 3 1, 3) := by decide +kernel
theorem dX6_shoreOf_106 : decode cX6_shoreOf 106 = .ok (.goto (-102), 3) := by decide +kernel
theorem dX6_shoreOf_109 : decode cX6_shoreOf 109 = .ok (.iload_n 2, 1) := by decide +kernel
theorem dX6_shoreOf_110 : decode cX6_shoreOf 110 = .ok (.ireturn, 1) := by decide +kernel
theorem dX6_shore_0 : decode cX6_shore 0 = .ok (.iload_n 1, 1) := by decide +kernel
theorem dX6_shore_1 : decode cX6_shore 1 = .ok (.iconst 3, 1) := by decide +kernel
theorem dX6_shore_2 : decode cX6_shore 2 = .ok (.invokestatic 89, 3) := by decide +kernel
theorem dX6_shore_5 : decode cX6_shore 5 = .ok (.ifCond .eq 11, 3) := by decide +kernel
theorem dX6_shore_8 : decode cX6_shore 8 = .ok (.aload_n 0, 1) := by decide +kernel
theorem dX6_shore_9 : decode cX6_shore 9 = .ok (.iload_n 1, 1) := by decide +kernel
theorem dX6_shore_10 : decode cX6_shore 10 = .ok (.invokevirtual 140, 3) := by decide +kernel
theorem dX6_shore_13 : decode cX6_shore 13 = .ok (.goto 8, 3) := by decide +kernel
theorem dX6_shore_16 : decode cX6_shore 16 = .ok (.aload_n 0, 1) := by decide +kernel
theorem dX6_shore_17 : decode cX6_shore 17 = .ok (.iconst (-1), 1) := by decide +kernel
theorem dX6_shore_18 : decode cX6_shore 18 = .ok (.invokevirtual 49, 3) := by decide +kernel
theorem dX6_shore_21 : decode cX6_shore 21 = .ok (.ireturn, 1) := by decide +kernel
theorem dX6_fairNow_0 : decode cX6_fairNow 0 = .ok (.aload_n 0, 1) := by decide +kernel
theorem dX6_fairNow_1 : decode cX6_fairNow 1 = .ok (.invokevirtual 128, 3) := by decide +kernel
theorem dX6_fairNow_4 : decode cX6_fairNow 4 = .ok (.aload_n 0, 1) := by decide +kernel
theorem dX6_fairNow_5 : decode cX6_fairNow 5 = .ok (.iconst 0, 1) := by decide +kernel
theorem dX6_fairNow_6 : decode cX6_fairNow 6 = .ok (.invokevirtual 134, 3) := by decide +kernel
theorem dX6_fairNow_9 : decode cX6_fairNow 9 = .ok (.aload_n 0, 1) := by decide +kernel
theorem dX6_fairNow_10 : decode cX6_fairNow 10 = .ok (.iconst 1, 1) := by decide +kernel
theorem dX6_fairNow_11 : decode cX6_fairNow 11 = .ok (.invokevirtual 140, 3) := by decide +kernel
theorem dX6_fairNow_14 : decode cX6_fairNow 14 = .ok (.imul, 1) := by decide +kernel
theorem dX6_fairNow_15 : decode cX6_fairNow 15 = .ok (.aload_n 0, 1) := by decide +kernel
theorem dX6_fairNow_16 : decode cX6_fairNow 16 = .ok (.iconst 1, 1) := by decide +kernel
theorem dX6_fairNow_17 : decode cX6_fairNow 17 = .ok (.invokevirtual 134, 3) := by decide +kernel
theorem dX6_fairNow_20 : decode cX6_fairNow 20 = .ok (.aload_n 0, 1) := by decide +kernel
theorem dX6_fairNow_21 : decode cX6_fairNow 21 = .ok (.iconst 0, 1) := by decide +kernel
theorem dX6_fairNow_22 : decode cX6_fairNow 22 = .ok (.invokevirtual 140, 3) := by decide +kernel
theorem dX6_fairNow_25 : decode cX6_fairNow 25 = .ok (.imul, 1) := by decide +kernel
theorem dX6_fairNow_26 : decode cX6_fairNow 26 = .ok (.isub, 1) := by decide +kernel
theorem dX6_fairNow_27 : decode cX6_fairNow 27 = .ok (.ireturn, 1) := by decide +kernel
theorem dX6_fair_0 : decode cX6_fair 0 = .ok (.aload_n 0, 1) := by decide +kernel
theorem dX6_fair_1 : decode cX6_fair 1 = .ok (.invokevirtual 143, 3) := by decide +kernel
theorem dX6_fair_4 : decode cX6_fair 4 = .ok (.ireturn, 1) := by decide +kernel
theorem dX6_bent_0 : decode cX6_bent 0 = .ok (.iload_n 1, 1) := by decide +kernel
theorem dX6_bent_1 : decode cX6_bent 1 = .ok (.iconst 0, 1) := by decide +kernel
theorem dX6_bent_2 : decode cX6_bent 2 = .ok (.ldc 146, 2) := by decide +kernel
theorem dX6_bent_4 : decode cX6_bent 4 = .ok (.invokestatic 99, 3) := by decide +kernel
theorem dX6_bent_7 : decode cX6_bent 7 = .ok (.istore_n 2, 1) := by decide +kernel
theorem dX6_bent_8 : decode cX6_bent 8 = .ok (.iload_n 2, 1) := by decide +kernel
theorem dX6_bent_9 : decode cX6_bent 9 = .ok (.ifCond .eq 9, 3) := by decide +kernel
theorem dX6_bent_12 : decode cX6_bent 12 = .ok (.aload_n 0, 1) := by decide +kernel
theorem dX6_bent_13 : decode cX6_bent 13 = .ok (.iload_n 2, 1) := by decide +kernel
theorem dX6_bent_14 : decode cX6_bent 14 = .ok (.invokevirtual 49, 3) := by decide +kernel
theorem dX6_bent_17 : decode cX6_bent 17 = .ok (.ireturn, 1) := by decide +kernel
theorem dX6_bent_18 : decode cX6_bent 18 = .ok (.aload_n 0, 1) := by decide +kernel
theorem dX6_bent_19 : decode cX6_bent 19 = .ok (.getfield 13, 3) := by decide +kernel
theorem dX6_bent_22 : decode cX6_bent 22 = .ok (.iconst 5, 1) := by decide +kernel
theorem dX6_bent_23 : decode cX6_bent 23 = .ok (.iaload, 1) := by decide +kernel
theorem dX6_bent_24 : decode cX6_bent 24 = .ok (.istore_n 3, 1) := by decide +kernel
theorem dX6_bent_25 : decode cX6_bent 25 = .ok (.bipush (-100), 2) := by decide +kernel
theorem dX6_bent_27 : decode cX6_bent 27 = .ok (.istore 4, 2) := by decide +kernel
theorem dX6_bent_29 : decode cX6_bent 29 = .ok (.iconst 0, 1) := by decide +kernel
theorem dX6_bent_30 : decode cX6_bent 30 = .ok (.istore 5, 2) := by decide +kernel
theorem dX6_bent_32 : decode cX6_bent 32 = .ok (.iload 5, 2) := by decide +kernel
theorem dX6_bent_34 : decode cX6_bent 34 = .ok (.bipush 101, 2) := by decide +kernel
theorem dX6_bent_36 : decode cX6_bent 36 = .ok (.if_icmp .ge 76, 3) := by decide +kernel
theorem dX6_bent_39 : decode cX6_bent 39 = .ok (.iload 4, 2) := by decide +kernel
theorem dX6_bent_41 : decode cX6_bent 41 = .ok (.bipush (-100), 2) := by decide +kernel
theorem dX6_bent_43 : decode cX6_bent 43 = .ok (.if_icmp .ne 69, 3) := by decide +kernel
theorem dX6_bent_46 : decode cX6_bent 46 = .ok (.aload_n 0, 1) := by decide +kernel
theorem dX6_bent_47 : decode cX6_bent 47 = .ok (.getfield 13, 3) := by decide +kernel
theorem dX6_bent_50 : decode cX6_bent 50 = .ok (.iconst 5, 1) := by decide +kernel
theorem dX6_bent_51 : decode cX6_bent 51 = .ok (.iload 5, 2) := by decide +kernel
theorem dX6_bent_53 : decode cX6_bent 53 = .ok (.iconst 2, 1) := by decide +kernel
theorem dX6_bent_54 : decode cX6_bent 54 = .ok (.irem, 1) := by decide +kernel
theorem dX6_bent_55 : decode cX6_bent 55 = .ok (.iconst 1, 1) := by decide +kernel
theorem dX6_bent_56 : decode cX6_bent 56 = .ok (.if_icmp .ne 12, 3) := by decide +kernel
theorem dX6_bent_59 : decode cX6_bent 59 = .ok (.iload 5, 2) := by decide +kernel
theorem dX6_bent_61 : decode cX6_bent 61 = .ok (.iconst 1, 1) := by decide +kernel
theorem dX6_bent_62 : decode cX6_bent 62 = .ok (.iadd, 1) := by decide +kernel
theorem dX6_bent_63 : decode cX6_bent 63 = .ok (.iconst 2, 1) := by decide +kernel
theorem dX6_bent_64 : decode cX6_bent 64 = .ok (.idiv, 1) := by decide +kernel
theorem dX6_bent_65 : decode cX6_bent 65 = .ok (.goto 8, 3) := by decide +kernel
theorem dX6_bent_68 : decode cX6_bent 68 = .ok (.iload 5, 2) := by decide +kernel
theorem dX6_bent_70 : decode cX6_bent 70 = .ok (.ineg, 1) := by decide +kernel
theorem dX6_bent_71 : decode cX6_bent 71 = .ok (.iconst 2, 1) := by decide +kernel
theorem dX6_bent_72 : decode cX6_bent 72 = .ok (.idiv, 1) := by decide +kernel
theorem dX6_bent_73 : decode cX6_bent 73 = .ok (.iastore, 1) := by decide +kernel
theorem dX6_bent_74 : decode cX6_bent 74 = .ok (.aload_n 0, 1) := by decide +kernel
theorem dX6_bent_75 : decode cX6_bent 75 = .ok (.invokevirtual 143, 3) := by decide +kernel
theorem dX6_bent_78 : decode cX6_bent 78 = .ok (.istore 6, 2) := by decide +kernel
theorem dX6_bent_80 : decode cX6_bent 80 = .ok (.iload 6, 2) := by decide +kernel
theorem dX6_bent_82 : decode cX6_bent 82 = .ok (.iload_n 1, 1) := by decide +kernel
theorem dX6_bent_83 : decode cX6_bent 83 = .ok (.if_icmp .gt 19, 3) := by decide +kernel
theorem dX6_bent_86 : decode cX6_bent 86 = .ok (.iload 6, 2) := by decide +kernel
theorem dX6_bent_88 : decode cX6_bent 88 = .ok (.iload_n 1, 1) := by decide +kernel
theorem dX6_bent_89 : decode cX6_bent 89 = .ok (.ineg, 1) := by decide +kernel
theorem dX6_bent_90 : decode cX6_bent 90 = .ok (.if_icmp .lt 12, 3) := by decide +kernel
theorem dX6_bent_93 : decode cX6_bent 93 = .ok (.aload_n 0, 1) := by decide +kernel
theorem dX6_bent_94 : decode cX6_bent 94 = .ok (.getfield 13, 3) := by decide +kernel
theorem dX6_bent_97 : decode cX6_bent 97 = .ok (.iconst 5, 1) := by decide +kernel
theorem dX6_bent_98 : decode cX6_bent 98 = .ok (.iaload, 1) := by decide +kernel
theorem dX6_bent_99 : decode cX6_bent 99 = .ok (.goto 5, 3) := by decide +kernel
theorem dX6_bent_102 : decode cX6_bent 102 = .ok (.bipush (-100), 2) := by decide +kernel
theorem dX6_bent_104 : decode cX6_bent 104 = .ok (.istore 4, 2) := by decide +kernel
theorem dX6_bent_106 : decode cX6_bent 106 = .ok (.iinc 5 1, 3) := by decide +kernel
theorem dX6_bent_109 : decode cX6_bent 109 = .ok (.goto (-77), 3) := by decide +kernel
theorem dX6_bent_112 : decode cX6_bent 112 = .ok (.aload_n 0, 1) := by decide +kernel
theorem dX6_bent_113 : decode cX6_bent 113 = .ok (.getfield 13, 3) := by decide +kernel
theorem dX6_bent_116 : decode cX6_bent 116 = .ok (.iconst 5, 1) := by decide +kernel
theorem dX6_bent_117 : decode cX6_bent 117 = .ok (.iload_n 3, 1) := by decide +kernel
theorem dX6_bent_118 : decode cX6_bent 118 = .ok (.iastore, 1) := by decide +kernel
theorem dX6_bent_119 : decode cX6_bent 119 = .ok (.iload 4, 2) := by decide +kernel
theorem dX6_bent_121 : decode cX6_bent 121 = .ok (.ireturn, 1) := by decide +kernel
theorem dX6_isEven_0 : decode cX6_isEven 0 = .ok (.iload_n 1, 1) := by decide +kernel
theorem dX6_isEven_1 : decode cX6_isEven 1 = .ok (.ifCond .lt 51, 3) := by decide +kernel
theorem dX6_isEven_4 : decode cX6_isEven 4 = .ok (.iload_n 1, 1) := by decide +kernel
theorem dX6_isEven_5 : decode cX6_isEven 5 = .ok (.aload_n 0, 1) := by decide +kernel
theorem dX6_isEven_6 : decode cX6_isEven 6 = .ok (.getfield 13, 3) := by decide +kernel
theorem dX6_isEven_9 : decode cX6_isEven 9 = .ok (.iconst 0, 1) := by decide +kernel
theorem dX6_isEven_10 : decode cX6_isEven 10 = .ok (.iaload, 1) := by decide +kernel
theorem dX6_isEven_11 : decode cX6_isEven 11 = .ok (.if_icmp .ge 41, 3) := by decide +kernel
theorem dX6_isEven_14 : decode cX6_isEven 14 = .ok (.iload_n 2, 1) := by decide +kernel
theorem dX6_isEven_15 : decode cX6_isEven 15 = .ok (.ifCond .lt 37, 3) := by decide +kernel
theorem dX6_isEven_18 : decode cX6_isEven 18 = .ok (.iload_n 2, 1) := by decide +kernel
theorem dX6_isEven_19 : decode cX6_isEven 19 = .ok (.aload_n 0, 1) := by decide +kernel
theorem dX6_isEven_20 : decode cX6_isEven 20 = .ok (.getfield 13, 3) := by decide +kernel
theorem dX6_isEven_23 : decode cX6_isEven 23 = .ok (.iconst 1, 1) := by decide +kernel
theorem dX6_isEven_24 : decode cX6_isEven 24 = .ok (.iaload, 1) := by decide +kernel
theorem dX6_isEven_25 : decode cX6_isEven 25 = .ok (.if_icmp .ge 27, 3) := by decide +kernel
theorem dX6_isEven_28 : decode cX6_isEven 28 = .ok (.aload_n 0, 1) := by decide +kernel
theorem dX6_isEven_29 : decode cX6_isEven 29 = .ok (.getfield 28, 3) := by decide +kernel
theorem dX6_isEven_32 : decode cX6_isEven 32 = .ok (.iload_n 2, 1) := by decide +kernel
theorem dX6_isEven_33 : decode cX6_isEven 33 = .ok (.aload_n 0, 1) := by decide +kernel
theorem dX6_isEven_34 : decode cX6_isEven 34 = .ok (.getfield 13, 3) := by decide +kernel
theorem dX6_isEven_37 : decode cX6_isEven 37 = .ok (.iconst 0, 1) := by decide +kernel
theorem dX6_isEven_38 : decode cX6_isEven 38 = .ok (.iaload, 1) := by decide +kernel
theorem dX6_isEven_39 : decode cX6_isEven 39 = .ok (.imul, 1) := by decide +kernel
theorem dX6_isEven_40 : decode cX6_isEven 40 = .ok (.iload_n 1, 1) := by decide +kernel
theorem dX6_isEven_41 : decode cX6_isEven 41 = .ok (.iadd, 1) := by decide +kernel
theorem dX6_isEven_42 : decode cX6_isEven 42 = .ok (.iaload, 1) := by decide +kernel
theorem dX6_isEven_43 : decode cX6_isEven 43 = .ok (.bipush (-2), 2) := by decide +kernel
theorem dX6_isEven_45 : decode cX6_isEven 45 = .ok (.if_icmp .ne 7, 3) := by decide +kernel
theorem dX6_isEven_48 : decode cX6_isEven 48 = .ok (.iconst 1, 1) := by decide +kernel
theorem dX6_isEven_49 : decode cX6_isEven 49 = .ok (.goto 4, 3) := by decide +kernel
theorem dX6_isEven_52 : decode cX6_isEven 52 = .ok (.iconst 0, 1) := by decide +kernel
theorem dX6_isEven_53 : decode cX6_isEven 53 = .ok (.ireturn, 1) := by decide +kernel
theorem dX6_spreads_0 : decode cX6_spreads 0 = .ok (.aload_n 0, 1) := by decide +kernel
theorem dX6_spreads_1 : decode cX6_spreads 1 = .ok (.iload_n 1, 1) := by decide +kernel
theorem dX6_spreads_2 : decode cX6_spreads 2 = .ok (.iload_n 2, 1) := by decide +kernel
theorem dX6_spreads_3 : decode cX6_spreads 3 = .ok (.invokevirtual 147, 3) := by decide +kernel
theorem dX6_spreads_6 : decode cX6_spreads 6 = .ok (.ifCond .eq 21, 3) := by decide +kernel
theorem dX6_spreads_9 : decode cX6_spreads 9 = .ok (.aload_n 0, 1) := by decide +kernel
theorem dX6_spreads_10 : decode cX6_spreads 10 = .ok (.getfield 37, 3) := by decide +kernel
theorem dX6_spreads_13 : decode cX6_spreads 13 = .ok (.iload_n 2, 1) := by decide +kernel
theorem dX6_spreads_14 : decode cX6_spreads 14 = .ok (.aload_n 0, 1) := by decide +kernel
theorem dX6_spreads_15 : decode cX6_spreads 15 = .ok (.getfield 13, 3) := by decide +kernel
theorem dX6_spreads_18 : decode cX6_spreads 18 = .ok (.iconst 0, 1) := by decide +kernel
theorem dX6_spreads_19 : decode cX6_spreads 19 = .ok (.iaload, 1) := by decide +kernel
theorem dX6_spreads_20 : decode cX6_spreads 20 = .ok (.imul, 1) := by decide +kernel
theorem dX6_spreads_21 : decode cX6_spreads 21 = .ok (.iload_n 1, 1) := by decide +kernel
theorem dX6_spreads_22 : decode cX6_spreads 22 = .ok (.iadd, 1) := by decide +kernel
theorem dX6_spreads_23 : decode cX6_spreads 23 = .ok (.iaload, 1) := by decide +kernel
theorem dX6_spreads_24 : decode cX6_spreads 24 = .ok (.ifCond .eq 4, 3) := by decide +kernel
theorem dX6_spreads_27 : decode cX6_spreads 27 = .ok (.return_, 1) := by decide +kernel
theorem dX6_spreads_28 : decode cX6_spreads 28 = .ok (.aload_n 0, 1) := by decide +kernel
theorem dX6_spreads_29 : decode cX6_spreads 29 = .ok (.getfield 37, 3) := by decide +kernel
theorem dX6_spreads_32 : decode cX6_spreads 32 = .ok (.iload_n 2, 1) := by decide +kernel
theorem dX6_spreads_33 : decode cX6_spreads 33 = .ok (.aload_n 0, 1) := by decide +kernel
theorem dX6_spreads_34 : decode cX6_spreads 34 = .ok (.getfield 13, 3) := by decide +kernel
theorem dX6_spreads_37 : decode cX6_spreads 37 = .ok (.iconst 0, 1) := by decide +kernel
theorem dX6_spreads_38 : decode cX6_spreads 38 = .ok (.iaload, 1) := by decide +kernel
theorem dX6_spreads_39 : decode cX6_spreads 39 = .ok (.imul, 1) := by decide +kernel
theorem dX6_spreads_40 : decode cX6_spreads 40 = .ok (.iload_n 1, 1) := by decide +kernel
theorem dX6_spreads_41 : decode cX6_spreads 41 = .ok (.iadd, 1) := by decide +kernel
theorem dX6_spreads_42 : decode cX6_spreads 42 = .ok (.iload_n 3, 1) := by decide +kernel
theorem dX6_spreads_43 : decode cX6_spreads 43 = .ok (.iastore, 1) := by decide +kernel
theorem dX6_spreads_44 : decode cX6_spreads 44 = .ok (.iconst (-1), 1) := by decide +kernel
theorem dX6_spreads_45 : decode cX6_spreads 45 = .ok (.istore 4, 2) := by decide +kernel
theorem dX6_spreads_47 : decode cX6_spreads 47 = .ok (.iload 4, 2) := by decide +kernel
theorem dX6_spreads_49 : decode cX6_spreads 49 = .ok (.iconst 2, 1) := by decide +kernel
theorem dX6_spreads_50 : decode cX6_spreads 50 = .ok (.if_icmp .ge 37, 3) := by decide +kernel
theorem dX6_spreads_53 : decode cX6_spreads 53 = .ok (.iconst (-1), 1) := by decide +kernel
theorem dX6_spreads_54 : decode cX6_spreads 54 = .ok (.istore 5, 2) := by decide +kernel
theorem dX6_spreads_56 : decode cX6_spreads 56 = .ok (.iload 5, 2) := by decide +kernel
theorem dX6_spreads_58 : decode cX6_spreads 58 = .ok (.iconst 2, 1) := by decide +kernel
theorem dX6_spreads_59 : decode cX6_spreads 59 = .ok (.if_icmp .ge 22, 3) := by decide +kernel
theorem dX6_spreads_62 : decode cX6_spreads 62 = .ok (.aload_n 0, 1) := by decide +kernel
theorem dX6_spreads_63 : decode cX6_spreads 63 = .ok (.iload_n 1, 1) := by decide +kernel
theorem dX6_spreads_64 : decode cX6_spreads 64 = .ok (.iload 4, 2) := by decide +kernel
theorem dX6_spreads_66 : decode cX6_spreads 66 = .ok (.iadd, 1) := by decide +kernel
theorem dX6_spreads_67 : decode cX6_spreads 67 = .ok (.iload_n 2, 1) := by decide +kernel
theorem dX6_spreads_68 : decode cX6_spreads 68 = .ok (.iload 5, 2) := by decide +kernel
theorem dX6_spreads_70 : decode cX6_spreads 70 = .ok (.iadd, 1) := by decide +kernel
theorem dX6_spreads_71 : decode cX6_spreads 71 = .ok (.iload_n 3, 1) := by decide +kernel
theorem dX6_spreads_72 : decode cX6_spreads 72 = .ok (.invokevirtual 150, 3) := by decide +kernel
theorem dX6_spreads_75 : decode cX6_spreads 75 = .ok (.iinc 5 1, 3) := by decide +kernel
theorem dX6_spreads_78 : decode cX6_spreads 78 = .ok (.goto (-22), 3) := by decide +kernel
theorem dX6_spreads_81 : decode cX6_spreads 81 = .ok (.iinc 4 1, 3) := by decide +kernel
theorem dX6_spreads_84 : decode cX6_spreads 84 = .ok (.goto (-37), 3) := by decide +kernel
theorem dX6_spreads_87 : decode cX6_spreads 87 = .ok (.return_, 1) := by decide +kernel
theorem dX6_pieces_0 : decode cX6_pieces 0 = .ok (.aload_n 0, 1) := by decide +kernel
theorem dX6_pieces_1 : decode cX6_pieces 1 = .ok (.invokevirtual 128, 3) := by decide +kernel
theorem dX6_pieces_4 : decode cX6_pieces 4 = .ok (.iconst 0, 1) := by decide +kernel
theorem dX6_pieces_5 : decode cX6_pieces 5 = .ok (.istore_n 1, 1) := by decide +kernel
theorem dX6_pieces_6 : decode cX6_pieces 6 = .ok (.iload_n 1, 1) := by decide +kernel
theorem dX6_pieces_7 : decode cX6_pieces 7 = .ok (.aload_n 0, 1) := by decide +kernel
theorem dX6_pieces_8 : decode cX6_pieces 8 = .ok (.invokevirtual 75, 3) := by decide +kernel
theorem dX6_pieces_11 : decode cX6_pieces 11 = .ok (.if_icmp .ge 16, 3) := by decide +kernel
theorem dX6_pieces_14 : decode cX6_pieces 14 = .ok (.aload_n 0, 1) := by decide +kernel
theorem dX6_pieces_15 : decode cX6_pieces 15 = .ok (.getfield 37, 3) := by decide +kernel
theorem dX6_pieces_18 : decode cX6_pieces 18 = .ok (.iload_n 1, 1) := by decide +kernel
theorem dX6_pieces_19 : decode cX6_pieces 19 = .ok (.iconst 0, 1) := by decide +kernel
theorem dX6_pieces_20 : decode cX6_pieces 20 = .ok (.iastore, 1) := by decide +kernel
theorem dX6_pieces_21 : decode cX6_pieces 21 = .ok (.iinc 1 1, 3) := by decide +kernel
theorem dX6_pieces_24 : decode cX6_pieces 24 = .ok (.goto (-18), 3) := by decide +kernel
theorem dX6_pieces_27 : decode cX6_pieces 27 = .ok (.iconst 0, 1) := by decide +kernel
theorem dX6_pieces_28 : decode cX6_pieces 28 = .ok (.istore_n 1, 1) := by decide +kernel
theorem dX6_pieces_29 : decode cX6_pieces 29 = .ok (.iconst 0, 1) := by decide +kernel
theorem dX6_pieces_30 : decode cX6_pieces 30 = .ok (.istore_n 2, 1) := by decide +kernel
theorem dX6_pieces_31 : decode cX6_pieces 31 = .ok (.iload_n 2, 1) := by decide +kernel
theorem dX6_pieces_32 : decode cX6_pieces 32 = .ok (.aload_n 0, 1) := by decide +kernel
theorem dX6_pieces_33 : decode cX6_pieces 33 = .ok (.invokevirtual 75, 3) := by decide +kernel
theorem dX6_pieces_36 : decode cX6_pieces 36 = .ok (.if_icmp .ge 56, 3) := by decide +kernel
theorem dX6_pieces_39 : decode cX6_pieces 39 = .ok (.aload_n 0, 1) := by decide +kernel
theorem dX6_pieces_40 : decode cX6_pieces 40 = .ok (.getfield 28, 3) := by decide +kernel
theorem dX6_pieces_43 : decode cX6_pieces 43 = .ok (.iload_n 2, 1) := by decide +kernel
theorem dX6_pieces_44 : decode cX6_pieces 44 = .ok (.iaload, 1) := by decide +kernel
theorem dX6_pieces_45 : decode cX6_pieces 45 = .ok (.bipush (-2), 2) := by decide +kernel
theorem dX6_pieces_47 : decode cX6_pieces 47 = .ok (.if_icmp .ne 39, 3) := by decide +kernel
theorem dX6_pieces_50 : decode cX6_pieces 50 = .ok (.aload_n 0, 1) := by decide +kernel
theorem dX6_pieces_51 : decode cX6_pieces 51 = .ok (.getfield 37, 3) := by decide +kernel
theorem dX6_pieces_54 : decode cX6_pieces 54 = .ok (.iload_n 2, 1) := by decide +kernel
theorem dX6_pieces_55 : decode cX6_pieces 55 = .ok (.iaload, 1) := by decide +kernel
theorem dX6_pieces_56 : decode cX6_pieces 56 = .ok (.ifCond .eq 6, 3) := by decide +kernel
theorem dX6_pieces_59 : decode cX6_pieces 59 = .ok (.goto 27, 3) := by decide +kernel
theorem dX6_pieces_62 : decode cX6_pieces 62 = .ok (.iinc 1 1, 3) := by decide +kernel
theorem dX6_pieces_65 : decode cX6_pieces 65 = .ok (.aload_n 0, 1) := by decide +kernel
theorem dX6_pieces_66 : decode cX6_pieces 66 = .ok (.iload_n 2, 1) := by decide +kernel
theorem dX6_pieces_67 : decode cX6_pieces 67 = .ok (.aload_n 0, 1) := by decide +kernel
theorem dX6_pieces_68 : decode cX6_pieces 68 = .ok (.getfield 13, 3) := by decide +kernel
theorem dX6_pieces_71 : decode cX6_pieces 71 = .ok (.iconst 0, 1) := by decide +kernel
theorem dX6_pieces_72 : decode cX6_pieces 72 = .ok (.iaload, 1) := by decide +kernel
theorem dX6_pieces_73 : decode cX6_pieces 73 = .ok (.irem, 1) := by decide +kernel
theorem dX6_pieces_74 : decode cX6_pieces 74 = .ok (.iload_n 2, 1) := by decide +kernel
theorem dX6_pieces_75 : decode cX6_pieces 75 = .ok (.aload_n 0, 1) := by decide +kernel
theorem dX6_pieces_76 : decode cX6_pieces 76 = .ok (.getfield 13, 3) := by decide +kernel
theorem dX6_pieces_79 : decode cX6_pieces 79 = .ok (.iconst 0, 1) := by decide +kernel
theorem dX6_pieces_80 : decode cX6_pieces 80 = .ok (.iaload, 1) := by decide +kernel
theorem dX6_pieces_81 : decode cX6_pieces 81 = .ok (.idiv, 1) := by decide +kernel
theorem dX6_pieces_82 : decode cX6_pieces 82 = .ok (.iload_n 1, 1) := by decide +kernel
theorem dX6_pieces_83 : decode cX6_pieces 83 = .ok (.invokevirtual 150, 3) := by decide +kernel
theorem dX6_pieces_86 : decode cX6_pieces 86 = .ok (.iinc 2 1, 3) := by decide +kernel
theorem dX6_pieces_89 : decode cX6_pieces 89 = .ok (.goto (-58), 3) := by decide +kernel
theorem dX6_pieces_92 : decode cX6_pieces 92 = .ok (.iload_n 1, 1) := by decide +kernel
theorem dX6_pieces_93 : decode cX6_pieces 93 = .ok (.ireturn, 1) := by decide +kernel
theorem dX6_turnings_0 : decode cX6_turnings 0 = .ok (.aload_n 0, 1) := by decide +kernel
theorem dX6_turnings_1 : decode cX6_turnings 1 = .ok (.invokevirtual 128, 3) := by decide +kernel
theorem dX6_turnings_4 : decode cX6_turnings 4 = .ok (.iconst 0, 1) := by decide +kernel
theorem dX6_turnings_5 : decode cX6_turnings 5 = .ok (.istore_n 1, 1) := by decide +kernel
theorem dX6_turnings_6 : decode cX6_turnings 6 = .ok (.iconst 0, 1) := by decide +kernel
theorem dX6_turnings_7 : decode cX6_turnings 7 = .ok (.istore_n 2, 1) := by decide +kernel
theorem dX6_turnings_8 : decode cX6_turnings 8 = .ok (.iload_n 2, 1) := by decide +kernel
theorem dX6_turnings_9 : decode cX6_turnings 9 = .ok (.aload_n 0, 1) := by decide +kernel
theorem dX6_turnings_10 : decode cX6_turnings 10 = .ok (.invokevirtual 75, 3) := by decide +kernel
theorem dX6_turnings_13 : decode cX6_turnings 13 = .ok (.if_icmp .ge 94, 3) := by decide +kernel
theorem dX6_turnings_16 : decode cX6_turnings 16 = .ok (.iload_n 2, 1) := by decide +kernel
theorem dX6_turnings_17 : decode cX6_turnings 17 = .ok (.aload_n 0, 1) := by decide +kernel
theorem dX6_turnings_18 : decode cX6_turnings 18 = .ok (.getfield 13, 3) := by decide +kernel
theorem dX6_turnings_21 : decode cX6_turnings 21 = .ok (.iconst 0, 1) := by decide +kernel
theorem dX6_turnings_22 : decode cX6_turnings 22 = .ok (.iaload, 1) := by decide +kernel
theorem dX6_turnings_23 : decode cX6_turnings 23 = .ok (.irem, 1) := by decide +kernel
theorem dX6_turnings_24 : decode cX6_turnings 24 = .ok (.istore_n 3, 1) := by decide +kernel
theorem dX6_turnings_25 : decode cX6_turnings 25 = .ok (.iload_n 2, 1) := by decide +kernel
theorem dX6_turnings_26 : decode cX6_turnings 26 = .ok (.aload_n 0, 1) := by decide +kernel
theorem dX6_turnings_27 : decode cX6_turnings 27 = .ok (.getfield 13, 3) := by decide +kernel
theorem dX6_turnings_30 : decode cX6_turnings 30 = .ok (.iconst 0, 1) := by decide +kernel
theorem dX6_turnings_31 : decode cX6_turnings 31 = .ok (.iaload, 1) := by decide +kernel
theorem dX6_turnings_32 : decode cX6_turnings 32 = .ok (.idiv, 1) := by decide +kernel
theorem dX6_turnings_33 : decode cX6_turnings 33 = .ok (.istore 4, 2) := by decide +kernel
theorem dX6_turnings_35 : decode cX6_turnings 35 = .ok (.iload_n 1, 1) := by decide +kernel
theorem dX6_turnings_36 : decode cX6_turnings 36 = .ok (.aload_n 0, 1) := by decide +kernel
theorem dX6_turnings_37 : decode cX6_turnings 37 = .ok (.iload_n 3, 1) := by decide +kernel
theorem dX6_turnings_38 : decode cX6_turnings 38 = .ok (.iload 4, 2) := by decide +kernel
theorem dX6_turnings_40 : decode cX6_turnings 40 = .ok (.invokevirtual 147, 3) := by decide +kernel
theorem dX6_turnings_43 : decode cX6_turnings 43 = .ok (.ifCond .eq 55, 3) := by decide +kernel
theorem dX6_turnings_46 : decode cX6_turnings 46 = .ok (.aload_n 0, 1) := by decide +kernel
theorem dX6_turnings_47 : decode cX6_turnings 47 = .ok (.iload_n 3, 1) := by decide +kernel
theorem dX6_turnings_48 : decode cX6_turnings 48 = .ok (.iconst 1, 1) := by decide +kernel
theorem dX6_turnings_49 : decode cX6_turnings 49 = .ok (.isub, 1) := by decide +kernel
theorem dX6_turnings_50 : decode cX6_turnings 50 = .ok (.iload 4, 2) := by decide +kernel
theorem dX6_turnings_52 : decode cX6_turnings 52 = .ok (.invokevirtual 147, 3) := by decide +kernel
theorem dX6_turnings_55 : decode cX6_turnings 55 = .ok (.ifCond .ne 15, 3) := by decide +kernel
theorem dX6_turnings_58 : decode cX6_turnings 58 = .ok (.aload_n 0, 1) := by decide +kernel
theorem dX6_turnings_59 : decode cX6_turnings 59 = .ok (.iload_n 3, 1) := by decide +kernel
theorem dX6_turnings_60 : decode cX6_turnings 60 = .ok (.iconst 1, 1) := by decide +kernel
theorem dX6_turnings_61 : decode cX6_turnings 61 = .ok (.iadd, 1) := by decide +kernel
theorem dX6_turnings_62 : decode cX6_turnings 62 = .ok (.iload 4, 2) := by decide +kernel
theorem dX6_turnings_64 : decode cX6_turnings 64 = .ok (.invokevirtual 147, 3) := by decide +kernel
theorem dX6_turnings_67 : decode cX6_turnings 67 = .ok (.ifCond .eq 31, 3) := by decide +kernel
theorem dX6_turnings_70 : decode cX6_turnings 70 = .ok (.aload_n 0, 1) := by decide +kernel
theorem dX6_turnings_71 : decode cX6_turnings 71 = .ok (.iload_n 3, 1) := by decide +kernel
theorem dX6_turnings_72 : decode cX6_turnings 72 = .ok (.iload 4, 2) := by decide +kernel
theorem dX6_turnings_74 : decode cX6_turnings 74 = .ok (.iconst 1, 1) := by decide +kernel
theorem dX6_turnings_75 : decode cX6_turnings 75 = .ok (.isub, 1) := by decide +kernel
theorem dX6_turnings_76 : decode cX6_turnings 76 = .ok (.invokevirtual 147, 3) := by decide +kernel
theorem dX6_turnings_79 : decode cX6_turnings 79 = .ok (.ifCond .ne 15, 3) := by decide +kernel
theorem dX6_turnings_82 : decode cX6_turnings 82 = .ok (.aload_n 0, 1) := by decide +kernel
theorem dX6_turnings_83 : decode cX6_turnings 83 = .ok (.iload_n 3, 1) := by decide +kernel
theorem dX6_turnings_84 : decode cX6_turnings 84 = .ok (.iload 4, 2) := by decide +kernel
theorem dX6_turnings_86 : decode cX6_turnings 86 = .ok (.iconst 1, 1) := by decide +kernel
theorem dX6_turnings_87 : decode cX6_turnings 87 = .ok (.iadd, 1) := by decide +kernel
theorem dX6_turnings_88 : decode cX6_turnings 88 = .ok (.invokevirtual 147, 3) := by decide +kernel
theorem dX6_turnings_91 : decode cX6_turnings 91 = .ok (.ifCond .eq 7, 3) := by decide +kernel
theorem dX6_turnings_94 : decode cX6_turnings 94 = .ok (.iconst 1, 1) := by decide +kernel
theorem dX6_turnings_95 : decode cX6_turnings 95 = .ok (.goto 4, 3) := by decide +kernel
theorem dX6_turnings_98 : decode cX6_turnings 98 = .ok (.iconst 0, 1) := by decide +kernel
theorem dX6_turnings_99 : decode cX6_turnings 99 = .ok (.iadd, 1) := by decide +kernel
theorem dX6_turnings_100 : decode cX6_turnings 100 = .ok (.istore_n 1, 1) := by decide +kernel
theorem dX6_turnings_101 : decode cX6_turnings 101 = .ok (.iinc 2 1, 3) := by decide +kernel
theorem dX6_turnings_104 : decode cX6_turnings 104 = .ok (.goto (-96), 3) := by decide +kernel
theorem dX6_turnings_107 : decode cX6_turnings 107 = .ok (.iload_n 1, 1) := by decide +kernel
theorem dX6_turnings_108 : decode cX6_turnings 108 = .ok (.ireturn, 1) := by decide +kernel
theorem dX6_movesOf_0 : decode cX6_movesOf 0 = .ok (.aload_n 0, 1) := by decide +kernel
theorem dX6_movesOf_1 : decode cX6_movesOf 1 = .ok (.iload_n 1, 1) := by decide +kernel
theorem dX6_movesOf_2 : decode cX6_movesOf 2 = .ok (.invokevirtual 86, 3) := by decide +kernel
theorem dX6_movesOf_5 : decode cX6_movesOf 5 = .ok (.istore_n 2, 1) := by decide +kernel
theorem dX6_movesOf_6 : decode cX6_movesOf 6 = .ok (.aload_n 0, 1) := by decide +kernel
theorem dX6_movesOf_7 : decode cX6_movesOf 7 = .ok (.getfield 13, 3) := by decide +kernel
theorem dX6_movesOf_10 : decode cX6_movesOf 10 = .ok (.bipush 7, 2) := by decide +kernel
theorem dX6_movesOf_12 : decode cX6_movesOf 12 = .ok (.iload_n 1, 1) := by decide +kernel
theorem dX6_movesOf_13 : decode cX6_movesOf 13 = .ok (.iadd, 1) := by decide +kernel
theorem dX6_movesOf_14 : decode cX6_movesOf 14 = .ok (.iconst 0, 1) := by decide +kernel
theorem dX6_movesOf_15 : decode cX6_movesOf 15 = .ok (.iastore, 1) := by decide +kernel
theorem dX6_movesOf_16 : decode cX6_movesOf 16 = .ok (.aload_n 0, 1) := by decide +kernel
theorem dX6_movesOf_17 : decode cX6_movesOf 17 = .ok (.invokevirtual 128, 3) := by decide +kernel
theorem dX6_movesOf_20 : decode cX6_movesOf 20 = .ok (.aload_n 0, 1) := by decide +kernel
theorem dX6_movesOf_21 : decode cX6_movesOf 21 = .ok (.getfield 13, 3) := by decide +kernel
theorem dX6_movesOf_24 : decode cX6_movesOf 24 = .ok (.bipush 7, 2) := by decide +kernel
theorem dX6_movesOf_26 : decode cX6_movesOf 26 = .ok (.iload_n 1, 1) := by decide +kernel
theorem dX6_movesOf_27 : decode cX6_movesOf 27 = .ok (.iadd, 1) := by decide +kernel
theorem dX6_movesOf_28 : decode cX6_movesOf 28 = .ok (.iload_n 2, 1) := by decide +kernel
theorem dX6_movesOf_29 : decode cX6_movesOf 29 = .ok (.iastore, 1) := by decide +kernel
theorem dX6_movesOf_30 : decode cX6_movesOf 30 = .ok (.iconst 0, 1) := by decide +kernel
theorem dX6_movesOf_31 : decode cX6_movesOf 31 = .ok (.istore_n 3, 1) := by decide +kernel
theorem dX6_movesOf_32 : decode cX6_movesOf 32 = .ok (.iconst 0, 1) := by decide +kernel
theorem dX6_movesOf_33 : decode cX6_movesOf 33 = .ok (.istore 4, 2) := by decide +kernel
theorem dX6_movesOf_35 : decode cX6_movesOf 35 = .ok (.iload 4, 2) := by decide +kernel
theorem dX6_movesOf_37 : decode cX6_movesOf 37 = .ok (.aload_n 0, 1) := by decide +kernel
theorem dX6_movesOf_38 : decode cX6_movesOf 38 = .ok (.invokevirtual 75, 3) := by decide +kernel
theorem dX6_movesOf_41 : decode cX6_movesOf 41 = .ok (.if_icmp .ge 40, 3) := by decide +kernel
theorem dX6_movesOf_44 : decode cX6_movesOf 44 = .ok (.iload_n 3, 1) := by decide +kernel
theorem dX6_movesOf_45 : decode cX6_movesOf 45 = .ok (.iload 4, 2) := by decide +kernel
theorem dX6_movesOf_47 : decode cX6_movesOf 47 = .ok (.iload_n 1, 1) := by decide +kernel
theorem dX6_movesOf_48 : decode cX6_movesOf 48 = .ok (.if_icmp .eq 24, 3) := by decide +kernel
theorem dX6_movesOf_51 : decode cX6_movesOf 51 = .ok (.aload_n 0, 1) := by decide +kernel
theorem dX6_movesOf_52 : decode cX6_movesOf 52 = .ok (.getfield 28, 3) := by decide +kernel
theorem dX6_movesOf_55 : decode cX6_movesOf 55 = .ok (.iload 4, 2) := by decide +kernel
theorem dX6_movesOf_57 : decode cX6_movesOf 57 = .ok (.iaload, 1) := by decide +kernel
theorem dX6_movesOf_58 : decode cX6_movesOf 58 = .ok (.aload_n 0, 1) := by decide +kernel
theorem dX6_movesOf_59 : decode cX6_movesOf 59 = .ok (.getfield 40, 3) := by decide +kernel
theorem dX6_movesOf_62 : decode cX6_movesOf 62 = .ok (.iload 4, 2) := by decide +kernel
theorem dX6_movesOf_64 : decode cX6_movesOf 64 = .ok (.iaload, 1) := by decide +kernel
theorem dX6_movesOf_65 : decode cX6_movesOf 65 = .ok (.if_icmp .eq 7, 3) := by decide +kernel
theorem dX6_movesOf_68 : decode cX6_movesOf 68 = .ok (.iconst 1, 1) := by decide +kernel
theorem dX6_movesOf_69 : decode cX6_movesOf 69 = .ok (.goto 4, 3) := by decide +kernel
theorem dX6_movesOf_72 : decode cX6_movesOf 72 = .ok (.iconst 0, 1) := by decide +kernel
theorem dX6_movesOf_73 : decode cX6_movesOf 73 = .ok (.iadd, 1) := by decide +kernel
theorem dX6_movesOf_74 : decode cX6_movesOf 74 = .ok (.istore_n 3, 1) := by decide +kernel
theorem dX6_movesOf_75 : decode cX6_movesOf 75 = .ok (.iinc 4 1, 3) := by decide +kernel
theorem dX6_movesOf_78 : decode cX6_movesOf 78 = .ok (.goto (-43), 3) := by decide +kernel
theorem dX6_movesOf_81 : decode cX6_movesOf 81 = .ok (.iload_n 3, 1) := by decide +kernel
theorem dX6_movesOf_82 : decode cX6_movesOf 82 = .ok (.ireturn, 1) := by decide +kernel
theorem dX6_keeps_0 : decode cX6_keeps 0 = .ok (.aload_n 0, 1) := by decide +kernel
theorem dX6_keeps_1 : decode cX6_keeps 1 = .ok (.invokevirtual 128, 3) := by decide +kernel
theorem dX6_keeps_4 : decode cX6_keeps 4 = .ok (.iconst 0, 1) := by decide +kernel
theorem dX6_keeps_5 : decode cX6_keeps 5 = .ok (.istore_n 1, 1) := by decide +kernel
theorem dX6_keeps_6 : decode cX6_keeps 6 = .ok (.iload_n 1, 1) := by decide +kernel
theorem dX6_keeps_7 : decode cX6_keeps 7 = .ok (.aload_n 0, 1) := by decide +kernel
theorem dX6_keeps_8 : decode cX6_keeps 8 = .ok (.invokevirtual 75, 3) := by decide +kernel
theorem dX6_keeps_11 : decode cX6_keeps 11 = .ok (.if_icmp .ge 21, 3) := by decide +kernel
theorem dX6_keeps_14 : decode cX6_keeps 14 = .ok (.aload_n 0, 1) := by decide +kernel
theorem dX6_keeps_15 : decode cX6_keeps 15 = .ok (.getfield 40, 3) := by decide +kernel
theorem dX6_keeps_18 : decode cX6_keeps 18 = .ok (.iload_n 1, 1) := by decide +kernel
theorem dX6_keeps_19 : decode cX6_keeps 19 = .ok (.aload_n 0, 1) := by decide +kernel
theorem dX6_keeps_20 : decode cX6_keeps 20 = .ok (.getfield 28, 3) := by decide +kernel
theorem dX6_keeps_23 : decode cX6_keeps 23 = .ok (.iload_n 1, 1) := by decide +kernel
theorem dX6_keeps_24 : decode cX6_keeps 24 = .ok (.iaload, 1) := by decide +kernel
theorem dX6_keeps_25 : decode cX6_keeps 25 = .ok (.iastore, 1) := by decide +kernel
theorem dX6_keeps_26 : decode cX6_keeps 26 = .ok (.iinc 1 1, 3) := by decide +kernel
theorem dX6_keeps_29 : decode cX6_keeps 29 = .ok (.goto (-23), 3) := by decide +kernel
theorem dX6_keeps_32 : decode cX6_keeps 32 = .ok (.return_, 1) := by decide +kernel
theorem dX6_moves_0 : decode cX6_moves 0 = .ok (.aload_n 0, 1) := by decide +kernel
theorem dX6_moves_1 : decode cX6_moves 1 = .ok (.iload_n 1, 1) := by decide +kernel
theorem dX6_moves_2 : decode cX6_moves 2 = .ok (.invokevirtual 79, 3) := by decide +kernel
theorem dX6_moves_5 : decode cX6_moves 5 = .ok (.ifCond .ne 9, 3) := by decide +kernel
theorem dX6_moves_8 : decode cX6_moves 8 = .ok (.aload_n 0, 1) := by decide +kernel
theorem dX6_moves_9 : decode cX6_moves 9 = .ok (.iconst (-1), 1) := by decide +kernel
theorem dX6_moves_10 : decode cX6_moves 10 = .ok (.invokevirtual 49, 3) := by decide +kernel
theorem dX6_moves_13 : decode cX6_moves 13 = .ok (.ireturn, 1) := by decide +kernel
theorem dX6_moves_14 : decode cX6_moves 14 = .ok (.aload_n 0, 1) := by decide +kernel
theorem dX6_moves_15 : decode cX6_moves 15 = .ok (.aload_n 0, 1) := by decide +kernel
theorem dX6_moves_16 : decode cX6_moves 16 = .ok (.iload_n 1, 1) := by decide +kernel
theorem dX6_moves_17 : decode cX6_moves 17 = .ok (.invokevirtual 83, 3) := by decide +kernel
theorem dX6_moves_20 : decode cX6_moves 20 = .ok (.invokevirtual 86, 3) := by decide +kernel
theorem dX6_moves_23 : decode cX6_moves 23 = .ok (.ifCond .eq 17, 3) := by decide +kernel
theorem dX6_moves_26 : decode cX6_moves 26 = .ok (.aload_n 0, 1) := by decide +kernel
theorem dX6_moves_27 : decode cX6_moves 27 = .ok (.aload_n 0, 1) := by decide +kernel
theorem dX6_moves_28 : decode cX6_moves 28 = .ok (.iload_n 1, 1) := by decide +kernel
theorem dX6_moves_29 : decode cX6_moves 29 = .ok (.invokevirtual 83, 3) := by decide +kernel
theorem dX6_moves_32 : decode cX6_moves 32 = .ok (.invokevirtual 86, 3) := by decide +kernel
theorem dX6_moves_35 : decode cX6_moves 35 = .ok (.bipush 7, 2) := by decide +kernel
theorem dX6_moves_37 : decode cX6_moves 37 = .ok (.if_icmp .ne 10, 3) := by decide +kernel
theorem dX6_moves_40 : decode cX6_moves 40 = .ok (.aload_n 0, 1) := by decide +kernel
theorem dX6_moves_41 : decode cX6_moves 41 = .ok (.bipush (-3), 2) := by decide +kernel
theorem dX6_moves_43 : decode cX6_moves 43 = .ok (.invokevirtual 49, 3) := by decide +kernel
theorem dX6_moves_46 : decode cX6_moves 46 = .ok (.ireturn, 1) := by decide +kernel
theorem dX6_moves_47 : decode cX6_moves 47 = .ok (.aload_n 0, 1) := by decide +kernel
theorem dX6_moves_48 : decode cX6_moves 48 = .ok (.invokevirtual 154, 3) := by decide +kernel
theorem dX6_moves_51 : decode cX6_moves 51 = .ok (.aload_n 0, 1) := by decide +kernel
theorem dX6_moves_52 : decode cX6_moves 52 = .ok (.aload_n 0, 1) := by decide +kernel
theorem dX6_moves_53 : decode cX6_moves 53 = .ok (.iload_n 1, 1) := by decide +kernel
theorem dX6_moves_54 : decode cX6_moves 54 = .ok (.invokevirtual 83, 3) := by decide +kernel
theorem dX6_moves_57 : decode cX6_moves 57 = .ok (.invokevirtual 157, 3) := by decide +kernel
theorem dX6_moves_60 : decode cX6_moves 60 = .ok (.ireturn, 1) := by decide +kernel
theorem dX6_most__0 : decode cX6_most_ 0 = .ok (.aload_n 0, 1) := by decide +kernel
theorem dX6_most__1 : decode cX6_most_ 1 = .ok (.invokevirtual 154, 3) := by decide +kernel
theorem dX6_most__4 : decode cX6_most_ 4 = .ok (.bipush (-9), 2) := by decide +kernel
theorem dX6_most__6 : decode cX6_most_ 6 = .ok (.istore_n 1, 1) := by decide +kernel
theorem dX6_most__7 : decode cX6_most_ 7 = .ok (.iconst 0, 1) := by decide +kernel
theorem dX6_most__8 : decode cX6_most_ 8 = .ok (.istore_n 2, 1) := by decide +kernel
theorem dX6_most__9 : decode cX6_most_ 9 = .ok (.iconst 0, 1) := by decide +kernel
theorem dX6_most__10 : decode cX6_most_ 10 = .ok (.istore_n 3, 1) := by decide +kernel
theorem dX6_most__11 : decode cX6_most_ 11 = .ok (.iload_n 3, 1) := by decide +kernel
theorem dX6_most__12 : decode cX6_most_ 12 = .ok (.aload_n 0, 1) := by decide +kernel
theorem dX6_most__13 : decode cX6_most_ 13 = .ok (.invokevirtual 75, 3) := by decide +kernel
theorem dX6_most__16 : decode cX6_most_ 16 = .ok (.if_icmp .ge 55, 3) := by decide +kernel
theorem dX6_most__19 : decode cX6_most_ 19 = .ok (.aload_n 0, 1) := by decide +kernel
theorem dX6_most__20 : decode cX6_most_ 20 = .ok (.iload_n 3, 1) := by decide +kernel
theorem dX6_most__21 : decode cX6_most_ 21 = .ok (.invokevirtual 86, 3) := by decide +kernel
theorem dX6_most__24 : decode cX6_most_ 24 = .ok (.ifCond .eq 41, 3) := by decide +kernel
theorem dX6_most__27 : decode cX6_most_ 27 = .ok (.aload_n 0, 1) := by decide +kernel
theorem dX6_most__28 : decode cX6_most_ 28 = .ok (.iload_n 3, 1) := by decide +kernel
theorem dX6_most__29 : decode cX6_most_ 29 = .ok (.invokevirtual 86, 3) := by decide +kernel
theorem dX6_most__32 : decode cX6_most_ 32 = .ok (.bipush 7, 2) := by decide +kernel
theorem dX6_most__34 : decode cX6_most_ 34 = .ok (.if_icmp .ne 6, 3) := by decide +kernel
theorem dX6_most__37 : decode cX6_most_ 37 = .ok (.goto 28, 3) := by decide +kernel
theorem dX6_most__40 : decode cX6_most_ 40 = .ok (.aload_n 0, 1) := by decide +kernel
theorem dX6_most__41 : decode cX6_most_ 41 = .ok (.iload_n 3, 1) := by decide +kernel
theorem dX6_most__42 : decode cX6_most_ 42 = .ok (.invokevirtual 157, 3) := by decide +kernel
theorem dX6_most__45 : decode cX6_most_ 45 = .ok (.istore 4, 2) := by decide +kernel
theorem dX6_most__47 : decode cX6_most_ 47 = .ok (.iload_n 1, 1) := by decide +kernel
theorem dX6_most__48 : decode cX6_most_ 48 = .ok (.ifCond .lt 12, 3) := by decide +kernel
theorem dX6_most__51 : decode cX6_most_ 51 = .ok (.iload 4, 2) := by decide +kernel
theorem dX6_most__53 : decode cX6_most_ 53 = .ok (.iload_n 2, 1) := by decide +kernel
theorem dX6_most__54 : decode cX6_most_ 54 = .ok (.if_icmp .gt 6, 3) := by decide +kernel
theorem dX6_most__57 : decode cX6_most_ 57 = .ok (.goto 8, 3) := by decide +kernel
theorem dX6_most__60 : decode cX6_most_ 60 = .ok (.iload_n 3, 1) := by decide +kernel
theorem dX6_most__61 : decode cX6_most_ 61 = .ok (.istore_n 1, 1) := by decide +kernel
theorem dX6_most__62 : decode cX6_most_ 62 = .ok (.iload 4, 2) := by decide +kernel
theorem dX6_most__64 : decode cX6_most_ 64 = .ok (.istore_n 2, 1) := by decide +kernel
theorem dX6_most__65 : decode cX6_most_ 65 = .ok (.iinc 3 1, 3) := by decide +kernel
theorem dX6_most__68 : decode cX6_most_ 68 = .ok (.goto (-57), 3) := by decide +kernel
theorem dX6_most__71 : decode cX6_most_ 71 = .ok (.iload_n 1, 1) := by decide +kernel
theorem dX6_most__72 : decode cX6_most_ 72 = .ok (.ifCond .ge 8, 3) := by decide +kernel
theorem dX6_most__75 : decode cX6_most_ 75 = .ok (.bipush (-9), 2) := by decide +kernel
theorem dX6_most__77 : decode cX6_most_ 77 = .ok (.goto 8, 3) := by decide +kernel
theorem dX6_most__80 : decode cX6_most_ 80 = .ok (.aload_n 0, 1) := by decide +kernel
theorem dX6_most__81 : decode cX6_most_ 81 = .ok (.iload_n 1, 1) := by decide +kernel
theorem dX6_most__82 : decode cX6_most_ 82 = .ok (.invokevirtual 131, 3) := by decide +kernel
theorem dX6_most__85 : decode cX6_most_ 85 = .ok (.ireturn, 1) := by decide +kernel
theorem dX6_well_0 : decode cX6_well 0 = .ok (.aload_n 0, 1) := by decide +kernel
theorem dX6_well_1 : decode cX6_well 1 = .ok (.iload_n 1, 1) := by decide +kernel
theorem dX6_well_2 : decode cX6_well 2 = .ok (.invokevirtual 79, 3) := by decide +kernel
theorem dX6_well_5 : decode cX6_well 5 = .ok (.ifCond .ne 7, 3) := by decide +kernel
theorem dX6_well_8 : decode cX6_well 8 = .ok (.iconst (-1), 1) := by decide +kernel
theorem dX6_well_9 : decode cX6_well 9 = .ok (.goto 27, 3) := by decide +kernel
theorem dX6_well_12 : decode cX6_well 12 = .ok (.aload_n 0, 1) := by decide +kernel
theorem dX6_well_13 : decode cX6_well 13 = .ok (.aload_n 0, 1) := by decide +kernel
theorem dX6_well_14 : decode cX6_well 14 = .ok (.iload_n 1, 1) := by decide +kernel
theorem dX6_well_15 : decode cX6_well 15 = .ok (.invokevirtual 83, 3) := by decide +kernel
theorem dX6_well_18 : decode cX6_well 18 = .ok (.invokevirtual 86, 3) := by decide +kernel
theorem dX6_well_21 : decode cX6_well 21 = .ok (.ifCond .eq 8, 3) := by decide +kernel
theorem dX6_well_24 : decode cX6_well 24 = .ok (.bipush (-3), 2) := by decide +kernel
theorem dX6_well_26 : decode cX6_well 26 = .ok (.goto 10, 3) := by decide +kernel
theorem dX6_well_29 : decode cX6_well 29 = .ok (.iload_n 2, 1) := by decide +kernel
theorem dX6_well_30 : decode cX6_well 30 = .ok (.iconst 1, 1) := by decide +kernel
theorem dX6_well_31 : decode cX6_well 31 = .ok (.bipush 99, 2) := by decide +kernel
theorem dX6_well_33 : decode cX6_well 33 = .ok (.invokestatic 99, 3) := by decide +kernel
theorem dX6_well_36 : decode cX6_well 36 = .ok (.istore_n 3, 1) := by decide +kernel
theorem dX6_well_37 : decode cX6_well 37 = .ok (.iload_n 3, 1) := by decide +kernel
theorem dX6_well_38 : decode cX6_well 38 = .ok (.ifCond .ne 18, 3) := by decide +kernel
theorem dX6_well_41 : decode cX6_well 41 = .ok (.aload_n 0, 1) := by decide +kernel
theorem dX6_well_42 : decode cX6_well 42 = .ok (.getfield 13, 3) := by decide +kernel
theorem dX6_well_45 : decode cX6_well 45 = .ok (.bipush 6, 2) := by decide +kernel
theorem dX6_well_47 : decode cX6_well 47 = .ok (.iaload, 1) := by decide +kernel
theorem dX6_well_48 : decode cX6_well 48 = .ok (.bipush 12, 2) := by decide +kernel
theorem dX6_well_50 : decode cX6_well 50 = .ok (.if_icmp .ne 6, 3) := by decide +kernel
theorem dX6_well_53 : decode cX6_well 53 = .ok (.bipush (-6), 2) := by decide +kernel
theorem dX6_well_55 : decode cX6_well 55 = .ok (.istore_n 3, 1) := by decide +kernel
theorem dX6_well_56 : decode cX6_well 56 = .ok (.iload_n 3, 1) := by decide +kernel
theorem dX6_well_57 : decode cX6_well 57 = .ok (.ifCond .eq 9, 3) := by decide +kernel
theorem dX6_well_60 : decode cX6_well 60 = .ok (.aload_n 0, 1) := by decide +kernel
theorem dX6_well_61 : decode cX6_well 61 = .ok (.iload_n 3, 1) := by decide +kernel
theorem dX6_well_62 : decode cX6_well 62 = .ok (.invokevirtual 49, 3) := by decide +kernel
theorem dX6_well_65 : decode cX6_well 65 = .ok (.ireturn, 1) := by decide +kernel
theorem dX6_well_66 : decode cX6_well 66 = .ok (.aload_n 0, 1) := by decide +kernel
theorem dX6_well_67 : decode cX6_well 67 = .ok (.getfield 13, 3) := by decide +kernel
theorem dX6_well_70 : decode cX6_well 70 = .ok (.bipush 127, 2) := by decide +kernel
theorem dX6_well_72 : decode cX6_well 72 = .ok (.iconst 2, 1) := by decide +kernel
theorem dX6_well_73 : decode cX6_well 73 = .ok (.aload_n 0, 1) := by decide +kernel
theorem dX6_well_74 : decode cX6_well 74 = .ok (.getfield 13, 3) := by decide +kernel
theorem dX6_well_77 : decode cX6_well 77 = .ok (.bipush 6, 2) := by decide +kernel
theorem dX6_well_79 : decode cX6_well 79 = .ok (.iaload, 1) := by decide +kernel
theorem dX6_well_80 : decode cX6_well 80 = .ok (.imul, 1) := by decide +kernel
theorem dX6_well_81 : decode cX6_well 81 = .ok (.iadd, 1) := by decide +kernel
theorem dX6_well_82 : decode cX6_well 82 = .ok (.aload_n 0, 1) := by decide +kernel
theorem dX6_well_83 : decode cX6_well 83 = .ok (.iload_n 1, 1) := by decide +kernel
theorem dX6_well_84 : decode cX6_well 84 = .ok (.invokevirtual 83, 3) := by decide +kernel
theorem dX6_well_87 : decode cX6_well 87 = .ok (.iastore, 1) := by decide +kernel
theorem dX6_well_88 : decode cX6_well 88 = .ok (.aload_n 0, 1) := by decide +kernel
theorem dX6_well_89 : decode cX6_well 89 = .ok (.getfield 13, 3) := by decide +kernel
theorem dX6_well_92 : decode cX6_well 92 = .ok (.bipush 127, 2) := by decide +kernel
theorem dX6_well_94 : decode cX6_well 94 = .ok (.iconst 2, 1) := by decide +kernel
theorem dX6_well_95 : decode cX6_well 95 = .ok (.aload_n 0, 1) := by decide +kernel
theorem dX6_well_96 : decode cX6_well 96 = .ok (.getfield 13, 3) := by decide +kernel
theorem dX6_well_99 : decode cX6_well 99 = .ok (.bipush 6, 2) := by decide +kernel
theorem dX6_well_101 : decode cX6_well 101 = .ok (.iaload, 1) := by decide +kernel
theorem dX6_well_102 : decode cX6_well 102 = .ok (.imul, 1) := by decide +kernel
theorem dX6_well_103 : decode cX6_well 103 = .ok (.iadd, 1) := by decide +kernel
theorem dX6_well_104 : decode cX6_well 104 = .ok (.iconst 1, 1) := by decide +kernel
theorem dX6_well_105 : decode cX6_well 105 = .ok (.iadd, 1) := by decide +kernel
theorem dX6_well_106 : decode cX6_well 106 = .ok (.iload_n 2, 1) := by decide +kernel
theorem dX6_well_107 : decode cX6_well 107 = .ok (.iastore, 1) := by decide +kernel
theorem dX6_well_108 : decode cX6_well 108 = .ok (.aload_n 0, 1) := by decide +kernel
theorem dX6_well_109 : decode cX6_well 109 = .ok (.getfield 13, 3) := by decide +kernel
theorem dX6_well_112 : decode cX6_well 112 = .ok (.bipush 6, 2) := by decide +kernel
theorem dX6_well_114 : decode cX6_well 114 = .ok (.dup2, 1) := by decide +kernel
theorem dX6_well_115 : decode cX6_well 115 = .ok (.iaload, 1) := by decide +kernel
theorem dX6_well_116 : decode cX6_well 116 = .ok (.iconst 1, 1) := by decide +kernel
theorem dX6_well_117 : decode cX6_well 117 = .ok (.iadd, 1) := by decide +kernel
theorem dX6_well_118 : decode cX6_well 118 = .ok (.iastore, 1) := by decide +kernel
theorem dX6_well_119 : decode cX6_well 119 = .ok (.aload_n 0, 1) := by decide +kernel
theorem dX6_well_120 : decode cX6_well 120 = .ok (.getfield 13, 3) := by decide +kernel
theorem dX6_well_123 : decode cX6_well 123 = .ok (.bipush 6, 2) := by decide +kernel
theorem dX6_well_125 : decode cX6_well 125 = .ok (.iaload, 1) := by decide +kernel
theorem dX6_well_126 : decode cX6_well 126 = .ok (.ireturn, 1) := by decide +kernel
theorem dX6_worthOf_0 : decode cX6_worthOf 0 = .ok (.iconst 0, 1) := by decide +kernel
theorem dX6_worthOf_1 : decode cX6_worthOf 1 = .ok (.istore_n 2, 1) := by decide +kernel
theorem dX6_worthOf_2 : decode cX6_worthOf 2 = .ok (.iconst 0, 1) := by decide +kernel
theorem dX6_worthOf_3 : decode cX6_worthOf 3 = .ok (.istore_n 3, 1) := by decide +kernel
theorem dX6_worthOf_4 : decode cX6_worthOf 4 = .ok (.iload_n 3, 1) := by decide +kernel
theorem dX6_worthOf_5 : decode cX6_worthOf 5 = .ok (.aload_n 0, 1) := by decide +kernel
theorem dX6_worthOf_6 : decode cX6_worthOf 6 = .ok (.getfield 13, 3) := by decide +kernel
theorem dX6_worthOf_9 : decode cX6_worthOf 9 = .ok (.bipush 6, 2) := by decide +kernel
theorem dX6_worthOf_11 : decode cX6_worthOf 11 = .ok (.iaload, 1) := by decide +kernel
theorem dX6_worthOf_12 : decode cX6_worthOf 12 = .ok (.if_icmp .ge 49, 3) := by decide +kernel
theorem dX6_worthOf_15 : decode cX6_worthOf 15 = .ok (.iload_n 2, 1) := by decide +kernel
theorem dX6_worthOf_16 : decode cX6_worthOf 16 = .ok (.aload_n 0, 1) := by decide +kernel
theorem dX6_worthOf_17 : decode cX6_worthOf 17 = .ok (.getfield 28, 3) := by decide +kernel
theorem dX6_worthOf_20 : decode cX6_worthOf 20 = .ok (.aload_n 0, 1) := by decide +kernel
theorem dX6_worthOf_21 : decode cX6_worthOf 21 = .ok (.getfield 13, 3) := by decide +kernel
theorem dX6_worthOf_24 : decode cX6_worthOf 24 = .ok (.bipush 127, 2) := by decide +kernel
theorem dX6_worthOf_26 : decode cX6_worthOf 26 = .ok (.iconst 2, 1) := by decide +kernel
theorem dX6_worthOf_27 : decode cX6_worthOf 27 = .ok (.iload_n 3, 1) := by decide +kernel
theorem dX6_worthOf_28 : decode cX6_worthOf 28 = .ok (.imul, 1) := by decide +kernel
theorem dX6_worthOf_29 : decode cX6_worthOf 29 = .ok (.iadd, 1) := by decide +kernel
theorem dX6_worthOf_30 : decode cX6_worthOf 30 = .ok (.iaload, 1) := by decide +kernel
theorem dX6_worthOf_31 : decode cX6_worthOf 31 = .ok (.iaload, 1) := by decide +kernel
theorem dX6_worthOf_32 : decode cX6_worthOf 32 = .ok (.iload_n 1, 1) := by decide +kernel
theorem dX6_worthOf_33 : decode cX6_worthOf 33 = .ok (.if_icmp .ne 19, 3) := by decide +kernel
theorem dX6_worthOf_36 : decode cX6_worthOf 36 = .ok (.aload_n 0, 1) := by decide +kernel
theorem dX6_worthOf_37 : decode cX6_worthOf 37 = .ok (.getfield 13, 3) := by decide +kernel
theorem dX6_worthOf_40 : decode cX6_worthOf 40 = .ok (.bipush 127, 2) := by decide +kernel
theorem dX6_worthOf_42 : decode cX6_worthOf 42 = .ok (.iconst 2, 1) := by decide +kernel
theorem dX6_worthOf_43 : decode cX6_worthOf 43 = .ok (.iload_n 3, 1) := by decide +kernel
theorem dX6_worthOf_44 : decode cX6_worthOf 44 = .ok (.imul, 1) := by decide +kernel
theorem dX6_worthOf_45 : decode cX6_worthOf 45 = .ok (.iadd, 1) := by decide +kernel
theorem dX6_worthOf_46 : decode cX6_worthOf 46 = .ok (.iconst 1, 1) := by decide +kernel
theorem dX6_worthOf_47 : decode cX6_worthOf 47 = .ok (.iadd, 1) := by decide +kernel
theorem dX6_worthOf_48 : decode cX6_worthOf 48 = .ok (.iaload, 1) := by decide +kernel
theorem dX6_worthOf_49 : decode cX6_worthOf 49 = .ok (.goto 4, 3) := by decide +kernel
theorem dX6_worthOf_52 : decode cX6_worthOf 52 = .ok (.iconst 0, 1) := by decide +kernel
theorem dX6_worthOf_53 : decode cX6_worthOf 53 = .ok (.iadd, 1) := by decide +kernel
theorem dX6_worthOf_54 : decode cX6_worthOf 54 = .ok (.istore_n 2, 1) := by decide +kernel
theorem dX6_worthOf_55 : decode cX6_worthOf 55 = .ok (.iinc 3 1, 3) := by decide +kernel
theorem dX6_worthOf_58 : decode cX6_worthOf 58 = .ok (.goto (-54), 3) := by decide +kernel
theorem dX6_worthOf_61 : decode cX6_worthOf 61 = .ok (.iload_n 2, 1) := by decide +kernel
theorem dX6_worthOf_62 : decode cX6_worthOf 62 = .ok (.ireturn, 1) := by decide +kernel
theorem dX6_worth_0 : decode cX6_worth 0 = .ok (.iload_n 1, 1) := by decide +kernel
theorem dX6_worth_1 : decode cX6_worth 1 = .ok (.iconst 3, 1) := by decide +kernel
theorem dX6_worth_2 : decode cX6_worth 2 = .ok (.invokestatic 89, 3) := by decide +kernel
theorem dX6_worth_5 : decode cX6_worth 5 = .ok (.ifCond .ne 9, 3) := by decide +kernel
theorem dX6_worth_8 : decode cX6_worth 8 = .ok (.aload_n 0, 1) := by decide +kernel
theorem dX6_worth_9 : decode cX6_worth 9 = .ok (.iconst (-1), 1) := by decide +kernel
theorem dX6_worth_10 : decode cX6_worth 10 = .ok (.invokevirtual 49, 3) := by decide +kernel
theorem dX6_worth_13 : decode cX6_worth 13 = .ok (.ireturn, 1) := by decide +kernel
theorem dX6_worth_14 : decode cX6_worth 14 = .ok (.aload_n 0, 1) := by decide +kernel
theorem dX6_worth_15 : decode cX6_worth 15 = .ok (.invokevirtual 128, 3) := by decide +kernel
theorem dX6_worth_18 : decode cX6_worth 18 = .ok (.aload_n 0, 1) := by decide +kernel
theorem dX6_worth_19 : decode cX6_worth 19 = .ok (.iload_n 1, 1) := by decide +kernel
theorem dX6_worth_20 : decode cX6_worth 20 = .ok (.invokevirtual 160, 3) := by decide +kernel
theorem dX6_worth_23 : decode cX6_worth 23 = .ok (.ireturn, 1) := by decide +kernel
theorem dX6_findBy_0 : decode cX6_findBy 0 = .ok (.aload_n 0, 1) := by decide +kernel
theorem dX6_findBy_1 : decode cX6_findBy 1 = .ok (.getfield 13, 3) := by decide +kernel
theorem dX6_findBy_4 : decode cX6_findBy 4 = .ok (.iconst 2, 1) := by decide +kernel
theorem dX6_findBy_5 : decode cX6_findBy 5 = .ok (.iaload, 1) := by decide +kernel
theorem dX6_findBy_6 : decode cX6_findBy 6 = .ok (.istore_n 2, 1) := by decide +kernel
theorem dX6_findBy_7 : decode cX6_findBy 7 = .ok (.aload_n 0, 1) := by decide +kernel
theorem dX6_findBy_8 : decode cX6_findBy 8 = .ok (.getfield 13, 3) := by decide +kernel
theorem dX6_findBy_11 : decode cX6_findBy 11 = .ok (.iconst 3, 1) := by decide +kernel
theorem dX6_findBy_12 : decode cX6_findBy 12 = .ok (.iaload, 1) := by decide +kernel
theorem dX6_findBy_13 : decode cX6_findBy 13 = .ok (.istore_n 3, 1) := by decide +kernel
theorem dX6_findBy_14 : decode cX6_findBy 14 = .ok (.aload_n 0, 1) := by decide +kernel
theorem dX6_findBy_15 : decode cX6_findBy 15 = .ok (.getfield 13, 3) := by decide +kernel
theorem dX6_findBy_18 : decode cX6_findBy 18 = .ok (.iconst 4, 1) := by decide +kernel
theorem dX6_findBy_19 : decode cX6_findBy 19 = .ok (.iaload, 1) := by decide +kernel
theorem dX6_findBy_20 : decode cX6_findBy 20 = .ok (.istore 4, 2) := by decide +kernel
theorem dX6_findBy_22 : decode cX6_findBy 22 = .ok (.aload_n 0, 1) := by decide +kernel
theorem dX6_findBy_23 : decode cX6_findBy 23 = .ok (.getfield 13, 3) := by decide +kernel
theorem dX6_findBy_26 : decode cX6_findBy 26 = .ok (.iconst 2, 1) := by decide +kernel
theorem dX6_findBy_27 : decode cX6_findBy 27 = .ok (.iload_n 1, 1) := by decide +kernel
theorem dX6_findBy_28 : decode cX6_findBy 28 = .ok (.bipush 10, 2) := by decide +kernel
theorem dX6_findBy_30 : decode cX6_findBy 30 = .ok (.idiv, 1) := by decide +kernel
theorem dX6_findBy_31 : decode cX6_findBy 31 = .ok (.bipush 10, 2) := by decide +kernel
theorem dX6_findBy_33 : decode cX6_findBy 33 = .ok (.irem, 1) := by decide +kernel
theorem dX6_findBy_34 : decode cX6_findBy 34 = .ok (.iconst 1, 1) := by decide +kernel
theorem dX6_findBy_35 : decode cX6_findBy 35 = .ok (.if_icmp .ne 7, 3) := by decide +kernel
theorem dX6_findBy_38 : decode cX6_findBy 38 = .ok (.iload_n 2, 1) := by decide +kernel
theorem dX6_findBy_39 : decode cX6_findBy 39 = .ok (.goto 4, 3) := by decide +kernel
theorem dX6_findBy_42 : decode cX6_findBy 42 = .ok (.iconst 0, 1) := by decide +kernel
theorem dX6_findBy_43 : decode cX6_findBy 43 = .ok (.iastore, 1) := by decide +kernel
theorem dX6_findBy_44 : decode cX6_findBy 44 = .ok (.aload_n 0, 1) := by decide +kernel
theorem dX6_findBy_45 : decode cX6_findBy 45 = .ok (.getfield 13, 3) := by decide +kernel
theorem dX6_findBy_48 : decode cX6_findBy 48 = .ok (.iconst 3, 1) := by decide +kernel
theorem dX6_findBy_49 : decode cX6_findBy 49 = .ok (.iload_n 1, 1) := by decide +kernel
theorem dX6_findBy_50 : decode cX6_findBy 50 = .ok (.bipush 100, 2) := by decide +kernel
theorem dX6_findBy_52 : decode cX6_findBy 52 = .ok (.idiv, 1) := by decide +kernel
theorem dX6_findBy_53 : decode cX6_findBy 53 = .ok (.iastore, 1) := by decide +kernel
theorem dX6_findBy_54 : decode cX6_findBy 54 = .ok (.aload_n 0, 1) := by decide +kernel
theorem dX6_findBy_55 : decode cX6_findBy 55 = .ok (.getfield 13, 3) := by decide +kernel
theorem dX6_findBy_58 : decode cX6_findBy 58 = .ok (.iconst 4, 1) := by decide +kernel
theorem dX6_findBy_59 : decode cX6_findBy 59 = .ok (.iload_n 1, 1) := by decide +kernel
theorem dX6_findBy_60 : decode cX6_findBy 60 = .ok (.bipush 10, 2) := by decide +kernel
theorem dX6_findBy_62 : decode cX6_findBy 62 = .ok (.irem, 1) := by decide +kernel
theorem dX6_findBy_63 : decode cX6_findBy 63 = .ok (.iconst 1, 1) := by decide +kernel
theorem dX6_findBy_64 : decode cX6_findBy 64 = .ok (.if_icmp .ne 10, 3) := by decide +kernel
theorem dX6_findBy_67 : decode cX6_findBy 67 = .ok (.iload 4, 2) := by decide +kernel
theorem dX6_findBy_69 : decode cX6_findBy 69 = .ok (.iconst 2, 1) := by decide +kernel
theorem dX6_findBy_70 : decode cX6_findBy 70 = .ok (.idiv, 1) := by decide +kernel
theorem dX6_findBy_71 : decode cX6_findBy 71 = .ok (.goto 5, 3) := by decide +kernel
theorem dX6_findBy_74 : decode cX6_findBy 74 = .ok (.iload 4, 2) := by decide +kernel
theorem dX6_findBy_76 : decode cX6_findBy 76 = .ok (.iastore, 1) := by decide +kernel
theorem dX6_findBy_77 : decode cX6_findBy 77 = .ok (.aload_n 0, 1) := by decide +kernel
theorem dX6_findBy_78 : decode cX6_findBy 78 = .ok (.invokevirtual 128, 3) := by decide +kernel
theorem dX6_findBy_81 : decode cX6_findBy 81 = .ok (.aload_n 0, 1) := by decide +kernel
theorem dX6_findBy_82 : decode cX6_findBy 82 = .ok (.getfield 13, 3) := by decide +kernel
theorem dX6_findBy_85 : decode cX6_findBy 85 = .ok (.iconst 2, 1) := by decide +kernel
theorem dX6_findBy_86 : decode cX6_findBy 86 = .ok (.iload_n 2, 1) := by decide +kernel
theorem dX6_findBy_87 : decode cX6_findBy 87 = .ok (.iastore, 1) := by decide +kernel
theorem dX6_findBy_88 : decode cX6_findBy 88 = .ok (.aload_n 0, 1) := by decide +kernel
theorem dX6_findBy_89 : decode cX6_findBy 89 = .ok (.getfield 13, 3) := by decide +kernel
theorem dX6_findBy_92 : decode cX6_findBy 92 = .ok (.iconst 3, 1) := by decide +kernel
theorem dX6_findBy_93 : decode cX6_findBy 93 = .ok (.iload_n 3, 1) := by decide +kernel
theorem dX6_findBy_94 : decode cX6_findBy 94 = .ok (.iastore, 1) := by decide +kernel
theorem dX6_findBy_95 : decode cX6_findBy 95 = .ok (.aload_n 0, 1) := by decide +kernel
theorem dX6_findBy_96 : decode cX6_findBy 96 = .ok (.getfield 13, 3) := by decide +kernel
theorem dX6_findBy_99 : decode cX6_findBy 99 = .ok (.iconst 4, 1) := by decide +kernel
theorem dX6_findBy_100 : decode cX6_findBy 100 = .ok (.iload 4, 2) := by decide +kernel
theorem dX6_findBy_102 : decode cX6_findBy 102 = .ok (.iastore, 1) := by decide +kernel
theorem dX6_findBy_103 : decode cX6_findBy 103 = .ok (.return_, 1) := by decide +kernel
theorem dX6_codeOf_0 : decode cX6_codeOf 0 = .ok (.bipush 100, 2) := by decide +kernel
theorem dX6_codeOf_2 : decode cX6_codeOf 2 = .ok (.iload_n 0, 1) := by decide +kernel
theorem dX6_codeOf_3 : decode cX6_codeOf 3 = .ok (.iconst 4, 1) := by decide +kernel
theorem dX6_codeOf_4 : decode cX6_codeOf 4 = .ok (.idiv, 1) := by decide +kernel
theorem dX6_codeOf_5 : decode cX6_codeOf 5 = .ok (.imul, 1) := by decide +kernel
theorem dX6_codeOf_6 : decode cX6_codeOf 6 = .ok (.bipush 10, 2) := by decide +kernel
theorem dX6_codeOf_8 : decode cX6_codeOf 8 = .ok (.iload_n 0, 1) := by decide +kernel
theorem dX6_codeOf_9 : decode cX6_codeOf 9 = .ok (.iconst 2, 1) := by decide +kernel
theorem dX6_codeOf_10 : decode cX6_codeOf 10 = .ok (.idiv, 1) := by decide +kernel
theorem dX6_codeOf_11 : decode cX6_codeOf 11 = .ok (.iconst 2, 1) := by decide +kernel
theorem dX6_codeOf_12 : decode cX6_codeOf 12 = .ok (.irem, 1) := by decide +kernel
theorem dX6_codeOf_13 : decode cX6_codeOf 13 = .ok (.imul, 1) := by decide +kernel
theorem dX6_codeOf_14 : decode cX6_codeOf 14 = .ok (.iadd, 1) := by decide +kernel
theorem dX6_codeOf_15 : decode cX6_codeOf 15 = .ok (.iload_n 0, 1) := by decide +kernel
theorem dX6_codeOf_16 : decode cX6_codeOf 16 = .ok (.iconst 2, 1) := by decide +kernel
theorem dX6_codeOf_17 : decode cX6_codeOf 17 = .ok (.irem, 1) := by decide +kernel
theorem dX6_codeOf_18 : decode cX6_codeOf 18 = .ok (.iadd, 1) := by decide +kernel
theorem dX6_codeOf_19 : decode cX6_codeOf 19 = .ok (.ireturn, 1) := by decide +kernel
theorem dX6_chosenOf_0 : decode cX6_chosenOf 0 = .ok (.bipush (-9), 2) := by decide +kernel
theorem dX6_chosenOf_2 : decode cX6_chosenOf 2 = .ok (.istore_n 2, 1) := by decide +kernel
theorem dX6_chosenOf_3 : decode cX6_chosenOf 3 = .ok (.iconst 0, 1) := by decide +kernel
theorem dX6_chosenOf_4 : decode cX6_chosenOf 4 = .ok (.istore_n 3, 1) := by decide +kernel
theorem dX6_chosenOf_5 : decode cX6_chosenOf 5 = .ok (.iconst 0, 1) := by decide +kernel
theorem dX6_chosenOf_6 : decode cX6_chosenOf 6 = .ok (.istore 4, 2) := by decide +kernel
theorem dX6_chosenOf_8 : decode cX6_chosenOf 8 = .ok (.iconst 0, 1) := by decide +kernel
theorem dX6_chosenOf_9 : decode cX6_chosenOf 9 = .ok (.istore 5, 2) := by decide +kernel
theorem dX6_chosenOf_11 : decode cX6_chosenOf 11 = .ok (.iload 5, 2) := by decide +kernel
theorem dX6_chosenOf_13 : decode cX6_chosenOf 13 = .ok (.bipush 12, 2) := by decide +kernel
theorem dX6_chosenOf_15 : decode cX6_chosenOf 15 = .ok (.if_icmp .ge 71, 3) := by decide +kernel
theorem dX6_chosenOf_18 : decode cX6_chosenOf 18 = .ok (.aload_n 0, 1) := by decide +kernel
theorem dX6_chosenOf_19 : decode cX6_chosenOf 19 = .ok (.iload 5, 2) := by decide +kernel
theorem dX6_chosenOf_21 : decode cX6_chosenOf 21 = .ok (.invokestatic 163, 3) := by decide +kernel
theorem dX6_chosenOf_24 : decode cX6_chosenOf 24 = .ok (.invokevirtual 166, 3) := by decide +kernel
theorem dX6_chosenOf_27 : decode cX6_chosenOf 27 = .ok (.aload_n 0, 1) := by decide +kernel
theorem dX6_chosenOf_28 : decode cX6_chosenOf 28 = .ok (.iload_n 1, 1) := by decide +kernel
theorem dX6_chosenOf_29 : decode cX6_chosenOf 29 = .ok (.invokevirtual 160, 3) := by decide +kernel
theorem dX6_chosenOf_32 : decode cX6_chosenOf 32 = .ok (.istore 6, 2) := by decide +kernel
theorem dX6_chosenOf_34 : decode cX6_chosenOf 34 = .ok (.aload_n 0, 1) := by decide +kernel
theorem dX6_chosenOf_35 : decode cX6_chosenOf 35 = .ok (.iload_n 1, 1) := by decide +kernel
theorem dX6_chosenOf_36 : decode cX6_chosenOf 36 = .ok (.invokevirtual 134, 3) := by decide +kernel
theorem dX6_chosenOf_39 : decode cX6_chosenOf 39 = .ok (.istore 7, 2) := by decide +kernel
theorem dX6_chosenOf_41 : decode cX6_chosenOf 41 = .ok (.iload_n 2, 1) := by decide +kernel
theorem dX6_chosenOf_42 : decode cX6_chosenOf 42 = .ok (.ifCond .lt 25, 3) := by decide +kernel
theorem dX6_chosenOf_45 : decode cX6_chosenOf 45 = .ok (.iload 6, 2) := by decide +kernel
theorem dX6_chosenOf_47 : decode cX6_chosenOf 47 = .ok (.iload_n 3, 1) := by decide +kernel
theorem dX6_chosenOf_48 : decode cX6_chosenOf 48 = .ok (.if_icmp .lt 32, 3) := by decide +kernel
theorem dX6_chosenOf_51 : decode cX6_chosenOf 51 = .ok (.iload 6, 2) := by decide +kernel
theorem dX6_chosenOf_53 : decode cX6_chosenOf 53 = .ok (.iload_n 3, 1) := by decide +kernel
theorem dX6_chosenOf_54 : decode cX6_chosenOf 54 = .ok (.if_icmp .ne 13, 3) := by decide +kernel
theorem dX6_chosenOf_57 : decode cX6_chosenOf 57 = .ok (.iload 7, 2) := by decide +kernel
theorem dX6_chosenOf_59 : decode cX6_chosenOf 59 = .ok (.iload 4, 2) := by decide +kernel
theorem dX6_chosenOf_61 : decode cX6_chosenOf 61 = .ok (.if_icmp .gt 6, 3) := by decide +kernel
theorem dX6_chosenOf_64 : decode cX6_chosenOf 64 = .ok (.goto 16, 3) := by decide +kernel
theorem dX6_chosenOf_67 : decode cX6_chosenOf 67 = .ok (.iload 5, 2) := by decide +kernel
theorem dX6_chosenOf_69 : decode cX6_chosenOf 69 = .ok (.invokestatic 163, 3) := by decide +kernel
theorem dX6_chosenOf_72 : decode cX6_chosenOf 72 = .ok (.istore_n 2, 1) := by decide +kernel
theorem dX6_chosenOf_73 : decode cX6_chosenOf 73 = .ok (.iload 6, 2) := by decide +kernel
theorem dX6_chosenOf_75 : decode cX6_chosenOf 75 = .ok (.istore_n 3, 1) := by decide +kernel
theorem dX6_chosenOf_76 : decode cX6_chosenOf 76 = .ok (.iload 7, 2) := by decide +kernel
theorem dX6_chosenOf_78 : decode cX6_chosenOf 78 = .ok (.istore 4, 2) := by decide +kernel
theorem dX6_chosenOf_80 : decode cX6_chosenOf 80 = .ok (.iinc 5 1, 3) := by decide +kernel
theorem dX6_chosenOf_83 : decode cX6_chosenOf 83 = .ok (.goto (-72), 3) := by decide +kernel
theorem dX6_chosenOf_86 : decode cX6_chosenOf 86 = .ok (.iload_n 2, 1) := by decide +kernel
theorem dX6_chosenOf_87 : decode cX6_chosenOf 87 = .ok (.ireturn, 1) := by decide +kernel
theorem dX6_chosen_0 : decode cX6_chosen 0 = .ok (.iload_n 1, 1) := by decide +kernel
theorem dX6_chosen_1 : decode cX6_chosen 1 = .ok (.iconst 3, 1) := by decide +kernel
theorem dX6_chosen_2 : decode cX6_chosen 2 = .ok (.invokestatic 89, 3) := by decide +kernel
theorem dX6_chosen_5 : decode cX6_chosen 5 = .ok (.ifCond .eq 11, 3) := by decide +kernel
theorem dX6_chosen_8 : decode cX6_chosen 8 = .ok (.aload_n 0, 1) := by decide +kernel
theorem dX6_chosen_9 : decode cX6_chosen 9 = .ok (.iload_n 1, 1) := by decide +kernel
theorem dX6_chosen_10 : decode cX6_chosen 10 = .ok (.invokevirtual 170, 3) := by decide +kernel
theorem dX6_chosen_13 : decode cX6_chosen 13 = .ok (.goto 8, 3) := by decide +kernel
theorem dX6_chosen_16 : decode cX6_chosen 16 = .ok (.aload_n 0, 1) := by decide +kernel
theorem dX6_chosen_17 : decode cX6_chosen 17 = .ok (.iconst (-1), 1) := by decide +kernel
theorem dX6_chosen_18 : decode cX6_chosen 18 = .ok (.invokevirtual 49, 3) := by decide +kernel
theorem dX6_chosen_21 : decode cX6_chosen 21 = .ok (.ireturn, 1) := by decide +kernel
theorem dX6_findClaims_0 : decode cX6_findClaims 0 = .ok (.iconst 0, 1) := by decide +kernel
theorem dX6_findClaims_1 : decode cX6_findClaims 1 = .ok (.istore_n 1, 1) := by decide +kernel
theorem dX6_findClaims_2 : decode cX6_findClaims 2 = .ok (.iload_n 1, 1) := by decide +kernel
theorem dX6_findClaims_3 : decode cX6_findClaims 3 = .ok (.aload_n 0, 1) := by decide +kernel
theorem dX6_findClaims_4 : decode cX6_findClaims 4 = .ok (.invokevirtual 75, 3) := by decide +kernel
theorem dX6_findClaims_7 : decode cX6_findClaims 7 = .ok (.if_icmp .ge 16, 3) := by decide +kernel
theorem dX6_findClaims_10 : decode cX6_findClaims 10 = .ok (.aload_n 0, 1) := by decide +kernel
theorem dX6_findClaims_11 : decode cX6_findClaims 11 = .ok (.getfield 43, 3) := by decide +kernel
theorem dX6_findClaims_14 : decode cX6_findClaims 14 = .ok (.iload_n 1, 1) := by decide +kernel
theorem dX6_findClaims_15 : decode cX6_findClaims 15 = .ok (.iconst 0, 1) := by decide +kernel
theorem dX6_findClaims_16 : decode cX6_findClaims 16 = .ok (.iastore, 1) := by decide +kernel
theorem dX6_findClaims_17 : decode cX6_findClaims 17 = .ok (.iinc 1 1, 3) := by decide +kernel
theorem dX6_findClaims_20 : decode cX6_findClaims 20 = .ok (.goto (-18), 3) := by decide +kernel
theorem dX6_findClaims_23 : decode cX6_findClaims 23 = .ok (.iconst 0, 1) := by decide +kernel
theorem dX6_findClaims_24 : decode cX6_findClaims 24 = .ok (.istore_n 1, 1) := by decide +kernel
theorem dX6_findClaims_25 : decode cX6_findClaims 25 = .ok (.iload_n 1, 1) := by decide +kernel
theorem dX6_findClaims_26 : decode cX6_findClaims 26 = .ok (.iconst 2, 1) := by decide +kernel
theorem dX6_findClaims_27 : decode cX6_findClaims 27 = .ok (.if_icmp .ge 60, 3) := by decide +kernel
theorem dX6_findClaims_30 : decode cX6_findClaims 30 = .ok (.aload_n 0, 1) := by decide +kernel
theorem dX6_findClaims_31 : decode cX6_findClaims 31 = .ok (.aload_n 0, 1) := by decide +kernel
theorem dX6_findClaims_32 : decode cX6_findClaims 32 = .ok (.iload_n 1, 1) := by decide +kernel
theorem dX6_findClaims_33 : decode cX6_findClaims 33 = .ok (.invokevirtual 170, 3) := by decide +kernel
theorem dX6_findClaims_36 : decode cX6_findClaims 36 = .ok (.invokevirtual 166, 3) := by decide +kernel
theorem dX6_findClaims_39 : decode cX6_findClaims 39 = .ok (.iconst 0, 1) := by decide +kernel
theorem dX6_findClaims_40 : decode cX6_findClaims 40 = .ok (.istore_n 2, 1) := by decide +kernel
theorem dX6_findClaims_41 : decode cX6_findClaims 41 = .ok (.iload_n 2, 1) := by decide +kernel
theorem dX6_findClaims_42 : decode cX6_findClaims 42 = .ok (.aload_n 0, 1) := by decide +kernel
theorem dX6_findClaims_43 : decode cX6_findClaims 43 = .ok (.invokevirtual 75, 3) := by decide +kernel
theorem dX6_findClaims_46 : decode cX6_findClaims 46 = .ok (.if_icmp .ge 35, 3) := by decide +kernel
theorem dX6_findClaims_49 : decode cX6_findClaims 49 = .ok (.aload_n 0, 1) := by decide +kernel
theorem dX6_findClaims_50 : decode cX6_findClaims 50 = .ok (.getfield 43, 3) := by decide +kernel
theorem dX6_findClaims_53 : decode cX6_findClaims 53 = .ok (.iload_n 2, 1) := by decide +kernel
theorem dX6_findClaims_54 : decode cX6_findClaims 54 = .ok (.dup2, 1) := by decide +kernel
theorem dX6_findClaims_55 : decode cX6_findClaims 55 = .ok (.iaload, 1) := by decide +kernel
theorem dX6_findClaims_56 : decode cX6_findClaims 56 = .ok (.aload_n 0, 1) := by decide +kernel
theorem dX6_findClaims_57 : decode cX6_findClaims 57 = .ok (.getfield 28, 3) := by decide +kernel
theorem dX6_findClaims_60 : decode cX6_findClaims 60 = .ok (.iload_n 2, 1) := by decide +kernel
theorem dX6_findClaims_61 : decode cX6_findClaims 61 = .ok (.iaload, 1) := by decide +kernel
theorem dX6_findClaims_62 : decode cX6_findClaims 62 = .ok (.iload_n 1, 1) := by decide +kernel
theorem dX6_findClaims_63 : decode cX6_findClaims 63 = .ok (.if_icmp .ne 9, 3) := by decide +kernel
theorem dX6_findClaims_66 : decode cX6_findClaims 66 = .ok (.iconst 1, 1) := by decide +kernel
theorem dX6_findClaims_67 : decode cX6_findClaims 67 = .ok (.iload_n 1, 1) := by decide +kernel
theorem dX6_findClaims_68 : decode cX6_findClaims 68 = .ok (.iadd, 1) := by decide +kernel
theorem dX6_findClaims_69 : decode cX6_findClaims 69 = .ok (.goto 4, 3) := by decide +kernel
theorem dX6_findClaims_72 : decode cX6_findClaims 72 = .ok (.iconst 0, 1) := by decide +kernel
theorem dX6_findClaims_73 : decode cX6_findClaims 73 = .ok (.iadd, 1) := by decide +kernel
theorem dX6_findClaims_74 : decode cX6_findClaims 74 = .ok (.iastore, 1) := by decide +kernel
theorem dX6_findClaims_75 : decode cX6_findClaims 75 = .ok (.iinc 2 1, 3) := by decide +kernel
theorem dX6_findClaims_78 : decode cX6_findClaims 78 = .ok (.goto (-37), 3) := by decide +kernel
theorem dX6_findClaims_81 : decode cX6_findClaims 81 = .ok (.iinc 1 1, 3) := by decide +kernel
theorem dX6_findClaims_84 : decode cX6_findClaims 84 = .ok (.goto (-59), 3) := by decide +kernel
theorem dX6_findClaims_87 : decode cX6_findClaims 87 = .ok (.return_, 1) := by decide +kernel
theorem dX6_claims_0 : decode cX6_claims 0 = .ok (.aload_n 0, 1) := by decide +kernel
theorem dX6_claims_1 : decode cX6_claims 1 = .ok (.invokevirtual 173, 3) := by decide +kernel
theorem dX6_claims_4 : decode cX6_claims 4 = .ok (.iconst 0, 1) := by decide +kernel
theorem dX6_claims_5 : decode cX6_claims 5 = .ok (.istore_n 1, 1) := by decide +kernel
theorem dX6_claims_6 : decode cX6_claims 6 = .ok (.iconst 0, 1) := by decide +kernel
theorem dX6_claims_7 : decode cX6_claims 7 = .ok (.istore_n 2, 1) := by decide +kernel
theorem dX6_claims_8 : decode cX6_claims 8 = .ok (.iload_n 2, 1) := by decide +kernel
theorem dX6_claims_9 : decode cX6_claims 9 = .ok (.aload_n 0, 1) := by decide +kernel
theorem dX6_claims_10 : decode cX6_claims 10 = .ok (.invokevirtual 75, 3) := by decide +kernel
theorem dX6_claims_13 : decode cX6_claims 13 = .ok (.if_icmp .ge 27, 3) := by decide +kernel
theorem dX6_claims_16 : decode cX6_claims 16 = .ok (.iload_n 1, 1) := by decide +kernel
theorem dX6_claims_17 : decode cX6_claims 17 = .ok (.aload_n 0, 1) := by decide +kernel
theorem dX6_claims_18 : decode cX6_claims 18 = .ok (.getfield 43, 3) := by decide +kernel
theorem dX6_claims_21 : decode cX6_claims 21 = .ok (.iload_n 2, 1) := by decide +kernel
theorem dX6_claims_22 : decode cX6_claims 22 = .ok (.iaload, 1) := by decide +kernel
theorem dX6_claims_23 : decode cX6_claims 23 = .ok (.iconst 3, 1) := by decide +kernel
theorem dX6_claims_24 : decode cX6_claims 24 = .ok (.if_icmp .ne 7, 3) := by decide +kernel
theorem dX6_claims_27 : decode cX6_claims 27 = .ok (.iconst 1, 1) := by decide +kernel
theorem dX6_claims_28 : decode cX6_claims 28 = .ok (.goto 4, 3) := by decide +kernel
theorem dX6_claims_31 : decode cX6_claims 31 = .ok (.iconst 0, 1) := by decide +kernel
theorem dX6_claims_32 : decode cX6_claims 32 = .ok (.iadd, 1) := by decide +kernel
theorem dX6_claims_33 : decode cX6_claims 33 = .ok (.istore_n 1, 1) := by decide +kernel
theorem dX6_claims_34 : decode cX6_claims 34 = .ok (.iinc 2 1, 3) := by decide +kernel
theorem dX6_claims_37 : decode cX6_claims 37 = .ok (.goto (-29), 3) := by decide +kernel
theorem dX6_claims_40 : decode cX6_claims 40 = .ok (.iload_n 1, 1) := by decide +kernel
theorem dX6_claims_41 : decode cX6_claims 41 = .ok (.ireturn, 1) := by decide +kernel
theorem dX6_claimed_0 : decode cX6_claimed 0 = .ok (.aload_n 0, 1) := by decide +kernel
theorem dX6_claimed_1 : decode cX6_claimed 1 = .ok (.iload_n 1, 1) := by decide +kernel
theorem dX6_claimed_2 : decode cX6_claimed 2 = .ok (.invokevirtual 79, 3) := by decide +kernel
theorem dX6_claimed_5 : decode cX6_claimed 5 = .ok (.ifCond .ne 9, 3) := by decide +kernel
theorem dX6_claimed_8 : decode cX6_claimed 8 = .ok (.aload_n 0, 1) := by decide +kernel
theorem dX6_claimed_9 : decode cX6_claimed 9 = .ok (.iconst (-1), 1) := by decide +kernel
theorem dX6_claimed_10 : decode cX6_claimed 10 = .ok (.invokevirtual 49, 3) := by decide +kernel
theorem dX6_claimed_13 : decode cX6_claimed 13 = .ok (.ireturn, 1) := by decide +kernel
theorem dX6_claimed_14 : decode cX6_claimed 14 = .ok (.aload_n 0, 1) := by decide +kernel
theorem dX6_claimed_15 : decode cX6_claimed 15 = .ok (.invokevirtual 173, 3) := by decide +kernel
theorem dX6_claimed_18 : decode cX6_claimed 18 = .ok (.aload_n 0, 1) := by decide +kernel
theorem dX6_claimed_19 : decode cX6_claimed 19 = .ok (.getfield 43, 3) := by decide +kernel
theorem dX6_claimed_22 : decode cX6_claimed 22 = .ok (.aload_n 0, 1) := by decide +kernel
theorem dX6_claimed_23 : decode cX6_claimed 23 = .ok (.iload_n 1, 1) := by decide +kernel
theorem dX6_claimed_24 : decode cX6_claimed 24 = .ok (.invokevirtual 83, 3) := by decide +kernel
theorem dX6_claimed_27 : decode cX6_claimed 27 = .ok (.iaload, 1) := by decide +kernel
theorem dX6_claimed_28 : decode cX6_claimed 28 = .ok (.ireturn, 1) := by decide +kernel
theorem dX6_meet_0 : decode cX6_meet 0 = .ok (.iload_n 1, 1) := by decide +kernel
theorem dX6_meet_1 : decode cX6_meet 1 = .ok (.ifCond .lt 7, 3) := by decide +kernel
theorem dX6_meet_4 : decode cX6_meet 4 = .ok (.iload_n 2, 1) := by decide +kernel
theorem dX6_meet_5 : decode cX6_meet 5 = .ok (.ifCond .ge 10, 3) := by decide +kernel
theorem dX6_meet_8 : decode cX6_meet 8 = .ok (.aload_n 0, 1) := by decide +kernel
theorem dX6_meet_9 : decode cX6_meet 9 = .ok (.bipush (-4), 2) := by decide +kernel
theorem dX6_meet_11 : decode cX6_meet 11 = .ok (.invokevirtual 49, 3) := by decide +kernel
theorem dX6_meet_14 : decode cX6_meet 14 = .ok (.ireturn, 1) := by decide +kernel
theorem dX6_meet_15 : decode cX6_meet 15 = .ok (.iload_n 1, 1) := by decide +kernel
theorem dX6_meet_16 : decode cX6_meet 16 = .ok (.bipush 120, 2) := by decide +kernel
theorem dX6_meet_18 : decode cX6_meet 18 = .ok (.if_icmp .gt 9, 3) := by decide +kernel
theorem dX6_meet_21 : decode cX6_meet 21 = .ok (.iload_n 2, 1) := by decide +kernel
theorem dX6_meet_22 : decode cX6_meet 22 = .ok (.bipush 120, 2) := by decide +kernel
theorem dX6_meet_24 : decode cX6_meet 24 = .ok (.if_icmp .le 10, 3) := by decide +kernel
theorem dX6_meet_27 : decode cX6_meet 27 = .ok (.aload_n 0, 1) := by decide +kernel
theorem dX6_meet_28 : decode cX6_meet 28 = .ok (.bipush (-6), 2) := by decide +kernel
theorem dX6_meet_30 : decode cX6_meet 30 = .ok (.invokevirtual 49, 3) := by decide +kernel
theorem dX6_meet_33 : decode cX6_meet 33 = .ok (.ireturn, 1) := by decide +kernel
theorem dX6_meet_34 : decode cX6_meet 34 = .ok (.iconst 0, 1) := by decide +kernel
theorem dX6_meet_35 : decode cX6_meet 35 = .ok (.istore_n 3, 1) := by decide +kernel
theorem dX6_meet_36 : decode cX6_meet 36 = .ok (.iload_n 3, 1) := by decide +kernel
theorem dX6_meet_37 : decode cX6_meet 37 = .ok (.bipush 12, 2) := by decide +kernel
theorem dX6_meet_39 : decode cX6_meet 39 = .ok (.if_icmp .ge 40, 3) := by decide +kernel
theorem dX6_meet_42 : decode cX6_meet 42 = .ok (.aload_n 0, 1) := by decide +kernel
theorem dX6_meet_43 : decode cX6_meet 43 = .ok (.iload_n 3, 1) := by decide +kernel
theorem dX6_meet_44 : decode cX6_meet 44 = .ok (.invokestatic 163, 3) := by decide +kernel
theorem dX6_meet_47 : decode cX6_meet 47 = .ok (.invokevirtual 166, 3) := by decide +kernel
theorem dX6_meet_50 : decode cX6_meet 50 = .ok (.aload_n 0, 1) := by decide +kernel
theorem dX6_meet_51 : decode cX6_meet 51 = .ok (.iconst 0, 1) := by decide +kernel
theorem dX6_meet_52 : decode cX6_meet 52 = .ok (.invokevirtual 134, 3) := by decide +kernel
theorem dX6_meet_55 : decode cX6_meet 55 = .ok (.iload_n 1, 1) := by decide +kernel
theorem dX6_meet_56 : decode cX6_meet 56 = .ok (.if_icmp .lt 17, 3) := by decide +kernel
theorem dX6_meet_59 : decode cX6_meet 59 = .ok (.aload_n 0, 1) := by decide +kernel
theorem dX6_meet_60 : decode cX6_meet 60 = .ok (.iconst 1, 1) := by decide +kernel
theorem dX6_meet_61 : decode cX6_meet 61 = .ok (.invokevirtual 134, 3) := by decide +kernel
theorem dX6_meet_64 : decode cX6_meet 64 = .ok (.iload_n 2, 1) := by decide +kernel
theorem dX6_meet_65 : decode cX6_meet 65 = .ok (.if_icmp .lt 8, 3) := by decide +kernel
theorem dX6_meet_68 : decode cX6_meet 68 = .ok (.iload_n 3, 1) := by decide +kernel
theorem dX6_meet_69 : decode cX6_meet 69 = .ok (.invokestatic 163, 3) := by decide +kernel
theorem dX6_meet_72 : decode cX6_meet 72 = .ok (.ireturn, 1) := by decide +kernel
theorem dX6_meet_73 : decode cX6_meet 73 = .ok (.iinc 3 1, 3) := by decide +kernel
theorem dX6_meet_76 : decode cX6_meet 76 = .ok (.goto (-40), 3) := by decide +kernel
theorem dX6_meet_79 : decode cX6_meet 79 = .ok (.bipush (-9), 2) := by decide +kernel
theorem dX6_meet_81 : decode cX6_meet 81 = .ok (.ireturn, 1) := by decide +kernel
theorem dX6_put_0 : decode cX6_put 0 = .ok (.iload_n 1, 1) := by decide +kernel
theorem dX6_put_1 : decode cX6_put 1 = .ok (.bipush (-9), 2) := by decide +kernel
theorem dX6_put_3 : decode cX6_put 3 = .ok (.bipush 9, 2) := by decide +kernel
theorem dX6_put_5 : decode cX6_put 5 = .ok (.invokestatic 99, 3) := by decide +kernel
theorem dX6_put_8 : decode cX6_put 8 = .ok (.istore_n 2, 1) := by decide +kernel
theorem dX6_put_9 : decode cX6_put 9 = .ok (.iload_n 2, 1) := by decide +kernel
theorem dX6_put_10 : decode cX6_put 10 = .ok (.ifCond .ne 15, 3) := by decide +kernel
theorem dX6_put_13 : decode cX6_put 13 = .ok (.aload_n 0, 1) := by decide +kernel
theorem dX6_put_14 : decode cX6_put 14 = .ok (.getfield 176, 3) := by decide +kernel
theorem dX6_put_17 : decode cX6_put 17 = .ok (.bipush 120, 2) := by decide +kernel
theorem dX6_put_19 : decode cX6_put 19 = .ok (.if_icmp .ne 6, 3) := by decide +kernel
theorem dX6_put_22 : decode cX6_put 22 = .ok (.bipush (-6), 2) := by decide +kernel
theorem dX6_put_24 : decode cX6_put 24 = .ok (.istore_n 2, 1) := by decide +kernel
theorem dX6_put_25 : decode cX6_put 25 = .ok (.iload_n 2, 1) := by decide +kernel
theorem dX6_put_26 : decode cX6_put 26 = .ok (.ifCond .eq 9, 3) := by decide +kernel
theorem dX6_put_29 : decode cX6_put 29 = .ok (.aload_n 0, 1) := by decide +kernel
theorem dX6_put_30 : decode cX6_put 30 = .ok (.iload_n 2, 1) := by decide +kernel
theorem dX6_put_31 : decode cX6_put 31 = .ok (.invokevirtual 49, 3) := by decide +kernel
theorem dX6_put_34 : decode cX6_put 34 = .ok (.ireturn, 1) := by decide +kernel
theorem dX6_put_35 : decode cX6_put 35 = .ok (.aload_n 0, 1) := by decide +kernel
theorem dX6_put_36 : decode cX6_put 36 = .ok (.getfield 46, 3) := by decide +kernel
theorem dX6_put_39 : decode cX6_put 39 = .ok (.aload_n 0, 1) := by decide +kernel
theorem dX6_put_40 : decode cX6_put 40 = .ok (.getfield 176, 3) := by decide +kernel
theorem dX6_put_43 : decode cX6_put 43 = .ok (.iload_n 1, 1) := by decide +kernel
theorem dX6_put_44 : decode cX6_put 44 = .ok (.iastore, 1) := by decide +kernel
theorem dX6_put_45 : decode cX6_put 45 = .ok (.aload_n 0, 1) := by decide +kernel
theorem dX6_put_46 : decode cX6_put 46 = .ok (.dup, 1) := by decide +kernel
theorem dX6_put_47 : decode cX6_put 47 = .ok (.getfield 176, 3) := by decide +kernel
theorem dX6_put_50 : decode cX6_put 50 = .ok (.iconst 1, 1) := by decide +kernel
theorem dX6_put_51 : decode cX6_put 51 = .ok (.iadd, 1) := by decide +kernel
theorem dX6_put_52 : decode cX6_put 52 = .ok (.putfield 176, 3) := by decide +kernel
theorem dX6_put_55 : decode cX6_put 55 = .ok (.aload_n 0, 1) := by decide +kernel
theorem dX6_put_56 : decode cX6_put 56 = .ok (.getfield 176, 3) := by decide +kernel
theorem dX6_put_59 : decode cX6_put 59 = .ok (.ireturn, 1) := by decide +kernel
theorem dX6_judge_0 : decode cX6_judge 0 = .ok (.aload_n 0, 1) := by decide +kernel
theorem dX6_judge_1 : decode cX6_judge 1 = .ok (.invokevirtual 128, 3) := by decide +kernel
theorem dX6_judge_4 : decode cX6_judge 4 = .ok (.aload_n 0, 1) := by decide +kernel
theorem dX6_judge_5 : decode cX6_judge 5 = .ok (.getfield 176, 3) := by decide +kernel
theorem dX6_judge_8 : decode cX6_judge 8 = .ok (.istore_n 1, 1) := by decide +kernel
theorem dX6_judge_9 : decode cX6_judge 9 = .ok (.aload_n 0, 1) := by decide +kernel
theorem dX6_judge_10 : decode cX6_judge 10 = .ok (.iconst 0, 1) := by decide +kernel
theorem dX6_judge_11 : decode cX6_judge 11 = .ok (.putfield 176, 3) := by decide +kernel
theorem dX6_judge_14 : decode cX6_judge 14 = .ok (.iconst 0, 1) := by decide +kernel
theorem dX6_judge_15 : decode cX6_judge 15 = .ok (.istore_n 2, 1) := by decide +kernel
theorem dX6_judge_16 : decode cX6_judge 16 = .ok (.iload_n 2, 1) := by decide +kernel
theorem dX6_judge_17 : decode cX6_judge 17 = .ok (.aload_n 0, 1) := by decide +kernel
theorem dX6_judge_18 : decode cX6_judge 18 = .ok (.invokevirtual 75, 3) := by decide +kernel
theorem dX6_judge_21 : decode cX6_judge 21 = .ok (.if_icmp .ge 43, 3) := by decide +kernel
theorem dX6_judge_24 : decode cX6_judge 24 = .ok (.iload_n 2, 1) := by decide +kernel
theorem dX6_judge_25 : decode cX6_judge 25 = .ok (.iload_n 1, 1) := by decide +kernel
theorem dX6_judge_26 : decode cX6_judge 26 = .ok (.if_icmp .ge 26, 3) := by decide +kernel
theorem dX6_judge_29 : decode cX6_judge 29 = .ok (.aload_n 0, 1) := by decide +kernel
theorem dX6_judge_30 : decode cX6_judge 30 = .ok (.iload_n 2, 1) := by decide +kernel
theorem dX6_judge_31 : decode cX6_judge 31 = .ok (.invokevirtual 86, 3) := by decide +kernel
theorem dX6_judge_34 : decode cX6_judge 34 = .ok (.ifCond .ne 24, 3) := by decide +kernel
theorem dX6_judge_37 : decode cX6_judge 37 = .ok (.aload_n 0, 1) := by decide +kernel
theorem dX6_judge_38 : decode cX6_judge 38 = .ok (.getfield 46, 3) := by decide +kernel
theorem dX6_judge_41 : decode cX6_judge 41 = .ok (.iload_n 2, 1) := by decide +kernel
theorem dX6_judge_42 : decode cX6_judge 42 = .ok (.iaload, 1) := by decide +kernel
theorem dX6_judge_43 : decode cX6_judge 43 = .ok (.aload_n 0, 1) := by decide +kernel
theorem dX6_judge_44 : decode cX6_judge 44 = .ok (.getfield 28, 3) := by decide +kernel
theorem dX6_judge_47 : decode cX6_judge 47 = .ok (.iload_n 2, 1) := by decide +kernel
theorem dX6_judge_48 : decode cX6_judge 48 = .ok (.iaload, 1) := by decide +kernel
theorem dX6_judge_49 : decode cX6_judge 49 = .ok (.if_icmp .eq 9, 3) := by decide +kernel
theorem dX6_judge_52 : decode cX6_judge 52 = .ok (.aload_n 0, 1) := by decide +kernel
theorem dX6_judge_53 : decode cX6_judge 53 = .ok (.iload_n 2, 1) := by decide +kernel
theorem dX6_judge_54 : decode cX6_judge 54 = .ok (.invokevirtual 131, 3) := by decide +kernel
theorem dX6_judge_57 : decode cX6_judge 57 = .ok (.ireturn, 1) := by decide +kernel
theorem dX6_judge_58 : decode cX6_judge 58 = .ok (.iinc 2 1, 3) := by decide +kernel
theorem dX6_judge_61 : decode cX6_judge 61 = .ok (.goto (-45), 3) := by decide +kernel
theorem dX6_judge_64 : decode cX6_judge 64 = .ok (.iload_n 1, 1) := by decide +kernel
theorem dX6_judge_65 : decode cX6_judge 65 = .ok (.aload_n 0, 1) := by decide +kernel
theorem dX6_judge_66 : decode cX6_judge 66 = .ok (.invokevirtual 75, 3) := by decide +kernel
theorem dX6_judge_69 : decode cX6_judge 69 = .ok (.if_icmp .le 9, 3) := by decide +kernel
theorem dX6_judge_72 : decode cX6_judge 72 = .ok (.sipush 9999, 3) := by decide +kernel
theorem dX6_judge_75 : decode cX6_judge 75 = .ok (.goto 5, 3) := by decide +kernel
theorem dX6_judge_78 : decode cX6_judge 78 = .ok (.bipush (-9), 2) := by decide +kernel
theorem dX6_judge_80 : decode cX6_judge 80 = .ok (.ireturn, 1) := by decide +kernel
theorem dX6_closes_0 : decode cX6_closes 0 = .ok (.iconst 0, 1) := by decide +kernel
theorem dX6_closes_1 : decode cX6_closes 1 = .ok (.istore_n 2, 1) := by decide +kernel
theorem dX6_closes_2 : decode cX6_closes 2 = .ok (.iconst 0, 1) := by decide +kernel
theorem dX6_closes_3 : decode cX6_closes 3 = .ok (.istore_n 3, 1) := by decide +kernel
theorem dX6_closes_4 : decode cX6_closes 4 = .ok (.iload_n 3, 1) := by decide +kernel
theorem dX6_closes_5 : decode cX6_closes 5 = .ok (.aload_n 0, 1) := by decide +kernel
theorem dX6_closes_6 : decode cX6_closes 6 = .ok (.getfield 13, 3) := by decide +kernel
theorem dX6_closes_9 : decode cX6_closes 9 = .ok (.bipush 6, 2) := by decide +kernel
theorem dX6_closes_11 : decode cX6_closes 11 = .ok (.iaload, 1) := by decide +kernel
theorem dX6_closes_12 : decode cX6_closes 12 = .ok (.if_icmp .ge 78, 3) := by decide +kernel
theorem dX6_closes_15 : decode cX6_closes 15 = .ok (.aload_n 0, 1) := by decide +kernel
theorem dX6_closes_16 : decode cX6_closes 16 = .ok (.getfield 13, 3) := by decide +kernel
theorem dX6_closes_19 : decode cX6_closes 19 = .ok (.bipush 127, 2) := by decide +kernel
theorem dX6_closes_21 : decode cX6_closes 21 = .ok (.iconst 2, 1) := by decide +kernel
theorem dX6_closes_22 : decode cX6_closes 22 = .ok (.iload_n 3, 1) := by decide +kernel
theorem dX6_closes_23 : decode cX6_closes 23 = .ok (.imul, 1) := by decide +kernel
theorem dX6_closes_24 : decode cX6_closes 24 = .ok (.iadd, 1) := by decide +kernel
theorem dX6_closes_25 : decode cX6_closes 25 = .ok (.iaload, 1) := by decide +kernel
theorem dX6_closes_26 : decode cX6_closes 26 = .ok (.iload_n 1, 1) := by decide +kernel
theorem dX6_closes_27 : decode cX6_closes 27 = .ok (.if_icmp .ne 6, 3) := by decide +kernel
theorem dX6_closes_30 : decode cX6_closes 30 = .ok (.goto 54, 3) := by decide +kernel
theorem dX6_closes_33 : decode cX6_closes 33 = .ok (.aload_n 0, 1) := by decide +kernel
theorem dX6_closes_34 : decode cX6_closes 34 = .ok (.getfield 13, 3) := by decide +kernel
theorem dX6_closes_37 : decode cX6_closes 37 = .ok (.bipush 127, 2) := by decide +kernel
theorem dX6_closes_39 : decode cX6_closes 39 = .ok (.iconst 2, 1) := by decide +kernel
theorem dX6_closes_40 : decode cX6_closes 40 = .ok (.iload_n 2, 1) := by decide +kernel
theorem dX6_closes_41 : decode cX6_closes 41 = .ok (.imul, 1) := by decide +kernel
theorem dX6_closes_42 : decode cX6_closes 42 = .ok (.iadd, 1) := by decide +kernel
theorem dX6_closes_43 : decode cX6_closes 43 = .ok (.aload_n 0, 1) := by decide +kernel
theorem dX6_closes_44 : decode cX6_closes 44 = .ok (.getfield 13, 3) := by decide +kernel
theorem dX6_closes_47 : decode cX6_closes 47 = .ok (.bipush 127, 2) := by decide +kernel
theorem dX6_closes_49 : decode cX6_closes 49 = .ok (.iconst 2, 1) := by decide +kernel
theorem dX6_closes_50 : decode cX6_closes 50 = .ok (.iload_n 3, 1) := by decide +kernel
theorem dX6_closes_51 : decode cX6_closes 51 = .ok (.imul, 1) := by decide +kernel
theorem dX6_closes_52 : decode cX6_closes 52 = .ok (.iadd, 1) := by decide +kernel
theorem dX6_closes_53 : decode cX6_closes 53 = .ok (.iaload, 1) := by decide +kernel
theorem dX6_closes_54 : decode cX6_closes 54 = .ok (.iastore, 1) := by decide +kernel
theorem dX6_closes_55 : decode cX6_closes 55 = .ok (.aload_n 0, 1) := by decide +kernel
theorem dX6_closes_56 : decode cX6_closes 56 = .ok (.getfield 13, 3) := by decide +kernel
theorem dX6_closes_59 : decode cX6_closes 59 = .ok (.bipush 127, 2) := by decide +kernel
theorem dX6_closes_61 : decode cX6_closes 61 = .ok (.iconst 2, 1) := by decide +kernel
theorem dX6_closes_62 : decode cX6_closes 62 = .ok (.iload_n 2, 1) := by decide +kernel
theorem dX6_closes_63 : decode cX6_closes 63 = .ok (.imul, 1) := by decide +kernel
theorem dX6_closes_64 : decode cX6_closes 64 = .ok (.iadd, 1) := by decide +kernel
theorem dX6_closes_65 : decode cX6_closes 65 = .ok (.iconst 1, 1) := by decide +kernel
theorem dX6_closes_66 : decode cX6_closes 66 = .ok (.iadd, 1) := by decide +kernel
theorem dX6_closes_67 : decode cX6_closes 67 = .ok (.aload_n 0, 1) := by decide +kernel
theorem dX6_closes_68 : decode cX6_closes 68 = .ok (.getfield 13, 3) := by decide +kernel
theorem dX6_closes_71 : decode cX6_closes 71 = .ok (.bipush 127, 2) := by decide +kernel
theorem dX6_closes_73 : decode cX6_closes 73 = .ok (.iconst 2, 1) := by decide +kernel
theorem dX6_closes_74 : decode cX6_closes 74 = .ok (.iload_n 3, 1) := by decide +kernel
theorem dX6_closes_75 : decode cX6_closes 75 = .ok (.imul, 1) := by decide +kernel
theorem dX6_closes_76 : decode cX6_closes 76 = .ok (.iadd, 1) := by decide +kernel
theorem dX6_closes_77 : decode cX6_closes 77 = .ok (.iconst 1, 1) := by decide +kernel
theorem dX6_closes_78 : decode cX6_closes 78 = .ok (.iadd, 1) := by decide +kernel
theorem dX6_closes_79 : decode cX6_closes 79 = .ok (.iaload, 1) := by decide +kernel
theorem dX6_closes_80 : decode cX6_closes 80 = .ok (.iastore, 1) := by decide +kernel
theorem dX6_closes_81 : decode cX6_closes 81 = .ok (.iinc 2 1, 3) := by decide +kernel
theorem dX6_closes_84 : decode cX6_closes 84 = .ok (.iinc 3 1, 3) := by decide +kernel
theorem dX6_closes_87 : decode cX6_closes 87 = .ok (.goto (-83), 3) := by decide +kernel
theorem dX6_closes_90 : decode cX6_closes 90 = .ok (.aload_n 0, 1) := by decide +kernel
theorem dX6_closes_91 : decode cX6_closes 91 = .ok (.getfield 13, 3) := by decide +kernel
theorem dX6_closes_94 : decode cX6_closes 94 = .ok (.bipush 6, 2) := by decide +kernel
theorem dX6_closes_96 : decode cX6_closes 96 = .ok (.iload_n 2, 1) := by decide +kernel
theorem dX6_closes_97 : decode cX6_closes 97 = .ok (.iastore, 1) := by decide +kernel
theorem dX6_closes_98 : decode cX6_closes 98 = .ok (.return_, 1) := by decide +kernel
theorem dX6_grow_0 : decode cX6_grow 0 = .ok (.aload_n 0, 1) := by decide +kernel
theorem dX6_grow_1 : decode cX6_grow 1 = .ok (.iload_n 1, 1) := by decide +kernel
theorem dX6_grow_2 : decode cX6_grow 2 = .ok (.invokevirtual 79, 3) := by decide +kernel
theorem dX6_grow_5 : decode cX6_grow 5 = .ok (.ifCond .eq 11, 3) := by decide +kernel
theorem dX6_grow_8 : decode cX6_grow 8 = .ok (.iload_n 2, 1) := by decide +kernel
theorem dX6_grow_9 : decode cX6_grow 9 = .ok (.iconst 3, 1) := by decide +kernel
theorem dX6_grow_10 : decode cX6_grow 10 = .ok (.invokestatic 89, 3) := by decide +kernel
theorem dX6_grow_13 : decode cX6_grow 13 = .ok (.ifCond .ne 7, 3) := by decide +kernel
theorem dX6_grow_16 : decode cX6_grow 16 = .ok (.iconst (-1), 1) := by decide +kernel
theorem dX6_grow_17 : decode cX6_grow 17 = .ok (.goto 21, 3) := by decide +kernel
theorem dX6_grow_20 : decode cX6_grow 20 = .ok (.aload_n 0, 1) := by decide +kernel
theorem dX6_grow_21 : decode cX6_grow 21 = .ok (.aload_n 0, 1) := by decide +kernel
theorem dX6_grow_22 : decode cX6_grow 22 = .ok (.iload_n 1, 1) := by decide +kernel
theorem dX6_grow_23 : decode cX6_grow 23 = .ok (.invokevirtual 83, 3) := by decide +kernel
theorem dX6_grow_26 : decode cX6_grow 26 = .ok (.invokevirtual 86, 3) := by decide +kernel
theorem dX6_grow_29 : decode cX6_grow 29 = .ok (.ifCond .eq 8, 3) := by decide +kernel
theorem dX6_grow_32 : decode cX6_grow 32 = .ok (.bipush (-3), 2) := by decide +kernel
theorem dX6_grow_34 : decode cX6_grow 34 = .ok (.goto 4, 3) := by decide +kernel
theorem dX6_grow_37 : decode cX6_grow 37 = .ok (.iconst 0, 1) := by decide +kernel
theorem dX6_grow_38 : decode cX6_grow 38 = .ok (.istore_n 3, 1) := by decide +kernel
theorem dX6_grow_39 : decode cX6_grow 39 = .ok (.iload_n 3, 1) := by decide +kernel
theorem dX6_grow_40 : decode cX6_grow 40 = .ok (.ifCond .eq 9, 3) := by decide +kernel
theorem dX6_grow_43 : decode cX6_grow 43 = .ok (.aload_n 0, 1) := by decide +kernel
theorem dX6_grow_44 : decode cX6_grow 44 = .ok (.iload_n 3, 1) := by decide +kernel
theorem dX6_grow_45 : decode cX6_grow 45 = .ok (.invokevirtual 49, 3) := by decide +kernel
theorem dX6_grow_48 : decode cX6_grow 48 = .ok (.ireturn, 1) := by decide +kernel
theorem dX6_grow_49 : decode cX6_grow 49 = .ok (.aload_n 0, 1) := by decide +kernel
theorem dX6_grow_50 : decode cX6_grow 50 = .ok (.getfield 13, 3) := by decide +kernel
theorem dX6_grow_53 : decode cX6_grow 53 = .ok (.bipush 7, 2) := by decide +kernel
theorem dX6_grow_55 : decode cX6_grow 55 = .ok (.aload_n 0, 1) := by decide +kernel
theorem dX6_grow_56 : decode cX6_grow 56 = .ok (.iload_n 1, 1) := by decide +kernel
theorem dX6_grow_57 : decode cX6_grow 57 = .ok (.invokevirtual 83, 3) := by decide +kernel
theorem dX6_grow_60 : decode cX6_grow 60 = .ok (.iadd, 1) := by decide +kernel
theorem dX6_grow_61 : decode cX6_grow 61 = .ok (.iload_n 2, 1) := by decide +kernel
theorem dX6_grow_62 : decode cX6_grow 62 = .ok (.iconst 1, 1) := by decide +kernel
theorem dX6_grow_63 : decode cX6_grow 63 = .ok (.iadd, 1) := by decide +kernel
theorem dX6_grow_64 : decode cX6_grow 64 = .ok (.iastore, 1) := by decide +kernel
theorem dX6_grow_65 : decode cX6_grow 65 = .ok (.aload_n 0, 1) := by decide +kernel
theorem dX6_grow_66 : decode cX6_grow 66 = .ok (.aload_n 0, 1) := by decide +kernel
theorem dX6_grow_67 : decode cX6_grow 67 = .ok (.iload_n 1, 1) := by decide +kernel
theorem dX6_grow_68 : decode cX6_grow 68 = .ok (.invokevirtual 83, 3) := by decide +kernel
theorem dX6_grow_71 : decode cX6_grow 71 = .ok (.invokevirtual 179, 3) := by decide +kernel
theorem dX6_grow_74 : decode cX6_grow 74 = .ok (.iconst 1, 1) := by decide +kernel
theorem dX6_grow_75 : decode cX6_grow 75 = .ok (.ireturn, 1) := by decide +kernel
theorem dX6_drown_0 : decode cX6_drown 0 = .ok (.aload_n 0, 1) := by decide +kernel
theorem dX6_drown_1 : decode cX6_drown 1 = .ok (.iload_n 1, 1) := by decide +kernel
theorem dX6_drown_2 : decode cX6_drown 2 = .ok (.invokevirtual 79, 3) := by decide +kernel
theorem dX6_drown_5 : decode cX6_drown 5 = .ok (.ifCond .ne 7, 3) := by decide +kernel
theorem dX6_drown_8 : decode cX6_drown 8 = .ok (.iconst (-1), 1) := by decide +kernel
theorem dX6_drown_9 : decode cX6_drown 9 = .ok (.goto 21, 3) := by decide +kernel
theorem dX6_drown_12 : decode cX6_drown 12 = .ok (.aload_n 0, 1) := by decide +kernel
theorem dX6_drown_13 : decode cX6_drown 13 = .ok (.aload_n 0, 1) := by decide +kernel
theorem dX6_drown_14 : decode cX6_drown 14 = .ok (.iload_n 1, 1) := by decide +kernel
theorem dX6_drown_15 : decode cX6_drown 15 = .ok (.invokevirtual 83, 3) := by decide +kernel
theorem dX6_drown_18 : decode cX6_drown 18 = .ok (.invokevirtual 86, 3) := by decide +kernel
theorem dX6_drown_21 : decode cX6_drown 21 = .ok (.ifCond .ne 8, 3) := by decide +kernel
theorem dX6_drown_24 : decode cX6_drown 24 = .ok (.bipush (-3), 2) := by decide +kernel
theorem dX6_drown_26 : decode cX6_drown 26 = .ok (.goto 4, 3) := by decide +kernel
theorem dX6_drown_29 : decode cX6_drown 29 = .ok (.iconst 0, 1) := by decide +kernel
theorem dX6_drown_30 : decode cX6_drown 30 = .ok (.istore_n 2, 1) := by decide +kernel
theorem dX6_drown_31 : decode cX6_drown 31 = .ok (.iload_n 2, 1) := by decide +kernel
theorem dX6_drown_32 : decode cX6_drown 32 = .ok (.ifCond .eq 9, 3) := by decide +kernel
theorem dX6_drown_35 : decode cX6_drown 35 = .ok (.aload_n 0, 1) := by decide +kernel
theorem dX6_drown_36 : decode cX6_drown 36 = .ok (.iload_n 2, 1) := by decide +kernel
theorem dX6_drown_37 : decode cX6_drown 37 = .ok (.invokevirtual 49, 3) := by decide +kernel
theorem dX6_drown_40 : decode cX6_drown 40 = .ok (.ireturn, 1) := by decide +kernel
theorem dX6_drown_41 : decode cX6_drown 41 = .ok (.aload_n 0, 1) := by decide +kernel
theorem dX6_drown_42 : decode cX6_drown 42 = .ok (.aload_n 0, 1) := by decide +kernel
theorem dX6_drown_43 : decode cX6_drown 43 = .ok (.iload_n 1, 1) := by decide +kernel
theorem dX6_drown_44 : decode cX6_drown 44 = .ok (.invokevirtual 83, 3) := by decide +kernel
theorem dX6_drown_47 : decode cX6_drown 47 = .ok (.invokevirtual 86, 3) := by decide +kernel
theorem dX6_drown_50 : decode cX6_drown 50 = .ok (.istore_n 3, 1) := by decide +kernel
theorem dX6_drown_51 : decode cX6_drown 51 = .ok (.aload_n 0, 1) := by decide +kernel
theorem dX6_drown_52 : decode cX6_drown 52 = .ok (.getfield 13, 3) := by decide +kernel
theorem dX6_drown_55 : decode cX6_drown 55 = .ok (.bipush 7, 2) := by decide +kernel
theorem dX6_drown_57 : decode cX6_drown 57 = .ok (.aload_n 0, 1) := by decide +kernel
theorem dX6_drown_58 : decode cX6_drown 58 = .ok (.iload_n 1, 1) := by decide +kernel
theorem dX6_drown_59 : decode cX6_drown 59 = .ok (.invokevirtual 83, 3) := by decide +kernel
theorem dX6_drown_62 : decode cX6_drown 62 = .ok (.iadd, 1) := by decide +kernel
theorem dX6_drown_63 : decode cX6_drown 63 = .ok (.iconst 0, 1) := by decide +kernel
theorem dX6_drown_64 : decode cX6_drown 64 = .ok (.iastore, 1) := by decide +kernel
theorem dX6_drown_65 : decode cX6_drown 65 = .ok (.iload_n 3, 1) := by decide +kernel
theorem dX6_drown_66 : decode cX6_drown 66 = .ok (.ireturn, 1) := by decide +kernel
theorem dX6_image_0 : decode cX6_image 0 = .ok (.iconst 0, 1) := by decide +kernel
theorem dX6_image_1 : decode cX6_image 1 = .ok (.istore_n 1, 1) := by decide +kernel
theorem dX6_image_2 : decode cX6_image 2 = .ok (.iload_n 1, 1) := by decide +kernel
theorem dX6_image_3 : decode cX6_image 3 = .ok (.sipush 151, 3) := by decide +kernel
theorem dX6_image_6 : decode cX6_image 6 = .ok (.if_icmp .ge 21, 3) := by decide +kernel
theorem dX6_image_9 : decode cX6_image 9 = .ok (.aload_n 0, 1) := by decide +kernel
theorem dX6_image_10 : decode cX6_image 10 = .ok (.getfield 16, 3) := by decide +kernel
theorem dX6_image_13 : decode cX6_image 13 = .ok (.iload_n 1, 1) := by decide +kernel
theorem dX6_image_14 : decode cX6_image 14 = .ok (.aload_n 0, 1) := by decide +kernel
theorem dX6_image_15 : decode cX6_image 15 = .ok (.getfield 13, 3) := by decide +kernel
theorem dX6_image_18 : decode cX6_image 18 = .ok (.iload_n 1, 1) := by decide +kernel
theorem dX6_image_19 : decode cX6_image 19 = .ok (.iaload, 1) := by decide +kernel
theorem dX6_image_20 : decode cX6_image 20 = .ok (.iastore, 1) := by decide +kernel
theorem dX6_image_21 : decode cX6_image 21 = .ok (.iinc 1 1, 3) := by decide +kernel
theorem dX6_image_24 : decode cX6_image 24 = .ok (.goto (-22), 3) := by decide +kernel
theorem dX6_image_27 : decode cX6_image 27 = .ok (.aload_n 0, 1) := by decide +kernel
theorem dX6_image_28 : decode cX6_image 28 = .ok (.iconst 1, 1) := by decide +kernel
theorem dX6_image_29 : decode cX6_image 29 = .ok (.putfield 182, 3) := by decide +kernel
theorem dX6_image_32 : decode cX6_image 32 = .ok (.aload_n 0, 1) := by decide +kernel
theorem dX6_image_33 : decode cX6_image 33 = .ok (.invokevirtual 75, 3) := by decide +kernel
theorem dX6_image_36 : decode cX6_image 36 = .ok (.ireturn, 1) := by decide +kernel
theorem dX6_on_0 : decode cX6_on 0 = .ok (.aload_n 0, 1) := by decide +kernel
theorem dX6_on_1 : decode cX6_on 1 = .ok (.getfield 182, 3) := by decide +kernel
theorem dX6_on_4 : decode cX6_on 4 = .ok (.ifCond .ne 10, 3) := by decide +kernel
theorem dX6_on_7 : decode cX6_on 7 = .ok (.aload_n 0, 1) := by decide +kernel
theorem dX6_on_8 : decode cX6_on 8 = .ok (.bipush (-3), 2) := by decide +kernel
theorem dX6_on_10 : decode cX6_on 10 = .ok (.invokevirtual 49, 3) := by decide +kernel
theorem dX6_on_13 : decode cX6_on 13 = .ok (.ireturn, 1) := by decide +kernel
theorem dX6_on_14 : decode cX6_on 14 = .ok (.iconst 0, 1) := by decide +kernel
theorem dX6_on_15 : decode cX6_on 15 = .ok (.istore_n 1, 1) := by decide +kernel
theorem dX6_on_16 : decode cX6_on 16 = .ok (.iload_n 1, 1) := by decide +kernel
theorem dX6_on_17 : decode cX6_on 17 = .ok (.sipush 151, 3) := by decide +kernel
theorem dX6_on_20 : decode cX6_on 20 = .ok (.if_icmp .ge 21, 3) := by decide +kernel
theorem dX6_on_23 : decode cX6_on 23 = .ok (.aload_n 0, 1) := by decide +kernel
theorem dX6_on_24 : decode cX6_on 24 = .ok (.getfield 13, 3) := by decide +kernel
theorem dX6_on_27 : decode cX6_on 27 = .ok (.iload_n 1, 1) := by decide +kernel
theorem dX6_on_28 : decode cX6_on 28 = .ok (.aload_n 0, 1) := by decide +kernel
theorem dX6_on_29 : decode cX6_on 29 = .ok (.getfield 16, 3) := by decide +kernel
theorem dX6_on_32 : decode cX6_on 32 = .ok (.iload_n 1, 1) := by decide +kernel
theorem dX6_on_33 : decode cX6_on 33 = .ok (.iaload, 1) := by decide +kernel
theorem dX6_on_34 : decode cX6_on 34 = .ok (.iastore, 1) := by decide +kernel
theorem dX6_on_35 : decode cX6_on 35 = .ok (.iinc 1 1, 3) := by decide +kernel
theorem dX6_on_38 : decode cX6_on 38 = .ok (.goto (-22), 3) := by decide +kernel
theorem dX6_on_41 : decode cX6_on 41 = .ok (.aload_n 0, 1) := by decide +kernel
theorem dX6_on_42 : decode cX6_on 42 = .ok (.invokevirtual 75, 3) := by decide +kernel
theorem dX6_on_45 : decode cX6_on 45 = .ok (.ireturn, 1) := by decide +kernel
theorem dX6_count_0 : decode cX6_count 0 = .ok (.iload_n 1, 1) := by decide +kernel
theorem dX6_count_1 : decode cX6_count 1 = .ok (.bipush 10, 2) := by decide +kernel
theorem dX6_count_3 : decode cX6_count 3 = .ok (.if_icmp .le 19, 3) := by decide +kernel
theorem dX6_count_6 : decode cX6_count 6 = .ok (.iload_n 1, 1) := by decide +kernel
theorem dX6_count_7 : decode cX6_count 7 = .ok (.bipush 17, 2) := by decide +kernel
theorem dX6_count_9 : decode cX6_count 9 = .ok (.if_icmp .ge 13, 3) := by decide +kernel
theorem dX6_count_12 : decode cX6_count 12 = .ok (.aload_n 0, 1) := by decide +kernel
theorem dX6_count_13 : decode cX6_count 13 = .ok (.getfield 7, 3) := by decide +kernel
theorem dX6_count_16 : decode cX6_count 16 = .ok (.iload_n 1, 1) := by decide +kernel
theorem dX6_count_17 : decode cX6_count 17 = .ok (.bipush 10, 2) := by decide +kernel
theorem dX6_count_19 : decode cX6_count 19 = .ok (.isub, 1) := by decide +kernel
theorem dX6_count_20 : decode cX6_count 20 = .ok (.iaload, 1) := by decide +kernel
theorem dX6_count_21 : decode cX6_count 21 = .ok (.ireturn, 1) := by decide +kernel
theorem dX6_count_22 : decode cX6_count 22 = .ok (.iconst 0, 1) := by decide +kernel
theorem dX6_count_23 : decode cX6_count 23 = .ok (.istore_n 2, 1) := by decide +kernel
theorem dX6_count_24 : decode cX6_count 24 = .ok (.iload_n 1, 1) := by decide +kernel
theorem dX6_count_25 : decode cX6_count 25 = .ok (.tableswitch 105 0 5 #[39, 46, 53, 87, 95, 100], 39) := by decide +kernel
theorem dX6_count_64 : decode cX6_count 64 = .ok (.aload_n 0, 1) := by decide +kernel
theorem dX6_count_65 : decode cX6_count 65 = .ok (.getfield 13, 3) := by decide +kernel
theorem dX6_count_68 : decode cX6_count 68 = .ok (.iconst 0, 1) := by decide +kernel
theorem dX6_count_69 : decode cX6_count 69 = .ok (.iaload, 1) := by decide +kernel
theorem dX6_count_70 : decode cX6_count 70 = .ok (.ireturn, 1) := by decide +kernel
theorem dX6_count_71 : decode cX6_count 71 = .ok (.aload_n 0, 1) := by decide +kernel
theorem dX6_count_72 : decode cX6_count 72 = .ok (.getfield 13, 3) := by decide +kernel
theorem dX6_count_75 : decode cX6_count 75 = .ok (.iconst 1, 1) := by decide +kernel
theorem dX6_count_76 : decode cX6_count 76 = .ok (.iaload, 1) := by decide +kernel
theorem dX6_count_77 : decode cX6_count 77 = .ok (.ireturn, 1) := by decide +kernel
theorem dX6_count_78 : decode cX6_count 78 = .ok (.iconst 0, 1) := by decide +kernel
theorem dX6_count_79 : decode cX6_count 79 = .ok (.istore_n 3, 1) := by decide +kernel
theorem dX6_count_80 : decode cX6_count 80 = .ok (.iload_n 3, 1) := by decide +kernel
theorem dX6_count_81 : decode cX6_count 81 = .ok (.aload_n 0, 1) := by decide +kernel
theorem dX6_count_82 : decode cX6_count 82 = .ok (.invokevirtual 75, 3) := by decide +kernel
theorem dX6_count_85 : decode cX6_count 85 = .ok (.if_icmp .ge 25, 3) := by decide +kernel
theorem dX6_count_88 : decode cX6_count 88 = .ok (.iload_n 2, 1) := by decide +kernel
theorem dX6_count_89 : decode cX6_count 89 = .ok (.aload_n 0, 1) := by decide +kernel
theorem dX6_count_90 : decode cX6_count 90 = .ok (.iload_n 3, 1) := by decide +kernel
theorem dX6_count_91 : decode cX6_count 91 = .ok (.invokevirtual 86, 3) := by decide +kernel
theorem dX6_count_94 : decode cX6_count 94 = .ok (.ifCond .ne 7, 3) := by decide +kernel
theorem dX6_count_97 : decode cX6_count 97 = .ok (.iconst 1, 1) := by decide +kernel
theorem dX6_count_98 : decode cX6_count 98 = .ok (.goto 4, 3) := by decide +kernel
theorem dX6_count_101 : decode cX6_count 101 = .ok (.iconst 0, 1) := by decide +kernel
theorem dX6_count_102 : decode cX6_count 102 = .ok (.iadd, 1) := by decide +kernel
theorem dX6_count_103 : decode cX6_count 103 = .ok (.istore_n 2, 1) := by decide +kernel
theorem dX6_count_104 : decode cX6_count 104 = .ok (.iinc 3 1, 3) := by decide +kernel
theorem dX6_count_107 : decode cX6_count 107 = .ok (.goto (-27), 3) := by decide +kernel
theorem dX6_count_110 : decode cX6_count 110 = .ok (.iload_n 2, 1) := by decide +kernel
theorem dX6_count_111 : decode cX6_count 111 = .ok (.ireturn, 1) := by decide +kernel
theorem dX6_count_112 : decode cX6_count 112 = .ok (.aload_n 0, 1) := by decide +kernel
theorem dX6_count_113 : decode cX6_count 113 = .ok (.getfield 13, 3) := by decide +kernel
theorem dX6_count_116 : decode cX6_count 116 = .ok (.bipush 6, 2) := by decide +kernel
theorem dX6_count_118 : decode cX6_count 118 = .ok (.iaload, 1) := by decide +kernel
theorem dX6_count_119 : decode cX6_count 119 = .ok (.ireturn, 1) := by decide +kernel
theorem dX6_count_120 : decode cX6_count 120 = .ok (.aload_n 0, 1) := by decide +kernel
theorem dX6_count_121 : decode cX6_count 121 = .ok (.getfield 53, 3) := by decide +kernel
theorem dX6_count_124 : decode cX6_count 124 = .ok (.ireturn, 1) := by decide +kernel
theorem dX6_count_125 : decode cX6_count 125 = .ok (.aload_n 0, 1) := by decide +kernel
theorem dX6_count_126 : decode cX6_count 126 = .ok (.getfield 176, 3) := by decide +kernel
theorem dX6_count_129 : decode cX6_count 129 = .ok (.ireturn, 1) := by decide +kernel
theorem dX6_count_130 : decode cX6_count 130 = .ok (.bipush (-9), 2) := by decide +kernel
theorem dX6_count_132 : decode cX6_count 132 = .ok (.ireturn, 1) := by decide +kernel
