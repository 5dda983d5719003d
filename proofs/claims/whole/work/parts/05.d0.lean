theorem dX0_init_0 : decode cX0_init 0 = .ok (.aload_n 0, 1) := by decide +kernel
theorem dX0_init_1 : decode cX0_init 1 = .ok (.invokespecial 3, 3) := by decide +kernel
theorem dX0_init_4 : decode cX0_init 4 = .ok (.aload_n 0, 1) := by decide +kernel
theorem dX0_init_5 : decode cX0_init 5 = .ok (.bipush 120, 2) := by decide +kernel
theorem dX0_init_7 : decode cX0_init 7 = .ok (.newarray .int, 2) := by decide +kernel
theorem dX0_init_9 : decode cX0_init 9 = .ok (.putfield 9, 3) := by decide +kernel
theorem dX0_init_12 : decode cX0_init 12 = .ok (.aload_n 0, 1) := by decide +kernel
theorem dX0_init_13 : decode cX0_init 13 = .ok (.bipush 120, 2) := by decide +kernel
theorem dX0_init_15 : decode cX0_init 15 = .ok (.newarray .int, 2) := by decide +kernel
theorem dX0_init_17 : decode cX0_init 17 = .ok (.putfield 15, 3) := by decide +kernel
theorem dX0_init_20 : decode cX0_init 20 = .ok (.aload_n 0, 1) := by decide +kernel
theorem dX0_init_21 : decode cX0_init 21 = .ok (.sipush 360, 3) := by decide +kernel
theorem dX0_init_24 : decode cX0_init 24 = .ok (.newarray .int, 2) := by decide +kernel
theorem dX0_init_26 : decode cX0_init 26 = .ok (.putfield 18, 3) := by decide +kernel
theorem dX0_init_29 : decode cX0_init 29 = .ok (.aload_n 0, 1) := by decide +kernel
theorem dX0_init_30 : decode cX0_init 30 = .ok (.bipush 120, 2) := by decide +kernel
theorem dX0_init_32 : decode cX0_init 32 = .ok (.newarray .int, 2) := by decide +kernel
theorem dX0_init_34 : decode cX0_init 34 = .ok (.putfield 21, 3) := by decide +kernel
theorem dX0_init_37 : decode cX0_init 37 = .ok (.aload_n 0, 1) := by decide +kernel
theorem dX0_init_38 : decode cX0_init 38 = .ok (.bipush 120, 2) := by decide +kernel
theorem dX0_init_40 : decode cX0_init 40 = .ok (.newarray .int, 2) := by decide +kernel
theorem dX0_init_42 : decode cX0_init 42 = .ok (.putfield 24, 3) := by decide +kernel
theorem dX0_init_45 : decode cX0_init 45 = .ok (.aload_n 0, 1) := by decide +kernel
theorem dX0_init_46 : decode cX0_init 46 = .ok (.iconst 4, 1) := by decide +kernel
theorem dX0_init_47 : decode cX0_init 47 = .ok (.newarray .int, 2) := by decide +kernel
theorem dX0_init_49 : decode cX0_init 49 = .ok (.putfield 27, 3) := by decide +kernel
theorem dX0_init_52 : decode cX0_init 52 = .ok (.aload_n 0, 1) := by decide +kernel
theorem dX0_init_53 : decode cX0_init 53 = .ok (.iconst 0, 1) := by decide +kernel
theorem dX0_init_54 : decode cX0_init 54 = .ok (.putfield 30, 3) := by decide +kernel
theorem dX0_init_57 : decode cX0_init 57 = .ok (.aload_n 0, 1) := by decide +kernel
theorem dX0_init_58 : decode cX0_init 58 = .ok (.iconst 0, 1) := by decide +kernel
theorem dX0_init_59 : decode cX0_init 59 = .ok (.putfield 34, 3) := by decide +kernel
theorem dX0_init_62 : decode cX0_init 62 = .ok (.return_, 1) := by decide +kernel
theorem dX0_draw_0 : decode cX0_draw 0 = .ok (.aload_n 0, 1) := by decide +kernel
theorem dX0_draw_1 : decode cX0_draw 1 = .ok (.aload_n 1, 1) := by decide +kernel
theorem dX0_draw_2 : decode cX0_draw 2 = .ok (.aload_n 2, 1) := by decide +kernel
theorem dX0_draw_3 : decode cX0_draw 3 = .ok (.getfield 37, 3) := by decide +kernel
theorem dX0_draw_6 : decode cX0_draw 6 = .ok (.invokevirtual 42, 3) := by decide +kernel
theorem dX0_draw_9 : decode cX0_draw 9 = .ok (.aload_n 0, 1) := by decide +kernel
theorem dX0_draw_10 : decode cX0_draw 10 = .ok (.aload_n 1, 1) := by decide +kernel
theorem dX0_draw_11 : decode cX0_draw 11 = .ok (.aload_n 2, 1) := by decide +kernel
theorem dX0_draw_12 : decode cX0_draw 12 = .ok (.getfield 46, 3) := by decide +kernel
theorem dX0_draw_15 : decode cX0_draw 15 = .ok (.invokevirtual 49, 3) := by decide +kernel
theorem dX0_draw_18 : decode cX0_draw 18 = .ok (.aload_n 0, 1) := by decide +kernel
theorem dX0_draw_19 : decode cX0_draw 19 = .ok (.aload_n 1, 1) := by decide +kernel
theorem dX0_draw_20 : decode cX0_draw 20 = .ok (.invokevirtual 52, 3) := by decide +kernel
theorem dX0_draw_23 : decode cX0_draw 23 = .ok (.aload_n 0, 1) := by decide +kernel
theorem dX0_draw_24 : decode cX0_draw 24 = .ok (.aload_n 1, 1) := by decide +kernel
theorem dX0_draw_25 : decode cX0_draw 25 = .ok (.aload_n 2, 1) := by decide +kernel
theorem dX0_draw_26 : decode cX0_draw 26 = .ok (.getfield 56, 3) := by decide +kernel
theorem dX0_draw_29 : decode cX0_draw 29 = .ok (.aload_n 2, 1) := by decide +kernel
theorem dX0_draw_30 : decode cX0_draw 30 = .ok (.getfield 59, 3) := by decide +kernel
theorem dX0_draw_33 : decode cX0_draw 33 = .ok (.invokevirtual 62, 3) := by decide +kernel
theorem dX0_draw_36 : decode cX0_draw 36 = .ok (.return_, 1) := by decide +kernel
theorem dX0_layBases_0 : decode cX0_layBases 0 = .ok (.aload_n 0, 1) := by decide +kernel
theorem dX0_layBases_1 : decode cX0_layBases 1 = .ok (.iconst 0, 1) := by decide +kernel
theorem dX0_layBases_2 : decode cX0_layBases 2 = .ok (.putfield 30, 3) := by decide +kernel
theorem dX0_layBases_5 : decode cX0_layBases 5 = .ok (.iconst 0, 1) := by decide +kernel
theorem dX0_layBases_6 : decode cX0_layBases 6 = .ok (.istore_n 3, 1) := by decide +kernel
theorem dX0_layBases_7 : decode cX0_layBases 7 = .ok (.iload_n 3, 1) := by decide +kernel
theorem dX0_layBases_8 : decode cX0_layBases 8 = .ok (.iconst 3, 1) := by decide +kernel
theorem dX0_layBases_9 : decode cX0_layBases 9 = .ok (.if_icmp .ge 100, 3) := by decide +kernel
theorem dX0_layBases_12 : decode cX0_layBases 12 = .ok (.aload_n 0, 1) := by decide +kernel
theorem dX0_layBases_13 : decode cX0_layBases 13 = .ok (.getfield 27, 3) := by decide +kernel
theorem dX0_layBases_16 : decode cX0_layBases 16 = .ok (.iload_n 3, 1) := by decide +kernel
theorem dX0_layBases_17 : decode cX0_layBases 17 = .ok (.aload_n 0, 1) := by decide +kernel
theorem dX0_layBases_18 : decode cX0_layBases 18 = .ok (.getfield 30, 3) := by decide +kernel
theorem dX0_layBases_21 : decode cX0_layBases 21 = .ok (.iastore, 1) := by decide +kernel
theorem dX0_layBases_22 : decode cX0_layBases 22 = .ok (.iconst 0, 1) := by decide +kernel
theorem dX0_layBases_23 : decode cX0_layBases 23 = .ok (.istore 4, 2) := by decide +kernel
theorem dX0_layBases_25 : decode cX0_layBases 25 = .ok (.iload 4, 2) := by decide +kernel
theorem dX0_layBases_27 : decode cX0_layBases 27 = .ok (.bipush 120, 2) := by decide +kernel
theorem dX0_layBases_29 : decode cX0_layBases 29 = .ok (.if_icmp .ge 74, 3) := by decide +kernel
theorem dX0_layBases_32 : decode cX0_layBases 32 = .ok (.aload_n 1, 1) := by decide +kernel
theorem dX0_layBases_33 : decode cX0_layBases 33 = .ok (.iload 4, 2) := by decide +kernel
theorem dX0_layBases_35 : decode cX0_layBases 35 = .ok (.invokevirtual 66, 3) := by decide +kernel
theorem dX0_layBases_38 : decode cX0_layBases 38 = .ok (.istore 5, 2) := by decide +kernel
theorem dX0_layBases_40 : decode cX0_layBases 40 = .ok (.iload 5, 2) := by decide +kernel
theorem dX0_layBases_42 : decode cX0_layBases 42 = .ok (.iconst 1, 1) := by decide +kernel
theorem dX0_layBases_43 : decode cX0_layBases 43 = .ok (.iload_n 3, 1) := by decide +kernel
theorem dX0_layBases_44 : decode cX0_layBases 44 = .ok (.iadd, 1) := by decide +kernel
theorem dX0_layBases_45 : decode cX0_layBases 45 = .ok (.if_icmp .eq 14, 3) := by decide +kernel
theorem dX0_layBases_48 : decode cX0_layBases 48 = .ok (.aload_n 0, 1) := by decide +kernel
theorem dX0_layBases_49 : decode cX0_layBases 49 = .ok (.getfield 9, 3) := by decide +kernel
theorem dX0_layBases_52 : decode cX0_layBases 52 = .ok (.iload 4, 2) := by decide +kernel
theorem dX0_layBases_54 : decode cX0_layBases 54 = .ok (.iaload, 1) := by decide +kernel
theorem dX0_layBases_55 : decode cX0_layBases 55 = .ok (.iload_n 3, 1) := by decide +kernel
theorem dX0_layBases_56 : decode cX0_layBases 56 = .ok (.if_icmp .ne 13, 3) := by decide +kernel
theorem dX0_layBases_59 : decode cX0_layBases 59 = .ok (.aload_n 0, 1) := by decide +kernel
theorem dX0_layBases_60 : decode cX0_layBases 60 = .ok (.iload 4, 2) := by decide +kernel
theorem dX0_layBases_62 : decode cX0_layBases 62 = .ok (.iconst 1, 1) := by decide +kernel
theorem dX0_layBases_63 : decode cX0_layBases 63 = .ok (.invokevirtual 72, 3) := by decide +kernel
theorem dX0_layBases_66 : decode cX0_layBases 66 = .ok (.goto 31, 3) := by decide +kernel
theorem dX0_layBases_69 : decode cX0_layBases 69 = .ok (.iload 5, 2) := by decide +kernel
theorem dX0_layBases_71 : decode cX0_layBases 71 = .ok (.iconst 4, 1) := by decide +kernel
theorem dX0_layBases_72 : decode cX0_layBases 72 = .ok (.iload_n 3, 1) := by decide +kernel
theorem dX0_layBases_73 : decode cX0_layBases 73 = .ok (.iadd, 1) := by decide +kernel
theorem dX0_layBases_74 : decode cX0_layBases 74 = .ok (.if_icmp .ne 23, 3) := by decide +kernel
theorem dX0_layBases_77 : decode cX0_layBases 77 = .ok (.iload_n 2, 1) := by decide +kernel
theorem dX0_layBases_78 : decode cX0_layBases 78 = .ok (.ifCond .le 19, 3) := by decide +kernel
theorem dX0_layBases_81 : decode cX0_layBases 81 = .ok (.aload_n 0, 1) := by decide +kernel
theorem dX0_layBases_82 : decode cX0_layBases 82 = .ok (.iload 4, 2) := by decide +kernel
theorem dX0_layBases_84 : decode cX0_layBases 84 = .ok (.iload_n 2, 1) := by decide +kernel
theorem dX0_layBases_85 : decode cX0_layBases 85 = .ok (.iconst 1, 1) := by decide +kernel
theorem dX0_layBases_86 : decode cX0_layBases 86 = .ok (.if_icmp .ne 7, 3) := by decide +kernel
theorem dX0_layBases_89 : decode cX0_layBases 89 = .ok (.iconst 4, 1) := by decide +kernel
theorem dX0_layBases_90 : decode cX0_layBases 90 = .ok (.goto 4, 3) := by decide +kernel
theorem dX0_layBases_93 : decode cX0_layBases 93 = .ok (.iconst 1, 1) := by decide +kernel
theorem dX0_layBases_94 : decode cX0_layBases 94 = .ok (.invokevirtual 72, 3) := by decide +kernel
theorem dX0_layBases_97 : decode cX0_layBases 97 = .ok (.iinc 4 1, 3) := by decide +kernel
theorem dX0_layBases_100 : decode cX0_layBases 100 = .ok (.goto (-75), 3) := by decide +kernel
theorem dX0_layBases_103 : decode cX0_layBases 103 = .ok (.iinc 3 1, 3) := by decide +kernel
theorem dX0_layBases_106 : decode cX0_layBases 106 = .ok (.goto (-99), 3) := by decide +kernel
theorem dX0_layBases_109 : decode cX0_layBases 109 = .ok (.aload_n 0, 1) := by decide +kernel
theorem dX0_layBases_110 : decode cX0_layBases 110 = .ok (.getfield 27, 3) := by decide +kernel
theorem dX0_layBases_113 : decode cX0_layBases 113 = .ok (.iconst 3, 1) := by decide +kernel
theorem dX0_layBases_114 : decode cX0_layBases 114 = .ok (.aload_n 0, 1) := by decide +kernel
theorem dX0_layBases_115 : decode cX0_layBases 115 = .ok (.getfield 30, 3) := by decide +kernel
theorem dX0_layBases_118 : decode cX0_layBases 118 = .ok (.iastore, 1) := by decide +kernel
theorem dX0_layBases_119 : decode cX0_layBases 119 = .ok (.return_, 1) := by decide +kernel
theorem dX0_addBase_0 : decode cX0_addBase 0 = .ok (.aload_n 0, 1) := by decide +kernel
theorem dX0_addBase_1 : decode cX0_addBase 1 = .ok (.getfield 30, 3) := by decide +kernel
theorem dX0_addBase_4 : decode cX0_addBase 4 = .ok (.ifCond .lt 42, 3) := by decide +kernel
theorem dX0_addBase_7 : decode cX0_addBase 7 = .ok (.aload_n 0, 1) := by decide +kernel
theorem dX0_addBase_8 : decode cX0_addBase 8 = .ok (.getfield 30, 3) := by decide +kernel
theorem dX0_addBase_11 : decode cX0_addBase 11 = .ok (.bipush 120, 2) := by decide +kernel
theorem dX0_addBase_13 : decode cX0_addBase 13 = .ok (.if_icmp .ge 33, 3) := by decide +kernel
theorem dX0_addBase_16 : decode cX0_addBase 16 = .ok (.aload_n 0, 1) := by decide +kernel
theorem dX0_addBase_17 : decode cX0_addBase 17 = .ok (.getfield 21, 3) := by decide +kernel
theorem dX0_addBase_20 : decode cX0_addBase 20 = .ok (.aload_n 0, 1) := by decide +kernel
theorem dX0_addBase_21 : decode cX0_addBase 21 = .ok (.getfield 30, 3) := by decide +kernel
theorem dX0_addBase_24 : decode cX0_addBase 24 = .ok (.iload_n 1, 1) := by decide +kernel
theorem dX0_addBase_25 : decode cX0_addBase 25 = .ok (.iastore, 1) := by decide +kernel
theorem dX0_addBase_26 : decode cX0_addBase 26 = .ok (.aload_n 0, 1) := by decide +kernel
theorem dX0_addBase_27 : decode cX0_addBase 27 = .ok (.getfield 24, 3) := by decide +kernel
theorem dX0_addBase_30 : decode cX0_addBase 30 = .ok (.aload_n 0, 1) := by decide +kernel
theorem dX0_addBase_31 : decode cX0_addBase 31 = .ok (.getfield 30, 3) := by decide +kernel
theorem dX0_addBase_34 : decode cX0_addBase 34 = .ok (.iload_n 2, 1) := by decide +kernel
theorem dX0_addBase_35 : decode cX0_addBase 35 = .ok (.iastore, 1) := by decide +kernel
theorem dX0_addBase_36 : decode cX0_addBase 36 = .ok (.aload_n 0, 1) := by decide +kernel
theorem dX0_addBase_37 : decode cX0_addBase 37 = .ok (.dup, 1) := by decide +kernel
theorem dX0_addBase_38 : decode cX0_addBase 38 = .ok (.getfield 30, 3) := by decide +kernel
theorem dX0_addBase_41 : decode cX0_addBase 41 = .ok (.iconst 1, 1) := by decide +kernel
theorem dX0_addBase_42 : decode cX0_addBase 42 = .ok (.iadd, 1) := by decide +kernel
theorem dX0_addBase_43 : decode cX0_addBase 43 = .ok (.putfield 30, 3) := by decide +kernel
theorem dX0_addBase_46 : decode cX0_addBase 46 = .ok (.return_, 1) := by decide +kernel
theorem dX0_closeBays_0 : decode cX0_closeBays 0 = .ok (.aload_n 0, 1) := by decide +kernel
theorem dX0_closeBays_1 : decode cX0_closeBays 1 = .ok (.getfield 9, 3) := by decide +kernel
theorem dX0_closeBays_4 : decode cX0_closeBays 4 = .ok (.bipush (-9), 2) := by decide +kernel
theorem dX0_closeBays_6 : decode cX0_closeBays 6 = .ok (.invokestatic 76, 3) := by decide +kernel
theorem dX0_closeBays_9 : decode cX0_closeBays 9 = .ok (.iconst 0, 1) := by decide +kernel
theorem dX0_closeBays_10 : decode cX0_closeBays 10 = .ok (.istore_n 3, 1) := by decide +kernel
theorem dX0_closeBays_11 : decode cX0_closeBays 11 = .ok (.iload_n 3, 1) := by decide +kernel
theorem dX0_closeBays_12 : decode cX0_closeBays 12 = .ok (.bipush 120, 2) := by decide +kernel
theorem dX0_closeBays_14 : decode cX0_closeBays 14 = .ok (.if_icmp .ge 46, 3) := by decide +kernel
theorem dX0_closeBays_17 : decode cX0_closeBays 17 = .ok (.aload_n 1, 1) := by decide +kernel
theorem dX0_closeBays_18 : decode cX0_closeBays 18 = .ok (.iload_n 3, 1) := by decide +kernel
theorem dX0_closeBays_19 : decode cX0_closeBays 19 = .ok (.invokevirtual 66, 3) := by decide +kernel
theorem dX0_closeBays_22 : decode cX0_closeBays 22 = .ok (.istore 4, 2) := by decide +kernel
theorem dX0_closeBays_24 : decode cX0_closeBays 24 = .ok (.iload 4, 2) := by decide +kernel
theorem dX0_closeBays_26 : decode cX0_closeBays 26 = .ok (.iconst 1, 1) := by decide +kernel
theorem dX0_closeBays_27 : decode cX0_closeBays 27 = .ok (.if_icmp .lt 27, 3) := by decide +kernel
theorem dX0_closeBays_30 : decode cX0_closeBays 30 = .ok (.iload 4, 2) := by decide +kernel
theorem dX0_closeBays_32 : decode cX0_closeBays 32 = .ok (.iconst 4, 1) := by decide +kernel
theorem dX0_closeBays_33 : decode cX0_closeBays 33 = .ok (.if_icmp .ge 21, 3) := by decide +kernel
theorem dX0_closeBays_36 : decode cX0_closeBays 36 = .ok (.aload_n 0, 1) := by decide +kernel
theorem dX0_closeBays_37 : decode cX0_closeBays 37 = .ok (.aload_n 1, 1) := by decide +kernel
theorem dX0_closeBays_38 : decode cX0_closeBays 38 = .ok (.iload_n 2, 1) := by decide +kernel
theorem dX0_closeBays_39 : decode cX0_closeBays 39 = .ok (.iload_n 3, 1) := by decide +kernel
theorem dX0_closeBays_40 : decode cX0_closeBays 40 = .ok (.iconst 1, 1) := by decide +kernel
theorem dX0_closeBays_41 : decode cX0_closeBays 41 = .ok (.iconst 0, 1) := by decide +kernel
theorem dX0_closeBays_42 : decode cX0_closeBays 42 = .ok (.invokevirtual 82, 3) := by decide +kernel
theorem dX0_closeBays_45 : decode cX0_closeBays 45 = .ok (.aload_n 0, 1) := by decide +kernel
theorem dX0_closeBays_46 : decode cX0_closeBays 46 = .ok (.aload_n 1, 1) := by decide +kernel
theorem dX0_closeBays_47 : decode cX0_closeBays 47 = .ok (.iload_n 2, 1) := by decide +kernel
theorem dX0_closeBays_48 : decode cX0_closeBays 48 = .ok (.iload_n 3, 1) := by decide +kernel
theorem dX0_closeBays_49 : decode cX0_closeBays 49 = .ok (.iconst 0, 1) := by decide +kernel
theorem dX0_closeBays_50 : decode cX0_closeBays 50 = .ok (.iconst 1, 1) := by decide +kernel
theorem dX0_closeBays_51 : decode cX0_closeBays 51 = .ok (.invokevirtual 82, 3) := by decide +kernel
theorem dX0_closeBays_54 : decode cX0_closeBays 54 = .ok (.iinc 3 1, 3) := by decide +kernel
theorem dX0_closeBays_57 : decode cX0_closeBays 57 = .ok (.goto (-46), 3) := by decide +kernel
theorem dX0_closeBays_60 : decode cX0_closeBays 60 = .ok (.return_, 1) := by decide +kernel
theorem dX0_closeBay_0 : decode cX0_closeBay 0 = .ok (.iload_n 3, 1) := by decide +kernel
theorem dX0_closeBay_1 : decode cX0_closeBay 1 = .ok (.bipush 12, 2) := by decide +kernel
theorem dX0_closeBay_3 : decode cX0_closeBay 3 = .ok (.irem, 1) := by decide +kernel
theorem dX0_closeBay_4 : decode cX0_closeBay 4 = .ok (.istore 6, 2) := by decide +kernel
theorem dX0_closeBay_6 : decode cX0_closeBay 6 = .ok (.iload_n 3, 1) := by decide +kernel
theorem dX0_closeBay_7 : decode cX0_closeBay 7 = .ok (.bipush 12, 2) := by decide +kernel
theorem dX0_closeBay_9 : decode cX0_closeBay 9 = .ok (.idiv, 1) := by decide +kernel
theorem dX0_closeBay_10 : decode cX0_closeBay 10 = .ok (.istore 7, 2) := by decide +kernel
theorem dX0_closeBay_12 : decode cX0_closeBay 12 = .ok (.iconst 0, 1) := by decide +kernel
theorem dX0_closeBay_13 : decode cX0_closeBay 13 = .ok (.istore 8, 2) := by decide +kernel
theorem dX0_closeBay_15 : decode cX0_closeBay 15 = .ok (.iload 8, 2) := by decide +kernel
theorem dX0_closeBay_17 : decode cX0_closeBay 17 = .ok (.iload_n 2, 1) := by decide +kernel
theorem dX0_closeBay_18 : decode cX0_closeBay 18 = .ok (.if_icmp .ge 36, 3) := by decide +kernel
theorem dX0_closeBay_21 : decode cX0_closeBay 21 = .ok (.aload_n 1, 1) := by decide +kernel
theorem dX0_closeBay_22 : decode cX0_closeBay 22 = .ok (.iload 6, 2) := by decide +kernel
theorem dX0_closeBay_24 : decode cX0_closeBay 24 = .ok (.iload 8, 2) := by decide +kernel
theorem dX0_closeBay_26 : decode cX0_closeBay 26 = .ok (.iconst 1, 1) := by decide +kernel
theorem dX0_closeBay_27 : decode cX0_closeBay 27 = .ok (.iadd, 1) := by decide +kernel
theorem dX0_closeBay_28 : decode cX0_closeBay 28 = .ok (.iload 4, 2) := by decide +kernel
theorem dX0_closeBay_30 : decode cX0_closeBay 30 = .ok (.imul, 1) := by decide +kernel
theorem dX0_closeBay_31 : decode cX0_closeBay 31 = .ok (.iadd, 1) := by decide +kernel
theorem dX0_closeBay_32 : decode cX0_closeBay 32 = .ok (.iload 7, 2) := by decide +kernel
theorem dX0_closeBay_34 : decode cX0_closeBay 34 = .ok (.iload 8, 2) := by decide +kernel
theorem dX0_closeBay_36 : decode cX0_closeBay 36 = .ok (.iconst 1, 1) := by decide +kernel
theorem dX0_closeBay_37 : decode cX0_closeBay 37 = .ok (.iadd, 1) := by decide +kernel
theorem dX0_closeBay_38 : decode cX0_closeBay 38 = .ok (.iload 5, 2) := by decide +kernel
theorem dX0_closeBay_40 : decode cX0_closeBay 40 = .ok (.imul, 1) := by decide +kernel
theorem dX0_closeBay_41 : decode cX0_closeBay 41 = .ok (.iadd, 1) := by decide +kernel
theorem dX0_closeBay_42 : decode cX0_closeBay 42 = .ok (.invokevirtual 86, 3) := by decide +kernel
theorem dX0_closeBay_45 : decode cX0_closeBay 45 = .ok (.ifCond .ne 9, 3) := by decide +kernel
theorem dX0_closeBay_48 : decode cX0_closeBay 48 = .ok (.iinc 8 1, 3) := by decide +kernel
theorem dX0_closeBay_51 : decode cX0_closeBay 51 = .ok (.goto (-36), 3) := by decide +kernel
theorem dX0_closeBay_54 : decode cX0_closeBay 54 = .ok (.aload_n 1, 1) := by decide +kernel
theorem dX0_closeBay_55 : decode cX0_closeBay 55 = .ok (.iload_n 3, 1) := by decide +kernel
theorem dX0_closeBay_56 : decode cX0_closeBay 56 = .ok (.invokevirtual 66, 3) := by decide +kernel
theorem dX0_closeBay_59 : decode cX0_closeBay 59 = .ok (.istore 9, 2) := by decide +kernel
theorem dX0_closeBay_61 : decode cX0_closeBay 61 = .ok (.aload_n 1, 1) := by decide +kernel
theorem dX0_closeBay_62 : decode cX0_closeBay 62 = .ok (.iload 6, 2) := by decide +kernel
theorem dX0_closeBay_64 : decode cX0_closeBay 64 = .ok (.iload 8, 2) := by decide +kernel
theorem dX0_closeBay_66 : decode cX0_closeBay 66 = .ok (.iconst 1, 1) := by decide +kernel
theorem dX0_closeBay_67 : decode cX0_closeBay 67 = .ok (.iadd, 1) := by decide +kernel
theorem dX0_closeBay_68 : decode cX0_closeBay 68 = .ok (.iload 4, 2) := by decide +kernel
theorem dX0_closeBay_70 : decode cX0_closeBay 70 = .ok (.imul, 1) := by decide +kernel
theorem dX0_closeBay_71 : decode cX0_closeBay 71 = .ok (.iadd, 1) := by decide +kernel
theorem dX0_closeBay_72 : decode cX0_closeBay 72 = .ok (.iload 7, 2) := by decide +kernel
theorem dX0_closeBay_74 : decode cX0_closeBay 74 = .ok (.iload 8, 2) := by decide +kernel
theorem dX0_closeBay_76 : decode cX0_closeBay 76 = .ok (.iconst 1, 1) := by decide +kernel
theorem dX0_closeBay_77 : decode cX0_closeBay 77 = .ok (.iadd, 1) := by decide +kernel
theorem dX0_closeBay_78 : decode cX0_closeBay 78 = .ok (.iload 5, 2) := by decide +kernel
theorem dX0_closeBay_80 : decode cX0_closeBay 80 = .ok (.imul, 1) := by decide +kernel
theorem dX0_closeBay_81 : decode cX0_closeBay 81 = .ok (.iadd, 1) := by decide +kernel
theorem dX0_closeBay_82 : decode cX0_closeBay 82 = .ok (.invokevirtual 86, 3) := by decide +kernel
theorem dX0_closeBay_85 : decode cX0_closeBay 85 = .ok (.iload 9, 2) := by decide +kernel
theorem dX0_closeBay_87 : decode cX0_closeBay 87 = .ok (.if_icmp .ne 46, 3) := by decide +kernel
theorem dX0_closeBay_90 : decode cX0_closeBay 90 = .ok (.iconst 1, 1) := by decide +kernel
theorem dX0_closeBay_91 : decode cX0_closeBay 91 = .ok (.istore 10, 2) := by decide +kernel
theorem dX0_closeBay_93 : decode cX0_closeBay 93 = .ok (.iload 10, 2) := by decide +kernel
theorem dX0_closeBay_95 : decode cX0_closeBay 95 = .ok (.iload 8, 2) := by decide +kernel
theorem dX0_closeBay_97 : decode cX0_closeBay 97 = .ok (.if_icmp .gt 36, 3) := by decide +kernel
theorem dX0_closeBay_100 : decode cX0_closeBay 100 = .ok (.aload_n 0, 1) := by decide +kernel
theorem dX0_closeBay_101 : decode cX0_closeBay 101 = .ok (.iload 6, 2) := by decide +kernel
theorem dX0_closeBay_103 : decode cX0_closeBay 103 = .ok (.iload 10, 2) := by decide +kernel
theorem dX0_closeBay_105 : decode cX0_closeBay 105 = .ok (.iload 4, 2) := by decide +kernel
theorem dX0_closeBay_107 : decode cX0_closeBay 107 = .ok (.imul, 1) := by decide +kernel
theorem dX0_closeBay_108 : decode cX0_closeBay 108 = .ok (.iadd, 1) := by decide +kernel
theorem dX0_closeBay_109 : decode cX0_closeBay 109 = .ok (.iload 7, 2) := by decide +kernel
theorem dX0_closeBay_111 : decode cX0_closeBay 111 = .ok (.iload 10, 2) := by decide +kernel
theorem dX0_closeBay_113 : decode cX0_closeBay 113 = .ok (.iload 5, 2) := by decide +kernel
theorem dX0_closeBay_115 : decode cX0_closeBay 115 = .ok (.imul, 1) := by decide +kernel
theorem dX0_closeBay_116 : decode cX0_closeBay 116 = .ok (.iadd, 1) := by decide +kernel
theorem dX0_closeBay_117 : decode cX0_closeBay 117 = .ok (.invokestatic 90, 3) := by decide +kernel
theorem dX0_closeBay_120 : decode cX0_closeBay 120 = .ok (.iload 9, 2) := by decide +kernel
theorem dX0_closeBay_122 : decode cX0_closeBay 122 = .ok (.iconst 1, 1) := by decide +kernel
theorem dX0_closeBay_123 : decode cX0_closeBay 123 = .ok (.isub, 1) := by decide +kernel
theorem dX0_closeBay_124 : decode cX0_closeBay 124 = .ok (.invokevirtual 93, 3) := by decide +kernel
theorem dX0_closeBay_127 : decode cX0_closeBay 127 = .ok (.iinc 10 1, 3) := by decide +kernel
theorem dX0_closeBay_130 : decode cX0_closeBay 130 = .ok (.goto (-37), 3) := by decide +kernel
theorem dX0_closeBay_133 : decode cX0_closeBay 133 = .ok (.return_, 1) := by decide +kernel
theorem dX0_markInner_0 : decode cX0_markInner 0 = .ok (.iload_n 1, 1) := by decide +kernel
theorem dX0_markInner_1 : decode cX0_markInner 1 = .ok (.ifCond .lt 37, 3) := by decide +kernel
theorem dX0_markInner_4 : decode cX0_markInner 4 = .ok (.iload_n 1, 1) := by decide +kernel
theorem dX0_markInner_5 : decode cX0_markInner 5 = .ok (.bipush 120, 2) := by decide +kernel
theorem dX0_markInner_7 : decode cX0_markInner 7 = .ok (.if_icmp .ge 31, 3) := by decide +kernel
theorem dX0_markInner_10 : decode cX0_markInner 10 = .ok (.aload_n 0, 1) := by decide +kernel
theorem dX0_markInner_11 : decode cX0_markInner 11 = .ok (.getfield 9, 3) := by decide +kernel
theorem dX0_markInner_14 : decode cX0_markInner 14 = .ok (.iload_n 1, 1) := by decide +kernel
theorem dX0_markInner_15 : decode cX0_markInner 15 = .ok (.iaload, 1) := by decide +kernel
theorem dX0_markInner_16 : decode cX0_markInner 16 = .ok (.bipush (-9), 2) := by decide +kernel
theorem dX0_markInner_18 : decode cX0_markInner 18 = .ok (.if_icmp .eq 13, 3) := by decide +kernel
theorem dX0_markInner_21 : decode cX0_markInner 21 = .ok (.iload_n 2, 1) := by decide +kernel
theorem dX0_markInner_22 : decode cX0_markInner 22 = .ok (.aload_n 0, 1) := by decide +kernel
theorem dX0_markInner_23 : decode cX0_markInner 23 = .ok (.getfield 9, 3) := by decide +kernel
theorem dX0_markInner_26 : decode cX0_markInner 26 = .ok (.iload_n 1, 1) := by decide +kernel
theorem dX0_markInner_27 : decode cX0_markInner 27 = .ok (.iaload, 1) := by decide +kernel
theorem dX0_markInner_28 : decode cX0_markInner 28 = .ok (.if_icmp .ge 10, 3) := by decide +kernel
theorem dX0_markInner_31 : decode cX0_markInner 31 = .ok (.aload_n 0, 1) := by decide +kernel
theorem dX0_markInner_32 : decode cX0_markInner 32 = .ok (.getfield 9, 3) := by decide +kernel
theorem dX0_markInner_35 : decode cX0_markInner 35 = .ok (.iload_n 1, 1) := by decide +kernel
theorem dX0_markInner_36 : decode cX0_markInner 36 = .ok (.iload_n 2, 1) := by decide +kernel
theorem dX0_markInner_37 : decode cX0_markInner 37 = .ok (.iastore, 1) := by decide +kernel
theorem dX0_markInner_38 : decode cX0_markInner 38 = .ok (.return_, 1) := by decide +kernel
theorem dX0_measure_0 : decode cX0_measure 0 = .ok (.iconst 0, 1) := by decide +kernel
theorem dX0_measure_1 : decode cX0_measure 1 = .ok (.istore_n 2, 1) := by decide +kernel
theorem dX0_measure_2 : decode cX0_measure 2 = .ok (.iload_n 2, 1) := by decide +kernel
theorem dX0_measure_3 : decode cX0_measure 3 = .ok (.bipush 120, 2) := by decide +kernel
theorem dX0_measure_5 : decode cX0_measure 5 = .ok (.if_icmp .ge 76, 3) := by decide +kernel
theorem dX0_measure_8 : decode cX0_measure 8 = .ok (.aload_n 1, 1) := by decide +kernel
theorem dX0_measure_9 : decode cX0_measure 9 = .ok (.iload_n 2, 1) := by decide +kernel
theorem dX0_measure_10 : decode cX0_measure 10 = .ok (.invokevirtual 66, 3) := by decide +kernel
theorem dX0_measure_13 : decode cX0_measure 13 = .ok (.ifCond .ne 62, 3) := by decide +kernel
theorem dX0_measure_16 : decode cX0_measure 16 = .ok (.aload_n 0, 1) := by decide +kernel
theorem dX0_measure_17 : decode cX0_measure 17 = .ok (.getfield 9, 3) := by decide +kernel
theorem dX0_measure_20 : decode cX0_measure 20 = .ok (.iload_n 2, 1) := by decide +kernel
theorem dX0_measure_21 : decode cX0_measure 21 = .ok (.iaload, 1) := by decide +kernel
theorem dX0_measure_22 : decode cX0_measure 22 = .ok (.bipush (-9), 2) := by decide +kernel
theorem dX0_measure_24 : decode cX0_measure 24 = .ok (.if_icmp .ne 51, 3) := by decide +kernel
theorem dX0_measure_27 : decode cX0_measure 27 = .ok (.iconst 0, 1) := by decide +kernel
theorem dX0_measure_28 : decode cX0_measure 28 = .ok (.istore_n 3, 1) := by decide +kernel
theorem dX0_measure_29 : decode cX0_measure 29 = .ok (.iload_n 3, 1) := by decide +kernel
theorem dX0_measure_30 : decode cX0_measure 30 = .ok (.iconst 3, 1) := by decide +kernel
theorem dX0_measure_31 : decode cX0_measure 31 = .ok (.if_icmp .ge 44, 3) := by decide +kernel
theorem dX0_measure_34 : decode cX0_measure 34 = .ok (.aload_n 0, 1) := by decide +kernel
theorem dX0_measure_35 : decode cX0_measure 35 = .ok (.iload_n 2, 1) := by decide +kernel
theorem dX0_measure_36 : decode cX0_measure 36 = .ok (.iload_n 3, 1) := by decide +kernel
theorem dX0_measure_37 : decode cX0_measure 37 = .ok (.invokevirtual 96, 3) := by decide +kernel
theorem dX0_measure_40 : decode cX0_measure 40 = .ok (.istore 4, 2) := by decide +kernel
theorem dX0_measure_42 : decode cX0_measure 42 = .ok (.aload_n 0, 1) := by decide +kernel
theorem dX0_measure_43 : decode cX0_measure 43 = .ok (.getfield 18, 3) := by decide +kernel
theorem dX0_measure_46 : decode cX0_measure 46 = .ok (.iload_n 2, 1) := by decide +kernel
theorem dX0_measure_47 : decode cX0_measure 47 = .ok (.iconst 3, 1) := by decide +kernel
theorem dX0_measure_48 : decode cX0_measure 48 = .ok (.imul, 1) := by decide +kernel
theorem dX0_measure_49 : decode cX0_measure 49 = .ok (.iload_n 3, 1) := by decide +kernel
theorem dX0_measure_50 : decode cX0_measure 50 = .ok (.iadd, 1) := by decide +kernel
theorem dX0_measure_51 : decode cX0_measure 51 = .ok (.iload 4, 2) := by decide +kernel
theorem dX0_measure_53 : decode cX0_measure 53 = .ok (.ifCond .ge 8, 3) := by decide +kernel
theorem dX0_measure_56 : decode cX0_measure 56 = .ok (.bipush (-9), 2) := by decide +kernel
theorem dX0_measure_58 : decode cX0_measure 58 = .ok (.goto 10, 3) := by decide +kernel
theorem dX0_measure_61 : decode cX0_measure 61 = .ok (.aload_n 0, 1) := by decide +kernel
theorem dX0_measure_62 : decode cX0_measure 62 = .ok (.iload_n 2, 1) := by decide +kernel
theorem dX0_measure_63 : decode cX0_measure 63 = .ok (.iload 4, 2) := by decide +kernel
theorem dX0_measure_65 : decode cX0_measure 65 = .ok (.invokevirtual 99, 3) := by decide +kernel
theorem dX0_measure_68 : decode cX0_measure 68 = .ok (.iastore, 1) := by decide +kernel
theorem dX0_measure_69 : decode cX0_measure 69 = .ok (.iinc 3 1, 3) := by decide +kernel
theorem dX0_measure_72 : decode cX0_measure 72 = .ok (.goto (-43), 3) := by decide +kernel
theorem dX0_measure_75 : decode cX0_measure 75 = .ok (.iinc 2 1, 3) := by decide +kernel
theorem dX0_measure_78 : decode cX0_measure 78 = .ok (.goto (-76), 3) := by decide +kernel
theorem dX0_measure_81 : decode cX0_measure 81 = .ok (.return_, 1) := by decide +kernel
theorem dX0_shareOut_0 : decode cX0_shareOut 0 = .ok (.aload_n 0, 1) := by decide +kernel
theorem dX0_shareOut_1 : decode cX0_shareOut 1 = .ok (.iconst 0, 1) := by decide +kernel
theorem dX0_shareOut_2 : decode cX0_shareOut 2 = .ok (.putfield 34, 3) := by decide +kernel
theorem dX0_shareOut_5 : decode cX0_shareOut 5 = .ok (.iconst 0, 1) := by decide +kernel
theorem dX0_shareOut_6 : decode cX0_shareOut 6 = .ok (.istore 4, 2) := by decide +kernel
theorem dX0_shareOut_8 : decode cX0_shareOut 8 = .ok (.iload 4, 2) := by decide +kernel
theorem dX0_shareOut_10 : decode cX0_shareOut 10 = .ok (.bipush 120, 2) := by decide +kernel
theorem dX0_shareOut_12 : decode cX0_shareOut 12 = .ok (.if_icmp .ge 76, 3) := by decide +kernel
theorem dX0_shareOut_15 : decode cX0_shareOut 15 = .ok (.aload_n 1, 1) := by decide +kernel
theorem dX0_shareOut_16 : decode cX0_shareOut 16 = .ok (.iload 4, 2) := by decide +kernel
theorem dX0_shareOut_18 : decode cX0_shareOut 18 = .ok (.invokevirtual 66, 3) := by decide +kernel
theorem dX0_shareOut_21 : decode cX0_shareOut 21 = .ok (.ifCond .eq 15, 3) := by decide +kernel
theorem dX0_shareOut_24 : decode cX0_shareOut 24 = .ok (.aload_n 0, 1) := by decide +kernel
theorem dX0_shareOut_25 : decode cX0_shareOut 25 = .ok (.getfield 15, 3) := by decide +kernel
theorem dX0_shareOut_28 : decode cX0_shareOut 28 = .ok (.iload 4, 2) := by decide +kernel
theorem dX0_shareOut_30 : decode cX0_shareOut 30 = .ok (.bipush (-9), 2) := by decide +kernel
theorem dX0_shareOut_32 : decode cX0_shareOut 32 = .ok (.iastore, 1) := by decide +kernel
theorem dX0_shareOut_33 : decode cX0_shareOut 33 = .ok (.goto 49, 3) := by decide +kernel
theorem dX0_shareOut_36 : decode cX0_shareOut 36 = .ok (.aload_n 0, 1) := by decide +kernel
theorem dX0_shareOut_37 : decode cX0_shareOut 37 = .ok (.getfield 9, 3) := by decide +kernel
theorem dX0_shareOut_40 : decode cX0_shareOut 40 = .ok (.iload 4, 2) := by decide +kernel
theorem dX0_shareOut_42 : decode cX0_shareOut 42 = .ok (.iaload, 1) := by decide +kernel
theorem dX0_shareOut_43 : decode cX0_shareOut 43 = .ok (.bipush (-9), 2) := by decide +kernel
theorem dX0_shareOut_45 : decode cX0_shareOut 45 = .ok (.if_icmp .eq 20, 3) := by decide +kernel
theorem dX0_shareOut_48 : decode cX0_shareOut 48 = .ok (.aload_n 0, 1) := by decide +kernel
theorem dX0_shareOut_49 : decode cX0_shareOut 49 = .ok (.getfield 15, 3) := by decide +kernel
theorem dX0_shareOut_52 : decode cX0_shareOut 52 = .ok (.iload 4, 2) := by decide +kernel
theorem dX0_shareOut_54 : decode cX0_shareOut 54 = .ok (.aload_n 0, 1) := by decide +kernel
theorem dX0_shareOut_55 : decode cX0_shareOut 55 = .ok (.getfield 9, 3) := by decide +kernel
theorem dX0_shareOut_58 : decode cX0_shareOut 58 = .ok (.iload 4, 2) := by decide +kernel
theorem dX0_shareOut_60 : decode cX0_shareOut 60 = .ok (.iaload, 1) := by decide +kernel
theorem dX0_shareOut_61 : decode cX0_shareOut 61 = .ok (.iastore, 1) := by decide +kernel
theorem dX0_shareOut_62 : decode cX0_shareOut 62 = .ok (.goto 20, 3) := by decide +kernel
theorem dX0_shareOut_65 : decode cX0_shareOut 65 = .ok (.aload_n 0, 1) := by decide +kernel
theorem dX0_shareOut_66 : decode cX0_shareOut 66 = .ok (.getfield 15, 3) := by decide +kernel
theorem dX0_shareOut_69 : decode cX0_shareOut 69 = .ok (.iload 4, 2) := by decide +kernel
theorem dX0_shareOut_71 : decode cX0_shareOut 71 = .ok (.aload_n 0, 1) := by decide +kernel
theorem dX0_shareOut_72 : decode cX0_shareOut 72 = .ok (.iload 4, 2) := by decide +kernel
theorem dX0_shareOut_74 : decode cX0_shareOut 74 = .ok (.iload_n 2, 1) := by decide +kernel
theorem dX0_shareOut_75 : decode cX0_shareOut 75 = .ok (.iload_n 2, 1) := by decide +kernel
theorem dX0_shareOut_76 : decode cX0_shareOut 76 = .ok (.imul, 1) := by decide +kernel
theorem dX0_shareOut_77 : decode cX0_shareOut 77 = .ok (.iload_n 3, 1) := by decide +kernel
theorem dX0_shareOut_78 : decode cX0_shareOut 78 = .ok (.invokevirtual 102, 3) := by decide +kernel
theorem dX0_shareOut_81 : decode cX0_shareOut 81 = .ok (.iastore, 1) := by decide +kernel
theorem dX0_shareOut_82 : decode cX0_shareOut 82 = .ok (.iinc 4 1, 3) := by decide +kernel
theorem dX0_shareOut_85 : decode cX0_shareOut 85 = .ok (.goto (-77), 3) := by decide +kernel
theorem dX0_shareOut_88 : decode cX0_shareOut 88 = .ok (.return_, 1) := by decide +kernel
theorem dX0_nearestLand_0 : decode cX0_nearestLand 0 = .ok (.bipush (-3), 2) := by decide +kernel
theorem dX0_nearestLand_2 : decode cX0_nearestLand 2 = .ok (.istore 4, 2) := by decide +kernel
theorem dX0_nearestLand_4 : decode cX0_nearestLand 4 = .ok (.iconst 0, 1) := by decide +kernel
theorem dX0_nearestLand_5 : decode cX0_nearestLand 5 = .ok (.istore 5, 2) := by decide +kernel
theorem dX0_nearestLand_7 : decode cX0_nearestLand 7 = .ok (.iconst 0, 1) := by decide +kernel
theorem dX0_nearestLand_8 : decode cX0_nearestLand 8 = .ok (.istore 6, 2) := by decide +kernel
theorem dX0_nearestLand_10 : decode cX0_nearestLand 10 = .ok (.iconst 0, 1) := by decide +kernel
theorem dX0_nearestLand_11 : decode cX0_nearestLand 11 = .ok (.istore 7, 2) := by decide +kernel
theorem dX0_nearestLand_13 : decode cX0_nearestLand 13 = .ok (.iload 7, 2) := by decide +kernel
theorem dX0_nearestLand_15 : decode cX0_nearestLand 15 = .ok (.iconst 3, 1) := by decide +kernel
theorem dX0_nearestLand_16 : decode cX0_nearestLand 16 = .ok (.if_icmp .ge 82, 3) := by decide +kernel
theorem dX0_nearestLand_19 : decode cX0_nearestLand 19 = .ok (.aload_n 0, 1) := by decide +kernel
theorem dX0_nearestLand_20 : decode cX0_nearestLand 20 = .ok (.iload_n 1, 1) := by decide +kernel
theorem dX0_nearestLand_21 : decode cX0_nearestLand 21 = .ok (.iload 7, 2) := by decide +kernel
theorem dX0_nearestLand_23 : decode cX0_nearestLand 23 = .ok (.invokevirtual 106, 3) := by decide +kernel
theorem dX0_nearestLand_26 : decode cX0_nearestLand 26 = .ok (.istore 8, 2) := by decide +kernel
theorem dX0_nearestLand_28 : decode cX0_nearestLand 28 = .ok (.iload 8, 2) := by decide +kernel
theorem dX0_nearestLand_30 : decode cX0_nearestLand 30 = .ok (.ifCond .lt 62, 3) := by decide +kernel
theorem dX0_nearestLand_33 : decode cX0_nearestLand 33 = .ok (.iload 8, 2) := by decide +kernel
theorem dX0_nearestLand_35 : decode cX0_nearestLand 35 = .ok (.iload_n 2, 1) := by decide +kernel
theorem dX0_nearestLand_36 : decode cX0_nearestLand 36 = .ok (.if_icmp .gt 56, 3) := by decide +kernel
theorem dX0_nearestLand_39 : decode cX0_nearestLand 39 = .ok (.iload 8, 2) := by decide +kernel
theorem dX0_nearestLand_41 : decode cX0_nearestLand 41 = .ok (.iload 7, 2) := by decide +kernel
theorem dX0_nearestLand_43 : decode cX0_nearestLand 43 = .ok (.iload_n 3, 1) := by decide +kernel
theorem dX0_nearestLand_44 : decode cX0_nearestLand 44 = .ok (.invokestatic 109, 3) := by decide +kernel
theorem dX0_nearestLand_47 : decode cX0_nearestLand 47 = .ok (.imul, 1) := by decide +kernel
theorem dX0_nearestLand_48 : decode cX0_nearestLand 48 = .ok (.istore 9, 2) := by decide +kernel
theorem dX0_nearestLand_50 : decode cX0_nearestLand 50 = .ok (.iload 4, 2) := by decide +kernel
theorem dX0_nearestLand_52 : decode cX0_nearestLand 52 = .ok (.bipush (-3), 2) := by decide +kernel
theorem dX0_nearestLand_54 : decode cX0_nearestLand 54 = .ok (.if_icmp .eq 10, 3) := by decide +kernel
theorem dX0_nearestLand_57 : decode cX0_nearestLand 57 = .ok (.iload 9, 2) := by decide +kernel
theorem dX0_nearestLand_59 : decode cX0_nearestLand 59 = .ok (.iload 5, 2) := by decide +kernel
theorem dX0_nearestLand_61 : decode cX0_nearestLand 61 = .ok (.if_icmp .ge 17, 3) := by decide +kernel
theorem dX0_nearestLand_64 : decode cX0_nearestLand 64 = .ok (.iload 7, 2) := by decide +kernel
theorem dX0_nearestLand_66 : decode cX0_nearestLand 66 = .ok (.istore 4, 2) := by decide +kernel
theorem dX0_nearestLand_68 : decode cX0_nearestLand 68 = .ok (.iload 9, 2) := by decide +kernel
theorem dX0_nearestLand_70 : decode cX0_nearestLand 70 = .ok (.istore 5, 2) := by decide +kernel
theorem dX0_nearestLand_72 : decode cX0_nearestLand 72 = .ok (.iconst 1, 1) := by decide +kernel
theorem dX0_nearestLand_73 : decode cX0_nearestLand 73 = .ok (.istore 6, 2) := by decide +kernel
theorem dX0_nearestLand_75 : decode cX0_nearestLand 75 = .ok (.goto 17, 3) := by decide +kernel
theorem dX0_nearestLand_78 : decode cX0_nearestLand 78 = .ok (.iload 9, 2) := by decide +kernel
theorem dX0_nearestLand_80 : decode cX0_nearestLand 80 = .ok (.iload 5, 2) := by decide +kernel
theorem dX0_nearestLand_82 : decode cX0_nearestLand 82 = .ok (.if_icmp .ne 10, 3) := by decide +kernel
theorem dX0_nearestLand_85 : decode cX0_nearestLand 85 = .ok (.bipush (-2), 2) := by decide +kernel
theorem dX0_nearestLand_87 : decode cX0_nearestLand 87 = .ok (.istore 4, 2) := by decide +kernel
theorem dX0_nearestLand_89 : decode cX0_nearestLand 89 = .ok (.iinc 6 1, 3) := by decide +kernel
theorem dX0_nearestLand_92 : decode cX0_nearestLand 92 = .ok (.iinc 7 1, 3) := by decide +kernel
theorem dX0_nearestLand_95 : decode cX0_nearestLand 95 = .ok (.goto (-82), 3) := by decide +kernel
theorem dX0_nearestLand_98 : decode cX0_nearestLand 98 = .ok (.iload 6, 2) := by decide +kernel
theorem dX0_nearestLand_100 : decode cX0_nearestLand 100 = .ok (.iconst 3, 1) := by decide +kernel
theorem dX0_nearestLand_101 : decode cX0_nearestLand 101 = .ok (.if_icmp .ne 13, 3) := by decide +kernel
theorem dX0_nearestLand_104 : decode cX0_nearestLand 104 = .ok (.aload_n 0, 1) := by decide +kernel
theorem dX0_nearestLand_105 : decode cX0_nearestLand 105 = .ok (.dup, 1) := by decide +kernel
theorem dX0_nearestLand_106 : decode cX0_nearestLand 106 = .ok (.getfield 34, 3) := by decide +kernel
theorem dX0_nearestLand_109 : decode cX0_nearestLand 109 = .ok (.iconst 1, 1) := by decide +kernel
theorem dX0_nearestLand_110 : decode cX0_nearestLand 110 = .ok (.iadd, 1) := by decide +kernel
theorem dX0_nearestLand_111 : decode cX0_nearestLand 111 = .ok (.putfield 34, 3) := by decide +kernel
theorem dX0_nearestLand_114 : decode cX0_nearestLand 114 = .ok (.iload 4, 2) := by decide +kernel
theorem dX0_nearestLand_116 : decode cX0_nearestLand 116 = .ok (.ireturn, 1) := by decide +kernel
theorem dX0_percent_0 : decode cX0_percent 0 = .ok (.iload_n 0, 1) := by decide +kernel
theorem dX0_percent_1 : decode cX0_percent 1 = .ok (.ifCond .ne 8, 3) := by decide +kernel
theorem dX0_percent_4 : decode cX0_percent 4 = .ok (.bipush 100, 2) := by decide +kernel
theorem dX0_percent_6 : decode cX0_percent 6 = .ok (.iload_n 1, 1) := by decide +kernel
theorem dX0_percent_7 : decode cX0_percent 7 = .ok (.isub, 1) := by decide +kernel
theorem dX0_percent_8 : decode cX0_percent 8 = .ok (.ireturn, 1) := by decide +kernel
theorem dX0_percent_9 : decode cX0_percent 9 = .ok (.iload_n 0, 1) := by decide +kernel
theorem dX0_percent_10 : decode cX0_percent 10 = .ok (.iconst 1, 1) := by decide +kernel
theorem dX0_percent_11 : decode cX0_percent 11 = .ok (.if_icmp .ne 10, 3) := by decide +kernel
theorem dX0_percent_14 : decode cX0_percent 14 = .ok (.bipush 100, 2) := by decide +kernel
theorem dX0_percent_16 : decode cX0_percent 16 = .ok (.iload_n 1, 1) := by decide +kernel
theorem dX0_percent_17 : decode cX0_percent 17 = .ok (.iadd, 1) := by decide +kernel
theorem dX0_percent_18 : decode cX0_percent 18 = .ok (.goto 5, 3) := by decide +kernel
theorem dX0_percent_21 : decode cX0_percent 21 = .ok (.bipush 100, 2) := by decide +kernel
theorem dX0_percent_23 : decode cX0_percent 23 = .ok (.ireturn, 1) := by decide +kernel
theorem dX0_nearOf_0 : decode cX0_nearOf 0 = .ok (.iload_n 1, 1) := by decide +kernel
theorem dX0_nearOf_1 : decode cX0_nearOf 1 = .ok (.iconst 3, 1) := by decide +kernel
theorem dX0_nearOf_2 : decode cX0_nearOf 2 = .ok (.imul, 1) := by decide +kernel
theorem dX0_nearOf_3 : decode cX0_nearOf 3 = .ok (.iload_n 2, 1) := by decide +kernel
theorem dX0_nearOf_4 : decode cX0_nearOf 4 = .ok (.iadd, 1) := by decide +kernel
theorem dX0_nearOf_5 : decode cX0_nearOf 5 = .ok (.istore_n 3, 1) := by decide +kernel
theorem dX0_nearOf_6 : decode cX0_nearOf 6 = .ok (.iload_n 3, 1) := by decide +kernel
theorem dX0_nearOf_7 : decode cX0_nearOf 7 = .ok (.ifCond .lt 21, 3) := by decide +kernel
theorem dX0_nearOf_10 : decode cX0_nearOf 10 = .ok (.iload_n 3, 1) := by decide +kernel
theorem dX0_nearOf_11 : decode cX0_nearOf 11 = .ok (.aload_n 0, 1) := by decide +kernel
theorem dX0_nearOf_12 : decode cX0_nearOf 12 = .ok (.getfield 18, 3) := by decide +kernel
theorem dX0_nearOf_15 : decode cX0_nearOf 15 = .ok (.arraylength, 1) := by decide +kernel
theorem dX0_nearOf_16 : decode cX0_nearOf 16 = .ok (.if_icmp .ge 12, 3) := by decide +kernel
theorem dX0_nearOf_19 : decode cX0_nearOf 19 = .ok (.aload_n 0, 1) := by decide +kernel
theorem dX0_nearOf_20 : decode cX0_nearOf 20 = .ok (.getfield 18, 3) := by decide +kernel
theorem dX0_nearOf_23 : decode cX0_nearOf 23 = .ok (.iload_n 3, 1) := by decide +kernel
theorem dX0_nearOf_24 : decode cX0_nearOf 24 = .ok (.iaload, 1) := by decide +kernel
theorem dX0_nearOf_25 : decode cX0_nearOf 25 = .ok (.goto 5, 3) := by decide +kernel
theorem dX0_nearOf_28 : decode cX0_nearOf 28 = .ok (.bipush (-9), 2) := by decide +kernel
theorem dX0_nearOf_30 : decode cX0_nearOf 30 = .ok (.ireturn, 1) := by decide +kernel
theorem dX0_nearestBase_0 : decode cX0_nearestBase 0 = .ok (.iload_n 2, 1) := by decide +kernel
theorem dX0_nearestBase_1 : decode cX0_nearestBase 1 = .ok (.invokestatic 112, 3) := by decide +kernel
theorem dX0_nearestBase_4 : decode cX0_nearestBase 4 = .ok (.ifCond .ne 5, 3) := by decide +kernel
theorem dX0_nearestBase_7 : decode cX0_nearestBase 7 = .ok (.iconst (-1), 1) := by decide +kernel
theorem dX0_nearestBase_8 : decode cX0_nearestBase 8 = .ok (.ireturn, 1) := by decide +kernel
theorem dX0_nearestBase_9 : decode cX0_nearestBase 9 = .ok (.iconst (-1), 1) := by decide +kernel
theorem dX0_nearestBase_10 : decode cX0_nearestBase 10 = .ok (.istore_n 3, 1) := by decide +kernel
theorem dX0_nearestBase_11 : decode cX0_nearestBase 11 = .ok (.iconst 0, 1) := by decide +kernel
theorem dX0_nearestBase_12 : decode cX0_nearestBase 12 = .ok (.istore 4, 2) := by decide +kernel
theorem dX0_nearestBase_14 : decode cX0_nearestBase 14 = .ok (.aload_n 0, 1) := by decide +kernel
theorem dX0_nearestBase_15 : decode cX0_nearestBase 15 = .ok (.getfield 27, 3) := by decide +kernel
theorem dX0_nearestBase_18 : decode cX0_nearestBase 18 = .ok (.iload_n 2, 1) := by decide +kernel
theorem dX0_nearestBase_19 : decode cX0_nearestBase 19 = .ok (.iaload, 1) := by decide +kernel
theorem dX0_nearestBase_20 : decode cX0_nearestBase 20 = .ok (.istore 5, 2) := by decide +kernel
theorem dX0_nearestBase_22 : decode cX0_nearestBase 22 = .ok (.iload 5, 2) := by decide +kernel
theorem dX0_nearestBase_24 : decode cX0_nearestBase 24 = .ok (.aload_n 0, 1) := by decide +kernel
theorem dX0_nearestBase_25 : decode cX0_nearestBase 25 = .ok (.getfield 27, 3) := by decide +kernel
theorem dX0_nearestBase_28 : decode cX0_nearestBase 28 = .ok (.iload_n 2, 1) := by decide +kernel
theorem dX0_nearestBase_29 : decode cX0_nearestBase 29 = .ok (.iconst 1, 1) := by decide +kernel
theorem dX0_nearestBase_30 : decode cX0_nearestBase 30 = .ok (.iadd, 1) := by decide +kernel
theorem dX0_nearestBase_31 : decode cX0_nearestBase 31 = .ok (.iaload, 1) := by decide +kernel
theorem dX0_nearestBase_32 : decode cX0_nearestBase 32 = .ok (.if_icmp .ge 36, 3) := by decide +kernel
theorem dX0_nearestBase_35 : decode cX0_nearestBase 35 = .ok (.aload_n 0, 1) := by decide +kernel
theorem dX0_nearestBase_36 : decode cX0_nearestBase 36 = .ok (.iload_n 1, 1) := by decide +kernel
theorem dX0_nearestBase_37 : decode cX0_nearestBase 37 = .ok (.iload 5, 2) := by decide +kernel
theorem dX0_nearestBase_39 : decode cX0_nearestBase 39 = .ok (.invokevirtual 99, 3) := by decide +kernel
theorem dX0_nearestBase_42 : decode cX0_nearestBase 42 = .ok (.istore 6, 2) := by decide +kernel
theorem dX0_nearestBase_44 : decode cX0_nearestBase 44 = .ok (.iload_n 3, 1) := by decide +kernel
theorem dX0_nearestBase_45 : decode cX0_nearestBase 45 = .ok (.ifCond .lt 10, 3) := by decide +kernel
theorem dX0_nearestBase_48 : decode cX0_nearestBase 48 = .ok (.iload 6, 2) := by decide +kernel
theorem dX0_nearestBase_50 : decode cX0_nearestBase 50 = .ok (.iload 4, 2) := by decide +kernel
theorem dX0_nearestBase_52 : decode cX0_nearestBase 52 = .ok (.if_icmp .ge 10, 3) := by decide +kernel
theorem dX0_nearestBase_55 : decode cX0_nearestBase 55 = .ok (.iload 5, 2) := by decide +kernel
theorem dX0_nearestBase_57 : decode cX0_nearestBase 57 = .ok (.istore_n 3, 1) := by decide +kernel
theorem dX0_nearestBase_58 : decode cX0_nearestBase 58 = .ok (.iload 6, 2) := by decide +kernel
theorem dX0_nearestBase_60 : decode cX0_nearestBase 60 = .ok (.istore 4, 2) := by decide +kernel
theorem dX0_nearestBase_62 : decode cX0_nearestBase 62 = .ok (.iinc 5 1, 3) := by decide +kernel
theorem dX0_nearestBase_65 : decode cX0_nearestBase 65 = .ok (.goto (-43), 3) := by decide +kernel
theorem dX0_nearestBase_68 : decode cX0_nearestBase 68 = .ok (.iload_n 3, 1) := by decide +kernel
theorem dX0_nearestBase_69 : decode cX0_nearestBase 69 = .ok (.ireturn, 1) := by decide +kernel
theorem dX0_squareTo_0 : decode cX0_squareTo 0 = .ok (.iload_n 2, 1) := by decide +kernel
theorem dX0_squareTo_1 : decode cX0_squareTo 1 = .ok (.ifCond .lt 9, 3) := by decide +kernel
theorem dX0_squareTo_4 : decode cX0_squareTo 4 = .ok (.iload_n 2, 1) := by decide +kernel
theorem dX0_squareTo_5 : decode cX0_squareTo 5 = .ok (.bipush 120, 2) := by decide +kernel
theorem dX0_squareTo_7 : decode cX0_squareTo 7 = .ok (.if_icmp .lt 5, 3) := by decide +kernel
theorem dX0_squareTo_10 : decode cX0_squareTo 10 = .ok (.iconst 0, 1) := by decide +kernel
theorem dX0_squareTo_11 : decode cX0_squareTo 11 = .ok (.ireturn, 1) := by decide +kernel
theorem dX0_squareTo_12 : decode cX0_squareTo 12 = .ok (.iload_n 1, 1) := by decide +kernel
theorem dX0_squareTo_13 : decode cX0_squareTo 13 = .ok (.bipush 12, 2) := by decide +kernel
theorem dX0_squareTo_15 : decode cX0_squareTo 15 = .ok (.irem, 1) := by decide +kernel
theorem dX0_squareTo_16 : decode cX0_squareTo 16 = .ok (.aload_n 0, 1) := by decide +kernel
theorem dX0_squareTo_17 : decode cX0_squareTo 17 = .ok (.getfield 21, 3) := by decide +kernel
theorem dX0_squareTo_20 : decode cX0_squareTo 20 = .ok (.iload_n 2, 1) := by decide +kernel
theorem dX0_squareTo_21 : decode cX0_squareTo 21 = .ok (.iaload, 1) := by decide +kernel
theorem dX0_squareTo_22 : decode cX0_squareTo 22 = .ok (.bipush 12, 2) := by decide +kernel
theorem dX0_squareTo_24 : decode cX0_squareTo 24 = .ok (.irem, 1) := by decide +kernel
theorem dX0_squareTo_25 : decode cX0_squareTo 25 = .ok (.isub, 1) := by decide +kernel
theorem dX0_squareTo_26 : decode cX0_squareTo 26 = .ok (.istore_n 3, 1) := by decide +kernel
theorem dX0_squareTo_27 : decode cX0_squareTo 27 = .ok (.iload_n 1, 1) := by decide +kernel
theorem dX0_squareTo_28 : decode cX0_squareTo 28 = .ok (.bipush 12, 2) := by decide +kernel
theorem dX0_squareTo_30 : decode cX0_squareTo 30 = .ok (.idiv, 1) := by decide +kernel
theorem dX0_squareTo_31 : decode cX0_squareTo 31 = .ok (.aload_n 0, 1) := by decide +kernel
theorem dX0_squareTo_32 : decode cX0_squareTo 32 = .ok (.getfield 21, 3) := by decide +kernel
theorem dX0_squareTo_35 : decode cX0_squareTo 35 = .ok (.iload_n 2, 1) := by decide +kernel
theorem dX0_squareTo_36 : decode cX0_squareTo 36 = .ok (.iaload, 1) := by decide +kernel
theorem dX0_squareTo_37 : decode cX0_squareTo 37 = .ok (.bipush 12, 2) := by decide +kernel
theorem dX0_squareTo_39 : decode cX0_squareTo 39 = .ok (.idiv, 1) := by decide +kernel
theorem dX0_squareTo_40 : decode cX0_squareTo 40 = .ok (.isub, 1) := by decide +kernel
theorem dX0_squareTo_41 : decode cX0_squareTo 41 = .ok (.istore 4, 2) := by decide +kernel
theorem dX0_squareTo_43 : decode cX0_squareTo 43 = .ok (.iload_n 3, 1) := by decide +kernel
theorem dX0_squareTo_44 : decode cX0_squareTo 44 = .ok (.iload_n 3, 1) := by decide +kernel
theorem dX0_squareTo_45 : decode cX0_squareTo 45 = .ok (.imul, 1) := by decide +kernel
theorem dX0_squareTo_46 : decode cX0_squareTo 46 = .ok (.iload 4, 2) := by decide +kernel
theorem dX0_squareTo_48 : decode cX0_squareTo 48 = .ok (.iload 4, 2) := by decide +kernel
theorem dX0_squareTo_50 : decode cX0_squareTo 50 = .ok (.imul, 1) := by decide +kernel
theorem dX0_squareTo_51 : decode cX0_squareTo 51 = .ok (.iadd, 1) := by decide +kernel
theorem dX0_squareTo_52 : decode cX0_squareTo 52 = .ok (.aload_n 0, 1) := by decide +kernel
theorem dX0_squareTo_53 : decode cX0_squareTo 53 = .ok (.getfield 24, 3) := by decide +kernel
theorem dX0_squareTo_56 : decode cX0_squareTo 56 = .ok (.iload_n 2, 1) := by decide +kernel
theorem dX0_squareTo_57 : decode cX0_squareTo 57 = .ok (.iaload, 1) := by decide +kernel
theorem dX0_squareTo_58 : decode cX0_squareTo 58 = .ok (.imul, 1) := by decide +kernel
theorem dX0_squareTo_59 : decode cX0_squareTo 59 = .ok (.ireturn, 1) := by decide +kernel
theorem dX0_placeOfBase_0 : decode cX0_placeOfBase 0 = .ok (.iload_n 1, 1) := by decide +kernel
theorem dX0_placeOfBase_1 : decode cX0_placeOfBase 1 = .ok (.ifCond .lt 18, 3) := by decide +kernel
theorem dX0_placeOfBase_4 : decode cX0_placeOfBase 4 = .ok (.iload_n 1, 1) := by decide +kernel
theorem dX0_placeOfBase_5 : decode cX0_placeOfBase 5 = .ok (.bipush 120, 2) := by decide +kernel
theorem dX0_placeOfBase_7 : decode cX0_placeOfBase 7 = .ok (.if_icmp .ge 12, 3) := by decide +kernel
theorem dX0_placeOfBase_10 : decode cX0_placeOfBase 10 = .ok (.aload_n 0, 1) := by decide +kernel
theorem dX0_placeOfBase_11 : decode cX0_placeOfBase 11 = .ok (.getfield 21, 3) := by decide +kernel
theorem dX0_placeOfBase_14 : decode cX0_placeOfBase 14 = .ok (.iload_n 1, 1) := by decide +kernel
theorem dX0_placeOfBase_15 : decode cX0_placeOfBase 15 = .ok (.iaload, 1) := by decide +kernel
theorem dX0_placeOfBase_16 : decode cX0_placeOfBase 16 = .ok (.goto 4, 3) := by decide +kernel
theorem dX0_placeOfBase_19 : decode cX0_placeOfBase 19 = .ok (.iconst (-1), 1) := by decide +kernel
theorem dX0_placeOfBase_20 : decode cX0_placeOfBase 20 = .ok (.ireturn, 1) := by decide +kernel
theorem dX0_innerOf_0 : decode cX0_innerOf 0 = .ok (.iload_n 1, 1) := by decide +kernel
theorem dX0_innerOf_1 : decode cX0_innerOf 1 = .ok (.ifCond .lt 18, 3) := by decide +kernel
theorem dX0_innerOf_4 : decode cX0_innerOf 4 = .ok (.iload_n 1, 1) := by decide +kernel
theorem dX0_innerOf_5 : decode cX0_innerOf 5 = .ok (.bipush 120, 2) := by decide +kernel
theorem dX0_innerOf_7 : decode cX0_innerOf 7 = .ok (.if_icmp .ge 12, 3) := by decide +kernel
theorem dX0_innerOf_10 : decode cX0_innerOf 10 = .ok (.aload_n 0, 1) := by decide +kernel
theorem dX0_innerOf_11 : decode cX0_innerOf 11 = .ok (.getfield 9, 3) := by decide +kernel
theorem dX0_innerOf_14 : decode cX0_innerOf 14 = .ok (.iload_n 1, 1) := by decide +kernel
theorem dX0_innerOf_15 : decode cX0_innerOf 15 = .ok (.iaload, 1) := by decide +kernel
theorem dX0_innerOf_16 : decode cX0_innerOf 16 = .ok (.goto 5, 3) := by decide +kernel
theorem dX0_innerOf_19 : decode cX0_innerOf 19 = .ok (.bipush (-9), 2) := by decide +kernel
theorem dX0_innerOf_21 : decode cX0_innerOf 21 = .ok (.ireturn, 1) := by decide +kernel
theorem dX0_ownerOf_0 : decode cX0_ownerOf 0 = .ok (.iload_n 1, 1) := by decide +kernel
theorem dX0_ownerOf_1 : decode cX0_ownerOf 1 = .ok (.ifCond .lt 18, 3) := by decide +kernel
theorem dX0_ownerOf_4 : decode cX0_ownerOf 4 = .ok (.iload_n 1, 1) := by decide +kernel
theorem dX0_ownerOf_5 : decode cX0_ownerOf 5 = .ok (.bipush 120, 2) := by decide +kernel
theorem dX0_ownerOf_7 : decode cX0_ownerOf 7 = .ok (.if_icmp .ge 12, 3) := by decide +kernel
theorem dX0_ownerOf_10 : decode cX0_ownerOf 10 = .ok (.aload_n 0, 1) := by decide +kernel
theorem dX0_ownerOf_11 : decode cX0_ownerOf 11 = .ok (.getfield 15, 3) := by decide +kernel
theorem dX0_ownerOf_14 : decode cX0_ownerOf 14 = .ok (.iload_n 1, 1) := by decide +kernel
theorem dX0_ownerOf_15 : decode cX0_ownerOf 15 = .ok (.iaload, 1) := by decide +kernel
theorem dX0_ownerOf_16 : decode cX0_ownerOf 16 = .ok (.goto 5, 3) := by decide +kernel
theorem dX0_ownerOf_19 : decode cX0_ownerOf 19 = .ok (.bipush (-9), 2) := by decide +kernel
theorem dX0_ownerOf_21 : decode cX0_ownerOf 21 = .ok (.ireturn, 1) := by decide +kernel
theorem dX0_isEvenAt_0 : decode cX0_isEvenAt 0 = .ok (.aload_n 0, 1) := by decide +kernel
theorem dX0_isEvenAt_1 : decode cX0_isEvenAt 1 = .ok (.iload_n 1, 1) := by decide +kernel
theorem dX0_isEvenAt_2 : decode cX0_isEvenAt 2 = .ok (.iload_n 2, 1) := by decide +kernel
theorem dX0_isEvenAt_3 : decode cX0_isEvenAt 3 = .ok (.invokestatic 90, 3) := by decide +kernel
theorem dX0_isEvenAt_6 : decode cX0_isEvenAt 6 = .ok (.invokevirtual 116, 3) := by decide +kernel
theorem dX0_isEvenAt_9 : decode cX0_isEvenAt 9 = .ok (.bipush (-2), 2) := by decide +kernel
theorem dX0_isEvenAt_11 : decode cX0_isEvenAt 11 = .ok (.if_icmp .ne 7, 3) := by decide +kernel
theorem dX0_isEvenAt_14 : decode cX0_isEvenAt 14 = .ok (.iconst 1, 1) := by decide +kernel
theorem dX0_isEvenAt_15 : decode cX0_isEvenAt 15 = .ok (.goto 4, 3) := by decide +kernel
theorem dX0_isEvenAt_18 : decode cX0_isEvenAt 18 = .ok (.iconst 0, 1) := by decide +kernel
theorem dX0_isEvenAt_19 : decode cX0_isEvenAt 19 = .ok (.ireturn, 1) := by decide +kernel
theorem dX0_areaOf_0 : decode cX0_areaOf 0 = .ok (.iconst 0, 1) := by decide +kernel
theorem dX0_areaOf_1 : decode cX0_areaOf 1 = .ok (.istore_n 2, 1) := by decide +kernel
theorem dX0_areaOf_2 : decode cX0_areaOf 2 = .ok (.iconst 0, 1) := by decide +kernel
theorem dX0_areaOf_3 : decode cX0_areaOf 3 = .ok (.istore_n 3, 1) := by decide +kernel
theorem dX0_areaOf_4 : decode cX0_areaOf 4 = .ok (.iload_n 3, 1) := by decide +kernel
theorem dX0_areaOf_5 : decode cX0_areaOf 5 = .ok (.bipush 120, 2) := by decide +kernel
theorem dX0_areaOf_7 : decode cX0_areaOf 7 = .ok (.if_icmp .ge 22, 3) := by decide +kernel
theorem dX0_areaOf_10 : decode cX0_areaOf 10 = .ok (.aload_n 0, 1) := by decide +kernel
theorem dX0_areaOf_11 : decode cX0_areaOf 11 = .ok (.getfield 15, 3) := by decide +kernel
theorem dX0_areaOf_14 : decode cX0_areaOf 14 = .ok (.iload_n 3, 1) := by decide +kernel
theorem dX0_areaOf_15 : decode cX0_areaOf 15 = .ok (.iaload, 1) := by decide +kernel
theorem dX0_areaOf_16 : decode cX0_areaOf 16 = .ok (.iload_n 1, 1) := by decide +kernel
theorem dX0_areaOf_17 : decode cX0_areaOf 17 = .ok (.if_icmp .ne 6, 3) := by decide +kernel
theorem dX0_areaOf_20 : decode cX0_areaOf 20 = .ok (.iinc 2 1, 3) := by decide +kernel
theorem dX0_areaOf_23 : decode cX0_areaOf 23 = .ok (.iinc 3 1, 3) := by decide +kernel
theorem dX0_areaOf_26 : decode cX0_areaOf 26 = .ok (.goto (-22), 3) := by decide +kernel
theorem dX0_areaOf_29 : decode cX0_areaOf 29 = .ok (.iload_n 2, 1) := by decide +kernel
theorem dX0_areaOf_30 : decode cX0_areaOf 30 = .ok (.ireturn, 1) := by decide +kernel
theorem dX0_differences_0 : decode cX0_differences 0 = .ok (.iconst 0, 1) := by decide +kernel
theorem dX0_differences_1 : decode cX0_differences 1 = .ok (.istore_n 3, 1) := by decide +kernel
theorem dX0_differences_2 : decode cX0_differences 2 = .ok (.iconst 0, 1) := by decide +kernel
theorem dX0_differences_3 : decode cX0_differences 3 = .ok (.istore 4, 2) := by decide +kernel
theorem dX0_differences_5 : decode cX0_differences 5 = .ok (.iload 4, 2) := by decide +kernel
theorem dX0_differences_7 : decode cX0_differences 7 = .ok (.bipush 120, 2) := by decide +kernel
theorem dX0_differences_9 : decode cX0_differences 9 = .ok (.if_icmp .ge 35, 3) := by decide +kernel
theorem dX0_differences_12 : decode cX0_differences 12 = .ok (.iload 4, 2) := by decide +kernel
theorem dX0_differences_14 : decode cX0_differences 14 = .ok (.iload_n 2, 1) := by decide +kernel
theorem dX0_differences_15 : decode cX0_differences 15 = .ok (.if_icmp .eq 23, 3) := by decide +kernel
theorem dX0_differences_18 : decode cX0_differences 18 = .ok (.aload_n 0, 1) := by decide +kernel
theorem dX0_differences_19 : decode cX0_differences 19 = .ok (.getfield 15, 3) := by decide +kernel
theorem dX0_differences_22 : decode cX0_differences 22 = .ok (.iload 4, 2) := by decide +kernel
theorem dX0_differences_24 : decode cX0_differences 24 = .ok (.iaload, 1) := by decide +kernel
theorem dX0_differences_25 : decode cX0_differences 25 = .ok (.aload_n 1, 1) := by decide +kernel
theorem dX0_differences_26 : decode cX0_differences 26 = .ok (.getfield 15, 3) := by decide +kernel
theorem dX0_differences_29 : decode cX0_differences 29 = .ok (.iload 4, 2) := by decide +kernel
theorem dX0_differences_31 : decode cX0_differences 31 = .ok (.iaload, 1) := by decide +kernel
theorem dX0_differences_32 : decode cX0_differences 32 = .ok (.if_icmp .eq 6, 3) := by decide +kernel
theorem dX0_differences_35 : decode cX0_differences 35 = .ok (.iinc 3 1, 3) := by decide +kernel
theorem dX0_differences_38 : decode cX0_differences 38 = .ok (.iinc 4 1, 3) := by decide +kernel
theorem dX0_differences_41 : decode cX0_differences 41 = .ok (.goto (-36), 3) := by decide +kernel
theorem dX0_differences_44 : decode cX0_differences 44 = .ok (.iload_n 3, 1) := by decide +kernel
theorem dX0_differences_45 : decode cX0_differences 45 = .ok (.ireturn, 1) := by decide +kernel
theorem dX1_init_0 : decode cX1_init 0 = .ok (.aload_n 0, 1) := by decide +kernel
theorem dX1_init_1 : decode cX1_init 1 = .ok (.invokespecial 3, 3) := by decide +kernel
theorem dX1_init_4 : decode cX1_init 4 = .ok (.aload_n 0, 1) := by decide +kernel
theorem dX1_init_5 : decode cX1_init 5 = .ok (.bipush 120, 2) := by decide +kernel
theorem dX1_init_7 : decode cX1_init 7 = .ok (.newarray .int, 2) := by decide +kernel
theorem dX1_init_9 : decode cX1_init 9 = .ok (.putfield 9, 3) := by decide +kernel
theorem dX1_init_12 : decode cX1_init 12 = .ok (.aload_n 0, 1) := by decide +kernel
theorem dX1_init_13 : decode cX1_init 13 = .ok (.bipush 120, 2) := by decide +kernel
theorem dX1_init_15 : decode cX1_init 15 = .ok (.newarray .int, 2) := by decide +kernel
theorem dX1_init_17 : decode cX1_init 17 = .ok (.putfield 15, 3) := by decide +kernel
theorem dX1_init_20 : decode cX1_init 20 = .ok (.aload_n 0, 1) := by decide +kernel
theorem dX1_init_21 : decode cX1_init 21 = .ok (.iconst 0, 1) := by decide +kernel
theorem dX1_init_22 : decode cX1_init 22 = .ok (.putfield 18, 3) := by decide +kernel
theorem dX1_init_25 : decode cX1_init 25 = .ok (.return_, 1) := by decide +kernel
theorem dX1_countParts_0 : decode cX1_countParts 0 = .ok (.aload_n 0, 1) := by decide +kernel
theorem dX1_countParts_1 : decode cX1_countParts 1 = .ok (.getfield 9, 3) := by decide +kernel
theorem dX1_countParts_4 : decode cX1_countParts 4 = .ok (.iconst 0, 1) := by decide +kernel
theorem dX1_countParts_5 : decode cX1_countParts 5 = .ok (.invokestatic 22, 3) := by decide +kernel
theorem dX1_countParts_8 : decode cX1_countParts 8 = .ok (.iconst 0, 1) := by decide +kernel
theorem dX1_countParts_9 : decode cX1_countParts 9 = .ok (.istore_n 2, 1) := by decide +kernel
theorem dX1_countParts_10 : decode cX1_countParts 10 = .ok (.iconst 0, 1) := by decide +kernel
theorem dX1_countParts_11 : decode cX1_countParts 11 = .ok (.istore_n 3, 1) := by decide +kernel
theorem dX1_countParts_12 : decode cX1_countParts 12 = .ok (.iload_n 3, 1) := by decide +kernel
theorem dX1_countParts_13 : decode cX1_countParts 13 = .ok (.bipush 120, 2) := by decide +kernel
theorem dX1_countParts_15 : decode cX1_countParts 15 = .ok (.if_icmp .ge 38, 3) := by decide +kernel
theorem dX1_countParts_18 : decode cX1_countParts 18 = .ok (.aload_n 1, 1) := by decide +kernel
theorem dX1_countParts_19 : decode cX1_countParts 19 = .ok (.iload_n 3, 1) := by decide +kernel
theorem dX1_countParts_20 : decode cX1_countParts 20 = .ok (.invokevirtual 28, 3) := by decide +kernel
theorem dX1_countParts_23 : decode cX1_countParts 23 = .ok (.bipush (-2), 2) := by decide +kernel
theorem dX1_countParts_25 : decode cX1_countParts 25 = .ok (.if_icmp .ne 22, 3) := by decide +kernel
theorem dX1_countParts_28 : decode cX1_countParts 28 = .ok (.aload_n 0, 1) := by decide +kernel
theorem dX1_countParts_29 : decode cX1_countParts 29 = .ok (.getfield 9, 3) := by decide +kernel
theorem dX1_countParts_32 : decode cX1_countParts 32 = .ok (.iload_n 3, 1) := by decide +kernel
theorem dX1_countParts_33 : decode cX1_countParts 33 = .ok (.iaload, 1) := by decide +kernel
theorem dX1_countParts_34 : decode cX1_countParts 34 = .ok (.ifCond .ne 13, 3) := by decide +kernel
theorem dX1_countParts_37 : decode cX1_countParts 37 = .ok (.iinc 2 1, 3) := by decide +kernel
theorem dX1_countParts_40 : decode cX1_countParts 40 = .ok (.aload_n 0, 1) := by decide +kernel
theorem dX1_countParts_41 : decode cX1_countParts 41 = .ok (.aload_n 1, 1) := by decide +kernel
theorem dX1_countParts_42 : decode cX1_countParts 42 = .ok (.iload_n 3, 1) := by decide +kernel
theorem dX1_countParts_43 : decode cX1_countParts 43 = .ok (.iload_n 2, 1) := by decide +kernel
theorem dX1_countParts_44 : decode cX1_countParts 44 = .ok (.invokevirtual 34, 3) := by decide +kernel
theorem dX1_countParts_47 : decode cX1_countParts 47 = .ok (.iinc 3 1, 3) := by decide +kernel
theorem dX1_countParts_50 : decode cX1_countParts 50 = .ok (.goto (-38), 3) := by decide +kernel
theorem dX1_countParts_53 : decode cX1_countParts 53 = .ok (.iload_n 2, 1) := by decide +kernel
theorem dX1_countParts_54 : decode cX1_countParts 54 = .ok (.ireturn, 1) := by decide +kernel
theorem dX1_followPart_0 : decode cX1_followPart 0 = .ok (.aload_n 0, 1) := by decide +kernel
theorem dX1_followPart_1 : decode cX1_followPart 1 = .ok (.iconst 0, 1) := by decide +kernel
theorem dX1_followPart_2 : decode cX1_followPart 2 = .ok (.putfield 18, 3) := by decide +kernel
theorem dX1_followPart_5 : decode cX1_followPart 5 = .ok (.aload_n 0, 1) := by decide +kernel
theorem dX1_followPart_6 : decode cX1_followPart 6 = .ok (.aload_n 1, 1) := by decide +kernel
theorem dX1_followPart_7 : decode cX1_followPart 7 = .ok (.iload_n 2, 1) := by decide +kernel
theorem dX1_followPart_8 : decode cX1_followPart 8 = .ok (.iload_n 3, 1) := by decide +kernel
theorem dX1_followPart_9 : decode cX1_followPart 9 = .ok (.invokevirtual 38, 3) := by decide +kernel
theorem dX1_followPart_12 : decode cX1_followPart 12 = .ok (.iconst 0, 1) := by decide +kernel
theorem dX1_followPart_13 : decode cX1_followPart 13 = .ok (.istore 4, 2) := by decide +kernel
theorem dX1_followPart_15 : decode cX1_followPart 15 = .ok (.iload 4, 2) := by decide +kernel
theorem dX1_followPart_17 : decode cX1_followPart 17 = .ok (.aload_n 0, 1) := by decide +kernel
theorem dX1_followPart_18 : decode cX1_followPart 18 = .ok (.getfield 18, 3) := by decide +kernel
theorem dX1_followPart_21 : decode cX1_followPart 21 = .ok (.if_icmp .ge 89, 3) := by decide +kernel
theorem dX1_followPart_24 : decode cX1_followPart 24 = .ok (.iload 4, 2) := by decide +kernel
theorem dX1_followPart_26 : decode cX1_followPart 26 = .ok (.bipush 120, 2) := by decide +kernel
theorem dX1_followPart_28 : decode cX1_followPart 28 = .ok (.if_icmp .ge 82, 3) := by decide +kernel
theorem dX1_followPart_31 : decode cX1_followPart 31 = .ok (.aload_n 0, 1) := by decide +kernel
theorem dX1_followPart_32 : decode cX1_followPart 32 = .ok (.getfield 15, 3) := by decide +kernel
theorem dX1_followPart_35 : decode cX1_followPart 35 = .ok (.iload 4, 2) := by decide +kernel
theorem dX1_followPart_37 : decode cX1_followPart 37 = .ok (.iaload, 1) := by decide +kernel
theorem dX1_followPart_38 : decode cX1_followPart 38 = .ok (.bipush 12, 2) := by decide +kernel
theorem dX1_followPart_40 : decode cX1_followPart 40 = .ok (.irem, 1) := by decide +kernel
theorem dX1_followPart_41 : decode cX1_followPart 41 = .ok (.istore 5, 2) := by decide +kernel
theorem dX1_followPart_43 : decode cX1_followPart 43 = .ok (.aload_n 0, 1) := by decide +kernel
theorem dX1_followPart_44 : decode cX1_followPart 44 = .ok (.getfield 15, 3) := by decide +kernel
theorem dX1_followPart_47 : decode cX1_followPart 47 = .ok (.iload 4, 2) := by decide +kernel
theorem dX1_followPart_49 : decode cX1_followPart 49 = .ok (.iaload, 1) := by decide +kernel
theorem dX1_followPart_50 : decode cX1_followPart 50 = .ok (.bipush 12, 2) := by decide +kernel
theorem dX1_followPart_52 : decode cX1_followPart 52 = .ok (.idiv, 1) := by decide +kernel
theorem dX1_followPart_53 : decode cX1_followPart 53 = .ok (.istore 6, 2) := by decide +kernel
theorem dX1_followPart_55 : decode cX1_followPart 55 = .ok (.iconst (-1), 1) := by decide +kernel
theorem dX1_followPart_56 : decode cX1_followPart 56 = .ok (.istore 7, 2) := by decide +kernel
theorem dX1_followPart_58 : decode cX1_followPart 58 = .ok (.iload 7, 2) := by decide +kernel
theorem dX1_followPart_60 : decode cX1_followPart 60 = .ok (.iconst 1, 1) := by decide +kernel
theorem dX1_followPart_61 : decode cX1_followPart 61 = .ok (.if_icmp .gt 43, 3) := by decide +kernel
theorem dX1_followPart_64 : decode cX1_followPart 64 = .ok (.iconst (-1), 1) := by decide +kernel
theorem dX1_followPart_65 : decode cX1_followPart 65 = .ok (.istore 8, 2) := by decide +kernel
theorem dX1_followPart_67 : decode cX1_followPart 67 = .ok (.iload 8, 2) := by decide +kernel
theorem dX1_followPart_69 : decode cX1_followPart 69 = .ok (.iconst 1, 1) := by decide +kernel
theorem dX1_followPart_70 : decode cX1_followPart 70 = .ok (.if_icmp .gt 28, 3) := by decide +kernel
theorem dX1_followPart_73 : decode cX1_followPart 73 = .ok (.aload_n 0, 1) := by decide +kernel
theorem dX1_followPart_74 : decode cX1_followPart 74 = .ok (.aload_n 1, 1) := by decide +kernel
theorem dX1_followPart_75 : decode cX1_followPart 75 = .ok (.iload 5, 2) := by decide +kernel
theorem dX1_followPart_77 : decode cX1_followPart 77 = .ok (.iload 8, 2) := by decide +kernel
theorem dX1_followPart_79 : decode cX1_followPart 79 = .ok (.iadd, 1) := by decide +kernel
theorem dX1_followPart_80 : decode cX1_followPart 80 = .ok (.iload 6, 2) := by decide +kernel
theorem dX1_followPart_82 : decode cX1_followPart 82 = .ok (.iload 7, 2) := by decide +kernel
theorem dX1_followPart_84 : decode cX1_followPart 84 = .ok (.iadd, 1) := by decide +kernel
theorem dX1_followPart_85 : decode cX1_followPart 85 = .ok (.invokestatic 41, 3) := by decide +kernel
theorem dX1_followPart_88 : decode cX1_followPart 88 = .ok (.iload_n 3, 1) := by decide +kernel
theorem dX1_followPart_89 : decode cX1_followPart 89 = .ok (.invokevirtual 38, 3) := by decide +kernel
theorem dX1_followPart_92 : decode cX1_followPart 92 = .ok (.iinc 8 1, 3) := by decide +kernel
theorem dX1_followPart_95 : decode cX1_followPart 95 = .ok (.goto (-28), 3) := by decide +kernel
theorem dX1_followPart_98 : decode cX1_followPart 98 = .ok (.iinc 7 1, 3) := by decide +kernel
theorem dX1_followPart_101 : decode cX1_followPart 101 = .ok (.goto (-43), 3) := by decide +kernel
theorem dX1_followPart_104 : decode cX1_followPart 104 = .ok (.iinc 4 1, 3) := by decide +kernel
theorem dX1_followPart_107 : decode cX1_followPart 107 = .ok (.goto (-92), 3) := by decide +kernel
theorem dX1_followPart_110 : decode cX1_followPart 110 = .ok (.return_, 1) := by decide +kernel
theorem dX1_enqueue_0 : decode cX1_enqueue 0 = .ok (.iload_n 2, 1) := by decide +kernel
theorem dX1_enqueue_1 : decode cX1_enqueue 1 = .ok (.ifCond .lt 71, 3) := by decide +kernel
theorem dX1_enqueue_4 : decode cX1_enqueue 4 = .ok (.iload_n 2, 1) := by decide +kernel
theorem dX1_enqueue_5 : decode cX1_enqueue 5 = .ok (.bipush 120, 2) := by decide +kernel
theorem dX1_enqueue_7 : decode cX1_enqueue 7 = .ok (.if_icmp .ge 65, 3) := by decide +kernel
theorem dX1_enqueue_10 : decode cX1_enqueue 10 = .ok (.aload_n 0, 1) := by decide +kernel
theorem dX1_enqueue_11 : decode cX1_enqueue 11 = .ok (.getfield 18, 3) := by decide +kernel
theorem dX1_enqueue_14 : decode cX1_enqueue 14 = .ok (.ifCond .lt 58, 3) := by decide +kernel
theorem dX1_enqueue_17 : decode cX1_enqueue 17 = .ok (.aload_n 0, 1) := by decide +kernel
theorem dX1_enqueue_18 : decode cX1_enqueue 18 = .ok (.getfield 18, 3) := by decide +kernel
theorem dX1_enqueue_21 : decode cX1_enqueue 21 = .ok (.bipush 120, 2) := by decide +kernel
theorem dX1_enqueue_23 : decode cX1_enqueue 23 = .ok (.if_icmp .ge 49, 3) := by decide +kernel
theorem dX1_enqueue_26 : decode cX1_enqueue 26 = .ok (.aload_n 0, 1) := by decide +kernel
theorem dX1_enqueue_27 : decode cX1_enqueue 27 = .ok (.getfield 9, 3) := by decide +kernel
theorem dX1_enqueue_30 : decode cX1_enqueue 30 = .ok (.iload_n 2, 1) := by decide +kernel
theorem dX1_enqueue_31 : decode cX1_enqueue 31 = .ok (.iaload, 1) := by decide +kernel
theorem dX1_enqueue_32 : decode cX1_enqueue 32 = .ok (.ifCond .ne 40, 3) := by decide +kernel
theorem dX1_enqueue_35 : decode cX1_enqueue 35 = .ok (.aload_n 1, 1) := by decide +kernel
theorem dX1_enqueue_36 : decode cX1_enqueue 36 = .ok (.iload_n 2, 1) := by decide +kernel
theorem dX1_enqueue_37 : decode cX1_enqueue 37 = .ok (.invokevirtual 28, 3) := by decide +kernel
theorem dX1_enqueue_40 : decode cX1_enqueue 40 = .ok (.bipush (-2), 2) := by decide +kernel
theorem dX1_enqueue_42 : decode cX1_enqueue 42 = .ok (.if_icmp .ne 30, 3) := by decide +kernel
theorem dX1_enqueue_45 : decode cX1_enqueue 45 = .ok (.aload_n 0, 1) := by decide +kernel
theorem dX1_enqueue_46 : decode cX1_enqueue 46 = .ok (.getfield 9, 3) := by decide +kernel
theorem dX1_enqueue_49 : decode cX1_enqueue 49 = .ok (.iload_n 2, 1) := by decide +kernel
theorem dX1_enqueue_50 : decode cX1_enqueue 50 = .ok (.iload_n 3, 1) := by decide +kernel
theorem dX1_enqueue_51 : decode cX1_enqueue 51 = .ok (.iastore, 1) := by decide +kernel
theorem dX1_enqueue_52 : decode cX1_enqueue 52 = .ok (.aload_n 0, 1) := by decide +kernel
theorem dX1_enqueue_53 : decode cX1_enqueue 53 = .ok (.getfield 15, 3) := by decide +kernel
theorem dX1_enqueue_56 : decode cX1_enqueue 56 = .ok (.aload_n 0, 1) := by decide +kernel
theorem dX1_enqueue_57 : decode cX1_enqueue 57 = .ok (.getfield 18, 3) := by decide +kernel
theorem dX1_enqueue_60 : decode cX1_enqueue 60 = .ok (.iload_n 2, 1) := by decide +kernel
theorem dX1_enqueue_61 : decode cX1_enqueue 61 = .ok (.iastore, 1) := by decide +kernel
theorem dX1_enqueue_62 : decode cX1_enqueue 62 = .ok (.aload_n 0, 1) := by decide +kernel
theorem dX1_enqueue_63 : decode cX1_enqueue 63 = .ok (.dup, 1) := by decide +kernel
theorem dX1_enqueue_64 : decode cX1_enqueue 64 = .ok (.getfield 18, 3) := by decide +kernel
theorem dX1_enqueue_67 : decode cX1_enqueue 67 = .ok (.iconst 1, 1) := by decide +kernel
theorem dX1_enqueue_68 : decode cX1_enqueue 68 = .ok (.iadd, 1) := by decide +kernel
theorem dX1_enqueue_69 : decode cX1_enqueue 69 = .ok (.putfield 18, 3) := by decide +kernel
theorem dX1_enqueue_72 : decode cX1_enqueue 72 = .ok (.return_, 1) := by decide +kernel
theorem dX1_countTurns_0 : decode cX1_countTurns 0 = .ok (.iconst 0, 1) := by decide +kernel
theorem dX1_countTurns_1 : decode cX1_countTurns 1 = .ok (.istore_n 2, 1) := by decide +kernel
theorem dX1_countTurns_2 : decode cX1_countTurns 2 = .ok (.iconst 0, 1) := by decide +kernel
theorem dX1_countTurns_3 : decode cX1_countTurns 3 = .ok (.istore_n 3, 1) := by decide +kernel
theorem dX1_countTurns_4 : decode cX1_countTurns 4 = .ok (.iload_n 3, 1) := by decide +kernel
theorem dX1_countTurns_5 : decode cX1_countTurns 5 = .ok (.bipush 120, 2) := by decide +kernel
theorem dX1_countTurns_7 : decode cX1_countTurns 7 = .ok (.if_icmp .ge 87, 3) := by decide +kernel
theorem dX1_countTurns_10 : decode cX1_countTurns 10 = .ok (.iload_n 3, 1) := by decide +kernel
theorem dX1_countTurns_11 : decode cX1_countTurns 11 = .ok (.bipush 12, 2) := by decide +kernel
theorem dX1_countTurns_13 : decode cX1_countTurns 13 = .ok (.irem, 1) := by decide +kernel
theorem dX1_countTurns_14 : decode cX1_countTurns 14 = .ok (.istore 4, 2) := by decide +kernel
theorem dX1_countTurns_16 : decode cX1_countTurns 16 = .ok (.iload_n 3, 1) := by decide +kernel
theorem dX1_countTurns_17 : decode cX1_countTurns 17 = .ok (.bipush 12, 2) := by decide +kernel
theorem dX1_countTurns_19 : decode cX1_countTurns 19 = .ok (.idiv, 1) := by decide +kernel
theorem dX1_countTurns_20 : decode cX1_countTurns 20 = .ok (.istore 5, 2) := by decide +kernel
theorem dX1_countTurns_22 : decode cX1_countTurns 22 = .ok (.aload_n 1, 1) := by decide +kernel
theorem dX1_countTurns_23 : decode cX1_countTurns 23 = .ok (.iload 4, 2) := by decide +kernel
theorem dX1_countTurns_25 : decode cX1_countTurns 25 = .ok (.iload 5, 2) := by decide +kernel
theorem dX1_countTurns_27 : decode cX1_countTurns 27 = .ok (.invokevirtual 47, 3) := by decide +kernel
theorem dX1_countTurns_30 : decode cX1_countTurns 30 = .ok (.ifCond .eq 58, 3) := by decide +kernel
theorem dX1_countTurns_33 : decode cX1_countTurns 33 = .ok (.aload_n 1, 1) := by decide +kernel
theorem dX1_countTurns_34 : decode cX1_countTurns 34 = .ok (.iload 4, 2) := by decide +kernel
theorem dX1_countTurns_36 : decode cX1_countTurns 36 = .ok (.iconst 1, 1) := by decide +kernel
theorem dX1_countTurns_37 : decode cX1_countTurns 37 = .ok (.isub, 1) := by decide +kernel
theorem dX1_countTurns_38 : decode cX1_countTurns 38 = .ok (.iload 5, 2) := by decide +kernel
theorem dX1_countTurns_40 : decode cX1_countTurns 40 = .ok (.invokevirtual 47, 3) := by decide +kernel
theorem dX1_countTurns_43 : decode cX1_countTurns 43 = .ok (.ifCond .ne 16, 3) := by decide +kernel
theorem dX1_countTurns_46 : decode cX1_countTurns 46 = .ok (.aload_n 1, 1) := by decide +kernel
theorem dX1_countTurns_47 : decode cX1_countTurns 47 = .ok (.iload 4, 2) := by decide +kernel
theorem dX1_countTurns_49 : decode cX1_countTurns 49 = .ok (.iconst 1, 1) := by decide +kernel
theorem dX1_countTurns_50 : decode cX1_countTurns 50 = .ok (.iadd, 1) := by decide +kernel
theorem dX1_countTurns_51 : decode cX1_countTurns 51 = .ok (.iload 5, 2) := by decide +kernel
theorem dX1_countTurns_53 : decode cX1_countTurns 53 = .ok (.invokevirtual 47, 3) := by decide +kernel
theorem dX1_countTurns_56 : decode cX1_countTurns 56 = .ok (.ifCond .eq 32, 3) := by decide +kernel
theorem dX1_countTurns_59 : decode cX1_countTurns 59 = .ok (.aload_n 1, 1) := by decide +kernel
theorem dX1_countTurns_60 : decode cX1_countTurns 60 = .ok (.iload 4, 2) := by decide +kernel
theorem dX1_countTurns_62 : decode cX1_countTurns 62 = .ok (.iload 5, 2) := by decide +kernel
theorem dX1_countTurns_64 : decode cX1_countTurns 64 = .ok (.iconst 1, 1) := by decide +kernel
theorem dX1_countTurns_65 : decode cX1_countTurns 65 = .ok (.isub, 1) := by decide +kernel
theorem dX1_countTurns_66 : decode cX1_countTurns 66 = .ok (.invokevirtual 47, 3) := by decide +kernel
theorem dX1_countTurns_69 : decode cX1_countTurns 69 = .ok (.ifCond .ne 16, 3) := by decide +kernel
theorem dX1_countTurns_72 : decode cX1_countTurns 72 = .ok (.aload_n 1, 1) := by decide +kernel
theorem dX1_countTurns_73 : decode cX1_countTurns 73 = .ok (.iload 4, 2) := by decide +kernel
theorem dX1_countTurns_75 : decode cX1_countTurns 75 = .ok (.iload 5, 2) := by decide +kernel
theorem dX1_countTurns_77 : decode cX1_countTurns 77 = .ok (.iconst 1, 1) := by decide +kernel
theorem dX1_countTurns_78 : decode cX1_countTurns 78 = .ok (.iadd, 1) := by decide +kernel
theorem dX1_countTurns_79 : decode cX1_countTurns 79 = .ok (.invokevirtual 47, 3) := by decide +kernel
theorem dX1_countTurns_82 : decode cX1_countTurns 82 = .ok (.ifCond .eq 6, 3) := by decide +kernel
theorem dX1_countTurns_85 : decode cX1_countTurns 85 = .ok (.iinc 2 1, 3) := by decide +kernel
theorem dX1_countTurns_88 : decode cX1_countTurns 88 = .ok (.iinc 3 1, 3) := by decide +kernel
theorem dX1_countTurns_91 : decode cX1_countTurns 91 = .ok (.goto (-87), 3) := by decide +kernel
theorem dX1_countTurns_94 : decode cX1_countTurns 94 = .ok (.iload_n 2, 1) := by decide +kernel
theorem dX1_countTurns_95 : decode cX1_countTurns 95 = .ok (.ireturn, 1) := by decide +kernel
theorem dX2_init_0 : decode cX2_init 0 = .ok (.aload_n 0, 1) := by decide +kernel
theorem dX2_init_1 : decode cX2_init 1 = .ok (.invokespecial 3, 3) := by decide +kernel
theorem dX2_init_4 : decode cX2_init 4 = .ok (.aload_n 0, 1) := by decide +kernel
theorem dX2_init_5 : decode cX2_init 5 = .ok (.iconst 0, 1) := by decide +kernel
theorem dX2_init_6 : decode cX2_init 6 = .ok (.putfield 9, 3) := by decide +kernel
theorem dX2_init_9 : decode cX2_init 9 = .ok (.aload_n 0, 1) := by decide +kernel
theorem dX2_init_10 : decode cX2_init 10 = .ok (.iconst 2, 1) := by decide +kernel
theorem dX2_init_11 : decode cX2_init 11 = .ok (.putfield 15, 3) := by decide +kernel
theorem dX2_init_14 : decode cX2_init 14 = .ok (.aload_n 0, 1) := by decide +kernel
theorem dX2_init_15 : decode cX2_init 15 = .ok (.bipush 20, 2) := by decide +kernel
theorem dX2_init_17 : decode cX2_init 17 = .ok (.putfield 18, 3) := by decide +kernel
theorem dX2_init_20 : decode cX2_init 20 = .ok (.aload_n 0, 1) := by decide +kernel
theorem dX2_init_21 : decode cX2_init 21 = .ok (.iconst 0, 1) := by decide +kernel
theorem dX2_init_22 : decode cX2_init 22 = .ok (.putfield 21, 3) := by decide +kernel
theorem dX2_init_25 : decode cX2_init 25 = .ok (.return_, 1) := by decide +kernel
theorem dX2_least_0 : decode cX2_least 0 = .ok (.iload_n 0, 1) := by decide +kernel
theorem dX2_least_1 : decode cX2_least 1 = .ok (.iconst 3, 1) := by decide +kernel
theorem dX2_least_2 : decode cX2_least 2 = .ok (.if_icmp .ne 8, 3) := by decide +kernel
theorem dX2_least_5 : decode cX2_least 5 = .ok (.bipush (-50), 2) := by decide +kernel
theorem dX2_least_7 : decode cX2_least 7 = .ok (.goto 4, 3) := by decide +kernel
theorem dX2_least_10 : decode cX2_least 10 = .ok (.iconst 0, 1) := by decide +kernel
theorem dX2_least_11 : decode cX2_least 11 = .ok (.ireturn, 1) := by decide +kernel
theorem dX2_greatest_0 : decode cX2_greatest 0 = .ok (.iload_n 0, 1) := by decide +kernel
theorem dX2_greatest_1 : decode cX2_greatest 1 = .ok (.tableswitch 35 0 2 #[27, 30, 32], 27) := by decide +kernel
theorem dX2_greatest_28 : decode cX2_greatest 28 = .ok (.bipush 9, 2) := by decide +kernel
theorem dX2_greatest_30 : decode cX2_greatest 30 = .ok (.ireturn, 1) := by decide +kernel
theorem dX2_greatest_31 : decode cX2_greatest 31 = .ok (.iconst 2, 1) := by decide +kernel
theorem dX2_greatest_32 : decode cX2_greatest 32 = .ok (.ireturn, 1) := by decide +kernel
theorem dX2_greatest_33 : decode cX2_greatest 33 = .ok (.bipush 20, 2) := by decide +kernel
theorem dX2_greatest_35 : decode cX2_greatest 35 = .ok (.ireturn, 1) := by decide +kernel
theorem dX2_greatest_36 : decode cX2_greatest 36 = .ok (.bipush 50, 2) := by decide +kernel
theorem dX2_greatest_38 : decode cX2_greatest 38 = .ok (.ireturn, 1) := by decide +kernel
theorem dX2_get_0 : decode cX2_get 0 = .ok (.iload_n 1, 1) := by decide +kernel
theorem dX2_get_1 : decode cX2_get 1 = .ok (.tableswitch 42 0 2 #[27, 32, 37], 27) := by decide +kernel
theorem dX2_get_28 : decode cX2_get 28 = .ok (.aload_n 0, 1) := by decide +kernel
theorem dX2_get_29 : decode cX2_get 29 = .ok (.getfield 9, 3) := by decide +kernel
theorem dX2_get_32 : decode cX2_get 32 = .ok (.ireturn, 1) := by decide +kernel
theorem dX2_get_33 : decode cX2_get 33 = .ok (.aload_n 0, 1) := by decide +kernel
theorem dX2_get_34 : decode cX2_get 34 = .ok (.getfield 15, 3) := by decide +kernel
theorem dX2_get_37 : decode cX2_get 37 = .ok (.ireturn, 1) := by decide +kernel
theorem dX2_get_38 : decode cX2_get 38 = .ok (.aload_n 0, 1) := by decide +kernel
theorem dX2_get_39 : decode cX2_get 39 = .ok (.getfield 18, 3) := by decide +kernel
theorem dX2_get_42 : decode cX2_get 42 = .ok (.ireturn, 1) := by decide +kernel
theorem dX2_get_43 : decode cX2_get 43 = .ok (.aload_n 0, 1) := by decide +kernel
theorem dX2_get_44 : decode cX2_get 44 = .ok (.getfield 21, 3) := by decide +kernel
theorem dX2_get_47 : decode cX2_get 47 = .ok (.ireturn, 1) := by decide +kernel
theorem dX2_set_0 : decode cX2_set 0 = .ok (.iload_n 1, 1) := by decide +kernel
theorem dX2_set_1 : decode cX2_set 1 = .ok (.tableswitch 51 0 2 #[27, 35, 43], 27) := by decide +kernel
theorem dX2_set_28 : decode cX2_set 28 = .ok (.aload_n 0, 1) := by decide +kernel
theorem dX2_set_29 : decode cX2_set 29 = .ok (.iload_n 2, 1) := by decide +kernel
theorem dX2_set_30 : decode cX2_set 30 = .ok (.putfield 9, 3) := by decide +kernel
theorem dX2_set_33 : decode cX2_set 33 = .ok (.goto 24, 3) := by decide +kernel
theorem dX2_set_36 : decode cX2_set 36 = .ok (.aload_n 0, 1) := by decide +kernel
theorem dX2_set_37 : decode cX2_set 37 = .ok (.iload_n 2, 1) := by decide +kernel
theorem dX2_set_38 : decode cX2_set 38 = .ok (.putfield 15, 3) := by decide +kernel
theorem dX2_set_41 : decode cX2_set 41 = .ok (.goto 16, 3) := by decide +kernel
theorem dX2_set_44 : decode cX2_set 44 = .ok (.aload_n 0, 1) := by decide +kernel
theorem dX2_set_45 : decode cX2_set 45 = .ok (.iload_n 2, 1) := by decide +kernel
theorem dX2_set_46 : decode cX2_set 46 = .ok (.putfield 18, 3) := by decide +kernel
theorem dX2_set_49 : decode cX2_set 49 = .ok (.goto 8, 3) := by decide +kernel
theorem dX2_set_52 : decode cX2_set 52 = .ok (.aload_n 0, 1) := by decide +kernel
theorem dX2_set_53 : decode cX2_set 53 = .ok (.iload_n 2, 1) := by decide +kernel
theorem dX2_set_54 : decode cX2_set 54 = .ok (.putfield 21, 3) := by decide +kernel
theorem dX2_set_57 : decode cX2_set 57 = .ok (.return_, 1) := by decide +kernel
theorem dX2_copyFrom_0 : decode cX2_copyFrom 0 = .ok (.aload_n 0, 1) := by decide +kernel
theorem dX2_copyFrom_1 : decode cX2_copyFrom 1 = .ok (.aload_n 1, 1) := by decide +kernel
theorem dX2_copyFrom_2 : decode cX2_copyFrom 2 = .ok (.getfield 9, 3) := by decide +kernel
theorem dX2_copyFrom_5 : decode cX2_copyFrom 5 = .ok (.putfield 9, 3) := by decide +kernel
theorem dX2_copyFrom_8 : decode cX2_copyFrom 8 = .ok (.aload_n 0, 1) := by decide +kernel
theorem dX2_copyFrom_9 : decode cX2_copyFrom 9 = .ok (.aload_n 1, 1) := by decide +kernel
theorem dX2_copyFrom_10 : decode cX2_copyFrom 10 = .ok (.getfield 15, 3) := by decide +kernel
theorem dX2_copyFrom_13 : decode cX2_copyFrom 13 = .ok (.putfield 15, 3) := by decide +kernel
theorem dX2_copyFrom_16 : decode cX2_copyFrom 16 = .ok (.aload_n 0, 1) := by decide +kernel
theorem dX2_copyFrom_17 : decode cX2_copyFrom 17 = .ok (.aload_n 1, 1) := by decide +kernel
theorem dX2_copyFrom_18 : decode cX2_copyFrom 18 = .ok (.getfield 18, 3) := by decide +kernel
theorem dX2_copyFrom_21 : decode cX2_copyFrom 21 = .ok (.putfield 18, 3) := by decide +kernel
theorem dX2_copyFrom_24 : decode cX2_copyFrom 24 = .ok (.aload_n 0, 1) := by decide +kernel
theorem dX2_copyFrom_25 : decode cX2_copyFrom 25 = .ok (.aload_n 1, 1) := by decide +kernel
theorem dX2_copyFrom_26 : decode cX2_copyFrom 26 = .ok (.getfield 21, 3) := by decide +kernel
theorem dX2_copyFrom_29 : decode cX2_copyFrom 29 = .ok (.putfield 21, 3) := by decide +kernel
theorem dX2_copyFrom_32 : decode cX2_copyFrom 32 = .ok (.return_, 1) := by decide +kernel
theorem dX2_becomeOption_0 : decode cX2_becomeOption 0 = .ok (.aload_n 0, 1) := by decide +kernel
theorem dX2_becomeOption_1 : decode cX2_becomeOption 1 = .ok (.iload_n 2, 1) := by decide +kernel
theorem dX2_becomeOption_2 : decode cX2_becomeOption 2 = .ok (.iconst 4, 1) := by decide +kernel
theorem dX2_becomeOption_3 : decode cX2_becomeOption 3 = .ok (.idiv, 1) := by decide +kernel
theorem dX2_becomeOption_4 : decode cX2_becomeOption 4 = .ok (.putfield 15, 3) := by decide +kernel
theorem dX2_becomeOption_7 : decode cX2_becomeOption 7 = .ok (.aload_n 0, 1) := by decide +kernel
theorem dX2_becomeOption_8 : decode cX2_becomeOption 8 = .ok (.iload_n 2, 1) := by decide +kernel
theorem dX2_becomeOption_9 : decode cX2_becomeOption 9 = .ok (.iconst 2, 1) := by decide +kernel
theorem dX2_becomeOption_10 : decode cX2_becomeOption 10 = .ok (.idiv, 1) := by decide +kernel
theorem dX2_becomeOption_11 : decode cX2_becomeOption 11 = .ok (.iconst 2, 1) := by decide +kernel
theorem dX2_becomeOption_12 : decode cX2_becomeOption 12 = .ok (.irem, 1) := by decide +kernel
theorem dX2_becomeOption_13 : decode cX2_becomeOption 13 = .ok (.iconst 1, 1) := by decide +kernel
theorem dX2_becomeOption_14 : decode cX2_becomeOption 14 = .ok (.if_icmp .ne 10, 3) := by decide +kernel
theorem dX2_becomeOption_17 : decode cX2_becomeOption 17 = .ok (.aload_n 1, 1) := by decide +kernel
theorem dX2_becomeOption_18 : decode cX2_becomeOption 18 = .ok (.getfield 9, 3) := by decide +kernel
theorem dX2_becomeOption_21 : decode cX2_becomeOption 21 = .ok (.goto 4, 3) := by decide +kernel
theorem dX2_becomeOption_24 : decode cX2_becomeOption 24 = .ok (.iconst 0, 1) := by decide +kernel
theorem dX2_becomeOption_25 : decode cX2_becomeOption 25 = .ok (.putfield 9, 3) := by decide +kernel
theorem dX2_becomeOption_28 : decode cX2_becomeOption 28 = .ok (.aload_n 0, 1) := by decide +kernel
theorem dX2_becomeOption_29 : decode cX2_becomeOption 29 = .ok (.iload_n 2, 1) := by decide +kernel
theorem dX2_becomeOption_30 : decode cX2_becomeOption 30 = .ok (.iconst 2, 1) := by decide +kernel
theorem dX2_becomeOption_31 : decode cX2_becomeOption 31 = .ok (.irem, 1) := by decide +kernel
theorem dX2_becomeOption_32 : decode cX2_becomeOption 32 = .ok (.iconst 1, 1) := by decide +kernel
theorem dX2_becomeOption_33 : decode cX2_becomeOption 33 = .ok (.if_icmp .ne 12, 3) := by decide +kernel
theorem dX2_becomeOption_36 : decode cX2_becomeOption 36 = .ok (.aload_n 1, 1) := by decide +kernel
theorem dX2_becomeOption_37 : decode cX2_becomeOption 37 = .ok (.getfield 18, 3) := by decide +kernel
theorem dX2_becomeOption_40 : decode cX2_becomeOption 40 = .ok (.iconst 2, 1) := by decide +kernel
theorem dX2_becomeOption_41 : decode cX2_becomeOption 41 = .ok (.idiv, 1) := by decide +kernel
theorem dX2_becomeOption_42 : decode cX2_becomeOption 42 = .ok (.goto 7, 3) := by decide +kernel
theorem dX2_becomeOption_45 : decode cX2_becomeOption 45 = .ok (.aload_n 1, 1) := by decide +kernel
theorem dX2_becomeOption_46 : decode cX2_becomeOption 46 = .ok (.getfield 18, 3) := by decide +kernel
theorem dX2_becomeOption_49 : decode cX2_becomeOption 49 = .ok (.putfield 18, 3) := by decide +kernel
theorem dX2_becomeOption_52 : decode cX2_becomeOption 52 = .ok (.aload_n 0, 1) := by decide +kernel
theorem dX2_becomeOption_53 : decode cX2_becomeOption 53 = .ok (.aload_n 1, 1) := by decide +kernel
theorem dX2_becomeOption_54 : decode cX2_becomeOption 54 = .ok (.getfield 21, 3) := by decide +kernel
theorem dX2_becomeOption_57 : decode cX2_becomeOption 57 = .ok (.putfield 21, 3) := by decide +kernel
theorem dX2_becomeOption_60 : decode cX2_becomeOption 60 = .ok (.return_, 1) := by decide +kernel
theorem dX2_optionNumber_0 : decode cX2_optionNumber 0 = .ok (.bipush 100, 2) := by decide +kernel
theorem dX2_optionNumber_2 : decode cX2_optionNumber 2 = .ok (.iload_n 0, 1) := by decide +kernel
theorem dX2_optionNumber_3 : decode cX2_optionNumber 3 = .ok (.iconst 4, 1) := by decide +kernel
theorem dX2_optionNumber_4 : decode cX2_optionNumber 4 = .ok (.idiv, 1) := by decide +kernel
theorem dX2_optionNumber_5 : decode cX2_optionNumber 5 = .ok (.imul, 1) := by decide +kernel
theorem dX2_optionNumber_6 : decode cX2_optionNumber 6 = .ok (.bipush 10, 2) := by decide +kernel
theorem dX2_optionNumber_8 : decode cX2_optionNumber 8 = .ok (.iload_n 0, 1) := by decide +kernel
theorem dX2_optionNumber_9 : decode cX2_optionNumber 9 = .ok (.iconst 2, 1) := by decide +kernel
theorem dX2_optionNumber_10 : decode cX2_optionNumber 10 = .ok (.idiv, 1) := by decide +kernel
theorem dX2_optionNumber_11 : decode cX2_optionNumber 11 = .ok (.iconst 2, 1) := by decide +kernel
theorem dX2_optionNumber_12 : decode cX2_optionNumber 12 = .ok (.irem, 1) := by decide +kernel
theorem dX2_optionNumber_13 : decode cX2_optionNumber 13 = .ok (.imul, 1) := by decide +kernel
theorem dX2_optionNumber_14 : decode cX2_optionNumber 14 = .ok (.iadd, 1) := by decide +kernel
theorem dX2_optionNumber_15 : decode cX2_optionNumber 15 = .ok (.iload_n 0, 1) := by decide +kernel
theorem dX2_optionNumber_16 : decode cX2_optionNumber 16 = .ok (.iconst 2, 1) := by decide +kernel
theorem dX2_optionNumber_17 : decode cX2_optionNumber 17 = .ok (.irem, 1) := by decide +kernel
theorem dX2_optionNumber_18 : decode cX2_optionNumber 18 = .ok (.iadd, 1) := by decide +kernel
theorem dX2_optionNumber_19 : decode cX2_optionNumber 19 = .ok (.ireturn, 1) := by decide +kernel
theorem dX3_init_0 : decode cX3_init 0 = .ok (.aload_n 0, 1) := by decide +kernel
theorem dX3_init_1 : decode cX3_init 1 = .ok (.invokespecial 3, 3) := by decide +kernel
theorem dX3_init_4 : decode cX3_init 4 = .ok (.aload_n 0, 1) := by decide +kernel
theorem dX3_init_5 : decode cX3_init 5 = .ok (.sipush 129, 3) := by decide +kernel
theorem dX3_init_8 : decode cX3_init 8 = .ok (.newarray .int, 2) := by decide +kernel
theorem dX3_init_10 : decode cX3_init 10 = .ok (.putfield 9, 3) := by decide +kernel
theorem dX3_init_13 : decode cX3_init 13 = .ok (.aload_n 0, 1) := by decide +kernel
theorem dX3_init_14 : decode cX3_init 14 = .ok (.iconst 0, 1) := by decide +kernel
theorem dX3_init_15 : decode cX3_init 15 = .ok (.putfield 15, 3) := by decide +kernel
theorem dX3_init_18 : decode cX3_init 18 = .ok (.return_, 1) := by decide +kernel
theorem dX3_add_0 : decode cX3_add 0 = .ok (.iconst 0, 1) := by decide +kernel
theorem dX3_add_1 : decode cX3_add 1 = .ok (.istore 4, 2) := by decide +kernel
theorem dX3_add_3 : decode cX3_add 3 = .ok (.iload 4, 2) := by decide +kernel
theorem dX3_add_5 : decode cX3_add 5 = .ok (.iload_n 1, 1) := by decide +kernel
theorem dX3_add_6 : decode cX3_add 6 = .ok (.if_icmp .ge 66, 3) := by decide +kernel
theorem dX3_add_9 : decode cX3_add 9 = .ok (.iload 4, 2) := by decide +kernel
theorem dX3_add_11 : decode cX3_add 11 = .ok (.bipush 8, 2) := by decide +kernel
theorem dX3_add_13 : decode cX3_add 13 = .ok (.if_icmp .ge 59, 3) := by decide +kernel
theorem dX3_add_16 : decode cX3_add 16 = .ok (.aload_n 0, 1) := by decide +kernel
theorem dX3_add_17 : decode cX3_add 17 = .ok (.getfield 15, 3) := by decide +kernel
theorem dX3_add_20 : decode cX3_add 20 = .ok (.ifCond .lt 46, 3) := by decide +kernel
theorem dX3_add_23 : decode cX3_add 23 = .ok (.aload_n 0, 1) := by decide +kernel
theorem dX3_add_24 : decode cX3_add 24 = .ok (.getfield 15, 3) := by decide +kernel
theorem dX3_add_27 : decode cX3_add 27 = .ok (.aload_n 0, 1) := by decide +kernel
theorem dX3_add_28 : decode cX3_add 28 = .ok (.getfield 9, 3) := by decide +kernel
theorem dX3_add_31 : decode cX3_add 31 = .ok (.arraylength, 1) := by decide +kernel
theorem dX3_add_32 : decode cX3_add 32 = .ok (.if_icmp .ge 34, 3) := by decide +kernel
theorem dX3_add_35 : decode cX3_add 35 = .ok (.aload_n 0, 1) := by decide +kernel
theorem dX3_add_36 : decode cX3_add 36 = .ok (.getfield 9, 3) := by decide +kernel
theorem dX3_add_39 : decode cX3_add 39 = .ok (.aload_n 0, 1) := by decide +kernel
theorem dX3_add_40 : decode cX3_add 40 = .ok (.getfield 15, 3) := by decide +kernel
theorem dX3_add_43 : decode cX3_add 43 = .ok (.lload_n 2, 1) := by decide +kernel
theorem dX3_add_44 : decode cX3_add 44 = .ok (.bipush 8, 2) := by decide +kernel
theorem dX3_add_46 : decode cX3_add 46 = .ok (.iload 4, 2) := by decide +kernel
theorem dX3_add_48 : decode cX3_add 48 = .ok (.imul, 1) := by decide +kernel
theorem dX3_add_49 : decode cX3_add 49 = .ok (.lushr, 1) := by decide +kernel
theorem dX3_add_50 : decode cX3_add 50 = .ok (.l2i, 1) := by decide +kernel
theorem dX3_add_51 : decode cX3_add 51 = .ok (.sipush 255, 3) := by decide +kernel
theorem dX3_add_54 : decode cX3_add 54 = .ok (.iand, 1) := by decide +kernel
theorem dX3_add_55 : decode cX3_add 55 = .ok (.iastore, 1) := by decide +kernel
theorem dX3_add_56 : decode cX3_add 56 = .ok (.aload_n 0, 1) := by decide +kernel
theorem dX3_add_57 : decode cX3_add 57 = .ok (.dup, 1) := by decide +kernel
theorem dX3_add_58 : decode cX3_add 58 = .ok (.getfield 15, 3) := by decide +kernel
theorem dX3_add_61 : decode cX3_add 61 = .ok (.iconst 1, 1) := by decide +kernel
theorem dX3_add_62 : decode cX3_add 62 = .ok (.iadd, 1) := by decide +kernel
theorem dX3_add_63 : decode cX3_add 63 = .ok (.putfield 15, 3) := by decide +kernel
theorem dX3_add_66 : decode cX3_add 66 = .ok (.iinc 4 1, 3) := by decide +kernel
theorem dX3_add_69 : decode cX3_add 69 = .ok (.goto (-66), 3) := by decide +kernel
theorem dX3_add_72 : decode cX3_add 72 = .ok (.return_, 1) := by decide +kernel
theorem dX3_signAt_0 : decode cX3_signAt 0 = .ok (.iload_n 1, 1) := by decide +kernel
theorem dX3_signAt_1 : decode cX3_signAt 1 = .ok (.ifCond .lt 29, 3) := by decide +kernel
theorem dX3_signAt_4 : decode cX3_signAt 4 = .ok (.iload_n 1, 1) := by decide +kernel
theorem dX3_signAt_5 : decode cX3_signAt 5 = .ok (.aload_n 0, 1) := by decide +kernel
theorem dX3_signAt_6 : decode cX3_signAt 6 = .ok (.getfield 15, 3) := by decide +kernel
theorem dX3_signAt_9 : decode cX3_signAt 9 = .ok (.if_icmp .ge 21, 3) := by decide +kernel
theorem dX3_signAt_12 : decode cX3_signAt 12 = .ok (.iload_n 1, 1) := by decide +kernel
theorem dX3_signAt_13 : decode cX3_signAt 13 = .ok (.aload_n 0, 1) := by decide +kernel
theorem dX3_signAt_14 : decode cX3_signAt 14 = .ok (.getfield 9, 3) := by decide +kernel
theorem dX3_signAt_17 : decode cX3_signAt 17 = .ok (.arraylength, 1) := by decide +kernel
theorem dX3_signAt_18 : decode cX3_signAt 18 = .ok (.if_icmp .ge 12, 3) := by decide +kernel
theorem dX3_signAt_21 : decode cX3_signAt 21 = .ok (.aload_n 0, 1) := by decide +kernel
theorem dX3_signAt_22 : decode cX3_signAt 22 = .ok (.getfield 9, 3) := by decide +kernel
theorem dX3_signAt_25 : decode cX3_signAt 25 = .ok (.iload_n 1, 1) := by decide +kernel
theorem dX3_signAt_26 : decode cX3_signAt 26 = .ok (.iaload, 1) := by decide +kernel
theorem dX3_signAt_27 : decode cX3_signAt 27 = .ok (.goto 4, 3) := by decide +kernel
theorem dX3_signAt_30 : decode cX3_signAt 30 = .ok (.iconst (-1), 1) := by decide +kernel
theorem dX3_signAt_31 : decode cX3_signAt 31 = .ok (.ireturn, 1) := by decide +kernel
theorem dX3_kindAt_0 : decode cX3_kindAt 0 = .ok (.aload_n 0, 1) := by decide +kernel
theorem dX3_kindAt_1 : decode cX3_kindAt 1 = .ok (.iload_n 1, 1) := by decide +kernel
theorem dX3_kindAt_2 : decode cX3_kindAt 2 = .ok (.invokevirtual 19, 3) := by decide +kernel
theorem dX3_kindAt_5 : decode cX3_kindAt 5 = .ok (.istore_n 2, 1) := by decide +kernel
theorem dX3_kindAt_6 : decode cX3_kindAt 6 = .ok (.iload_n 2, 1) := by decide +kernel
theorem dX3_kindAt_7 : decode cX3_kindAt 7 = .ok (.ifCond .ge 7, 3) := by decide +kernel
theorem dX3_kindAt_10 : decode cX3_kindAt 10 = .ok (.iconst (-1), 1) := by decide +kernel
theorem dX3_kindAt_11 : decode cX3_kindAt 11 = .ok (.goto 10, 3) := by decide +kernel
theorem dX3_kindAt_14 : decode cX3_kindAt 14 = .ok (.ldc 23, 2) := by decide +kernel
theorem dX3_kindAt_16 : decode cX3_kindAt 16 = .ok (.iload_n 2, 1) := by decide +kernel
theorem dX3_kindAt_17 : decode cX3_kindAt 17 = .ok (.i2c, 1) := by decide +kernel
theorem dX3_kindAt_18 : decode cX3_kindAt 18 = .ok (.invokevirtual 25, 3) := by decide +kernel
theorem dX3_kindAt_21 : decode cX3_kindAt 21 = .ok (.ireturn, 1) := by decide +kernel
theorem dX3_firstLine_0 : decode cX3_firstLine 0 = .ok (.iconst 0, 1) := by decide +kernel
theorem dX3_firstLine_1 : decode cX3_firstLine 1 = .ok (.istore_n 1, 1) := by decide +kernel
theorem dX3_firstLine_2 : decode cX3_firstLine 2 = .ok (.iload_n 1, 1) := by decide +kernel
theorem dX3_firstLine_3 : decode cX3_firstLine 3 = .ok (.bipush 12, 2) := by decide +kernel
theorem dX3_firstLine_5 : decode cX3_firstLine 5 = .ok (.if_icmp .ge 17, 3) := by decide +kernel
theorem dX3_firstLine_8 : decode cX3_firstLine 8 = .ok (.aload_n 0, 1) := by decide +kernel
theorem dX3_firstLine_9 : decode cX3_firstLine 9 = .ok (.iload_n 1, 1) := by decide +kernel
theorem dX3_firstLine_10 : decode cX3_firstLine 10 = .ok (.invokevirtual 30, 3) := by decide +kernel
theorem dX3_firstLine_13 : decode cX3_firstLine 13 = .ok (.ifCond .lt 9, 3) := by decide +kernel
theorem dX3_firstLine_16 : decode cX3_firstLine 16 = .ok (.iinc 1 1, 3) := by decide +kernel
theorem dX3_firstLine_19 : decode cX3_firstLine 19 = .ok (.goto (-17), 3) := by decide +kernel
theorem dX3_firstLine_22 : decode cX3_firstLine 22 = .ok (.iload_n 1, 1) := by decide +kernel
theorem dX3_firstLine_23 : decode cX3_firstLine 23 = .ok (.ireturn, 1) := by decide +kernel
theorem dX3_firstFault_0 : decode cX3_firstFault 0 = .ok (.aload_n 0, 1) := by decide +kernel
theorem dX3_firstFault_1 : decode cX3_firstFault 1 = .ok (.invokevirtual 33, 3) := by decide +kernel
theorem dX3_firstFault_4 : decode cX3_firstFault 4 = .ok (.istore_n 1, 1) := by decide +kernel
theorem dX3_firstFault_5 : decode cX3_firstFault 5 = .ok (.iconst 0, 1) := by decide +kernel
theorem dX3_firstFault_6 : decode cX3_firstFault 6 = .ok (.istore_n 2, 1) := by decide +kernel
theorem dX3_firstFault_7 : decode cX3_firstFault 7 = .ok (.iconst 0, 1) := by decide +kernel
theorem dX3_firstFault_8 : decode cX3_firstFault 8 = .ok (.istore_n 3, 1) := by decide +kernel
theorem dX3_firstFault_9 : decode cX3_firstFault 9 = .ok (.iconst 0, 1) := by decide +kernel
theorem dX3_firstFault_10 : decode cX3_firstFault 10 = .ok (.istore 4, 2) := by decide +kernel
theorem dX3_firstFault_12 : decode cX3_firstFault 12 = .ok (.iload 4, 2) := by decide +kernel
theorem dX3_firstFault_14 : decode cX3_firstFault 14 = .ok (.aload_n 0, 1) := by decide +kernel
theorem dX3_firstFault_15 : decode cX3_firstFault 15 = .ok (.getfield 15, 3) := by decide +kernel
theorem dX3_firstFault_18 : decode cX3_firstFault 18 = .ok (.if_icmp .ge 68, 3) := by decide +kernel
theorem dX3_firstFault_21 : decode cX3_firstFault 21 = .ok (.aload_n 0, 1) := by decide +kernel
theorem dX3_firstFault_22 : decode cX3_firstFault 22 = .ok (.iload 4, 2) := by decide +kernel
theorem dX3_firstFault_24 : decode cX3_firstFault 24 = .ok (.invokevirtual 19, 3) := by decide +kernel
theorem dX3_firstFault_27 : decode cX3_firstFault 27 = .ok (.bipush 47, 2) := by decide +kernel
theorem dX3_firstFault_29 : decode cX3_firstFault 29 = .ok (.if_icmp .ne 31, 3) := by decide +kernel
theorem dX3_firstFault_32 : decode cX3_firstFault 32 = .ok (.iload_n 2, 1) := by decide +kernel
theorem dX3_firstFault_33 : decode cX3_firstFault 33 = .ok (.ifCond .eq 16, 3) := by decide +kernel
theorem dX3_firstFault_36 : decode cX3_firstFault 36 = .ok (.iload_n 2, 1) := by decide +kernel
theorem dX3_firstFault_37 : decode cX3_firstFault 37 = .ok (.iload_n 1, 1) := by decide +kernel
theorem dX3_firstFault_38 : decode cX3_firstFault 38 = .ok (.if_icmp .lt 11, 3) := by decide +kernel
theorem dX3_firstFault_41 : decode cX3_firstFault 41 = .ok (.iload_n 3, 1) := by decide +kernel
theorem dX3_firstFault_42 : decode cX3_firstFault 42 = .ok (.iconst 1, 1) := by decide +kernel
theorem dX3_firstFault_43 : decode cX3_firstFault 43 = .ok (.iadd, 1) := by decide +kernel
theorem dX3_firstFault_44 : decode cX3_firstFault 44 = .ok (.bipush 10, 2) := by decide +kernel
theorem dX3_firstFault_46 : decode cX3_firstFault 46 = .ok (.if_icmp .lt 6, 3) := by decide +kernel
theorem dX3_firstFault_49 : decode cX3_firstFault 49 = .ok (.iload 4, 2) := by decide +kernel
theorem dX3_firstFault_51 : decode cX3_firstFault 51 = .ok (.ireturn, 1) := by decide +kernel
theorem dX3_firstFault_52 : decode cX3_firstFault 52 = .ok (.iconst 0, 1) := by decide +kernel
theorem dX3_firstFault_53 : decode cX3_firstFault 53 = .ok (.istore_n 2, 1) := by decide +kernel
theorem dX3_firstFault_54 : decode cX3_firstFault 54 = .ok (.iinc 3 1, 3) := by decide +kernel
theorem dX3_firstFault_57 : decode cX3_firstFault 57 = .ok (.goto 23, 3) := by decide +kernel
theorem dX3_firstFault_60 : decode cX3_firstFault 60 = .ok (.iload_n 2, 1) := by decide +kernel
theorem dX3_firstFault_61 : decode cX3_firstFault 61 = .ok (.iload_n 1, 1) := by decide +kernel
theorem dX3_firstFault_62 : decode cX3_firstFault 62 = .ok (.if_icmp .ge 12, 3) := by decide +kernel
theorem dX3_firstFault_65 : decode cX3_firstFault 65 = .ok (.aload_n 0, 1) := by decide +kernel
theorem dX3_firstFault_66 : decode cX3_firstFault 66 = .ok (.iload 4, 2) := by decide +kernel
theorem dX3_firstFault_68 : decode cX3_firstFault 68 = .ok (.invokevirtual 30, 3) := by decide +kernel
theorem dX3_firstFault_71 : decode cX3_firstFault 71 = .ok (.ifCond .ge 6, 3) := by decide +kernel
theorem dX3_firstFault_74 : decode cX3_firstFault 74 = .ok (.iload 4, 2) := by decide +kernel
theorem dX3_firstFault_76 : decode cX3_firstFault 76 = .ok (.ireturn, 1) := by decide +kernel
theorem dX3_firstFault_77 : decode cX3_firstFault 77 = .ok (.iinc 2 1, 3) := by decide +kernel
theorem dX3_firstFault_80 : decode cX3_firstFault 80 = .ok (.iinc 4 1, 3) := by decide +kernel
theorem dX3_firstFault_83 : decode cX3_firstFault 83 = .ok (.goto (-71), 3) := by decide +kernel
theorem dX3_firstFault_86 : decode cX3_firstFault 86 = .ok (.iload_n 2, 1) := by decide +kernel
theorem dX3_firstFault_87 : decode cX3_firstFault 87 = .ok (.ifCond .eq 8, 3) := by decide +kernel
theorem dX3_firstFault_90 : decode cX3_firstFault 90 = .ok (.iload_n 2, 1) := by decide +kernel
theorem dX3_firstFault_91 : decode cX3_firstFault 91 = .ok (.iload_n 1, 1) := by decide +kernel
theorem dX3_firstFault_92 : decode cX3_firstFault 92 = .ok (.if_icmp .ge 10, 3) := by decide +kernel
theorem dX3_firstFault_95 : decode cX3_firstFault 95 = .ok (.aload_n 0, 1) := by decide +kernel
theorem dX3_firstFault_96 : decode cX3_firstFault 96 = .ok (.getfield 15, 3) := by decide +kernel
theorem dX3_firstFault_99 : decode cX3_firstFault 99 = .ok (.goto 4, 3) := by decide +kernel
theorem dX3_firstFault_102 : decode cX3_firstFault 102 = .ok (.iconst (-1), 1) := by decide +kernel
theorem dX3_firstFault_103 : decode cX3_firstFault 103 = .ok (.ireturn, 1) := by decide +kernel
theorem dX3_pourInto_0 : decode cX3_pourInto 0 = .ok (.aload_n 1, 1) := by decide +kernel
theorem dX3_pourInto_1 : decode cX3_pourInto 1 = .ok (.invokevirtual 37, 3) := by decide +kernel
theorem dX3_pourInto_4 : decode cX3_pourInto 4 = .ok (.iconst 0, 1) := by decide +kernel
theorem dX3_pourInto_5 : decode cX3_pourInto 5 = .ok (.istore_n 2, 1) := by decide +kernel
theorem dX3_pourInto_6 : decode cX3_pourInto 6 = .ok (.iconst 0, 1) := by decide +kernel
theorem dX3_pourInto_7 : decode cX3_pourInto 7 = .ok (.istore_n 3, 1) := by decide +kernel
theorem dX3_pourInto_8 : decode cX3_pourInto 8 = .ok (.iconst 0, 1) := by decide +kernel
theorem dX3_pourInto_9 : decode cX3_pourInto 9 = .ok (.istore 4, 2) := by decide +kernel
theorem dX3_pourInto_11 : decode cX3_pourInto 11 = .ok (.iload 4, 2) := by decide +kernel
theorem dX3_pourInto_13 : decode cX3_pourInto 13 = .ok (.aload_n 0, 1) := by decide +kernel
theorem dX3_pourInto_14 : decode cX3_pourInto 14 = .ok (.getfield 15, 3) := by decide +kernel
theorem dX3_pourInto_17 : decode cX3_pourInto 17 = .ok (.if_icmp .ge 45, 3) := by decide +kernel
theorem dX3_pourInto_20 : decode cX3_pourInto 20 = .ok (.aload_n 0, 1) := by decide +kernel
theorem dX3_pourInto_21 : decode cX3_pourInto 21 = .ok (.iload 4, 2) := by decide +kernel
theorem dX3_pourInto_23 : decode cX3_pourInto 23 = .ok (.invokevirtual 30, 3) := by decide +kernel
theorem dX3_pourInto_26 : decode cX3_pourInto 26 = .ok (.istore 5, 2) := by decide +kernel
theorem dX3_pourInto_28 : decode cX3_pourInto 28 = .ok (.iload 5, 2) := by decide +kernel
theorem dX3_pourInto_30 : decode cX3_pourInto 30 = .ok (.ifCond .ge 11, 3) := by decide +kernel
theorem dX3_pourInto_33 : decode cX3_pourInto 33 = .ok (.iconst 0, 1) := by decide +kernel
theorem dX3_pourInto_34 : decode cX3_pourInto 34 = .ok (.istore_n 2, 1) := by decide +kernel
theorem dX3_pourInto_35 : decode cX3_pourInto 35 = .ok (.iinc 3 1, 3) := by decide +kernel
theorem dX3_pourInto_38 : decode cX3_pourInto 38 = .ok (.goto 18, 3) := by decide +kernel
theorem dX3_pourInto_41 : decode cX3_pourInto 41 = .ok (.aload_n 1, 1) := by decide +kernel
theorem dX3_pourInto_42 : decode cX3_pourInto 42 = .ok (.iload_n 3, 1) := by decide +kernel
theorem dX3_pourInto_43 : decode cX3_pourInto 43 = .ok (.bipush 12, 2) := by decide +kernel
theorem dX3_pourInto_45 : decode cX3_pourInto 45 = .ok (.imul, 1) := by decide +kernel
theorem dX3_pourInto_46 : decode cX3_pourInto 46 = .ok (.iload_n 2, 1) := by decide +kernel
theorem dX3_pourInto_47 : decode cX3_pourInto 47 = .ok (.iadd, 1) := by decide +kernel
theorem dX3_pourInto_48 : decode cX3_pourInto 48 = .ok (.iload 5, 2) := by decide +kernel
theorem dX3_pourInto_50 : decode cX3_pourInto 50 = .ok (.invokevirtual 42, 3) := by decide +kernel
theorem dX3_pourInto_53 : decode cX3_pourInto 53 = .ok (.iinc 2 1, 3) := by decide +kernel
theorem dX3_pourInto_56 : decode cX3_pourInto 56 = .ok (.iinc 4 1, 3) := by decide +kernel
theorem dX3_pourInto_59 : decode cX3_pourInto 59 = .ok (.goto (-48), 3) := by decide +kernel
theorem dX3_pourInto_62 : decode cX3_pourInto 62 = .ok (.aload_n 1, 1) := by decide +kernel
theorem dX3_pourInto_63 : decode cX3_pourInto 63 = .ok (.iload_n 2, 1) := by decide +kernel
theorem dX3_pourInto_64 : decode cX3_pourInto 64 = .ok (.putfield 46, 3) := by decide +kernel
theorem dX3_pourInto_67 : decode cX3_pourInto 67 = .ok (.aload_n 1, 1) := by decide +kernel
theorem dX3_pourInto_68 : decode cX3_pourInto 68 = .ok (.iload_n 3, 1) := by decide +kernel
theorem dX3_pourInto_69 : decode cX3_pourInto 69 = .ok (.iconst 1, 1) := by decide +kernel
theorem dX3_pourInto_70 : decode cX3_pourInto 70 = .ok (.iadd, 1) := by decide +kernel
theorem dX3_pourInto_71 : decode cX3_pourInto 71 = .ok (.putfield 49, 3) := by decide +kernel
theorem dX3_pourInto_74 : decode cX3_pourInto 74 = .ok (.return_, 1) := by decide +kernel
theorem dX4_init_0 : decode cX4_init 0 = .ok (.aload_n 0, 1) := by decide +kernel
theorem dX4_init_1 : decode cX4_init 1 = .ok (.invokespecial 3, 3) := by decide +kernel
theorem dX4_init_4 : decode cX4_init 4 = .ok (.aload_n 0, 1) := by decide +kernel
theorem dX4_init_5 : decode cX4_init 5 = .ok (.iconst 1, 1) := by decide +kernel
theorem dX4_init_6 : decode cX4_init 6 = .ok (.putfield 9, 3) := by decide +kernel
theorem dX4_init_9 : decode cX4_init 9 = .ok (.aload_n 0, 1) := by decide +kernel
theorem dX4_init_10 : decode cX4_init 10 = .ok (.iconst 1, 1) := by decide +kernel
theorem dX4_init_11 : decode cX4_init 11 = .ok (.putfield 15, 3) := by decide +kernel
theorem dX4_init_14 : decode cX4_init 14 = .ok (.aload_n 0, 1) := by decide +kernel
theorem dX4_init_15 : decode cX4_init 15 = .ok (.iconst 0, 1) := by decide +kernel
theorem dX4_init_16 : decode cX4_init 16 = .ok (.putfield 18, 3) := by decide +kernel
theorem dX4_init_19 : decode cX4_init 19 = .ok (.aload_n 0, 1) := by decide +kernel
theorem dX4_init_20 : decode cX4_init 20 = .ok (.bipush 120, 2) := by decide +kernel
theorem dX4_init_22 : decode cX4_init 22 = .ok (.newarray .int, 2) := by decide +kernel
theorem dX4_init_24 : decode cX4_init 24 = .ok (.putfield 21, 3) := by decide +kernel
theorem dX4_init_27 : decode cX4_init 27 = .ok (.aload_n 0, 1) := by decide +kernel
theorem dX4_init_28 : decode cX4_init 28 = .ok (.bipush 12, 2) := by decide +kernel
theorem dX4_init_30 : decode cX4_init 30 = .ok (.newarray .int, 2) := by decide +kernel
theorem dX4_init_32 : decode cX4_init 32 = .ok (.putfield 25, 3) := by decide +kernel
theorem dX4_init_35 : decode cX4_init 35 = .ok (.aload_n 0, 1) := by decide +kernel
theorem dX4_init_36 : decode cX4_init 36 = .ok (.bipush 12, 2) := by decide +kernel
theorem dX4_init_38 : decode cX4_init 38 = .ok (.newarray .int, 2) := by decide +kernel
theorem dX4_init_40 : decode cX4_init 40 = .ok (.putfield 28, 3) := by decide +kernel
theorem dX4_init_43 : decode cX4_init 43 = .ok (.aload_n 0, 1) := by decide +kernel
theorem dX4_init_44 : decode cX4_init 44 = .ok (.new 31, 3) := by decide +kernel
theorem dX4_init_47 : decode cX4_init 47 = .ok (.dup, 1) := by decide +kernel
theorem dX4_init_48 : decode cX4_init 48 = .ok (.invokespecial 33, 3) := by decide +kernel
theorem dX4_init_51 : decode cX4_init 51 = .ok (.putfield 34, 3) := by decide +kernel
theorem dX4_init_54 : decode cX4_init 54 = .ok (.aload_n 0, 1) := by decide +kernel
theorem dX4_init_55 : decode cX4_init 55 = .ok (.getfield 21, 3) := by decide +kernel
theorem dX4_init_58 : decode cX4_init 58 = .ok (.bipush 8, 2) := by decide +kernel
theorem dX4_init_60 : decode cX4_init 60 = .ok (.invokestatic 38, 3) := by decide +kernel
theorem dX4_init_63 : decode cX4_init 63 = .ok (.aload_n 0, 1) := by decide +kernel
theorem dX4_init_64 : decode cX4_init 64 = .ok (.getfield 21, 3) := by decide +kernel
theorem dX4_init_67 : decode cX4_init 67 = .ok (.iconst 0, 1) := by decide +kernel
theorem dX4_init_68 : decode cX4_init 68 = .ok (.iconst 0, 1) := by decide +kernel
theorem dX4_init_69 : decode cX4_init 69 = .ok (.iastore, 1) := by decide +kernel
theorem dX4_init_70 : decode cX4_init 70 = .ok (.return_, 1) := by decide +kernel
theorem dX4_clear_0 : decode cX4_clear 0 = .ok (.aload_n 0, 1) := by decide +kernel
theorem dX4_clear_1 : decode cX4_clear 1 = .ok (.getfield 21, 3) := by decide +kernel
theorem dX4_clear_4 : decode cX4_clear 4 = .ok (.bipush 8, 2) := by decide +kernel
theorem dX4_clear_6 : decode cX4_clear 6 = .ok (.invokestatic 38, 3) := by decide +kernel
theorem dX4_clear_9 : decode cX4_clear 9 = .ok (.aload_n 0, 1) := by decide +kernel
theorem dX4_clear_10 : decode cX4_clear 10 = .ok (.iconst 0, 1) := by decide +kernel
theorem dX4_clear_11 : decode cX4_clear 11 = .ok (.putfield 18, 3) := by decide +kernel
theorem dX4_clear_14 : decode cX4_clear 14 = .ok (.return_, 1) := by decide +kernel
theorem dX4_copyFrom_0 : decode cX4_copyFrom 0 = .ok (.aload_n 0, 1) := by decide +kernel
theorem dX4_copyFrom_1 : decode cX4_copyFrom 1 = .ok (.aload_n 1, 1) := by decide +kernel
theorem dX4_copyFrom_2 : decode cX4_copyFrom 2 = .ok (.getfield 9, 3) := by decide +kernel
theorem dX4_copyFrom_5 : decode cX4_copyFrom 5 = .ok (.putfield 9, 3) := by decide +kernel
theorem dX4_copyFrom_8 : decode cX4_copyFrom 8 = .ok (.aload_n 0, 1) := by decide +kernel
theorem dX4_copyFrom_9 : decode cX4_copyFrom 9 = .ok (.aload_n 1, 1) := by decide +kernel
theorem dX4_copyFrom_10 : decode cX4_copyFrom 10 = .ok (.getfield 15, 3) := by decide +kernel
theorem dX4_copyFrom_13 : decode cX4_copyFrom 13 = .ok (.putfield 15, 3) := by decide +kernel
theorem dX4_copyFrom_16 : decode cX4_copyFrom 16 = .ok (.aload_n 0, 1) := by decide +kernel
theorem dX4_copyFrom_17 : decode cX4_copyFrom 17 = .ok (.aload_n 1, 1) := by decide +kernel
theorem dX4_copyFrom_18 : decode cX4_copyFrom 18 = .ok (.getfield 18, 3) := by decide +kernel
theorem dX4_copyFrom_21 : decode cX4_copyFrom 21 = .ok (.putfield 18, 3) := by decide +kernel
theorem dX4_copyFrom_24 : decode cX4_copyFrom 24 = .ok (.aload_n 0, 1) := by decide +kernel
theorem dX4_copyFrom_25 : decode cX4_copyFrom 25 = .ok (.getfield 34, 3) := by decide +kernel
theorem dX4_copyFrom_28 : decode cX4_copyFrom 28 = .ok (.aload_n 1, 1) := by decide +kernel
theorem dX4_copyFrom_29 : decode cX4_copyFrom 29 = .ok (.getfield 34, 3) := by decide +kernel
theorem dX4_copyFrom_32 : decode cX4_copyFrom 32 = .ok (.invokevirtual 44, 3) := by decide +kernel
theorem dX4_copyFrom_35 : decode cX4_copyFrom 35 = .ok (.iconst 0, 1) := by decide +kernel
theorem dX4_copyFrom_36 : decode cX4_copyFrom 36 = .ok (.istore_n 2, 1) := by decide +kernel
theorem dX4_copyFrom_37 : decode cX4_copyFrom 37 = .ok (.iload_n 2, 1) := by decide +kernel
theorem dX4_copyFrom_38 : decode cX4_copyFrom 38 = .ok (.bipush 120, 2) := by decide +kernel
theorem dX4_copyFrom_40 : decode cX4_copyFrom 40 = .ok (.if_icmp .ge 21, 3) := by decide +kernel
theorem dX4_copyFrom_43 : decode cX4_copyFrom 43 = .ok (.aload_n 0, 1) := by decide +kernel
theorem dX4_copyFrom_44 : decode cX4_copyFrom 44 = .ok (.getfield 21, 3) := by decide +kernel
theorem dX4_copyFrom_47 : decode cX4_copyFrom 47 = .ok (.iload_n 2, 1) := by decide +kernel
theorem dX4_copyFrom_48 : decode cX4_copyFrom 48 = .ok (.aload_n 1, 1) := by decide +kernel
theorem dX4_copyFrom_49 : decode cX4_copyFrom 49 = .ok (.getfield 21, 3) := by decide +kernel
theorem dX4_copyFrom_52 : decode cX4_copyFrom 52 = .ok (.iload_n 2, 1) := by decide +kernel
theorem dX4_copyFrom_53 : decode cX4_copyFrom 53 = .ok (.iaload, 1) := by decide +kernel
theorem dX4_copyFrom_54 : decode cX4_copyFrom 54 = .ok (.iastore, 1) := by decide +kernel
theorem dX4_copyFrom_55 : decode cX4_copyFrom 55 = .ok (.iinc 2 1, 3) := by decide +kernel
theorem dX4_copyFrom_58 : decode cX4_copyFrom 58 = .ok (.goto (-21), 3) := by decide +kernel
theorem dX4_copyFrom_61 : decode cX4_copyFrom 61 = .ok (.iconst 0, 1) := by decide +kernel
theorem dX4_copyFrom_62 : decode cX4_copyFrom 62 = .ok (.istore_n 2, 1) := by decide +kernel
theorem dX4_copyFrom_63 : decode cX4_copyFrom 63 = .ok (.iload_n 2, 1) := by decide +kernel
theorem dX4_copyFrom_64 : decode cX4_copyFrom 64 = .ok (.bipush 12, 2) := by decide +kernel
theorem dX4_copyFrom_66 : decode cX4_copyFrom 66 = .ok (.if_icmp .ge 33, 3) := by decide +kernel
theorem dX4_copyFrom_69 : decode cX4_copyFrom 69 = .ok (.aload_n 0, 1) := by decide +kernel
theorem dX4_copyFrom_70 : decode cX4_copyFrom 70 = .ok (.getfield 25, 3) := by decide +kernel
theorem dX4_copyFrom_73 : decode cX4_copyFrom 73 = .ok (.iload_n 2, 1) := by decide +kernel
theorem dX4_copyFrom_74 : decode cX4_copyFrom 74 = .ok (.aload_n 1, 1) := by decide +kernel
theorem dX4_copyFrom_75 : decode cX4_copyFrom 75 = .ok (.getfield 25, 3) := by decide +kernel
theorem dX4_copyFrom_78 : decode cX4_copyFrom 78 = .ok (.iload_n 2, 1) := by decide +kernel
theorem dX4_copyFrom_79 : decode cX4_copyFrom 79 = .ok (.iaload, 1) := by decide +kernel
theorem dX4_copyFrom_80 : decode cX4_copyFrom 80 = .ok (.iastore, 1) := by decide +kernel
theorem dX4_copyFrom_81 : decode cX4_copyFrom 81 = .ok (.aload_n 0, 1) := by decide +kernel
theorem dX4_copyFrom_82 : decode cX4_copyFrom 82 = .ok (.getfield 28, 3) := by decide +kernel
theorem dX4_copyFrom_85 : decode cX4_copyFrom 85 = .ok (.iload_n 2, 1) := by decide +kernel
theorem dX4_copyFrom_86 : decode cX4_copyFrom 86 = .ok (.aload_n 1, 1) := by decide +kernel
theorem dX4_copyFrom_87 : decode cX4_copyFrom 87 = .ok (.getfield 28, 3) := by decide +kernel
theorem dX4_copyFrom_90 : decode cX4_copyFrom 90 = .ok (.iload_n 2, 1) := by decide +kernel
theorem dX4_copyFrom_91 : decode cX4_copyFrom 91 = .ok (.iaload, 1) := by decide +kernel
theorem dX4_copyFrom_92 : decode cX4_copyFrom 92 = .ok (.iastore, 1) := by decide +kernel
theorem dX4_copyFrom_93 : decode cX4_copyFrom 93 = .ok (.iinc 2 1, 3) := by decide +kernel
theorem dX4_copyFrom_96 : decode cX4_copyFrom 96 = .ok (.goto (-33), 3) := by decide +kernel
theorem dX4_copyFrom_99 : decode cX4_copyFrom 99 = .ok (.return_, 1) := by decide +kernel
theorem dX4_size_0 : decode cX4_size 0 = .ok (.aload_n 0, 1) := by decide +kernel
theorem dX4_size_1 : decode cX4_size 1 = .ok (.getfield 9, 3) := by decide +kernel
theorem dX4_size_4 : decode cX4_size 4 = .ok (.aload_n 0, 1) := by decide +kernel
theorem dX4_size_5 : decode cX4_size 5 = .ok (.getfield 15, 3) := by decide +kernel
theorem dX4_size_8 : decode cX4_size 8 = .ok (.imul, 1) := by decide +kernel
theorem dX4_size_9 : decode cX4_size 9 = .ok (.ireturn, 1) := by decide +kernel
theorem dX4_kindOf_0 : decode cX4_kindOf 0 = .ok (.iload_n 1, 1) := by decide +kernel
theorem dX4_kindOf_1 : decode cX4_kindOf 1 = .ok (.ifCond .lt 21, 3) := by decide +kernel
theorem dX4_kindOf_4 : decode cX4_kindOf 4 = .ok (.iload_n 1, 1) := by decide +kernel
theorem dX4_kindOf_5 : decode cX4_kindOf 5 = .ok (.aload_n 0, 1) := by decide +kernel
theorem dX4_kindOf_6 : decode cX4_kindOf 6 = .ok (.getfield 21, 3) := by decide +kernel
theorem dX4_kindOf_9 : decode cX4_kindOf 9 = .ok (.arraylength, 1) := by decide +kernel
theorem dX4_kindOf_10 : decode cX4_kindOf 10 = .ok (.if_icmp .ge 12, 3) := by decide +kernel
theorem dX4_kindOf_13 : decode cX4_kindOf 13 = .ok (.aload_n 0, 1) := by decide +kernel
theorem dX4_kindOf_14 : decode cX4_kindOf 14 = .ok (.getfield 21, 3) := by decide +kernel
theorem dX4_kindOf_17 : decode cX4_kindOf 17 = .ok (.iload_n 1, 1) := by decide +kernel
theorem dX4_kindOf_18 : decode cX4_kindOf 18 = .ok (.iaload, 1) := by decide +kernel
theorem dX4_kindOf_19 : decode cX4_kindOf 19 = .ok (.goto 5, 3) := by decide +kernel
theorem dX4_kindOf_22 : decode cX4_kindOf 22 = .ok (.bipush 8, 2) := by decide +kernel
theorem dX4_kindOf_24 : decode cX4_kindOf 24 = .ok (.ireturn, 1) := by decide +kernel
theorem dX4_kindAt_0 : decode cX4_kindAt 0 = .ok (.iload_n 1, 1) := by decide +kernel
theorem dX4_kindAt_1 : decode cX4_kindAt 1 = .ok (.ifCond .lt 19, 3) := by decide +kernel
theorem dX4_kindAt_4 : decode cX4_kindAt 4 = .ok (.iload_n 1, 1) := by decide +kernel
theorem dX4_kindAt_5 : decode cX4_kindAt 5 = .ok (.bipush 12, 2) := by decide +kernel
theorem dX4_kindAt_7 : decode cX4_kindAt 7 = .ok (.if_icmp .ge 13, 3) := by decide +kernel
theorem dX4_kindAt_10 : decode cX4_kindAt 10 = .ok (.iload_n 2, 1) := by decide +kernel
theorem dX4_kindAt_11 : decode cX4_kindAt 11 = .ok (.ifCond .lt 9, 3) := by decide +kernel
theorem dX4_kindAt_14 : decode cX4_kindAt 14 = .ok (.iload_n 2, 1) := by decide +kernel
theorem dX4_kindAt_15 : decode cX4_kindAt 15 = .ok (.bipush 10, 2) := by decide +kernel
theorem dX4_kindAt_17 : decode cX4_kindAt 17 = .ok (.if_icmp .lt 8, 3) := by decide +kernel
theorem dX4_kindAt_20 : decode cX4_kindAt 20 = .ok (.bipush 8, 2) := by decide +kernel
theorem dX4_kindAt_22 : decode cX4_kindAt 22 = .ok (.goto 14, 3) := by decide +kernel
theorem dX4_kindAt_25 : decode cX4_kindAt 25 = .ok (.aload_n 0, 1) := by decide +kernel
theorem dX4_kindAt_26 : decode cX4_kindAt 26 = .ok (.getfield 21, 3) := by decide +kernel
theorem dX4_kindAt_29 : decode cX4_kindAt 29 = .ok (.iload_n 2, 1) := by decide +kernel
theorem dX4_kindAt_30 : decode cX4_kindAt 30 = .ok (.bipush 12, 2) := by decide +kernel
theorem dX4_kindAt_32 : decode cX4_kindAt 32 = .ok (.imul, 1) := by decide +kernel
theorem dX4_kindAt_33 : decode cX4_kindAt 33 = .ok (.iload_n 1, 1) := by decide +kernel
theorem dX4_kindAt_34 : decode cX4_kindAt 34 = .ok (.iadd, 1) := by decide +kernel
theorem dX4_kindAt_35 : decode cX4_kindAt 35 = .ok (.iaload, 1) := by decide +kernel
theorem dX4_kindAt_36 : decode cX4_kindAt 36 = .ok (.ireturn, 1) := by decide +kernel
theorem dX4_setKind_0 : decode cX4_setKind 0 = .ok (.iload_n 1, 1) := by decide +kernel
theorem dX4_setKind_1 : decode cX4_setKind 1 = .ok (.ifCond .lt 19, 3) := by decide +kernel
theorem dX4_setKind_4 : decode cX4_setKind 4 = .ok (.iload_n 1, 1) := by decide +kernel
theorem dX4_setKind_5 : decode cX4_setKind 5 = .ok (.aload_n 0, 1) := by decide +kernel
theorem dX4_setKind_6 : decode cX4_setKind 6 = .ok (.getfield 21, 3) := by decide +kernel
theorem dX4_setKind_9 : decode cX4_setKind 9 = .ok (.arraylength, 1) := by decide +kernel
theorem dX4_setKind_10 : decode cX4_setKind 10 = .ok (.if_icmp .ge 10, 3) := by decide +kernel
theorem dX4_setKind_13 : decode cX4_setKind 13 = .ok (.aload_n 0, 1) := by decide +kernel
theorem dX4_setKind_14 : decode cX4_setKind 14 = .ok (.getfield 21, 3) := by decide +kernel
theorem dX4_setKind_17 : decode cX4_setKind 17 = .ok (.iload_n 1, 1) := by decide +kernel
theorem dX4_setKind_18 : decode cX4_setKind 18 = .ok (.iload_n 2, 1) := by decide +kernel
theorem dX4_setKind_19 : decode cX4_setKind 19 = .ok (.iastore, 1) := by decide +kernel
theorem dX4_setKind_20 : decode cX4_setKind 20 = .ok (.return_, 1) := by decide +kernel
theorem dX4_placeOf_0 : decode cX4_placeOf 0 = .ok (.iload_n 1, 1) := by decide +kernel
theorem dX4_placeOf_1 : decode cX4_placeOf 1 = .ok (.ifCond .ge 7, 3) := by decide +kernel
theorem dX4_placeOf_4 : decode cX4_placeOf 4 = .ok (.iconst (-1), 1) := by decide +kernel
theorem dX4_placeOf_5 : decode cX4_placeOf 5 = .ok (.goto 14, 3) := by decide +kernel
theorem dX4_placeOf_8 : decode cX4_placeOf 8 = .ok (.iload_n 1, 1) := by decide +kernel
theorem dX4_placeOf_9 : decode cX4_placeOf 9 = .ok (.bipush 100, 2) := by decide +kernel
theorem dX4_placeOf_11 : decode cX4_placeOf 11 = .ok (.idiv, 1) := by decide +kernel
theorem dX4_placeOf_12 : decode cX4_placeOf 12 = .ok (.iload_n 1, 1) := by decide +kernel
theorem dX4_placeOf_13 : decode cX4_placeOf 13 = .ok (.bipush 100, 2) := by decide +kernel
theorem dX4_placeOf_15 : decode cX4_placeOf 15 = .ok (.irem, 1) := by decide +kernel
theorem dX4_placeOf_16 : decode cX4_placeOf 16 = .ok (.invokestatic 48, 3) := by decide +kernel
theorem dX4_placeOf_19 : decode cX4_placeOf 19 = .ok (.istore_n 2, 1) := by decide +kernel
theorem dX4_placeOf_20 : decode cX4_placeOf 20 = .ok (.aload_n 0, 1) := by decide +kernel
theorem dX4_placeOf_21 : decode cX4_placeOf 21 = .ok (.iload_n 2, 1) := by decide +kernel
theorem dX4_placeOf_22 : decode cX4_placeOf 22 = .ok (.invokevirtual 52, 3) := by decide +kernel
theorem dX4_placeOf_25 : decode cX4_placeOf 25 = .ok (.bipush 8, 2) := by decide +kernel
theorem dX4_placeOf_27 : decode cX4_placeOf 27 = .ok (.if_icmp .ne 7, 3) := by decide +kernel
theorem dX4_placeOf_30 : decode cX4_placeOf 30 = .ok (.iconst (-1), 1) := by decide +kernel
theorem dX4_placeOf_31 : decode cX4_placeOf 31 = .ok (.goto 4, 3) := by decide +kernel
theorem dX4_placeOf_34 : decode cX4_placeOf 34 = .ok (.iload_n 2, 1) := by decide +kernel
theorem dX4_placeOf_35 : decode cX4_placeOf 35 = .ok (.ireturn, 1) := by decide +kernel
theorem dX4_placeAt_0 : decode cX4_placeAt 0 = .ok (.iload_n 0, 1) := by decide +kernel
theorem dX4_placeAt_1 : decode cX4_placeAt 1 = .ok (.ifCond .lt 19, 3) := by decide +kernel
theorem dX4_placeAt_4 : decode cX4_placeAt 4 = .ok (.iload_n 0, 1) := by decide +kernel
theorem dX4_placeAt_5 : decode cX4_placeAt 5 = .ok (.bipush 12, 2) := by decide +kernel
theorem dX4_placeAt_7 : decode cX4_placeAt 7 = .ok (.if_icmp .ge 13, 3) := by decide +kernel
theorem dX4_placeAt_10 : decode cX4_placeAt 10 = .ok (.iload_n 1, 1) := by decide +kernel
theorem dX4_placeAt_11 : decode cX4_placeAt 11 = .ok (.ifCond .lt 9, 3) := by decide +kernel
theorem dX4_placeAt_14 : decode cX4_placeAt 14 = .ok (.iload_n 1, 1) := by decide +kernel
theorem dX4_placeAt_15 : decode cX4_placeAt 15 = .ok (.bipush 10, 2) := by decide +kernel
theorem dX4_placeAt_17 : decode cX4_placeAt 17 = .ok (.if_icmp .lt 7, 3) := by decide +kernel
theorem dX4_placeAt_20 : decode cX4_placeAt 20 = .ok (.iconst (-1), 1) := by decide +kernel
theorem dX4_placeAt_21 : decode cX4_placeAt 21 = .ok (.goto 9, 3) := by decide +kernel
theorem dX4_placeAt_24 : decode cX4_placeAt 24 = .ok (.iload_n 1, 1) := by decide +kernel
theorem dX4_placeAt_25 : decode cX4_placeAt 25 = .ok (.bipush 12, 2) := by decide +kernel
theorem dX4_placeAt_27 : decode cX4_placeAt 27 = .ok (.imul, 1) := by decide +kernel
theorem dX4_placeAt_28 : decode cX4_placeAt 28 = .ok (.iload_n 0, 1) := by decide +kernel
theorem dX4_placeAt_29 : decode cX4_placeAt 29 = .ok (.iadd, 1) := by decide +kernel
theorem dX4_placeAt_30 : decode cX4_placeAt 30 = .ok (.ireturn, 1) := by decide +kernel
theorem dX4_cellsOfSea_0 : decode cX4_cellsOfSea 0 = .ok (.iconst 0, 1) := by decide +kernel
theorem dX4_cellsOfSea_1 : decode cX4_cellsOfSea 1 = .ok (.istore_n 1, 1) := by decide +kernel
theorem dX4_cellsOfSea_2 : decode cX4_cellsOfSea 2 = .ok (.iconst 0, 1) := by decide +kernel
theorem dX4_cellsOfSea_3 : decode cX4_cellsOfSea 3 = .ok (.istore_n 2, 1) := by decide +kernel
theorem dX4_cellsOfSea_4 : decode cX4_cellsOfSea 4 = .ok (.iload_n 2, 1) := by decide +kernel
theorem dX4_cellsOfSea_5 : decode cX4_cellsOfSea 5 = .ok (.bipush 120, 2) := by decide +kernel
theorem dX4_cellsOfSea_7 : decode cX4_cellsOfSea 7 = .ok (.if_icmp .ge 21, 3) := by decide +kernel
theorem dX4_cellsOfSea_10 : decode cX4_cellsOfSea 10 = .ok (.aload_n 0, 1) := by decide +kernel
theorem dX4_cellsOfSea_11 : decode cX4_cellsOfSea 11 = .ok (.getfield 21, 3) := by decide +kernel
theorem dX4_cellsOfSea_14 : decode cX4_cellsOfSea 14 = .ok (.iload_n 2, 1) := by decide +kernel
theorem dX4_cellsOfSea_15 : decode cX4_cellsOfSea 15 = .ok (.iaload, 1) := by decide +kernel
theorem dX4_cellsOfSea_16 : decode cX4_cellsOfSea 16 = .ok (.ifCond .ne 6, 3) := by decide +kernel
theorem dX4_cellsOfSea_19 : decode cX4_cellsOfSea 19 = .ok (.iinc 1 1, 3) := by decide +kernel
theorem dX4_cellsOfSea_22 : decode cX4_cellsOfSea 22 = .ok (.iinc 2 1, 3) := by decide +kernel
theorem dX4_cellsOfSea_25 : decode cX4_cellsOfSea 25 = .ok (.goto (-21), 3) := by decide +kernel
theorem dX4_cellsOfSea_28 : decode cX4_cellsOfSea 28 = .ok (.iload_n 1, 1) := by decide +kernel
theorem dX4_cellsOfSea_29 : decode cX4_cellsOfSea 29 = .ok (.ireturn, 1) := by decide +kernel
theorem dX4_shoreOf_0 : decode cX4_shoreOf 0 = .ok (.iconst 0, 1) := by decide +kernel
theorem dX4_shoreOf_1 : decode cX4_shoreOf 1 = .ok (.istore_n 2, 1) := by decide +kernel
theorem dX4_shoreOf_2 : decode cX4_shoreOf 2 = .ok (.iconst 0, 1) := by decide +kernel
theorem dX4_shoreOf_3 : decode cX4_shoreOf 3 = .ok (.istore_n 3, 1) := by decide +kernel
theorem dX4_shoreOf_4 : decode cX4_shoreOf 4 = .ok (.iload_n 3, 1) := by decide +kernel
theorem dX4_shoreOf_5 : decode cX4_shoreOf 5 = .ok (.bipush 120, 2) := by decide +kernel
theorem dX4_shoreOf_7 : decode cX4_shoreOf 7 = .ok (.if_icmp .ge 39, 3) := by decide +kernel
theorem dX4_shoreOf_10 : decode cX4_shoreOf 10 = .ok (.aload_n 0, 1) := by decide +kernel
theorem dX4_shoreOf_11 : decode cX4_shoreOf 11 = .ok (.getfield 21, 3) := by decide +kernel
theorem dX4_shoreOf_14 : decode cX4_shoreOf 14 = .ok (.iload_n 3, 1) := by decide +kernel
theorem dX4_shoreOf_15 : decode cX4_shoreOf 15 = .ok (.iaload, 1) := by decide +kernel
theorem dX4_shoreOf_16 : decode cX4_shoreOf 16 = .ok (.iconst 1, 1) := by decide +kernel
theorem dX4_shoreOf_17 : decode cX4_shoreOf 17 = .ok (.iload_n 1, 1) := by decide +kernel
theorem dX4_shoreOf_18 : decode cX4_shoreOf 18 = .ok (.iadd, 1) := by decide +kernel
theorem dX4_shoreOf_19 : decode cX4_shoreOf 19 = .ok (.if_icmp .ne 21, 3) := by decide +kernel
theorem dX4_shoreOf_22 : decode cX4_shoreOf 22 = .ok (.aload_n 0, 1) := by decide +kernel
theorem dX4_shoreOf_23 : decode cX4_shoreOf 23 = .ok (.iload_n 3, 1) := by decide +kernel
theorem dX4_shoreOf_24 : decode cX4_shoreOf 24 = .ok (.bipush 12, 2) := by decide +kernel
theorem dX4_shoreOf_26 : decode cX4_shoreOf 26 = .ok (.irem, 1) := by decide +kernel
theorem dX4_shoreOf_27 : decode cX4_shoreOf 27 = .ok (.iload_n 3, 1) := by decide +kernel
theorem dX4_shoreOf_28 : decode cX4_shoreOf 28 = .ok (.bipush 12, 2) := by decide +kernel
theorem dX4_shoreOf_30 : decode cX4_shoreOf 30 = .ok (.idiv, 1) := by decide +kernel
theorem dX4_shoreOf_31 : decode cX4_shoreOf 31 = .ok (.invokevirtual 56, 3) := by decide +kernel
theorem dX4_shoreOf_34 : decode cX4_shoreOf 34 = .ok (.ifCond .eq 6, 3) := by decide +kernel
theorem dX4_shoreOf_37 : decode cX4_shoreOf 37 = .ok (.iinc 2 1, 3) := by decide +kernel
theorem dX4_shoreOf_40 : decode cX4_shoreOf 40 = .ok (.iinc 3 1, 3) := by decide +kernel
theorem dX4_shoreOf_43 : decode cX4_shoreOf 43 = .ok (.goto (-39), 3) := by decide +kernel
theorem dX4_shoreOf_46 : decode cX4_shoreOf 46 = .ok (.iload_n 2, 1) := by decide +kernel
theorem dX4_shoreOf_47 : decode cX4_shoreOf 47 = .ok (.ireturn, 1) := by decide +kernel
theorem dX4_hasSeaBeside_0 : decode cX4_hasSeaBeside 0 = .ok (.aload_n 0, 1) := by decide +kernel
theorem dX4_hasSeaBeside_1 : decode cX4_hasSeaBeside 1 = .ok (.iload_n 1, 1) := by decide +kernel
theorem dX4_hasSeaBeside_2 : decode cX4_hasSeaBeside 2 = .ok (.iconst 1, 1) := by decide +kernel
theorem dX4_hasSeaBeside_3 : decode cX4_hasSeaBeside 3 = .ok (.isub, 1) := by decide +kernel
theorem dX4_hasSeaBeside_4 : decode cX4_hasSeaBeside 4 = .ok (.iload_n 2, 1) := by decide +kernel
theorem dX4_hasSeaBeside_5 : decode cX4_hasSeaBeside 5 = .ok (.invokevirtual 60, 3) := by decide +kernel
theorem dX4_hasSeaBeside_8 : decode cX4_hasSeaBeside 8 = .ok (.ifCond .eq 36, 3) := by decide +kernel
theorem dX4_hasSeaBeside_11 : decode cX4_hasSeaBeside 11 = .ok (.aload_n 0, 1) := by decide +kernel
theorem dX4_hasSeaBeside_12 : decode cX4_hasSeaBeside 12 = .ok (.iload_n 1, 1) := by decide +kernel
theorem dX4_hasSeaBeside_13 : decode cX4_hasSeaBeside 13 = .ok (.iconst 1, 1) := by decide +kernel
theorem dX4_hasSeaBeside_14 : decode cX4_hasSeaBeside 14 = .ok (.iadd, 1) := by decide +kernel
theorem dX4_hasSeaBeside_15 : decode cX4_hasSeaBeside 15 = .ok (.iload_n 2, 1) := by decide +kernel
theorem dX4_hasSeaBeside_16 : decode cX4_hasSeaBeside 16 = .ok (.invokevirtual 60, 3) := by decide +kernel
theorem dX4_hasSeaBeside_19 : decode cX4_hasSeaBeside 19 = .ok (.ifCond .eq 25, 3) := by decide +kernel
theorem dX4_hasSeaBeside_22 : decode cX4_hasSeaBeside 22 = .ok (.aload_n 0, 1) := by decide +kernel
theorem dX4_hasSeaBeside_23 : decode cX4_hasSeaBeside 23 = .ok (.iload_n 1, 1) := by decide +kernel
theorem dX4_hasSeaBeside_24 : decode cX4_hasSeaBeside 24 = .ok (.iload_n 2, 1) := by decide +kernel
theorem dX4_hasSeaBeside_25 : decode cX4_hasSeaBeside 25 = .ok (.iconst 1, 1) := by decide +kernel
theorem dX4_hasSeaBeside_26 : decode cX4_hasSeaBeside 26 = .ok (.isub, 1) := by decide +kernel
theorem dX4_hasSeaBeside_27 : decode cX4_hasSeaBeside 27 = .ok (.invokevirtual 60, 3) := by decide +kernel
theorem dX4_hasSeaBeside_30 : decode cX4_hasSeaBeside 30 = .ok (.ifCond .eq 14, 3) := by decide +kernel
theorem dX4_hasSeaBeside_33 : decode cX4_hasSeaBeside 33 = .ok (.aload_n 0, 1) := by decide +kernel
theorem dX4_hasSeaBeside_34 : decode cX4_hasSeaBeside 34 = .ok (.iload_n 1, 1) := by decide +kernel
theorem dX4_hasSeaBeside_35 : decode cX4_hasSeaBeside 35 = .ok (.iload_n 2, 1) := by decide +kernel
theorem dX4_hasSeaBeside_36 : decode cX4_hasSeaBeside 36 = .ok (.iconst 1, 1) := by decide +kernel
theorem dX4_hasSeaBeside_37 : decode cX4_hasSeaBeside 37 = .ok (.iadd, 1) := by decide +kernel
theorem dX4_hasSeaBeside_38 : decode cX4_hasSeaBeside 38 = .ok (.invokevirtual 60, 3) := by decide +kernel
theorem dX4_hasSeaBeside_41 : decode cX4_hasSeaBeside 41 = .ok (.ifCond .ne 7, 3) := by decide +kernel
theorem dX4_hasSeaBeside_44 : decode cX4_hasSeaBeside 44 = .ok (.iconst 1, 1) := by decide +kernel
theorem dX4_hasSeaBeside_45 : decode cX4_hasSeaBeside 45 = .ok (.goto 4, 3) := by decide +kernel
theorem dX4_hasSeaBeside_48 : decode cX4_hasSeaBeside 48 = .ok (.iconst 0, 1) := by decide +kernel
theorem dX4_hasSeaBeside_49 : decode cX4_hasSeaBeside 49 = .ok (.ireturn, 1) := by decide +kernel
theorem dX4_addWell_0 : decode cX4_addWell 0 = .ok (.aload_n 0, 1) := by decide +kernel
theorem dX4_addWell_1 : decode cX4_addWell 1 = .ok (.getfield 18, 3) := by decide +kernel
theorem dX4_addWell_4 : decode cX4_addWell 4 = .ok (.ifCond .lt 42, 3) := by decide +kernel
theorem dX4_addWell_7 : decode cX4_addWell 7 = .ok (.aload_n 0, 1) := by decide +kernel
theorem dX4_addWell_8 : decode cX4_addWell 8 = .ok (.getfield 18, 3) := by decide +kernel
theorem dX4_addWell_11 : decode cX4_addWell 11 = .ok (.bipush 12, 2) := by decide +kernel
theorem dX4_addWell_13 : decode cX4_addWell 13 = .ok (.if_icmp .ge 33, 3) := by decide +kernel
theorem dX4_addWell_16 : decode cX4_addWell 16 = .ok (.aload_n 0, 1) := by decide +kernel
theorem dX4_addWell_17 : decode cX4_addWell 17 = .ok (.getfield 25, 3) := by decide +kernel
theorem dX4_addWell_20 : decode cX4_addWell 20 = .ok (.aload_n 0, 1) := by decide +kernel
theorem dX4_addWell_21 : decode cX4_addWell 21 = .ok (.getfield 18, 3) := by decide +kernel
theorem dX4_addWell_24 : decode cX4_addWell 24 = .ok (.iload_n 1, 1) := by decide +kernel
theorem dX4_addWell_25 : decode cX4_addWell 25 = .ok (.iastore, 1) := by decide +kernel
theorem dX4_addWell_26 : decode cX4_addWell 26 = .ok (.aload_n 0, 1) := by decide +kernel
theorem dX4_addWell_27 : decode cX4_addWell 27 = .ok (.getfield 28, 3) := by decide +kernel
theorem dX4_addWell_30 : decode cX4_addWell 30 = .ok (.aload_n 0, 1) := by decide +kernel
theorem dX4_addWell_31 : decode cX4_addWell 31 = .ok (.getfield 18, 3) := by decide +kernel
theorem dX4_addWell_34 : decode cX4_addWell 34 = .ok (.iload_n 2, 1) := by decide +kernel
theorem dX4_addWell_35 : decode cX4_addWell 35 = .ok (.iastore, 1) := by decide +kernel
theorem dX4_addWell_36 : decode cX4_addWell 36 = .ok (.aload_n 0, 1) := by decide +kernel
theorem dX4_addWell_37 : decode cX4_addWell 37 = .ok (.dup, 1) := by decide +kernel
theorem dX4_addWell_38 : decode cX4_addWell 38 = .ok (.getfield 18, 3) := by decide +kernel
theorem dX4_addWell_41 : decode cX4_addWell 41 = .ok (.iconst 1, 1) := by decide +kernel
theorem dX4_addWell_42 : decode cX4_addWell 42 = .ok (.iadd, 1) := by decide +kernel
theorem dX4_addWell_43 : decode cX4_addWell 43 = .ok (.putfield 18, 3) := by decide +kernel
theorem dX4_addWell_46 : decode cX4_addWell 46 = .ok (.return_, 1) := by decide +kernel
theorem dX4_dropWells_0 : decode cX4_dropWells 0 = .ok (.iconst 0, 1) := by decide +kernel
theorem dX4_dropWells_1 : decode cX4_dropWells 1 = .ok (.istore_n 2, 1) := by decide +kernel
theorem dX4_dropWells_2 : decode cX4_dropWells 2 = .ok (.iconst 0, 1) := by decide +kernel
theorem dX4_dropWells_3 : decode cX4_dropWells 3 = .ok (.istore_n 3, 1) := by decide +kernel
theorem dX4_dropWells_4 : decode cX4_dropWells 4 = .ok (.iload_n 3, 1) := by decide +kernel
theorem dX4_dropWells_5 : decode cX4_dropWells 5 = .ok (.aload_n 0, 1) := by decide +kernel
theorem dX4_dropWells_6 : decode cX4_dropWells 6 = .ok (.getfield 18, 3) := by decide +kernel
theorem dX4_dropWells_9 : decode cX4_dropWells 9 = .ok (.if_icmp .ge 52, 3) := by decide +kernel
theorem dX4_dropWells_12 : decode cX4_dropWells 12 = .ok (.iload_n 3, 1) := by decide +kernel
theorem dX4_dropWells_13 : decode cX4_dropWells 13 = .ok (.bipush 12, 2) := by decide +kernel
theorem dX4_dropWells_15 : decode cX4_dropWells 15 = .ok (.if_icmp .ge 46, 3) := by decide +kernel
theorem dX4_dropWells_18 : decode cX4_dropWells 18 = .ok (.aload_n 0, 1) := by decide +kernel
theorem dX4_dropWells_19 : decode cX4_dropWells 19 = .ok (.getfield 25, 3) := by decide +kernel
theorem dX4_dropWells_22 : decode cX4_dropWells 22 = .ok (.iload_n 3, 1) := by decide +kernel
theorem dX4_dropWells_23 : decode cX4_dropWells 23 = .ok (.iaload, 1) := by decide +kernel
theorem dX4_dropWells_24 : decode cX4_dropWells 24 = .ok (.iload_n 1, 1) := by decide +kernel
theorem dX4_dropWells_25 : decode cX4_dropWells 25 = .ok (.if_icmp .eq 30, 3) := by decide +kernel
theorem dX4_dropWells_28 : decode cX4_dropWells 28 = .ok (.aload_n 0, 1) := by decide +kernel
theorem dX4_dropWells_29 : decode cX4_dropWells 29 = .ok (.getfield 25, 3) := by decide +kernel
theorem dX4_dropWells_32 : decode cX4_dropWells 32 = .ok (.iload_n 2, 1) := by decide +kernel
theorem dX4_dropWells_33 : decode cX4_dropWells 33 = .ok (.aload_n 0, 1) := by decide +kernel
theorem dX4_dropWells_34 : decode cX4_dropWells 34 = .ok (.getfield 25, 3) := by decide +kernel
theorem dX4_dropWells_37 : decode cX4_dropWells 37 = .ok (.iload_n 3, 1) := by decide +kernel
theorem dX4_dropWells_38 : decode cX4_dropWells 38 = .ok (.iaload, 1) := by decide +kernel
theorem dX4_dropWells_39 : decode cX4_dropWells 39 = .ok (.iastore, 1) := by decide +kernel
theorem dX4_dropWells_40 : decode cX4_dropWells 40 = .ok (.aload_n 0, 1) := by decide +kernel
theorem dX4_dropWells_41 : decode cX4_dropWells 41 = .ok (.getfield 28, 3) := by decide +kernel
theorem dX4_dropWells_44 : decode cX4_dropWells 44 = .ok (.iload_n 2, 1) := by decide +kernel
theorem dX4_dropWells_45 : decode cX4_dropWells 45 = .ok (.aload_n 0, 1) := by decide +kernel
theorem dX4_dropWells_46 : decode cX4_dropWells 46 = .ok (.getfield 28, 3) := by decide +kernel
theorem dX4_dropWells_49 : decode cX4_dropWells 49 = .ok (.iload_n 3, 1) := by decide +kernel
theorem dX4_dropWells_50 : decode cX4_dropWells 50 = .ok (.iaload, 1) := by decide +kernel
theorem dX4_dropWells_51 : decode cX4_dropWells 51 = .ok (.iastore, 1) := by decide +kernel
theorem dX4_dropWells_52 : decode cX4_dropWells 52 = .ok (.iinc 2 1, 3) := by decide +kernel
theorem dX4_dropWells_55 : decode cX4_dropWells 55 = .ok (.iinc 3 1, 3) := by decide +kernel
theorem dX4_dropWells_58 : decode cX4_dropWells 58 = .ok (.goto (-54), 3) := by decide +kernel
theorem dX4_dropWells_61 : decode cX4_dropWells 61 = .ok (.aload_n 0, 1) := by decide +kernel
theorem dX4_dropWells_62 : decode cX4_dropWells 62 = .ok (.iload_n 2, 1) := by decide +kernel
theorem dX4_dropWells_63 : decode cX4_dropWells 63 = .ok (.putfield 18, 3) := by decide +kernel
theorem dX4_dropWells_66 : decode cX4_dropWells 66 = .ok (.return_, 1) := by decide +kernel
theorem dX4_worthOf_0 : decode cX4_worthOf 0 = .ok (.iconst 0, 1) := by decide +kernel
theorem dX4_worthOf_1 : decode cX4_worthOf 1 = .ok (.istore_n 3, 1) := by decide +kernel
theorem dX4_worthOf_2 : decode cX4_worthOf 2 = .ok (.iconst 0, 1) := by decide +kernel
theorem dX4_worthOf_3 : decode cX4_worthOf 3 = .ok (.istore 4, 2) := by decide +kernel
theorem dX4_worthOf_5 : decode cX4_worthOf 5 = .ok (.iload 4, 2) := by decide +kernel
theorem dX4_worthOf_7 : decode cX4_worthOf 7 = .ok (.aload_n 0, 1) := by decide +kernel
theorem dX4_worthOf_8 : decode cX4_worthOf 8 = .ok (.getfield 18, 3) := by decide +kernel
theorem dX4_worthOf_11 : decode cX4_worthOf 11 = .ok (.if_icmp .ge 41, 3) := by decide +kernel
theorem dX4_worthOf_14 : decode cX4_worthOf 14 = .ok (.iload 4, 2) := by decide +kernel
theorem dX4_worthOf_16 : decode cX4_worthOf 16 = .ok (.bipush 12, 2) := by decide +kernel
theorem dX4_worthOf_18 : decode cX4_worthOf 18 = .ok (.if_icmp .ge 34, 3) := by decide +kernel
theorem dX4_worthOf_21 : decode cX4_worthOf 21 = .ok (.aload_n 2, 1) := by decide +kernel
theorem dX4_worthOf_22 : decode cX4_worthOf 22 = .ok (.aload_n 0, 1) := by decide +kernel
theorem dX4_worthOf_23 : decode cX4_worthOf 23 = .ok (.getfield 25, 3) := by decide +kernel
theorem dX4_worthOf_26 : decode cX4_worthOf 26 = .ok (.iload 4, 2) := by decide +kernel
theorem dX4_worthOf_28 : decode cX4_worthOf 28 = .ok (.iaload, 1) := by decide +kernel
theorem dX4_worthOf_29 : decode cX4_worthOf 29 = .ok (.invokevirtual 63, 3) := by decide +kernel
theorem dX4_worthOf_32 : decode cX4_worthOf 32 = .ok (.iload_n 1, 1) := by decide +kernel
theorem dX4_worthOf_33 : decode cX4_worthOf 33 = .ok (.if_icmp .ne 13, 3) := by decide +kernel
theorem dX4_worthOf_36 : decode cX4_worthOf 36 = .ok (.iload_n 3, 1) := by decide +kernel
theorem dX4_worthOf_37 : decode cX4_worthOf 37 = .ok (.aload_n 0, 1) := by decide +kernel
theorem dX4_worthOf_38 : decode cX4_worthOf 38 = .ok (.getfield 28, 3) := by decide +kernel
theorem dX4_worthOf_41 : decode cX4_worthOf 41 = .ok (.iload 4, 2) := by decide +kernel
theorem dX4_worthOf_43 : decode cX4_worthOf 43 = .ok (.iaload, 1) := by decide +kernel
theorem dX4_worthOf_44 : decode cX4_worthOf 44 = .ok (.iadd, 1) := by decide +kernel
theorem dX4_worthOf_45 : decode cX4_worthOf 45 = .ok (.istore_n 3, 1) := by decide +kernel
theorem dX4_worthOf_46 : decode cX4_worthOf 46 = .ok (.iinc 4 1, 3) := by decide +kernel
theorem dX4_worthOf_49 : decode cX4_worthOf 49 = .ok (.goto (-44), 3) := by decide +kernel
theorem dX4_worthOf_52 : decode cX4_worthOf 52 = .ok (.iload_n 3, 1) := by decide +kernel
theorem dX4_worthOf_53 : decode cX4_worthOf 53 = .ok (.ireturn, 1) := by decide +kernel
