theorem dX4_isStill_12 : decode cX4_isStill 12 = .ok (.iload_n 2, 1) := by decide +kernel
theorem dX4_isStill_13 : decode cX4_isStill 13 = .ok (.aload_n 0, 1) := by decide +kernel
theorem dX4_isStill_14 : decode cX4_isStill 14 = .ok (.getfield 7, 3) := by decide +kernel
theorem dX4_isStill_17 : decode cX4_isStill 17 = .ok (.iconst 0, 1) := by decide +kernel
theorem dX4_isStill_18 : decode cX4_isStill 18 = .ok (.iaload, 1) := by decide +kernel
theorem dX4_isStill_19 : decode cX4_isStill 19 = .ok (.if_icmp .ge 90, 3) := by decide +kernel
theorem dX4_isStill_22 : decode cX4_isStill 22 = .ok (.bipush 68, 2) := by decide +kernel
theorem dX4_isStill_24 : decode cX4_isStill 24 = .ok (.bipush 20, 2) := by decide +kernel
theorem dX4_isStill_26 : decode cX4_isStill 26 = .ok (.iload_n 2, 1) := by decide +kernel
theorem dX4_isStill_27 : decode cX4_isStill 27 = .ok (.imul, 1) := by decide +kernel
theorem dX4_isStill_28 : decode cX4_isStill 28 = .ok (.iadd, 1) := by decide +kernel
theorem dX4_isStill_29 : decode cX4_isStill 29 = .ok (.istore_n 3, 1) := by decide +kernel
theorem dX4_isStill_30 : decode cX4_isStill 30 = .ok (.iload_n 1, 1) := by decide +kernel
theorem dX4_isStill_31 : decode cX4_isStill 31 = .ok (.ifCond .eq 70, 3) := by decide +kernel
theorem dX4_isStill_34 : decode cX4_isStill 34 = .ok (.aload_n 0, 1) := by decide +kernel
theorem dX4_isStill_35 : decode cX4_isStill 35 = .ok (.getfield 7, 3) := by decide +kernel
theorem dX4_isStill_38 : decode cX4_isStill 38 = .ok (.iload_n 3, 1) := by decide +kernel
theorem dX4_isStill_39 : decode cX4_isStill 39 = .ok (.bipush 10, 2) := by decide +kernel
theorem dX4_isStill_41 : decode cX4_isStill 41 = .ok (.iadd, 1) := by decide +kernel
theorem dX4_isStill_42 : decode cX4_isStill 42 = .ok (.iaload, 1) := by decide +kernel
theorem dX4_isStill_43 : decode cX4_isStill 43 = .ok (.aload_n 0, 1) := by decide +kernel
theorem dX4_isStill_44 : decode cX4_isStill 44 = .ok (.getfield 22, 3) := by decide +kernel
theorem dX4_isStill_47 : decode cX4_isStill 47 = .ok (.iload_n 3, 1) := by decide +kernel
theorem dX4_isStill_48 : decode cX4_isStill 48 = .ok (.bipush 10, 2) := by decide +kernel
theorem dX4_isStill_50 : decode cX4_isStill 50 = .ok (.iadd, 1) := by decide +kernel
theorem dX4_isStill_51 : decode cX4_isStill 51 = .ok (.iaload, 1) := by decide +kernel
theorem dX4_isStill_52 : decode cX4_isStill 52 = .ok (.if_icmp .ne 49, 3) := by decide +kernel
theorem dX4_isStill_55 : decode cX4_isStill 55 = .ok (.aload_n 0, 1) := by decide +kernel
theorem dX4_isStill_56 : decode cX4_isStill 56 = .ok (.getfield 7, 3) := by decide +kernel
theorem dX4_isStill_59 : decode cX4_isStill 59 = .ok (.iload_n 3, 1) := by decide +kernel
theorem dX4_isStill_60 : decode cX4_isStill 60 = .ok (.bipush 9, 2) := by decide +kernel
theorem dX4_isStill_62 : decode cX4_isStill 62 = .ok (.iadd, 1) := by decide +kernel
theorem dX4_isStill_63 : decode cX4_isStill 63 = .ok (.iaload, 1) := by decide +kernel
theorem dX4_isStill_64 : decode cX4_isStill 64 = .ok (.aload_n 0, 1) := by decide +kernel
theorem dX4_isStill_65 : decode cX4_isStill 65 = .ok (.getfield 22, 3) := by decide +kernel
theorem dX4_isStill_68 : decode cX4_isStill 68 = .ok (.iload_n 3, 1) := by decide +kernel
theorem dX4_isStill_69 : decode cX4_isStill 69 = .ok (.bipush 9, 2) := by decide +kernel
theorem dX4_isStill_71 : decode cX4_isStill 71 = .ok (.iadd, 1) := by decide +kernel
theorem dX4_isStill_72 : decode cX4_isStill 72 = .ok (.iaload, 1) := by decide +kernel
theorem dX4_isStill_73 : decode cX4_isStill 73 = .ok (.if_icmp .ne 28, 3) := by decide +kernel
theorem dX4_isStill_76 : decode cX4_isStill 76 = .ok (.aload_n 0, 1) := by decide +kernel
theorem dX4_isStill_77 : decode cX4_isStill 77 = .ok (.getfield 7, 3) := by decide +kernel
theorem dX4_isStill_80 : decode cX4_isStill 80 = .ok (.iload_n 3, 1) := by decide +kernel
theorem dX4_isStill_81 : decode cX4_isStill 81 = .ok (.bipush 13, 2) := by decide +kernel
theorem dX4_isStill_83 : decode cX4_isStill 83 = .ok (.iadd, 1) := by decide +kernel
theorem dX4_isStill_84 : decode cX4_isStill 84 = .ok (.iaload, 1) := by decide +kernel
theorem dX4_isStill_85 : decode cX4_isStill 85 = .ok (.aload_n 0, 1) := by decide +kernel
theorem dX4_isStill_86 : decode cX4_isStill 86 = .ok (.getfield 22, 3) := by decide +kernel
theorem dX4_isStill_89 : decode cX4_isStill 89 = .ok (.iload_n 3, 1) := by decide +kernel
theorem dX4_isStill_90 : decode cX4_isStill 90 = .ok (.bipush 13, 2) := by decide +kernel
theorem dX4_isStill_92 : decode cX4_isStill 92 = .ok (.iadd, 1) := by decide +kernel
theorem dX4_isStill_93 : decode cX4_isStill 93 = .ok (.iaload, 1) := by decide +kernel
theorem dX4_isStill_94 : decode cX4_isStill 94 = .ok (.if_icmp .ne 7, 3) := by decide +kernel
theorem dX4_isStill_97 : decode cX4_isStill 97 = .ok (.iconst 1, 1) := by decide +kernel
theorem dX4_isStill_98 : decode cX4_isStill 98 = .ok (.goto 4, 3) := by decide +kernel
theorem dX4_isStill_101 : decode cX4_isStill 101 = .ok (.iconst 0, 1) := by decide +kernel
theorem dX4_isStill_102 : decode cX4_isStill 102 = .ok (.istore_n 1, 1) := by decide +kernel
theorem dX4_isStill_103 : decode cX4_isStill 103 = .ok (.iinc 2 1, 3) := by decide +kernel
theorem dX4_isStill_106 : decode cX4_isStill 106 = .ok (.goto (-94), 3) := by decide +kernel
theorem dX4_isStill_109 : decode cX4_isStill 109 = .ok (.aload_n 0, 1) := by decide +kernel
theorem dX4_isStill_110 : decode cX4_isStill 110 = .ok (.invokevirtual 188, 3) := by decide +kernel
theorem dX4_isStill_113 : decode cX4_isStill 113 = .ok (.iload_n 1, 1) := by decide +kernel
theorem dX4_isStill_114 : decode cX4_isStill 114 = .ok (.ireturn, 1) := by decide +kernel
theorem dX4_counted_0 : decode cX4_counted 0 = .ok (.iload_n 1, 1) := by decide +kernel
theorem dX4_counted_1 : decode cX4_counted 1 = .ok (.tableswitch 113 0 8 #[51, 58, 65, 72, 80, 88, 96, 103, 108], 51) := by decide +kernel
theorem dX4_counted_52 : decode cX4_counted 52 = .ok (.aload_n 0, 1) := by decide +kernel
theorem dX4_counted_53 : decode cX4_counted 53 = .ok (.getfield 7, 3) := by decide +kernel
theorem dX4_counted_56 : decode cX4_counted 56 = .ok (.iconst 0, 1) := by decide +kernel
theorem dX4_counted_57 : decode cX4_counted 57 = .ok (.iaload, 1) := by decide +kernel
theorem dX4_counted_58 : decode cX4_counted 58 = .ok (.ireturn, 1) := by decide +kernel
theorem dX4_counted_59 : decode cX4_counted 59 = .ok (.aload_n 0, 1) := by decide +kernel
theorem dX4_counted_60 : decode cX4_counted 60 = .ok (.getfield 7, 3) := by decide +kernel
theorem dX4_counted_63 : decode cX4_counted 63 = .ok (.iconst 2, 1) := by decide +kernel
theorem dX4_counted_64 : decode cX4_counted 64 = .ok (.iaload, 1) := by decide +kernel
theorem dX4_counted_65 : decode cX4_counted 65 = .ok (.ireturn, 1) := by decide +kernel
theorem dX4_counted_66 : decode cX4_counted 66 = .ok (.aload_n 0, 1) := by decide +kernel
theorem dX4_counted_67 : decode cX4_counted 67 = .ok (.getfield 7, 3) := by decide +kernel
theorem dX4_counted_70 : decode cX4_counted 70 = .ok (.iconst 1, 1) := by decide +kernel
theorem dX4_counted_71 : decode cX4_counted 71 = .ok (.iaload, 1) := by decide +kernel
theorem dX4_counted_72 : decode cX4_counted 72 = .ok (.ireturn, 1) := by decide +kernel
theorem dX4_counted_73 : decode cX4_counted 73 = .ok (.aload_n 0, 1) := by decide +kernel
theorem dX4_counted_74 : decode cX4_counted 74 = .ok (.bipush 8, 2) := by decide +kernel
theorem dX4_counted_76 : decode cX4_counted 76 = .ok (.iconst 1, 1) := by decide +kernel
theorem dX4_counted_77 : decode cX4_counted 77 = .ok (.invokevirtual 123, 3) := by decide +kernel
theorem dX4_counted_80 : decode cX4_counted 80 = .ok (.ireturn, 1) := by decide +kernel
theorem dX4_counted_81 : decode cX4_counted 81 = .ok (.aload_n 0, 1) := by decide +kernel
theorem dX4_counted_82 : decode cX4_counted 82 = .ok (.bipush 9, 2) := by decide +kernel
theorem dX4_counted_84 : decode cX4_counted 84 = .ok (.iconst 3, 1) := by decide +kernel
theorem dX4_counted_85 : decode cX4_counted 85 = .ok (.invokevirtual 123, 3) := by decide +kernel
theorem dX4_counted_88 : decode cX4_counted 88 = .ok (.ireturn, 1) := by decide +kernel
theorem dX4_counted_89 : decode cX4_counted 89 = .ok (.aload_n 0, 1) := by decide +kernel
theorem dX4_counted_90 : decode cX4_counted 90 = .ok (.bipush 9, 2) := by decide +kernel
theorem dX4_counted_92 : decode cX4_counted 92 = .ok (.iconst 5, 1) := by decide +kernel
theorem dX4_counted_93 : decode cX4_counted 93 = .ok (.invokevirtual 123, 3) := by decide +kernel
theorem dX4_counted_96 : decode cX4_counted 96 = .ok (.ireturn, 1) := by decide +kernel
theorem dX4_counted_97 : decode cX4_counted 97 = .ok (.aload_n 0, 1) := by decide +kernel
theorem dX4_counted_98 : decode cX4_counted 98 = .ok (.getfield 7, 3) := by decide +kernel
theorem dX4_counted_101 : decode cX4_counted 101 = .ok (.iconst 3, 1) := by decide +kernel
theorem dX4_counted_102 : decode cX4_counted 102 = .ok (.iaload, 1) := by decide +kernel
theorem dX4_counted_103 : decode cX4_counted 103 = .ok (.ireturn, 1) := by decide +kernel
theorem dX4_counted_104 : decode cX4_counted 104 = .ok (.aload_n 0, 1) := by decide +kernel
theorem dX4_counted_105 : decode cX4_counted 105 = .ok (.invokevirtual 191, 3) := by decide +kernel
theorem dX4_counted_108 : decode cX4_counted 108 = .ok (.ireturn, 1) := by decide +kernel
theorem dX4_counted_109 : decode cX4_counted 109 = .ok (.aload_n 0, 1) := by decide +kernel
theorem dX4_counted_110 : decode cX4_counted 110 = .ok (.getfield 101, 3) := by decide +kernel
theorem dX4_counted_113 : decode cX4_counted 113 = .ok (.ireturn, 1) := by decide +kernel
theorem dX4_counted_114 : decode cX4_counted 114 = .ok (.aload_n 0, 1) := by decide +kernel
theorem dX4_counted_115 : decode cX4_counted 115 = .ok (.invokevirtual 194, 3) := by decide +kernel
theorem dX4_counted_118 : decode cX4_counted 118 = .ok (.ifCond .eq 7, 3) := by decide +kernel
theorem dX4_counted_121 : decode cX4_counted 121 = .ok (.iconst 1, 1) := by decide +kernel
theorem dX4_counted_122 : decode cX4_counted 122 = .ok (.goto 4, 3) := by decide +kernel
theorem dX4_counted_125 : decode cX4_counted 125 = .ok (.iconst 0, 1) := by decide +kernel
theorem dX4_counted_126 : decode cX4_counted 126 = .ok (.ireturn, 1) := by decide +kernel
theorem dX4_count_0 : decode cX4_count 0 = .ok (.aload_n 0, 1) := by decide +kernel
theorem dX4_count_1 : decode cX4_count 1 = .ok (.iload_n 1, 1) := by decide +kernel
theorem dX4_count_2 : decode cX4_count 2 = .ok (.iconst 0, 1) := by decide +kernel
theorem dX4_count_3 : decode cX4_count 3 = .ok (.bipush 9, 2) := by decide +kernel
theorem dX4_count_5 : decode cX4_count 5 = .ok (.invokestatic 32, 3) := by decide +kernel
theorem dX4_count_8 : decode cX4_count 8 = .ok (.ifCond .eq 7, 3) := by decide +kernel
theorem dX4_count_11 : decode cX4_count 11 = .ok (.iconst 0, 1) := by decide +kernel
theorem dX4_count_12 : decode cX4_count 12 = .ok (.goto 4, 3) := by decide +kernel
theorem dX4_count_15 : decode cX4_count 15 = .ok (.iconst 1, 1) := by decide +kernel
theorem dX4_count_16 : decode cX4_count 16 = .ok (.putfield 28, 3) := by decide +kernel
theorem dX4_count_19 : decode cX4_count 19 = .ok (.aload_n 0, 1) := by decide +kernel
theorem dX4_count_20 : decode cX4_count 20 = .ok (.getfield 28, 3) := by decide +kernel
theorem dX4_count_23 : decode cX4_count 23 = .ok (.ifCond .le 7, 3) := by decide +kernel
theorem dX4_count_26 : decode cX4_count 26 = .ok (.iconst 0, 1) := by decide +kernel
theorem dX4_count_27 : decode cX4_count 27 = .ok (.goto 8, 3) := by decide +kernel
theorem dX4_count_30 : decode cX4_count 30 = .ok (.aload_n 0, 1) := by decide +kernel
theorem dX4_count_31 : decode cX4_count 31 = .ok (.iload_n 1, 1) := by decide +kernel
theorem dX4_count_32 : decode cX4_count 32 = .ok (.invokevirtual 197, 3) := by decide +kernel
theorem dX4_count_35 : decode cX4_count 35 = .ok (.ireturn, 1) := by decide +kernel
theorem dX4_isAllGood_0 : decode cX4_isAllGood 0 = .ok (.aload_n 0, 1) := by decide +kernel
theorem dX4_isAllGood_1 : decode cX4_isAllGood 1 = .ok (.bipush 8, 2) := by decide +kernel
theorem dX4_isAllGood_3 : decode cX4_isAllGood 3 = .ok (.iconst 1, 1) := by decide +kernel
theorem dX4_isAllGood_4 : decode cX4_isAllGood 4 = .ok (.invokevirtual 123, 3) := by decide +kernel
theorem dX4_isAllGood_7 : decode cX4_isAllGood 7 = .ok (.aload_n 0, 1) := by decide +kernel
theorem dX4_isAllGood_8 : decode cX4_isAllGood 8 = .ok (.bipush 9, 2) := by decide +kernel
theorem dX4_isAllGood_10 : decode cX4_isAllGood 10 = .ok (.iconst 3, 1) := by decide +kernel
theorem dX4_isAllGood_11 : decode cX4_isAllGood 11 = .ok (.invokevirtual 123, 3) := by decide +kernel
theorem dX4_isAllGood_14 : decode cX4_isAllGood 14 = .ok (.iconst (-1), 1) := by decide +kernel
theorem dX4_isAllGood_15 : decode cX4_isAllGood 15 = .ok (.ixor, 1) := by decide +kernel
theorem dX4_isAllGood_16 : decode cX4_isAllGood 16 = .ok (.iand, 1) := by decide +kernel
theorem dX4_isAllGood_17 : decode cX4_isAllGood 17 = .ok (.ifCond .ne 7, 3) := by decide +kernel
theorem dX4_isAllGood_20 : decode cX4_isAllGood 20 = .ok (.iconst 1, 1) := by decide +kernel
theorem dX4_isAllGood_21 : decode cX4_isAllGood 21 = .ok (.goto 4, 3) := by decide +kernel
theorem dX4_isAllGood_24 : decode cX4_isAllGood 24 = .ok (.iconst 0, 1) := by decide +kernel
theorem dX4_isAllGood_25 : decode cX4_isAllGood 25 = .ok (.ireturn, 1) := by decide +kernel
theorem dX4_isAllOff_0 : decode cX4_isAllOff 0 = .ok (.aload_n 0, 1) := by decide +kernel
theorem dX4_isAllOff_1 : decode cX4_isAllOff 1 = .ok (.bipush 9, 2) := by decide +kernel
theorem dX4_isAllOff_3 : decode cX4_isAllOff 3 = .ok (.iconst 0, 1) := by decide +kernel
theorem dX4_isAllOff_4 : decode cX4_isAllOff 4 = .ok (.invokevirtual 123, 3) := by decide +kernel
theorem dX4_isAllOff_7 : decode cX4_isAllOff 7 = .ok (.aload_n 0, 1) := by decide +kernel
theorem dX4_isAllOff_8 : decode cX4_isAllOff 8 = .ok (.invokevirtual 200, 3) := by decide +kernel
theorem dX4_isAllOff_11 : decode cX4_isAllOff 11 = .ok (.if_icmp .ne 7, 3) := by decide +kernel
theorem dX4_isAllOff_14 : decode cX4_isAllOff 14 = .ok (.iconst 1, 1) := by decide +kernel
theorem dX4_isAllOff_15 : decode cX4_isAllOff 15 = .ok (.goto 4, 3) := by decide +kernel
theorem dX4_isAllOff_18 : decode cX4_isAllOff 18 = .ok (.iconst 0, 1) := by decide +kernel
theorem dX4_isAllOff_19 : decode cX4_isAllOff 19 = .ok (.istore_n 1, 1) := by decide +kernel
theorem dX4_isAllOff_20 : decode cX4_isAllOff 20 = .ok (.iconst 0, 1) := by decide +kernel
theorem dX4_isAllOff_21 : decode cX4_isAllOff 21 = .ok (.istore_n 2, 1) := by decide +kernel
theorem dX4_isAllOff_22 : decode cX4_isAllOff 22 = .ok (.iload_n 2, 1) := by decide +kernel
theorem dX4_isAllOff_23 : decode cX4_isAllOff 23 = .ok (.aload_n 0, 1) := by decide +kernel
theorem dX4_isAllOff_24 : decode cX4_isAllOff 24 = .ok (.getfield 7, 3) := by decide +kernel
theorem dX4_isAllOff_27 : decode cX4_isAllOff 27 = .ok (.iconst 0, 1) := by decide +kernel
theorem dX4_isAllOff_28 : decode cX4_isAllOff 28 = .ok (.iaload, 1) := by decide +kernel
theorem dX4_isAllOff_29 : decode cX4_isAllOff 29 = .ok (.if_icmp .ge 27, 3) := by decide +kernel
theorem dX4_isAllOff_32 : decode cX4_isAllOff 32 = .ok (.iload_n 1, 1) := by decide +kernel
theorem dX4_isAllOff_33 : decode cX4_isAllOff 33 = .ok (.ifCond .eq 15, 3) := by decide +kernel
theorem dX4_isAllOff_36 : decode cX4_isAllOff 36 = .ok (.aload_n 0, 1) := by decide +kernel
theorem dX4_isAllOff_37 : decode cX4_isAllOff 37 = .ok (.iload_n 2, 1) := by decide +kernel
theorem dX4_isAllOff_38 : decode cX4_isAllOff 38 = .ok (.invokevirtual 69, 3) := by decide +kernel
theorem dX4_isAllOff_41 : decode cX4_isAllOff 41 = .ok (.ifCond .eq 7, 3) := by decide +kernel
theorem dX4_isAllOff_44 : decode cX4_isAllOff 44 = .ok (.iconst 1, 1) := by decide +kernel
theorem dX4_isAllOff_45 : decode cX4_isAllOff 45 = .ok (.goto 4, 3) := by decide +kernel
theorem dX4_isAllOff_48 : decode cX4_isAllOff 48 = .ok (.iconst 0, 1) := by decide +kernel
theorem dX4_isAllOff_49 : decode cX4_isAllOff 49 = .ok (.istore_n 1, 1) := by decide +kernel
theorem dX4_isAllOff_50 : decode cX4_isAllOff 50 = .ok (.iinc 2 1, 3) := by decide +kernel
theorem dX4_isAllOff_53 : decode cX4_isAllOff 53 = .ok (.goto (-31), 3) := by decide +kernel
theorem dX4_isAllOff_56 : decode cX4_isAllOff 56 = .ok (.iload_n 1, 1) := by decide +kernel
theorem dX4_isAllOff_57 : decode cX4_isAllOff 57 = .ok (.ireturn, 1) := by decide +kernel
theorem dX4_goesIn_0 : decode cX4_goesIn 0 = .ok (.aload_n 0, 1) := by decide +kernel
theorem dX4_goesIn_1 : decode cX4_goesIn 1 = .ok (.invokevirtual 185, 3) := by decide +kernel
theorem dX4_goesIn_4 : decode cX4_goesIn 4 = .ok (.iload_n 1, 1) := by decide +kernel
theorem dX4_goesIn_5 : decode cX4_goesIn 5 = .ok (.ifCond .eq 11, 3) := by decide +kernel
theorem dX4_goesIn_8 : decode cX4_goesIn 8 = .ok (.aload_n 0, 1) := by decide +kernel
theorem dX4_goesIn_9 : decode cX4_goesIn 9 = .ok (.aload_n 0, 1) := by decide +kernel
theorem dX4_goesIn_10 : decode cX4_goesIn 10 = .ok (.invokevirtual 200, 3) := by decide +kernel
theorem dX4_goesIn_13 : decode cX4_goesIn 13 = .ok (.invokevirtual 126, 3) := by decide +kernel
theorem dX4_goesIn_16 : decode cX4_goesIn 16 = .ok (.iconst 0, 1) := by decide +kernel
theorem dX4_goesIn_17 : decode cX4_goesIn 17 = .ok (.istore_n 2, 1) := by decide +kernel
theorem dX4_goesIn_18 : decode cX4_goesIn 18 = .ok (.iload_n 2, 1) := by decide +kernel
theorem dX4_goesIn_19 : decode cX4_goesIn 19 = .ok (.sipush 1000, 3) := by decide +kernel
theorem dX4_goesIn_22 : decode cX4_goesIn 22 = .ok (.if_icmp .gt 34, 3) := by decide +kernel
theorem dX4_goesIn_25 : decode cX4_goesIn 25 = .ok (.iload_n 1, 1) := by decide +kernel
theorem dX4_goesIn_26 : decode cX4_goesIn 26 = .ok (.ifCond .eq 13, 3) := by decide +kernel
theorem dX4_goesIn_29 : decode cX4_goesIn 29 = .ok (.aload_n 0, 1) := by decide +kernel
theorem dX4_goesIn_30 : decode cX4_goesIn 30 = .ok (.invokevirtual 203, 3) := by decide +kernel
theorem dX4_goesIn_33 : decode cX4_goesIn 33 = .ok (.ifCond .eq 13, 3) := by decide +kernel
theorem dX4_goesIn_36 : decode cX4_goesIn 36 = .ok (.goto 20, 3) := by decide +kernel
theorem dX4_goesIn_39 : decode cX4_goesIn 39 = .ok (.aload_n 0, 1) := by decide +kernel
theorem dX4_goesIn_40 : decode cX4_goesIn 40 = .ok (.invokevirtual 206, 3) := by decide +kernel
theorem dX4_goesIn_43 : decode cX4_goesIn 43 = .ok (.ifCond .ne 13, 3) := by decide +kernel
theorem dX4_goesIn_46 : decode cX4_goesIn 46 = .ok (.aload_n 0, 1) := by decide +kernel
theorem dX4_goesIn_47 : decode cX4_goesIn 47 = .ok (.invokevirtual 132, 3) := by decide +kernel
theorem dX4_goesIn_50 : decode cX4_goesIn 50 = .ok (.iinc 2 1, 3) := by decide +kernel
theorem dX4_goesIn_53 : decode cX4_goesIn 53 = .ok (.goto (-35), 3) := by decide +kernel
theorem dX4_goesIn_56 : decode cX4_goesIn 56 = .ok (.aload_n 0, 1) := by decide +kernel
theorem dX4_goesIn_57 : decode cX4_goesIn 57 = .ok (.invokevirtual 188, 3) := by decide +kernel
theorem dX4_goesIn_60 : decode cX4_goesIn 60 = .ok (.iload_n 2, 1) := by decide +kernel
theorem dX4_goesIn_61 : decode cX4_goesIn 61 = .ok (.sipush 1000, 3) := by decide +kernel
theorem dX4_goesIn_64 : decode cX4_goesIn 64 = .ok (.if_icmp .le 7, 3) := by decide +kernel
theorem dX4_goesIn_67 : decode cX4_goesIn 67 = .ok (.iconst (-1), 1) := by decide +kernel
theorem dX4_goesIn_68 : decode cX4_goesIn 68 = .ok (.goto 4, 3) := by decide +kernel
theorem dX4_goesIn_71 : decode cX4_goesIn 71 = .ok (.iload_n 2, 1) := by decide +kernel
theorem dX4_goesIn_72 : decode cX4_goesIn 72 = .ok (.ireturn, 1) := by decide +kernel
theorem dX4_allGoodIn_0 : decode cX4_allGoodIn 0 = .ok (.aload_n 0, 1) := by decide +kernel
theorem dX4_allGoodIn_1 : decode cX4_allGoodIn 1 = .ok (.iconst 0, 1) := by decide +kernel
theorem dX4_allGoodIn_2 : decode cX4_allGoodIn 2 = .ok (.putfield 28, 3) := by decide +kernel
theorem dX4_allGoodIn_5 : decode cX4_allGoodIn 5 = .ok (.aload_n 0, 1) := by decide +kernel
theorem dX4_allGoodIn_6 : decode cX4_allGoodIn 6 = .ok (.iconst 0, 1) := by decide +kernel
theorem dX4_allGoodIn_7 : decode cX4_allGoodIn 7 = .ok (.invokevirtual 209, 3) := by decide +kernel
theorem dX4_allGoodIn_10 : decode cX4_allGoodIn 10 = .ok (.ireturn, 1) := by decide +kernel
theorem dX4_allOffIn_0 : decode cX4_allOffIn 0 = .ok (.aload_n 0, 1) := by decide +kernel
theorem dX4_allOffIn_1 : decode cX4_allOffIn 1 = .ok (.iconst 0, 1) := by decide +kernel
theorem dX4_allOffIn_2 : decode cX4_allOffIn 2 = .ok (.putfield 28, 3) := by decide +kernel
theorem dX4_allOffIn_5 : decode cX4_allOffIn 5 = .ok (.aload_n 0, 1) := by decide +kernel
theorem dX4_allOffIn_6 : decode cX4_allOffIn 6 = .ok (.iconst 1, 1) := by decide +kernel
theorem dX4_allOffIn_7 : decode cX4_allOffIn 7 = .ok (.invokevirtual 209, 3) := by decide +kernel
theorem dX4_allOffIn_10 : decode cX4_allOffIn 10 = .ok (.ireturn, 1) := by decide +kernel
theorem dX4_shortAnswer_0 : decode cX4_shortAnswer 0 = .ok (.aload_n 0, 1) := by decide +kernel
theorem dX4_shortAnswer_1 : decode cX4_shortAnswer 1 = .ok (.invokevirtual 185, 3) := by decide +kernel
theorem dX4_shortAnswer_4 : decode cX4_shortAnswer 4 = .ok (.aload_n 0, 1) := by decide +kernel
theorem dX4_shortAnswer_5 : decode cX4_shortAnswer 5 = .ok (.iload_n 1, 1) := by decide +kernel
theorem dX4_shortAnswer_6 : decode cX4_shortAnswer 6 = .ok (.bipush 12, 2) := by decide +kernel
theorem dX4_shortAnswer_8 : decode cX4_shortAnswer 8 = .ok (.iload_n 2, 1) := by decide +kernel
theorem dX4_shortAnswer_9 : decode cX4_shortAnswer 9 = .ok (.invokevirtual 40, 3) := by decide +kernel
theorem dX4_shortAnswer_12 : decode cX4_shortAnswer 12 = .ok (.aload_n 0, 1) := by decide +kernel
theorem dX4_shortAnswer_13 : decode cX4_shortAnswer 13 = .ok (.iconst 0, 1) := by decide +kernel
theorem dX4_shortAnswer_14 : decode cX4_shortAnswer 14 = .ok (.putfield 47, 3) := by decide +kernel
theorem dX4_shortAnswer_17 : decode cX4_shortAnswer 17 = .ok (.iconst 0, 1) := by decide +kernel
theorem dX4_shortAnswer_18 : decode cX4_shortAnswer 18 = .ok (.istore 4, 2) := by decide +kernel
theorem dX4_shortAnswer_20 : decode cX4_shortAnswer 20 = .ok (.iload 4, 2) := by decide +kernel
theorem dX4_shortAnswer_22 : decode cX4_shortAnswer 22 = .ok (.bipush 100, 2) := by decide +kernel
theorem dX4_shortAnswer_24 : decode cX4_shortAnswer 24 = .ok (.if_icmp .ge 13, 3) := by decide +kernel
theorem dX4_shortAnswer_27 : decode cX4_shortAnswer 27 = .ok (.aload_n 0, 1) := by decide +kernel
theorem dX4_shortAnswer_28 : decode cX4_shortAnswer 28 = .ok (.invokevirtual 132, 3) := by decide +kernel
theorem dX4_shortAnswer_31 : decode cX4_shortAnswer 31 = .ok (.iinc 4 1, 3) := by decide +kernel
theorem dX4_shortAnswer_34 : decode cX4_shortAnswer 34 = .ok (.goto (-14), 3) := by decide +kernel
theorem dX4_shortAnswer_37 : decode cX4_shortAnswer 37 = .ok (.iload_n 3, 1) := by decide +kernel
theorem dX4_shortAnswer_38 : decode cX4_shortAnswer 38 = .ok (.ifCond .ne 10, 3) := by decide +kernel
theorem dX4_shortAnswer_41 : decode cX4_shortAnswer 41 = .ok (.aload_n 0, 1) := by decide +kernel
theorem dX4_shortAnswer_42 : decode cX4_shortAnswer 42 = .ok (.getfield 47, 3) := by decide +kernel
theorem dX4_shortAnswer_45 : decode cX4_shortAnswer 45 = .ok (.goto 19, 3) := by decide +kernel
theorem dX4_shortAnswer_48 : decode cX4_shortAnswer 48 = .ok (.aload_n 0, 1) := by decide +kernel
theorem dX4_shortAnswer_49 : decode cX4_shortAnswer 49 = .ok (.bipush 9, 2) := by decide +kernel
theorem dX4_shortAnswer_51 : decode cX4_shortAnswer 51 = .ok (.iload_n 3, 1) := by decide +kernel
theorem dX4_shortAnswer_52 : decode cX4_shortAnswer 52 = .ok (.iconst 1, 1) := by decide +kernel
theorem dX4_shortAnswer_53 : decode cX4_shortAnswer 53 = .ok (.if_icmp .ne 7, 3) := by decide +kernel
theorem dX4_shortAnswer_56 : decode cX4_shortAnswer 56 = .ok (.iconst 3, 1) := by decide +kernel
theorem dX4_shortAnswer_57 : decode cX4_shortAnswer 57 = .ok (.goto 4, 3) := by decide +kernel
theorem dX4_shortAnswer_60 : decode cX4_shortAnswer 60 = .ok (.iconst 5, 1) := by decide +kernel
theorem dX4_shortAnswer_61 : decode cX4_shortAnswer 61 = .ok (.invokevirtual 123, 3) := by decide +kernel
theorem dX4_shortAnswer_64 : decode cX4_shortAnswer 64 = .ok (.istore 4, 2) := by decide +kernel
theorem dX4_shortAnswer_66 : decode cX4_shortAnswer 66 = .ok (.aload_n 0, 1) := by decide +kernel
theorem dX4_shortAnswer_67 : decode cX4_shortAnswer 67 = .ok (.invokevirtual 188, 3) := by decide +kernel
theorem dX4_shortAnswer_70 : decode cX4_shortAnswer 70 = .ok (.iload 4, 2) := by decide +kernel
theorem dX4_shortAnswer_72 : decode cX4_shortAnswer 72 = .ok (.ireturn, 1) := by decide +kernel
theorem dX4_ifShort_0 : decode cX4_ifShort 0 = .ok (.aload_n 0, 1) := by decide +kernel
theorem dX4_ifShort_1 : decode cX4_ifShort 1 = .ok (.aload_n 0, 1) := by decide +kernel
theorem dX4_ifShort_2 : decode cX4_ifShort 2 = .ok (.iload_n 1, 1) := by decide +kernel
theorem dX4_ifShort_3 : decode cX4_ifShort 3 = .ok (.invokevirtual 117, 3) := by decide +kernel
theorem dX4_ifShort_6 : decode cX4_ifShort 6 = .ok (.ifCond .ne 7, 3) := by decide +kernel
theorem dX4_ifShort_9 : decode cX4_ifShort 9 = .ok (.iconst 1, 1) := by decide +kernel
theorem dX4_ifShort_10 : decode cX4_ifShort 10 = .ok (.goto 28, 3) := by decide +kernel
theorem dX4_ifShort_13 : decode cX4_ifShort 13 = .ok (.iload_n 2, 1) := by decide +kernel
theorem dX4_ifShort_14 : decode cX4_ifShort 14 = .ok (.iconst 1, 1) := by decide +kernel
theorem dX4_ifShort_15 : decode cX4_ifShort 15 = .ok (.sipush 500, 3) := by decide +kernel
theorem dX4_ifShort_18 : decode cX4_ifShort 18 = .ok (.invokestatic 32, 3) := by decide +kernel
theorem dX4_ifShort_21 : decode cX4_ifShort 21 = .ok (.ifCond .eq 16, 3) := by decide +kernel
theorem dX4_ifShort_24 : decode cX4_ifShort 24 = .ok (.iload_n 3, 1) := by decide +kernel
theorem dX4_ifShort_25 : decode cX4_ifShort 25 = .ok (.iconst 0, 1) := by decide +kernel
theorem dX4_ifShort_26 : decode cX4_ifShort 26 = .ok (.iconst 2, 1) := by decide +kernel
theorem dX4_ifShort_27 : decode cX4_ifShort 27 = .ok (.invokestatic 32, 3) := by decide +kernel
theorem dX4_ifShort_30 : decode cX4_ifShort 30 = .ok (.ifCond .eq 7, 3) := by decide +kernel
theorem dX4_ifShort_33 : decode cX4_ifShort 33 = .ok (.iconst 0, 1) := by decide +kernel
theorem dX4_ifShort_34 : decode cX4_ifShort 34 = .ok (.goto 4, 3) := by decide +kernel
theorem dX4_ifShort_37 : decode cX4_ifShort 37 = .ok (.iconst 2, 1) := by decide +kernel
theorem dX4_ifShort_38 : decode cX4_ifShort 38 = .ok (.putfield 28, 3) := by decide +kernel
theorem dX4_ifShort_41 : decode cX4_ifShort 41 = .ok (.aload_n 0, 1) := by decide +kernel
theorem dX4_ifShort_42 : decode cX4_ifShort 42 = .ok (.getfield 28, 3) := by decide +kernel
theorem dX4_ifShort_45 : decode cX4_ifShort 45 = .ok (.ifCond .le 7, 3) := by decide +kernel
theorem dX4_ifShort_48 : decode cX4_ifShort 48 = .ok (.iconst 0, 1) := by decide +kernel
theorem dX4_ifShort_49 : decode cX4_ifShort 49 = .ok (.goto 10, 3) := by decide +kernel
theorem dX4_ifShort_52 : decode cX4_ifShort 52 = .ok (.aload_n 0, 1) := by decide +kernel
theorem dX4_ifShort_53 : decode cX4_ifShort 53 = .ok (.iload_n 1, 1) := by decide +kernel
theorem dX4_ifShort_54 : decode cX4_ifShort 54 = .ok (.iload_n 2, 1) := by decide +kernel
theorem dX4_ifShort_55 : decode cX4_ifShort 55 = .ok (.iload_n 3, 1) := by decide +kernel
theorem dX4_ifShort_56 : decode cX4_ifShort 56 = .ok (.invokevirtual 213, 3) := by decide +kernel
theorem dX4_ifShort_59 : decode cX4_ifShort 59 = .ok (.ireturn, 1) := by decide +kernel
theorem dX4_patienceFor_0 : decode cX4_patienceFor 0 = .ok (.iconst 0, 1) := by decide +kernel
theorem dX4_patienceFor_1 : decode cX4_patienceFor 1 = .ok (.istore_n 2, 1) := by decide +kernel
theorem dX4_patienceFor_2 : decode cX4_patienceFor 2 = .ok (.iconst 1, 1) := by decide +kernel
theorem dX4_patienceFor_3 : decode cX4_patienceFor 3 = .ok (.istore_n 3, 1) := by decide +kernel
theorem dX4_patienceFor_4 : decode cX4_patienceFor 4 = .ok (.iload_n 3, 1) := by decide +kernel
theorem dX4_patienceFor_5 : decode cX4_patienceFor 5 = .ok (.sipush 200, 3) := by decide +kernel
theorem dX4_patienceFor_8 : decode cX4_patienceFor 8 = .ok (.if_icmp .gt 48, 3) := by decide +kernel
theorem dX4_patienceFor_11 : decode cX4_patienceFor 11 = .ok (.iload_n 2, 1) := by decide +kernel
theorem dX4_patienceFor_12 : decode cX4_patienceFor 12 = .ok (.aload_n 0, 1) := by decide +kernel
theorem dX4_patienceFor_13 : decode cX4_patienceFor 13 = .ok (.iload_n 1, 1) := by decide +kernel
theorem dX4_patienceFor_14 : decode cX4_patienceFor 14 = .ok (.iconst 0, 1) := by decide +kernel
theorem dX4_patienceFor_15 : decode cX4_patienceFor 15 = .ok (.invokevirtual 36, 3) := by decide +kernel
theorem dX4_patienceFor_18 : decode cX4_patienceFor 18 = .ok (.aload_n 0, 1) := by decide +kernel
theorem dX4_patienceFor_19 : decode cX4_patienceFor 19 = .ok (.iload_n 1, 1) := by decide +kernel
theorem dX4_patienceFor_20 : decode cX4_patienceFor 20 = .ok (.iconst 1, 1) := by decide +kernel
theorem dX4_patienceFor_21 : decode cX4_patienceFor 21 = .ok (.invokevirtual 36, 3) := by decide +kernel
theorem dX4_patienceFor_24 : decode cX4_patienceFor 24 = .ok (.invokestatic 57, 3) := by decide +kernel
theorem dX4_patienceFor_27 : decode cX4_patienceFor 27 = .ok (.istore_n 2, 1) := by decide +kernel
theorem dX4_patienceFor_28 : decode cX4_patienceFor 28 = .ok (.iload_n 2, 1) := by decide +kernel
theorem dX4_patienceFor_29 : decode cX4_patienceFor 29 = .ok (.bipush 100, 2) := by decide +kernel
theorem dX4_patienceFor_31 : decode cX4_patienceFor 31 = .ok (.imul, 1) := by decide +kernel
theorem dX4_patienceFor_32 : decode cX4_patienceFor 32 = .ok (.aload_n 0, 1) := by decide +kernel
theorem dX4_patienceFor_33 : decode cX4_patienceFor 33 = .ok (.iload_n 1, 1) := by decide +kernel
theorem dX4_patienceFor_34 : decode cX4_patienceFor 34 = .ok (.iconst 0, 1) := by decide +kernel
theorem dX4_patienceFor_35 : decode cX4_patienceFor 35 = .ok (.invokevirtual 36, 3) := by decide +kernel
theorem dX4_patienceFor_38 : decode cX4_patienceFor 38 = .ok (.aload_n 0, 1) := by decide +kernel
theorem dX4_patienceFor_39 : decode cX4_patienceFor 39 = .ok (.iload_n 1, 1) := by decide +kernel
theorem dX4_patienceFor_40 : decode cX4_patienceFor 40 = .ok (.iconst 3, 1) := by decide +kernel
theorem dX4_patienceFor_41 : decode cX4_patienceFor 41 = .ok (.invokevirtual 36, 3) := by decide +kernel
theorem dX4_patienceFor_44 : decode cX4_patienceFor 44 = .ok (.imul, 1) := by decide +kernel
theorem dX4_patienceFor_45 : decode cX4_patienceFor 45 = .ok (.if_icmp .lt 5, 3) := by decide +kernel
theorem dX4_patienceFor_48 : decode cX4_patienceFor 48 = .ok (.iload_n 3, 1) := by decide +kernel
theorem dX4_patienceFor_49 : decode cX4_patienceFor 49 = .ok (.ireturn, 1) := by decide +kernel
theorem dX4_patienceFor_50 : decode cX4_patienceFor 50 = .ok (.iinc 3 1, 3) := by decide +kernel
theorem dX4_patienceFor_53 : decode cX4_patienceFor 53 = .ok (.goto (-49), 3) := by decide +kernel
theorem dX4_patienceFor_56 : decode cX4_patienceFor 56 = .ok (.iconst (-1), 1) := by decide +kernel
theorem dX4_patienceFor_57 : decode cX4_patienceFor 57 = .ok (.ireturn, 1) := by decide +kernel
theorem dX4_leastPatience_0 : decode cX4_leastPatience 0 = .ok (.aload_n 0, 1) := by decide +kernel
theorem dX4_leastPatience_1 : decode cX4_leastPatience 1 = .ok (.aload_n 0, 1) := by decide +kernel
theorem dX4_leastPatience_2 : decode cX4_leastPatience 2 = .ok (.iload_n 1, 1) := by decide +kernel
theorem dX4_leastPatience_3 : decode cX4_leastPatience 3 = .ok (.invokevirtual 117, 3) := by decide +kernel
theorem dX4_leastPatience_6 : decode cX4_leastPatience 6 = .ok (.ifCond .eq 7, 3) := by decide +kernel
theorem dX4_leastPatience_9 : decode cX4_leastPatience 9 = .ok (.iconst 0, 1) := by decide +kernel
theorem dX4_leastPatience_10 : decode cX4_leastPatience 10 = .ok (.goto 4, 3) := by decide +kernel
theorem dX4_leastPatience_13 : decode cX4_leastPatience 13 = .ok (.iconst 1, 1) := by decide +kernel
theorem dX4_leastPatience_14 : decode cX4_leastPatience 14 = .ok (.putfield 28, 3) := by decide +kernel
theorem dX4_leastPatience_17 : decode cX4_leastPatience 17 = .ok (.aload_n 0, 1) := by decide +kernel
theorem dX4_leastPatience_18 : decode cX4_leastPatience 18 = .ok (.getfield 28, 3) := by decide +kernel
theorem dX4_leastPatience_21 : decode cX4_leastPatience 21 = .ok (.ifCond .le 7, 3) := by decide +kernel
theorem dX4_leastPatience_24 : decode cX4_leastPatience 24 = .ok (.iconst 0, 1) := by decide +kernel
theorem dX4_leastPatience_25 : decode cX4_leastPatience 25 = .ok (.goto 8, 3) := by decide +kernel
theorem dX4_leastPatience_28 : decode cX4_leastPatience 28 = .ok (.aload_n 0, 1) := by decide +kernel
theorem dX4_leastPatience_29 : decode cX4_leastPatience 29 = .ok (.iload_n 1, 1) := by decide +kernel
theorem dX4_leastPatience_30 : decode cX4_leastPatience 30 = .ok (.invokevirtual 216, 3) := by decide +kernel
theorem dX4_leastPatience_33 : decode cX4_leastPatience 33 = .ok (.ireturn, 1) := by decide +kernel
theorem dX4_shareNow_0 : decode cX4_shareNow 0 = .ok (.iconst 0, 1) := by decide +kernel
theorem dX4_shareNow_1 : decode cX4_shareNow 1 = .ok (.istore_n 1, 1) := by decide +kernel
theorem dX4_shareNow_2 : decode cX4_shareNow 2 = .ok (.iconst 0, 1) := by decide +kernel
theorem dX4_shareNow_3 : decode cX4_shareNow 3 = .ok (.istore_n 2, 1) := by decide +kernel
theorem dX4_shareNow_4 : decode cX4_shareNow 4 = .ok (.iload_n 2, 1) := by decide +kernel
theorem dX4_shareNow_5 : decode cX4_shareNow 5 = .ok (.aload_n 0, 1) := by decide +kernel
theorem dX4_shareNow_6 : decode cX4_shareNow 6 = .ok (.getfield 7, 3) := by decide +kernel
theorem dX4_shareNow_9 : decode cX4_shareNow 9 = .ok (.iconst 0, 1) := by decide +kernel
theorem dX4_shareNow_10 : decode cX4_shareNow 10 = .ok (.iaload, 1) := by decide +kernel
theorem dX4_shareNow_11 : decode cX4_shareNow 11 = .ok (.if_icmp .ge 19, 3) := by decide +kernel
theorem dX4_shareNow_14 : decode cX4_shareNow 14 = .ok (.iload_n 1, 1) := by decide +kernel
theorem dX4_shareNow_15 : decode cX4_shareNow 15 = .ok (.aload_n 0, 1) := by decide +kernel
theorem dX4_shareNow_16 : decode cX4_shareNow 16 = .ok (.iload_n 2, 1) := by decide +kernel
theorem dX4_shareNow_17 : decode cX4_shareNow 17 = .ok (.bipush 19, 2) := by decide +kernel
theorem dX4_shareNow_19 : decode cX4_shareNow 19 = .ok (.invokevirtual 36, 3) := by decide +kernel
theorem dX4_shareNow_22 : decode cX4_shareNow 22 = .ok (.iadd, 1) := by decide +kernel
theorem dX4_shareNow_23 : decode cX4_shareNow 23 = .ok (.istore_n 1, 1) := by decide +kernel
theorem dX4_shareNow_24 : decode cX4_shareNow 24 = .ok (.iinc 2 1, 3) := by decide +kernel
theorem dX4_shareNow_27 : decode cX4_shareNow 27 = .ok (.goto (-23), 3) := by decide +kernel
theorem dX4_shareNow_30 : decode cX4_shareNow 30 = .ok (.aload_n 0, 1) := by decide +kernel
theorem dX4_shareNow_31 : decode cX4_shareNow 31 = .ok (.getfield 7, 3) := by decide +kernel
theorem dX4_shareNow_34 : decode cX4_shareNow 34 = .ok (.iconst 2, 1) := by decide +kernel
theorem dX4_shareNow_35 : decode cX4_shareNow 35 = .ok (.iaload, 1) := by decide +kernel
theorem dX4_shareNow_36 : decode cX4_shareNow 36 = .ok (.aload_n 0, 1) := by decide +kernel
theorem dX4_shareNow_37 : decode cX4_shareNow 37 = .ok (.getfield 7, 3) := by decide +kernel
theorem dX4_shareNow_40 : decode cX4_shareNow 40 = .ok (.iconst 0, 1) := by decide +kernel
theorem dX4_shareNow_41 : decode cX4_shareNow 41 = .ok (.iaload, 1) := by decide +kernel
theorem dX4_shareNow_42 : decode cX4_shareNow 42 = .ok (.imul, 1) := by decide +kernel
theorem dX4_shareNow_43 : decode cX4_shareNow 43 = .ok (.istore_n 2, 1) := by decide +kernel
theorem dX4_shareNow_44 : decode cX4_shareNow 44 = .ok (.iload_n 2, 1) := by decide +kernel
theorem dX4_shareNow_45 : decode cX4_shareNow 45 = .ok (.ifCond .ne 7, 3) := by decide +kernel
theorem dX4_shareNow_48 : decode cX4_shareNow 48 = .ok (.dconst 0, 1) := by decide +kernel
theorem dX4_shareNow_49 : decode cX4_shareNow 49 = .ok (.goto 10, 3) := by decide +kernel
theorem dX4_shareNow_52 : decode cX4_shareNow 52 = .ok (.dconst 1, 1) := by decide +kernel
theorem dX4_shareNow_53 : decode cX4_shareNow 53 = .ok (.iload_n 1, 1) := by decide +kernel
theorem dX4_shareNow_54 : decode cX4_shareNow 54 = .ok (.i2d, 1) := by decide +kernel
theorem dX4_shareNow_55 : decode cX4_shareNow 55 = .ok (.dmul, 1) := by decide +kernel
theorem dX4_shareNow_56 : decode cX4_shareNow 56 = .ok (.iload_n 2, 1) := by decide +kernel
theorem dX4_shareNow_57 : decode cX4_shareNow 57 = .ok (.i2d, 1) := by decide +kernel
theorem dX4_shareNow_58 : decode cX4_shareNow 58 = .ok (.ddiv, 1) := by decide +kernel
theorem dX4_shareNow_59 : decode cX4_shareNow 59 = .ok (.dreturn, 1) := by decide +kernel
theorem dX4_goodShare_0 : decode cX4_goodShare 0 = .ok (.aload_n 0, 1) := by decide +kernel
theorem dX4_goodShare_1 : decode cX4_goodShare 1 = .ok (.iconst 0, 1) := by decide +kernel
theorem dX4_goodShare_2 : decode cX4_goodShare 2 = .ok (.putfield 28, 3) := by decide +kernel
theorem dX4_goodShare_5 : decode cX4_goodShare 5 = .ok (.aload_n 0, 1) := by decide +kernel
theorem dX4_goodShare_6 : decode cX4_goodShare 6 = .ok (.invokevirtual 219, 3) := by decide +kernel
theorem dX4_goodShare_9 : decode cX4_goodShare 9 = .ok (.dreturn, 1) := by decide +kernel
theorem dX4_mix_0 : decode cX4_mix 0 = .ok (.aload_n 0, 1) := by decide +kernel
theorem dX4_mix_1 : decode cX4_mix 1 = .ok (.ldc2_w 223, 3) := by decide +kernel
theorem dX4_mix_4 : decode cX4_mix 4 = .ok (.aload_n 0, 1) := by decide +kernel
theorem dX4_mix_5 : decode cX4_mix 5 = .ok (.getfield 225, 3) := by decide +kernel
theorem dX4_mix_8 : decode cX4_mix 8 = .ok (.lmul, 1) := by decide +kernel
theorem dX4_mix_9 : decode cX4_mix 9 = .ok (.lload_n 1, 1) := by decide +kernel
theorem dX4_mix_10 : decode cX4_mix 10 = .ok (.ladd, 1) := by decide +kernel
theorem dX4_mix_11 : decode cX4_mix 11 = .ok (.putfield 225, 3) := by decide +kernel
theorem dX4_mix_14 : decode cX4_mix 14 = .ok (.return_, 1) := by decide +kernel
theorem dX4_mixRail_0 : decode cX4_mixRail 0 = .ok (.iconst 0, 1) := by decide +kernel
theorem dX4_mixRail_1 : decode cX4_mixRail 1 = .ok (.istore_n 2, 1) := by decide +kernel
theorem dX4_mixRail_2 : decode cX4_mixRail 2 = .ok (.iload_n 2, 1) := by decide +kernel
theorem dX4_mixRail_3 : decode cX4_mixRail 3 = .ok (.bipush 19, 2) := by decide +kernel
theorem dX4_mixRail_5 : decode cX4_mixRail 5 = .ok (.if_icmp .ge 20, 3) := by decide +kernel
theorem dX4_mixRail_8 : decode cX4_mixRail 8 = .ok (.aload_n 0, 1) := by decide +kernel
theorem dX4_mixRail_9 : decode cX4_mixRail 9 = .ok (.aload_n 0, 1) := by decide +kernel
theorem dX4_mixRail_10 : decode cX4_mixRail 10 = .ok (.iload_n 1, 1) := by decide +kernel
theorem dX4_mixRail_11 : decode cX4_mixRail 11 = .ok (.iload_n 2, 1) := by decide +kernel
theorem dX4_mixRail_12 : decode cX4_mixRail 12 = .ok (.invokevirtual 179, 3) := by decide +kernel
theorem dX4_mixRail_15 : decode cX4_mixRail 15 = .ok (.i2l, 1) := by decide +kernel
theorem dX4_mixRail_16 : decode cX4_mixRail 16 = .ok (.invokevirtual 229, 3) := by decide +kernel
theorem dX4_mixRail_19 : decode cX4_mixRail 19 = .ok (.iinc 2 1, 3) := by decide +kernel
theorem dX4_mixRail_22 : decode cX4_mixRail 22 = .ok (.goto (-20), 3) := by decide +kernel
theorem dX4_mixRail_25 : decode cX4_mixRail 25 = .ok (.iconst 0, 1) := by decide +kernel
theorem dX4_mixRail_26 : decode cX4_mixRail 26 = .ok (.istore_n 2, 1) := by decide +kernel
theorem dX4_mixRail_27 : decode cX4_mixRail 27 = .ok (.iload_n 2, 1) := by decide +kernel
theorem dX4_mixRail_28 : decode cX4_mixRail 28 = .ok (.iconst 4, 1) := by decide +kernel
theorem dX4_mixRail_29 : decode cX4_mixRail 29 = .ok (.if_icmp .ge 23, 3) := by decide +kernel
theorem dX4_mixRail_32 : decode cX4_mixRail 32 = .ok (.aload_n 0, 1) := by decide +kernel
theorem dX4_mixRail_33 : decode cX4_mixRail 33 = .ok (.aload_n 0, 1) := by decide +kernel
theorem dX4_mixRail_34 : decode cX4_mixRail 34 = .ok (.iload_n 1, 1) := by decide +kernel
theorem dX4_mixRail_35 : decode cX4_mixRail 35 = .ok (.bipush 16, 2) := by decide +kernel
theorem dX4_mixRail_37 : decode cX4_mixRail 37 = .ok (.iload_n 2, 1) := by decide +kernel
theorem dX4_mixRail_38 : decode cX4_mixRail 38 = .ok (.iadd, 1) := by decide +kernel
theorem dX4_mixRail_39 : decode cX4_mixRail 39 = .ok (.invokevirtual 36, 3) := by decide +kernel
theorem dX4_mixRail_42 : decode cX4_mixRail 42 = .ok (.i2l, 1) := by decide +kernel
theorem dX4_mixRail_43 : decode cX4_mixRail 43 = .ok (.invokevirtual 229, 3) := by decide +kernel
theorem dX4_mixRail_46 : decode cX4_mixRail 46 = .ok (.iinc 2 1, 3) := by decide +kernel
theorem dX4_mixRail_49 : decode cX4_mixRail 49 = .ok (.goto (-22), 3) := by decide +kernel
theorem dX4_mixRail_52 : decode cX4_mixRail 52 = .ok (.aload_n 0, 1) := by decide +kernel
theorem dX4_mixRail_53 : decode cX4_mixRail 53 = .ok (.aload_n 0, 1) := by decide +kernel
theorem dX4_mixRail_54 : decode cX4_mixRail 54 = .ok (.iload_n 1, 1) := by decide +kernel
theorem dX4_mixRail_55 : decode cX4_mixRail 55 = .ok (.invokevirtual 216, 3) := by decide +kernel
theorem dX4_mixRail_58 : decode cX4_mixRail 58 = .ok (.i2l, 1) := by decide +kernel
theorem dX4_mixRail_59 : decode cX4_mixRail 59 = .ok (.invokevirtual 229, 3) := by decide +kernel
theorem dX4_mixRail_62 : decode cX4_mixRail 62 = .ok (.return_, 1) := by decide +kernel
theorem dX4_digest_0 : decode cX4_digest 0 = .ok (.aload_n 0, 1) := by decide +kernel
theorem dX4_digest_1 : decode cX4_digest 1 = .ok (.iconst 0, 1) := by decide +kernel
theorem dX4_digest_2 : decode cX4_digest 2 = .ok (.putfield 28, 3) := by decide +kernel
theorem dX4_digest_5 : decode cX4_digest 5 = .ok (.aload_n 0, 1) := by decide +kernel
theorem dX4_digest_6 : decode cX4_digest 6 = .ok (.ldc2_w 233, 3) := by decide +kernel
theorem dX4_digest_9 : decode cX4_digest 9 = .ok (.putfield 225, 3) := by decide +kernel
theorem dX4_digest_12 : decode cX4_digest 12 = .ok (.iconst 0, 1) := by decide +kernel
theorem dX4_digest_13 : decode cX4_digest 13 = .ok (.istore_n 1, 1) := by decide +kernel
theorem dX4_digest_14 : decode cX4_digest 14 = .ok (.iload_n 1, 1) := by decide +kernel
theorem dX4_digest_15 : decode cX4_digest 15 = .ok (.bipush 10, 2) := by decide +kernel
theorem dX4_digest_17 : decode cX4_digest 17 = .ok (.if_icmp .ge 19, 3) := by decide +kernel
theorem dX4_digest_20 : decode cX4_digest 20 = .ok (.aload_n 0, 1) := by decide +kernel
theorem dX4_digest_21 : decode cX4_digest 21 = .ok (.aload_n 0, 1) := by decide +kernel
theorem dX4_digest_22 : decode cX4_digest 22 = .ok (.iload_n 1, 1) := by decide +kernel
theorem dX4_digest_23 : decode cX4_digest 23 = .ok (.invokevirtual 197, 3) := by decide +kernel
theorem dX4_digest_26 : decode cX4_digest 26 = .ok (.i2l, 1) := by decide +kernel
theorem dX4_digest_27 : decode cX4_digest 27 = .ok (.invokevirtual 229, 3) := by decide +kernel
theorem dX4_digest_30 : decode cX4_digest 30 = .ok (.iinc 1 1, 3) := by decide +kernel
theorem dX4_digest_33 : decode cX4_digest 33 = .ok (.goto (-19), 3) := by decide +kernel
theorem dX4_digest_36 : decode cX4_digest 36 = .ok (.iconst 0, 1) := by decide +kernel
theorem dX4_digest_37 : decode cX4_digest 37 = .ok (.istore_n 1, 1) := by decide +kernel
theorem dX4_digest_38 : decode cX4_digest 38 = .ok (.iload_n 1, 1) := by decide +kernel
theorem dX4_digest_39 : decode cX4_digest 39 = .ok (.aload_n 0, 1) := by decide +kernel
theorem dX4_digest_40 : decode cX4_digest 40 = .ok (.getfield 7, 3) := by decide +kernel
theorem dX4_digest_43 : decode cX4_digest 43 = .ok (.iconst 0, 1) := by decide +kernel
theorem dX4_digest_44 : decode cX4_digest 44 = .ok (.iaload, 1) := by decide +kernel
theorem dX4_digest_45 : decode cX4_digest 45 = .ok (.if_icmp .ge 14, 3) := by decide +kernel
theorem dX4_digest_48 : decode cX4_digest 48 = .ok (.aload_n 0, 1) := by decide +kernel
theorem dX4_digest_49 : decode cX4_digest 49 = .ok (.iload_n 1, 1) := by decide +kernel
theorem dX4_digest_50 : decode cX4_digest 50 = .ok (.invokevirtual 235, 3) := by decide +kernel
theorem dX4_digest_53 : decode cX4_digest 53 = .ok (.iinc 1 1, 3) := by decide +kernel
theorem dX4_digest_56 : decode cX4_digest 56 = .ok (.goto (-18), 3) := by decide +kernel
theorem dX4_digest_59 : decode cX4_digest 59 = .ok (.iconst 0, 1) := by decide +kernel
theorem dX4_digest_60 : decode cX4_digest 60 = .ok (.istore_n 1, 1) := by decide +kernel
theorem dX4_digest_61 : decode cX4_digest 61 = .ok (.iload_n 1, 1) := by decide +kernel
theorem dX4_digest_62 : decode cX4_digest 62 = .ok (.iconst 4, 1) := by decide +kernel
theorem dX4_digest_63 : decode cX4_digest 63 = .ok (.aload_n 0, 1) := by decide +kernel
theorem dX4_digest_64 : decode cX4_digest 64 = .ok (.getfield 7, 3) := by decide +kernel
theorem dX4_digest_67 : decode cX4_digest 67 = .ok (.iconst 3, 1) := by decide +kernel
theorem dX4_digest_68 : decode cX4_digest 68 = .ok (.iaload, 1) := by decide +kernel
theorem dX4_digest_69 : decode cX4_digest 69 = .ok (.imul, 1) := by decide +kernel
theorem dX4_digest_70 : decode cX4_digest 70 = .ok (.if_icmp .ge 24, 3) := by decide +kernel
theorem dX4_digest_73 : decode cX4_digest 73 = .ok (.aload_n 0, 1) := by decide +kernel
theorem dX4_digest_74 : decode cX4_digest 74 = .ok (.aload_n 0, 1) := by decide +kernel
theorem dX4_digest_75 : decode cX4_digest 75 = .ok (.iload_n 1, 1) := by decide +kernel
theorem dX4_digest_76 : decode cX4_digest 76 = .ok (.iconst 4, 1) := by decide +kernel
theorem dX4_digest_77 : decode cX4_digest 77 = .ok (.idiv, 1) := by decide +kernel
theorem dX4_digest_78 : decode cX4_digest 78 = .ok (.iload_n 1, 1) := by decide +kernel
theorem dX4_digest_79 : decode cX4_digest 79 = .ok (.iconst 4, 1) := by decide +kernel
theorem dX4_digest_80 : decode cX4_digest 80 = .ok (.irem, 1) := by decide +kernel
theorem dX4_digest_81 : decode cX4_digest 81 = .ok (.invokevirtual 182, 3) := by decide +kernel
theorem dX4_digest_84 : decode cX4_digest 84 = .ok (.i2l, 1) := by decide +kernel
theorem dX4_digest_85 : decode cX4_digest 85 = .ok (.invokevirtual 229, 3) := by decide +kernel
theorem dX4_digest_88 : decode cX4_digest 88 = .ok (.iinc 1 1, 3) := by decide +kernel
theorem dX4_digest_91 : decode cX4_digest 91 = .ok (.goto (-30), 3) := by decide +kernel
theorem dX4_digest_94 : decode cX4_digest 94 = .ok (.aload_n 0, 1) := by decide +kernel
theorem dX4_digest_95 : decode cX4_digest 95 = .ok (.aload_n 0, 1) := by decide +kernel
theorem dX4_digest_96 : decode cX4_digest 96 = .ok (.iconst 0, 1) := by decide +kernel
theorem dX4_digest_97 : decode cX4_digest 97 = .ok (.invokevirtual 209, 3) := by decide +kernel
theorem dX4_digest_100 : decode cX4_digest 100 = .ok (.i2l, 1) := by decide +kernel
theorem dX4_digest_101 : decode cX4_digest 101 = .ok (.invokevirtual 229, 3) := by decide +kernel
theorem dX4_digest_104 : decode cX4_digest 104 = .ok (.aload_n 0, 1) := by decide +kernel
theorem dX4_digest_105 : decode cX4_digest 105 = .ok (.aload_n 0, 1) := by decide +kernel
theorem dX4_digest_106 : decode cX4_digest 106 = .ok (.iconst 1, 1) := by decide +kernel
theorem dX4_digest_107 : decode cX4_digest 107 = .ok (.invokevirtual 209, 3) := by decide +kernel
theorem dX4_digest_110 : decode cX4_digest 110 = .ok (.i2l, 1) := by decide +kernel
theorem dX4_digest_111 : decode cX4_digest 111 = .ok (.invokevirtual 229, 3) := by decide +kernel
theorem dX4_digest_114 : decode cX4_digest 114 = .ok (.aload_n 0, 1) := by decide +kernel
theorem dX4_digest_115 : decode cX4_digest 115 = .ok (.aload_n 0, 1) := by decide +kernel
theorem dX4_digest_116 : decode cX4_digest 116 = .ok (.invokevirtual 219, 3) := by decide +kernel
theorem dX4_digest_119 : decode cX4_digest 119 = .ok (.invokestatic 238, 3) := by decide +kernel
theorem dX4_digest_122 : decode cX4_digest 122 = .ok (.invokevirtual 229, 3) := by decide +kernel
theorem dX4_digest_125 : decode cX4_digest 125 = .ok (.aload_n 0, 1) := by decide +kernel
theorem dX4_digest_126 : decode cX4_digest 126 = .ok (.aload_n 0, 1) := by decide +kernel
theorem dX4_digest_127 : decode cX4_digest 127 = .ok (.getfield 135, 3) := by decide +kernel
theorem dX4_digest_130 : decode cX4_digest 130 = .ok (.i2l, 1) := by decide +kernel
theorem dX4_digest_131 : decode cX4_digest 131 = .ok (.invokevirtual 229, 3) := by decide +kernel
theorem dX4_digest_134 : decode cX4_digest 134 = .ok (.iconst 0, 1) := by decide +kernel
theorem dX4_digest_135 : decode cX4_digest 135 = .ok (.istore_n 1, 1) := by decide +kernel
theorem dX4_digest_136 : decode cX4_digest 136 = .ok (.iload_n 1, 1) := by decide +kernel
theorem dX4_digest_137 : decode cX4_digest 137 = .ok (.aload_n 0, 1) := by decide +kernel
theorem dX4_digest_138 : decode cX4_digest 138 = .ok (.getfield 135, 3) := by decide +kernel
theorem dX4_digest_141 : decode cX4_digest 141 = .ok (.if_icmp .ge 20, 3) := by decide +kernel
theorem dX4_digest_144 : decode cX4_digest 144 = .ok (.aload_n 0, 1) := by decide +kernel
theorem dX4_digest_145 : decode cX4_digest 145 = .ok (.aload_n 0, 1) := by decide +kernel
theorem dX4_digest_146 : decode cX4_digest 146 = .ok (.getfield 16, 3) := by decide +kernel
theorem dX4_digest_149 : decode cX4_digest 149 = .ok (.iload_n 1, 1) := by decide +kernel
theorem dX4_digest_150 : decode cX4_digest 150 = .ok (.iaload, 1) := by decide +kernel
theorem dX4_digest_151 : decode cX4_digest 151 = .ok (.i2l, 1) := by decide +kernel
theorem dX4_digest_152 : decode cX4_digest 152 = .ok (.invokevirtual 229, 3) := by decide +kernel
theorem dX4_digest_155 : decode cX4_digest 155 = .ok (.iinc 1 1, 3) := by decide +kernel
theorem dX4_digest_158 : decode cX4_digest 158 = .ok (.goto (-22), 3) := by decide +kernel
theorem dX4_digest_161 : decode cX4_digest 161 = .ok (.aload_n 0, 1) := by decide +kernel
theorem dX4_digest_162 : decode cX4_digest 162 = .ok (.getfield 225, 3) := by decide +kernel
theorem dX4_digest_165 : decode cX4_digest 165 = .ok (.lreturn, 1) := by decide +kernel
theorem dJxe99ae_isNaN_b9ae7_0 : decode cJxe99ae_isNaN_b9ae7 0 = .ok (.dload_n 0, 1) := by decide +kernel
theorem dJxe99ae_isNaN_b9ae7_1 : decode cJxe99ae_isNaN_b9ae7 1 = .ok (.dload_n 0, 1) := by decide +kernel
theorem dJxe99ae_isNaN_b9ae7_2 : decode cJxe99ae_isNaN_b9ae7 2 = .ok (.dcmp .l, 1) := by decide +kernel
theorem dJxe99ae_isNaN_b9ae7_3 : decode cJxe99ae_isNaN_b9ae7 3 = .ok (.ifCond .eq 7, 3) := by decide +kernel
theorem dJxe99ae_isNaN_b9ae7_6 : decode cJxe99ae_isNaN_b9ae7 6 = .ok (.iconst 1, 1) := by decide +kernel
theorem dJxe99ae_isNaN_b9ae7_7 : decode cJxe99ae_isNaN_b9ae7 7 = .ok (.goto 4, 3) := by decide +kernel
theorem dJxe99ae_isNaN_b9ae7_10 : decode cJxe99ae_isNaN_b9ae7 10 = .ok (.iconst 0, 1) := by decide +kernel
theorem dJxe99ae_isNaN_b9ae7_11 : decode cJxe99ae_isNaN_b9ae7 11 = .ok (.ireturn, 1) := by decide +kernel
theorem dJxe99ae_doubleToLongBits_ccdee_0 : decode cJxe99ae_doubleToLongBits_ccdee 0 = .ok (.dload_n 0, 1) := by decide +kernel
theorem dJxe99ae_doubleToLongBits_ccdee_1 : decode cJxe99ae_doubleToLongBits_ccdee 1 = .ok (.invokestatic 122, 3) := by decide +kernel
theorem dJxe99ae_doubleToLongBits_ccdee_4 : decode cJxe99ae_doubleToLongBits_ccdee 4 = .ok (.ifCond .ne 8, 3) := by decide +kernel
theorem dJxe99ae_doubleToLongBits_ccdee_7 : decode cJxe99ae_doubleToLongBits_ccdee 7 = .ok (.dload_n 0, 1) := by decide +kernel
theorem dJxe99ae_doubleToLongBits_ccdee_8 : decode cJxe99ae_doubleToLongBits_ccdee 8 = .ok (.invokestatic 134, 3) := by decide +kernel
theorem dJxe99ae_doubleToLongBits_ccdee_11 : decode cJxe99ae_doubleToLongBits_ccdee 11 = .ok (.lreturn, 1) := by decide +kernel
theorem dJxe99ae_doubleToLongBits_ccdee_12 : decode cJxe99ae_doubleToLongBits_ccdee 12 = .ok (.ldc2_w 137, 3) := by decide +kernel
theorem dJxe99ae_doubleToLongBits_ccdee_15 : decode cJxe99ae_doubleToLongBits_ccdee 15 = .ok (.lreturn, 1) := by decide +kernel
theorem dL_addRail_0 : decode cL_addRail 0 = .ok (.aload 5, 2) := by decide +kernel
theorem dL_addRail_2 : decode cL_addRail 2 = .ok (.iconst 0, 1) := by decide +kernel
theorem dL_addRail_3 : decode cL_addRail 3 = .ok (.aload_n 0, 1) := by decide +kernel
theorem dL_addRail_4 : decode cL_addRail 4 = .ok (.iload_n 1, 1) := by decide +kernel
theorem dL_addRail_5 : decode cL_addRail 5 = .ok (.iload_n 2, 1) := by decide +kernel
theorem dL_addRail_6 : decode cL_addRail 6 = .ok (.iload_n 3, 1) := by decide +kernel
theorem dL_addRail_7 : decode cL_addRail 7 = .ok (.iload 4, 2) := by decide +kernel
theorem dL_addRail_9 : decode cL_addRail 9 = .ok (.invokevirtual 7, 3) := by decide +kernel
theorem dL_addRail_12 : decode cL_addRail 12 = .ok (.i2l, 1) := by decide +kernel
theorem dL_addRail_13 : decode cL_addRail 13 = .ok (.lastore, 1) := by decide +kernel
theorem dL_addRail_14 : decode cL_addRail 14 = .ok (.goto 11, 3) := by decide +kernel
theorem dL_addRail_17 : decode cL_addRail 17 = .ok (.astore 6, 2) := by decide +kernel
theorem dL_addRail_19 : decode cL_addRail 19 = .ok (.iconst 1, 1) := by decide +kernel
theorem dL_addRail_20 : decode cL_addRail 20 = .ok (.ireturn, 1) := by decide +kernel
theorem dL_addRail_21 : decode cL_addRail 21 = .ok (.astore 6, 2) := by decide +kernel
theorem dL_addRail_23 : decode cL_addRail 23 = .ok (.iconst 2, 1) := by decide +kernel
theorem dL_addRail_24 : decode cL_addRail 24 = .ok (.ireturn, 1) := by decide +kernel
theorem dL_addRail_25 : decode cL_addRail 25 = .ok (.iconst 0, 1) := by decide +kernel
theorem dL_addRail_26 : decode cL_addRail 26 = .ok (.ireturn, 1) := by decide +kernel
theorem dL_set_0 : decode cL_set 0 = .ok (.aload 4, 2) := by decide +kernel
theorem dL_set_2 : decode cL_set 2 = .ok (.iconst 0, 1) := by decide +kernel
theorem dL_set_3 : decode cL_set 3 = .ok (.aload_n 0, 1) := by decide +kernel
theorem dL_set_4 : decode cL_set 4 = .ok (.iload_n 1, 1) := by decide +kernel
theorem dL_set_5 : decode cL_set 5 = .ok (.iload_n 2, 1) := by decide +kernel
theorem dL_set_6 : decode cL_set 6 = .ok (.iload_n 3, 1) := by decide +kernel
theorem dL_set_7 : decode cL_set 7 = .ok (.invokevirtual 17, 3) := by decide +kernel
theorem dL_set_10 : decode cL_set 10 = .ok (.i2l, 1) := by decide +kernel
theorem dL_set_11 : decode cL_set 11 = .ok (.lastore, 1) := by decide +kernel
theorem dL_set_12 : decode cL_set 12 = .ok (.goto 11, 3) := by decide +kernel
theorem dL_set_15 : decode cL_set 15 = .ok (.astore 5, 2) := by decide +kernel
theorem dL_set_17 : decode cL_set 17 = .ok (.iconst 1, 1) := by decide +kernel
theorem dL_set_18 : decode cL_set 18 = .ok (.ireturn, 1) := by decide +kernel
theorem dL_set_19 : decode cL_set 19 = .ok (.astore 5, 2) := by decide +kernel
theorem dL_set_21 : decode cL_set 21 = .ok (.iconst 2, 1) := by decide +kernel
theorem dL_set_22 : decode cL_set 22 = .ok (.ireturn, 1) := by decide +kernel
theorem dL_set_23 : decode cL_set 23 = .ok (.iconst 0, 1) := by decide +kernel
theorem dL_set_24 : decode cL_set 24 = .ok (.ireturn, 1) := by decide +kernel
theorem dL_setNeeds_0 : decode cL_setNeeds 0 = .ok (.aload_n 3, 1) := by decide +kernel
theorem dL_setNeeds_1 : decode cL_setNeeds 1 = .ok (.iconst 0, 1) := by decide +kernel
theorem dL_setNeeds_2 : decode cL_setNeeds 2 = .ok (.aload_n 0, 1) := by decide +kernel
theorem dL_setNeeds_3 : decode cL_setNeeds 3 = .ok (.iload_n 1, 1) := by decide +kernel
theorem dL_setNeeds_4 : decode cL_setNeeds 4 = .ok (.iload_n 2, 1) := by decide +kernel
theorem dL_setNeeds_5 : decode cL_setNeeds 5 = .ok (.invokevirtual 23, 3) := by decide +kernel
theorem dL_setNeeds_8 : decode cL_setNeeds 8 = .ok (.i2l, 1) := by decide +kernel
theorem dL_setNeeds_9 : decode cL_setNeeds 9 = .ok (.lastore, 1) := by decide +kernel
theorem dL_setNeeds_10 : decode cL_setNeeds 10 = .ok (.goto 15, 3) := by decide +kernel
theorem dL_setNeeds_13 : decode cL_setNeeds 13 = .ok (.astore 4, 2) := by decide +kernel
theorem dL_setNeeds_15 : decode cL_setNeeds 15 = .ok (.iconst 1, 1) := by decide +kernel
theorem dL_setNeeds_16 : decode cL_setNeeds 16 = .ok (.ireturn, 1) := by decide +kernel
theorem dL_setNeeds_17 : decode cL_setNeeds 17 = .ok (.astore 4, 2) := by decide +kernel
theorem dL_setNeeds_19 : decode cL_setNeeds 19 = .ok (.iconst 2, 1) := by decide +kernel
theorem dL_setNeeds_20 : decode cL_setNeeds 20 = .ok (.ireturn, 1) := by decide +kernel
theorem dL_setNeeds_21 : decode cL_setNeeds 21 = .ok (.astore 4, 2) := by decide +kernel
theorem dL_setNeeds_23 : decode cL_setNeeds 23 = .ok (.iconst 3, 1) := by decide +kernel
theorem dL_setNeeds_24 : decode cL_setNeeds 24 = .ok (.ireturn, 1) := by decide +kernel
theorem dL_setNeeds_25 : decode cL_setNeeds 25 = .ok (.iconst 0, 1) := by decide +kernel
theorem dL_setNeeds_26 : decode cL_setNeeds 26 = .ok (.ireturn, 1) := by decide +kernel
theorem dL_setResidue_0 : decode cL_setResidue 0 = .ok (.aload_n 2, 1) := by decide +kernel
theorem dL_setResidue_1 : decode cL_setResidue 1 = .ok (.iconst 0, 1) := by decide +kernel
theorem dL_setResidue_2 : decode cL_setResidue 2 = .ok (.aload_n 0, 1) := by decide +kernel
theorem dL_setResidue_3 : decode cL_setResidue 3 = .ok (.iload_n 1, 1) := by decide +kernel
theorem dL_setResidue_4 : decode cL_setResidue 4 = .ok (.invokevirtual 27, 3) := by decide +kernel
theorem dL_setResidue_7 : decode cL_setResidue 7 = .ok (.i2l, 1) := by decide +kernel
theorem dL_setResidue_8 : decode cL_setResidue 8 = .ok (.lastore, 1) := by decide +kernel
theorem dL_setResidue_9 : decode cL_setResidue 9 = .ok (.goto 6, 3) := by decide +kernel
theorem dL_setResidue_12 : decode cL_setResidue 12 = .ok (.astore_n 3, 1) := by decide +kernel
theorem dL_setResidue_13 : decode cL_setResidue 13 = .ok (.iconst 1, 1) := by decide +kernel
theorem dL_setResidue_14 : decode cL_setResidue 14 = .ok (.ireturn, 1) := by decide +kernel
theorem dL_setResidue_15 : decode cL_setResidue 15 = .ok (.iconst 0, 1) := by decide +kernel
theorem dL_setResidue_16 : decode cL_setResidue 16 = .ok (.ireturn, 1) := by decide +kernel
theorem dL_on_0 : decode cL_on 0 = .ok (.aload_n 2, 1) := by decide +kernel
theorem dL_on_1 : decode cL_on 1 = .ok (.iconst 0, 1) := by decide +kernel
theorem dL_on_2 : decode cL_on 2 = .ok (.aload_n 0, 1) := by decide +kernel
theorem dL_on_3 : decode cL_on 3 = .ok (.iload_n 1, 1) := by decide +kernel
theorem dL_on_4 : decode cL_on 4 = .ok (.invokevirtual 31, 3) := by decide +kernel
theorem dL_on_7 : decode cL_on 7 = .ok (.i2l, 1) := by decide +kernel
theorem dL_on_8 : decode cL_on 8 = .ok (.lastore, 1) := by decide +kernel
theorem dL_on_9 : decode cL_on 9 = .ok (.goto 6, 3) := by decide +kernel
theorem dL_on_12 : decode cL_on 12 = .ok (.astore_n 3, 1) := by decide +kernel
theorem dL_on_13 : decode cL_on 13 = .ok (.iconst 1, 1) := by decide +kernel
theorem dL_on_14 : decode cL_on 14 = .ok (.ireturn, 1) := by decide +kernel
theorem dL_on_15 : decode cL_on 15 = .ok (.iconst 0, 1) := by decide +kernel
theorem dL_on_16 : decode cL_on 16 = .ok (.ireturn, 1) := by decide +kernel
theorem dL_off_0 : decode cL_off 0 = .ok (.aload_n 2, 1) := by decide +kernel
theorem dL_off_1 : decode cL_off 1 = .ok (.iconst 0, 1) := by decide +kernel
theorem dL_off_2 : decode cL_off 2 = .ok (.aload_n 0, 1) := by decide +kernel
theorem dL_off_3 : decode cL_off 3 = .ok (.iload_n 1, 1) := by decide +kernel
theorem dL_off_4 : decode cL_off 4 = .ok (.invokevirtual 34, 3) := by decide +kernel
theorem dL_off_7 : decode cL_off 7 = .ok (.i2l, 1) := by decide +kernel
theorem dL_off_8 : decode cL_off 8 = .ok (.lastore, 1) := by decide +kernel
theorem dL_off_9 : decode cL_off 9 = .ok (.goto 6, 3) := by decide +kernel
theorem dL_off_12 : decode cL_off 12 = .ok (.astore_n 3, 1) := by decide +kernel
theorem dL_off_13 : decode cL_off 13 = .ok (.iconst 1, 1) := by decide +kernel
theorem dL_off_14 : decode cL_off 14 = .ok (.ireturn, 1) := by decide +kernel
theorem dL_off_15 : decode cL_off 15 = .ok (.iconst 0, 1) := by decide +kernel
theorem dL_off_16 : decode cL_off 16 = .ok (.ireturn, 1) := by decide +kernel
theorem dL_restart_0 : decode cL_restart 0 = .ok (.aload_n 2, 1) := by decide +kernel
theorem dL_restart_1 : decode cL_restart 1 = .ok (.iconst 0, 1) := by decide +kernel
theorem dL_restart_2 : decode cL_restart 2 = .ok (.aload_n 0, 1) := by decide +kernel
theorem dL_restart_3 : decode cL_restart 3 = .ok (.iload_n 1, 1) := by decide +kernel
theorem dL_restart_4 : decode cL_restart 4 = .ok (.invokevirtual 37, 3) := by decide +kernel
theorem dL_restart_7 : decode cL_restart 7 = .ok (.i2l, 1) := by decide +kernel
theorem dL_restart_8 : decode cL_restart 8 = .ok (.lastore, 1) := by decide +kernel
theorem dL_restart_9 : decode cL_restart 9 = .ok (.goto 9, 3) := by decide +kernel
theorem dL_restart_12 : decode cL_restart 12 = .ok (.astore_n 3, 1) := by decide +kernel
theorem dL_restart_13 : decode cL_restart 13 = .ok (.iconst 1, 1) := by decide +kernel
theorem dL_restart_14 : decode cL_restart 14 = .ok (.ireturn, 1) := by decide +kernel
theorem dL_restart_15 : decode cL_restart 15 = .ok (.astore_n 3, 1) := by decide +kernel
theorem dL_restart_16 : decode cL_restart 16 = .ok (.iconst 2, 1) := by decide +kernel
theorem dL_restart_17 : decode cL_restart 17 = .ok (.ireturn, 1) := by decide +kernel
theorem dL_restart_18 : decode cL_restart 18 = .ok (.iconst 0, 1) := by decide +kernel
theorem dL_restart_19 : decode cL_restart 19 = .ok (.ireturn, 1) := by decide +kernel
theorem dL_shortCircuit_0 : decode cL_shortCircuit 0 = .ok (.aload_n 3, 1) := by decide +kernel
theorem dL_shortCircuit_1 : decode cL_shortCircuit 1 = .ok (.iconst 0, 1) := by decide +kernel
theorem dL_shortCircuit_2 : decode cL_shortCircuit 2 = .ok (.aload_n 0, 1) := by decide +kernel
theorem dL_shortCircuit_3 : decode cL_shortCircuit 3 = .ok (.iload_n 1, 1) := by decide +kernel
theorem dL_shortCircuit_4 : decode cL_shortCircuit 4 = .ok (.iload_n 2, 1) := by decide +kernel
theorem dL_shortCircuit_5 : decode cL_shortCircuit 5 = .ok (.invokevirtual 40, 3) := by decide +kernel
theorem dL_shortCircuit_8 : decode cL_shortCircuit 8 = .ok (.i2l, 1) := by decide +kernel
theorem dL_shortCircuit_9 : decode cL_shortCircuit 9 = .ok (.lastore, 1) := by decide +kernel
theorem dL_shortCircuit_10 : decode cL_shortCircuit 10 = .ok (.goto 11, 3) := by decide +kernel
theorem dL_shortCircuit_13 : decode cL_shortCircuit 13 = .ok (.astore 4, 2) := by decide +kernel
theorem dL_shortCircuit_15 : decode cL_shortCircuit 15 = .ok (.iconst 1, 1) := by decide +kernel
theorem dL_shortCircuit_16 : decode cL_shortCircuit 16 = .ok (.ireturn, 1) := by decide +kernel
theorem dL_shortCircuit_17 : decode cL_shortCircuit 17 = .ok (.astore 4, 2) := by decide +kernel
theorem dL_shortCircuit_19 : decode cL_shortCircuit 19 = .ok (.iconst 2, 1) := by decide +kernel
theorem dL_shortCircuit_20 : decode cL_shortCircuit 20 = .ok (.ireturn, 1) := by decide +kernel
theorem dL_shortCircuit_21 : decode cL_shortCircuit 21 = .ok (.iconst 0, 1) := by decide +kernel
theorem dL_shortCircuit_22 : decode cL_shortCircuit 22 = .ok (.ireturn, 1) := by decide +kernel
theorem dL_stick_0 : decode cL_stick 0 = .ok (.aload_n 3, 1) := by decide +kernel
theorem dL_stick_1 : decode cL_stick 1 = .ok (.iconst 0, 1) := by decide +kernel
theorem dL_stick_2 : decode cL_stick 2 = .ok (.aload_n 0, 1) := by decide +kernel
theorem dL_stick_3 : decode cL_stick 3 = .ok (.iload_n 1, 1) := by decide +kernel
theorem dL_stick_4 : decode cL_stick 4 = .ok (.iload_n 2, 1) := by decide +kernel
theorem dL_stick_5 : decode cL_stick 5 = .ok (.invokevirtual 43, 3) := by decide +kernel
theorem dL_stick_8 : decode cL_stick 8 = .ok (.i2l, 1) := by decide +kernel
theorem dL_stick_9 : decode cL_stick 9 = .ok (.lastore, 1) := by decide +kernel
theorem dL_stick_10 : decode cL_stick 10 = .ok (.goto 11, 3) := by decide +kernel
theorem dL_stick_13 : decode cL_stick 13 = .ok (.astore 4, 2) := by decide +kernel
theorem dL_stick_15 : decode cL_stick 15 = .ok (.iconst 1, 1) := by decide +kernel
theorem dL_stick_16 : decode cL_stick 16 = .ok (.ireturn, 1) := by decide +kernel
theorem dL_stick_17 : decode cL_stick 17 = .ok (.astore 4, 2) := by decide +kernel
theorem dL_stick_19 : decode cL_stick 19 = .ok (.iconst 2, 1) := by decide +kernel
theorem dL_stick_20 : decode cL_stick 20 = .ok (.ireturn, 1) := by decide +kernel
theorem dL_stick_21 : decode cL_stick 21 = .ok (.iconst 0, 1) := by decide +kernel
theorem dL_stick_22 : decode cL_stick 22 = .ok (.ireturn, 1) := by decide +kernel
theorem dL_tick_0 : decode cL_tick 0 = .ok (.aload_n 2, 1) := by decide +kernel
theorem dL_tick_1 : decode cL_tick 1 = .ok (.iconst 0, 1) := by decide +kernel
theorem dL_tick_2 : decode cL_tick 2 = .ok (.aload_n 0, 1) := by decide +kernel
theorem dL_tick_3 : decode cL_tick 3 = .ok (.iload_n 1, 1) := by decide +kernel
theorem dL_tick_4 : decode cL_tick 4 = .ok (.invokevirtual 46, 3) := by decide +kernel
theorem dL_tick_7 : decode cL_tick 7 = .ok (.i2l, 1) := by decide +kernel
theorem dL_tick_8 : decode cL_tick 8 = .ok (.lastore, 1) := by decide +kernel
theorem dL_tick_9 : decode cL_tick 9 = .ok (.goto 9, 3) := by decide +kernel
theorem dL_tick_12 : decode cL_tick 12 = .ok (.astore_n 3, 1) := by decide +kernel
theorem dL_tick_13 : decode cL_tick 13 = .ok (.iconst 1, 1) := by decide +kernel
theorem dL_tick_14 : decode cL_tick 14 = .ok (.ireturn, 1) := by decide +kernel
theorem dL_tick_15 : decode cL_tick 15 = .ok (.astore_n 3, 1) := by decide +kernel
theorem dL_tick_16 : decode cL_tick 16 = .ok (.iconst 2, 1) := by decide +kernel
theorem dL_tick_17 : decode cL_tick 17 = .ok (.ireturn, 1) := by decide +kernel
theorem dL_tick_18 : decode cL_tick 18 = .ok (.iconst 0, 1) := by decide +kernel
theorem dL_tick_19 : decode cL_tick 19 = .ok (.ireturn, 1) := by decide +kernel
theorem dL_append_0 : decode cL_append 0 = .ok (.aload_n 2, 1) := by decide +kernel
theorem dL_append_1 : decode cL_append 1 = .ok (.iconst 0, 1) := by decide +kernel
theorem dL_append_2 : decode cL_append 2 = .ok (.aload_n 0, 1) := by decide +kernel
theorem dL_append_3 : decode cL_append 3 = .ok (.iload_n 1, 1) := by decide +kernel
theorem dL_append_4 : decode cL_append 4 = .ok (.invokevirtual 49, 3) := by decide +kernel
theorem dL_append_7 : decode cL_append 7 = .ok (.i2l, 1) := by decide +kernel
theorem dL_append_8 : decode cL_append 8 = .ok (.lastore, 1) := by decide +kernel
theorem dL_append_9 : decode cL_append 9 = .ok (.goto 9, 3) := by decide +kernel
theorem dL_append_12 : decode cL_append 12 = .ok (.astore_n 3, 1) := by decide +kernel
theorem dL_append_13 : decode cL_append 13 = .ok (.iconst 1, 1) := by decide +kernel
theorem dL_append_14 : decode cL_append 14 = .ok (.ireturn, 1) := by decide +kernel
theorem dL_append_15 : decode cL_append 15 = .ok (.astore_n 3, 1) := by decide +kernel
theorem dL_append_16 : decode cL_append 16 = .ok (.iconst 2, 1) := by decide +kernel
theorem dL_append_17 : decode cL_append 17 = .ok (.ireturn, 1) := by decide +kernel
theorem dL_append_18 : decode cL_append 18 = .ok (.iconst 0, 1) := by decide +kernel
theorem dL_append_19 : decode cL_append 19 = .ok (.ireturn, 1) := by decide +kernel
theorem dL_load_0 : decode cL_load 0 = .ok (.aload_n 1, 1) := by decide +kernel
theorem dL_load_1 : decode cL_load 1 = .ok (.iconst 0, 1) := by decide +kernel
theorem dL_load_2 : decode cL_load 2 = .ok (.aload_n 0, 1) := by decide +kernel
theorem dL_load_3 : decode cL_load 3 = .ok (.invokevirtual 52, 3) := by decide +kernel
theorem dL_load_6 : decode cL_load 6 = .ok (.i2l, 1) := by decide +kernel
theorem dL_load_7 : decode cL_load 7 = .ok (.lastore, 1) := by decide +kernel
theorem dL_load_8 : decode cL_load 8 = .ok (.goto 9, 3) := by decide +kernel
theorem dL_load_11 : decode cL_load 11 = .ok (.astore_n 2, 1) := by decide +kernel
theorem dL_load_12 : decode cL_load 12 = .ok (.iconst 1, 1) := by decide +kernel
theorem dL_load_13 : decode cL_load 13 = .ok (.ireturn, 1) := by decide +kernel
theorem dL_load_14 : decode cL_load 14 = .ok (.astore_n 2, 1) := by decide +kernel
theorem dL_load_15 : decode cL_load 15 = .ok (.iconst 2, 1) := by decide +kernel
theorem dL_load_16 : decode cL_load 16 = .ok (.ireturn, 1) := by decide +kernel
theorem dL_load_17 : decode cL_load 17 = .ok (.iconst 0, 1) := by decide +kernel
theorem dL_load_18 : decode cL_load 18 = .ok (.ireturn, 1) := by decide +kernel
theorem dL_undo_0 : decode cL_undo 0 = .ok (.aload_n 1, 1) := by decide +kernel
theorem dL_undo_1 : decode cL_undo 1 = .ok (.iconst 0, 1) := by decide +kernel
theorem dL_undo_2 : decode cL_undo 2 = .ok (.aload_n 0, 1) := by decide +kernel
theorem dL_undo_3 : decode cL_undo 3 = .ok (.invokevirtual 56, 3) := by decide +kernel
theorem dL_undo_6 : decode cL_undo 6 = .ok (.i2l, 1) := by decide +kernel
theorem dL_undo_7 : decode cL_undo 7 = .ok (.lastore, 1) := by decide +kernel
theorem dL_undo_8 : decode cL_undo 8 = .ok (.goto 6, 3) := by decide +kernel
theorem dL_undo_11 : decode cL_undo 11 = .ok (.astore_n 2, 1) := by decide +kernel
theorem dL_undo_12 : decode cL_undo 12 = .ok (.iconst 1, 1) := by decide +kernel
theorem dL_undo_13 : decode cL_undo 13 = .ok (.ireturn, 1) := by decide +kernel
theorem dL_undo_14 : decode cL_undo 14 = .ok (.iconst 0, 1) := by decide +kernel
theorem dL_undo_15 : decode cL_undo 15 = .ok (.ireturn, 1) := by decide +kernel
theorem dL_rail_0 : decode cL_rail 0 = .ok (.aload_n 3, 1) := by decide +kernel
theorem dL_rail_1 : decode cL_rail 1 = .ok (.iconst 0, 1) := by decide +kernel
theorem dL_rail_2 : decode cL_rail 2 = .ok (.aload_n 0, 1) := by decide +kernel
theorem dL_rail_3 : decode cL_rail 3 = .ok (.iload_n 1, 1) := by decide +kernel
theorem dL_rail_4 : decode cL_rail 4 = .ok (.iload_n 2, 1) := by decide +kernel
theorem dL_rail_5 : decode cL_rail 5 = .ok (.invokevirtual 59, 3) := by decide +kernel
theorem dL_rail_8 : decode cL_rail 8 = .ok (.i2l, 1) := by decide +kernel
theorem dL_rail_9 : decode cL_rail 9 = .ok (.lastore, 1) := by decide +kernel
theorem dL_rail_10 : decode cL_rail 10 = .ok (.goto 11, 3) := by decide +kernel
theorem dL_rail_13 : decode cL_rail 13 = .ok (.astore 4, 2) := by decide +kernel
theorem dL_rail_15 : decode cL_rail 15 = .ok (.iconst 1, 1) := by decide +kernel
theorem dL_rail_16 : decode cL_rail 16 = .ok (.ireturn, 1) := by decide +kernel
theorem dL_rail_17 : decode cL_rail 17 = .ok (.astore 4, 2) := by decide +kernel
theorem dL_rail_19 : decode cL_rail 19 = .ok (.iconst 2, 1) := by decide +kernel
theorem dL_rail_20 : decode cL_rail 20 = .ok (.ireturn, 1) := by decide +kernel
theorem dL_rail_21 : decode cL_rail 21 = .ok (.iconst 0, 1) := by decide +kernel
theorem dL_rail_22 : decode cL_rail 22 = .ok (.ireturn, 1) := by decide +kernel
theorem dL_account_0 : decode cL_account 0 = .ok (.aload_n 3, 1) := by decide +kernel
theorem dL_account_1 : decode cL_account 1 = .ok (.iconst 0, 1) := by decide +kernel
theorem dL_account_2 : decode cL_account 2 = .ok (.aload_n 0, 1) := by decide +kernel
theorem dL_account_3 : decode cL_account 3 = .ok (.iload_n 1, 1) := by decide +kernel
theorem dL_account_4 : decode cL_account 4 = .ok (.iload_n 2, 1) := by decide +kernel
theorem dL_account_5 : decode cL_account 5 = .ok (.invokevirtual 62, 3) := by decide +kernel
theorem dL_account_8 : decode cL_account 8 = .ok (.i2l, 1) := by decide +kernel
theorem dL_account_9 : decode cL_account 9 = .ok (.lastore, 1) := by decide +kernel
theorem dL_account_10 : decode cL_account 10 = .ok (.goto 11, 3) := by decide +kernel
theorem dL_account_13 : decode cL_account 13 = .ok (.astore 4, 2) := by decide +kernel
theorem dL_account_15 : decode cL_account 15 = .ok (.iconst 1, 1) := by decide +kernel
theorem dL_account_16 : decode cL_account 16 = .ok (.ireturn, 1) := by decide +kernel
theorem dL_account_17 : decode cL_account 17 = .ok (.astore 4, 2) := by decide +kernel
theorem dL_account_19 : decode cL_account 19 = .ok (.iconst 2, 1) := by decide +kernel
theorem dL_account_20 : decode cL_account 20 = .ok (.ireturn, 1) := by decide +kernel
theorem dL_account_21 : decode cL_account 21 = .ok (.iconst 0, 1) := by decide +kernel
theorem dL_account_22 : decode cL_account 22 = .ok (.ireturn, 1) := by decide +kernel
theorem dL_entry_0 : decode cL_entry 0 = .ok (.aload_n 3, 1) := by decide +kernel
theorem dL_entry_1 : decode cL_entry 1 = .ok (.iconst 0, 1) := by decide +kernel
theorem dL_entry_2 : decode cL_entry 2 = .ok (.aload_n 0, 1) := by decide +kernel
theorem dL_entry_3 : decode cL_entry 3 = .ok (.iload_n 1, 1) := by decide +kernel
theorem dL_entry_4 : decode cL_entry 4 = .ok (.iload_n 2, 1) := by decide +kernel
theorem dL_entry_5 : decode cL_entry 5 = .ok (.invokevirtual 65, 3) := by decide +kernel
theorem dL_entry_8 : decode cL_entry 8 = .ok (.i2l, 1) := by decide +kernel
theorem dL_entry_9 : decode cL_entry 9 = .ok (.lastore, 1) := by decide +kernel
theorem dL_entry_10 : decode cL_entry 10 = .ok (.goto 7, 3) := by decide +kernel
theorem dL_entry_13 : decode cL_entry 13 = .ok (.astore 4, 2) := by decide +kernel
theorem dL_entry_15 : decode cL_entry 15 = .ok (.iconst 1, 1) := by decide +kernel
theorem dL_entry_16 : decode cL_entry 16 = .ok (.ireturn, 1) := by decide +kernel
theorem dL_entry_17 : decode cL_entry 17 = .ok (.iconst 0, 1) := by decide +kernel
theorem dL_entry_18 : decode cL_entry 18 = .ok (.ireturn, 1) := by decide +kernel
theorem dL_forget_0 : decode cL_forget 0 = .ok (.aload_n 2, 1) := by decide +kernel
theorem dL_forget_1 : decode cL_forget 1 = .ok (.iconst 0, 1) := by decide +kernel
theorem dL_forget_2 : decode cL_forget 2 = .ok (.aload_n 0, 1) := by decide +kernel
theorem dL_forget_3 : decode cL_forget 3 = .ok (.iload_n 1, 1) := by decide +kernel
theorem dL_forget_4 : decode cL_forget 4 = .ok (.invokevirtual 68, 3) := by decide +kernel
theorem dL_forget_7 : decode cL_forget 7 = .ok (.i2l, 1) := by decide +kernel
theorem dL_forget_8 : decode cL_forget 8 = .ok (.lastore, 1) := by decide +kernel
theorem dL_forget_9 : decode cL_forget 9 = .ok (.goto 6, 3) := by decide +kernel
theorem dL_forget_12 : decode cL_forget 12 = .ok (.astore_n 3, 1) := by decide +kernel
theorem dL_forget_13 : decode cL_forget 13 = .ok (.iconst 1, 1) := by decide +kernel
theorem dL_forget_14 : decode cL_forget 14 = .ok (.ireturn, 1) := by decide +kernel
theorem dL_forget_15 : decode cL_forget 15 = .ok (.iconst 0, 1) := by decide +kernel
theorem dL_forget_16 : decode cL_forget 16 = .ok (.ireturn, 1) := by decide +kernel
theorem dL_count_0 : decode cL_count 0 = .ok (.aload_n 2, 1) := by decide +kernel
theorem dL_count_1 : decode cL_count 1 = .ok (.iconst 0, 1) := by decide +kernel
theorem dL_count_2 : decode cL_count 2 = .ok (.aload_n 0, 1) := by decide +kernel
theorem dL_count_3 : decode cL_count 3 = .ok (.iload_n 1, 1) := by decide +kernel
theorem dL_count_4 : decode cL_count 4 = .ok (.invokevirtual 71, 3) := by decide +kernel
theorem dL_count_7 : decode cL_count 7 = .ok (.i2l, 1) := by decide +kernel
theorem dL_count_8 : decode cL_count 8 = .ok (.lastore, 1) := by decide +kernel
theorem dL_count_9 : decode cL_count 9 = .ok (.goto 6, 3) := by decide +kernel
theorem dL_count_12 : decode cL_count 12 = .ok (.astore_n 3, 1) := by decide +kernel
theorem dL_count_13 : decode cL_count 13 = .ok (.iconst 1, 1) := by decide +kernel
theorem dL_count_14 : decode cL_count 14 = .ok (.ireturn, 1) := by decide +kernel
theorem dL_count_15 : decode cL_count 15 = .ok (.iconst 0, 1) := by decide +kernel
theorem dL_count_16 : decode cL_count 16 = .ok (.ireturn, 1) := by decide +kernel
theorem dL_ifShort_0 : decode cL_ifShort 0 = .ok (.aload 4, 2) := by decide +kernel
theorem dL_ifShort_2 : decode cL_ifShort 2 = .ok (.iconst 0, 1) := by decide +kernel
theorem dL_ifShort_3 : decode cL_ifShort 3 = .ok (.aload_n 0, 1) := by decide +kernel
theorem dL_ifShort_4 : decode cL_ifShort 4 = .ok (.iload_n 1, 1) := by decide +kernel
theorem dL_ifShort_5 : decode cL_ifShort 5 = .ok (.iload_n 2, 1) := by decide +kernel
theorem dL_ifShort_6 : decode cL_ifShort 6 = .ok (.iload_n 3, 1) := by decide +kernel
theorem dL_ifShort_7 : decode cL_ifShort 7 = .ok (.invokevirtual 74, 3) := by decide +kernel
theorem dL_ifShort_10 : decode cL_ifShort 10 = .ok (.i2l, 1) := by decide +kernel
theorem dL_ifShort_11 : decode cL_ifShort 11 = .ok (.lastore, 1) := by decide +kernel
theorem dL_ifShort_12 : decode cL_ifShort 12 = .ok (.goto 11, 3) := by decide +kernel
theorem dL_ifShort_15 : decode cL_ifShort 15 = .ok (.astore 5, 2) := by decide +kernel
theorem dL_ifShort_17 : decode cL_ifShort 17 = .ok (.iconst 1, 1) := by decide +kernel
theorem dL_ifShort_18 : decode cL_ifShort 18 = .ok (.ireturn, 1) := by decide +kernel
theorem dL_ifShort_19 : decode cL_ifShort 19 = .ok (.astore 5, 2) := by decide +kernel
theorem dL_ifShort_21 : decode cL_ifShort 21 = .ok (.iconst 2, 1) := by decide +kernel
theorem dL_ifShort_22 : decode cL_ifShort 22 = .ok (.ireturn, 1) := by decide +kernel
theorem dL_ifShort_23 : decode cL_ifShort 23 = .ok (.iconst 0, 1) := by decide +kernel
theorem dL_ifShort_24 : decode cL_ifShort 24 = .ok (.ireturn, 1) := by decide +kernel
theorem dL_leastPatience_0 : decode cL_leastPatience 0 = .ok (.aload_n 2, 1) := by decide +kernel
theorem dL_leastPatience_1 : decode cL_leastPatience 1 = .ok (.iconst 0, 1) := by decide +kernel
theorem dL_leastPatience_2 : decode cL_leastPatience 2 = .ok (.aload_n 0, 1) := by decide +kernel
theorem dL_leastPatience_3 : decode cL_leastPatience 3 = .ok (.iload_n 1, 1) := by decide +kernel
theorem dL_leastPatience_4 : decode cL_leastPatience 4 = .ok (.invokevirtual 77, 3) := by decide +kernel
theorem dL_leastPatience_7 : decode cL_leastPatience 7 = .ok (.i2l, 1) := by decide +kernel
theorem dL_leastPatience_8 : decode cL_leastPatience 8 = .ok (.lastore, 1) := by decide +kernel
theorem dL_leastPatience_9 : decode cL_leastPatience 9 = .ok (.goto 6, 3) := by decide +kernel
theorem dL_leastPatience_12 : decode cL_leastPatience 12 = .ok (.astore_n 3, 1) := by decide +kernel
theorem dL_leastPatience_13 : decode cL_leastPatience 13 = .ok (.iconst 1, 1) := by decide +kernel
theorem dL_leastPatience_14 : decode cL_leastPatience 14 = .ok (.ireturn, 1) := by decide +kernel
theorem dL_leastPatience_15 : decode cL_leastPatience 15 = .ok (.iconst 0, 1) := by decide +kernel
theorem dL_leastPatience_16 : decode cL_leastPatience 16 = .ok (.ireturn, 1) := by decide +kernel
theorem dL_law_0 : decode cL_law 0 = .ok (.new 8, 3) := by decide +kernel
theorem dL_law_3 : decode cL_law 3 = .ok (.dup, 1) := by decide +kernel
theorem dL_law_4 : decode cL_law 4 = .ok (.invokespecial 80, 3) := by decide +kernel
theorem dL_law_7 : decode cL_law 7 = .ok (.astore_n 1, 1) := by decide +kernel
theorem dL_law_8 : decode cL_law 8 = .ok (.new 81, 3) := by decide +kernel
theorem dL_law_11 : decode cL_law 11 = .ok (.dup, 1) := by decide +kernel
theorem dL_law_12 : decode cL_law 12 = .ok (.invokespecial 83, 3) := by decide +kernel
theorem dL_law_15 : decode cL_law 15 = .ok (.astore_n 2, 1) := by decide +kernel
theorem dL_law_16 : decode cL_law 16 = .ok (.iconst 1, 1) := by decide +kernel
theorem dL_law_17 : decode cL_law 17 = .ok (.newarray .long, 2) := by decide +kernel
theorem dL_law_19 : decode cL_law 19 = .ok (.astore_n 3, 1) := by decide +kernel
theorem dL_law_20 : decode cL_law 20 = .ok (.iconst 0, 1) := by decide +kernel
theorem dL_law_21 : decode cL_law 21 = .ok (.istore 4, 2) := by decide +kernel
theorem dL_law_23 : decode cL_law 23 = .ok (.iload 4, 2) := by decide +kernel
theorem dL_law_25 : decode cL_law 25 = .ok (.aload_n 0, 1) := by decide +kernel
theorem dL_law_26 : decode cL_law 26 = .ok (.arraylength, 1) := by decide +kernel
theorem dL_law_27 : decode cL_law 27 = .ok (.iconst 5, 1) := by decide +kernel
theorem dL_law_28 : decode cL_law 28 = .ok (.isub, 1) := by decide +kernel
theorem dL_law_29 : decode cL_law 29 = .ok (.if_icmp .gt 1492, 3) := by decide +kernel
theorem dL_law_32 : decode cL_law 32 = .ok (.aload_n 0, 1) := by decide +kernel
theorem dL_law_33 : decode cL_law 33 = .ok (.iload 4, 2) := by decide +kernel
theorem dL_law_35 : decode cL_law 35 = .ok (.iaload, 1) := by decide +kernel
theorem dL_law_36 : decode cL_law 36 = .ok (.bipush 31, 2) := by decide +kernel
theorem dL_law_38 : decode cL_law 38 = .ok (.iand, 1) := by decide +kernel
theorem dL_law_39 : decode cL_law 39 = .ok (.tableswitch 1476 0 25 #[117, 209, 289, 357, 413, 469, 525, 581, 649, 717, 773, 829, 842, 855, 899, 943, 1011, 1079, 1147, 1203, 1259, 1272, 1285, 1365, 1421, 1462], 117) := by decide +kernel
theorem dL_law_156 : decode cL_law 156 = .ok (.aload_n 1, 1) := by decide +kernel
theorem dL_law_157 : decode cL_law 157 = .ok (.aload_n 0, 1) := by decide +kernel
theorem dL_law_158 : decode cL_law 158 = .ok (.iload 4, 2) := by decide +kernel
theorem dL_law_160 : decode cL_law 160 = .ok (.iconst 1, 1) := by decide +kernel
theorem dL_law_161 : decode cL_law 161 = .ok (.iadd, 1) := by decide +kernel
theorem dL_law_162 : decode cL_law 162 = .ok (.iaload, 1) := by decide +kernel
theorem dL_law_163 : decode cL_law 163 = .ok (.aload_n 0, 1) := by decide +kernel
theorem dL_law_164 : decode cL_law 164 = .ok (.iload 4, 2) := by decide +kernel
theorem dL_law_166 : decode cL_law 166 = .ok (.iconst 2, 1) := by decide +kernel
theorem dL_law_167 : decode cL_law 167 = .ok (.iadd, 1) := by decide +kernel
theorem dL_law_168 : decode cL_law 168 = .ok (.iaload, 1) := by decide +kernel
theorem dL_law_169 : decode cL_law 169 = .ok (.aload_n 0, 1) := by decide +kernel
theorem dL_law_170 : decode cL_law 170 = .ok (.iload 4, 2) := by decide +kernel
theorem dL_law_172 : decode cL_law 172 = .ok (.iconst 3, 1) := by decide +kernel
theorem dL_law_173 : decode cL_law 173 = .ok (.iadd, 1) := by decide +kernel
theorem dL_law_174 : decode cL_law 174 = .ok (.iaload, 1) := by decide +kernel
theorem dL_law_175 : decode cL_law 175 = .ok (.aload_n 0, 1) := by decide +kernel
theorem dL_law_176 : decode cL_law 176 = .ok (.iload 4, 2) := by decide +kernel
theorem dL_law_178 : decode cL_law 178 = .ok (.iconst 4, 1) := by decide +kernel
theorem dL_law_179 : decode cL_law 179 = .ok (.iadd, 1) := by decide +kernel
theorem dL_law_180 : decode cL_law 180 = .ok (.iaload, 1) := by decide +kernel
theorem dL_law_181 : decode cL_law 181 = .ok (.aload_n 3, 1) := by decide +kernel
theorem dL_law_182 : decode cL_law 182 = .ok (.invokestatic 84, 3) := by decide +kernel
theorem dL_law_185 : decode cL_law 185 = .ok (.istore 5, 2) := by decide +kernel
theorem dL_law_187 : decode cL_law 187 = .ok (.aload_n 2, 1) := by decide +kernel
theorem dL_law_188 : decode cL_law 188 = .ok (.aload_n 0, 1) := by decide +kernel
theorem dL_law_189 : decode cL_law 189 = .ok (.iload 4, 2) := by decide +kernel
theorem dL_law_191 : decode cL_law 191 = .ok (.iconst 1, 1) := by decide +kernel
theorem dL_law_192 : decode cL_law 192 = .ok (.iadd, 1) := by decide +kernel
theorem dL_law_193 : decode cL_law 193 = .ok (.iaload, 1) := by decide +kernel
theorem dL_law_194 : decode cL_law 194 = .ok (.aload_n 0, 1) := by decide +kernel
theorem dL_law_195 : decode cL_law 195 = .ok (.iload 4, 2) := by decide +kernel
theorem dL_law_197 : decode cL_law 197 = .ok (.iconst 2, 1) := by decide +kernel
theorem dL_law_198 : decode cL_law 198 = .ok (.iadd, 1) := by decide +kernel
theorem dL_law_199 : decode cL_law 199 = .ok (.iaload, 1) := by decide +kernel
theorem dL_law_200 : decode cL_law 200 = .ok (.aload_n 0, 1) := by decide +kernel
theorem dL_law_201 : decode cL_law 201 = .ok (.iload 4, 2) := by decide +kernel
theorem dL_law_203 : decode cL_law 203 = .ok (.iconst 3, 1) := by decide +kernel
theorem dL_law_204 : decode cL_law 204 = .ok (.iadd, 1) := by decide +kernel
theorem dL_law_205 : decode cL_law 205 = .ok (.iaload, 1) := by decide +kernel
theorem dL_law_206 : decode cL_law 206 = .ok (.aload_n 0, 1) := by decide +kernel
theorem dL_law_207 : decode cL_law 207 = .ok (.iload 4, 2) := by decide +kernel
theorem dL_law_209 : decode cL_law 209 = .ok (.iconst 4, 1) := by decide +kernel
theorem dL_law_210 : decode cL_law 210 = .ok (.iadd, 1) := by decide +kernel
theorem dL_law_211 : decode cL_law 211 = .ok (.iaload, 1) := by decide +kernel
theorem dL_law_212 : decode cL_law 212 = .ok (.invokevirtual 89, 3) := by decide +kernel
theorem dL_law_215 : decode cL_law 215 = .ok (.istore 6, 2) := by decide +kernel
theorem dL_law_217 : decode cL_law 217 = .ok (.aload_n 2, 1) := by decide +kernel
theorem dL_law_218 : decode cL_law 218 = .ok (.invokevirtual 90, 3) := by decide +kernel
theorem dL_law_221 : decode cL_law 221 = .ok (.iload 5, 2) := by decide +kernel
theorem dL_law_223 : decode cL_law 223 = .ok (.if_icmp .eq 5, 3) := by decide +kernel
theorem dL_law_226 : decode cL_law 226 = .ok (.iconst 0, 1) := by decide +kernel
theorem dL_law_227 : decode cL_law 227 = .ok (.ireturn, 1) := by decide +kernel
theorem dL_law_228 : decode cL_law 228 = .ok (.iload 5, 2) := by decide +kernel
theorem dL_law_230 : decode cL_law 230 = .ok (.ifCond .ne 15, 3) := by decide +kernel
theorem dL_law_233 : decode cL_law 233 = .ok (.aload_n 3, 1) := by decide +kernel
theorem dL_law_234 : decode cL_law 234 = .ok (.iconst 0, 1) := by decide +kernel
theorem dL_law_235 : decode cL_law 235 = .ok (.laload, 1) := by decide +kernel
theorem dL_law_236 : decode cL_law 236 = .ok (.iload 6, 2) := by decide +kernel
theorem dL_law_238 : decode cL_law 238 = .ok (.i2l, 1) := by decide +kernel
theorem dL_law_239 : decode cL_law 239 = .ok (.lcmp, 1) := by decide +kernel
theorem dL_law_240 : decode cL_law 240 = .ok (.ifCond .eq 5, 3) := by decide +kernel
theorem dL_law_243 : decode cL_law 243 = .ok (.iconst 0, 1) := by decide +kernel
theorem dL_law_244 : decode cL_law 244 = .ok (.ireturn, 1) := by decide +kernel
theorem dL_law_245 : decode cL_law 245 = .ok (.goto 1270, 3) := by decide +kernel
theorem dL_law_248 : decode cL_law 248 = .ok (.aload_n 1, 1) := by decide +kernel
theorem dL_law_249 : decode cL_law 249 = .ok (.aload_n 0, 1) := by decide +kernel
theorem dL_law_250 : decode cL_law 250 = .ok (.iload 4, 2) := by decide +kernel
theorem dL_law_252 : decode cL_law 252 = .ok (.iconst 1, 1) := by decide +kernel
theorem dL_law_253 : decode cL_law 253 = .ok (.iadd, 1) := by decide +kernel
theorem dL_law_254 : decode cL_law 254 = .ok (.iaload, 1) := by decide +kernel
theorem dL_law_255 : decode cL_law 255 = .ok (.aload_n 0, 1) := by decide +kernel
theorem dL_law_256 : decode cL_law 256 = .ok (.iload 4, 2) := by decide +kernel
theorem dL_law_258 : decode cL_law 258 = .ok (.iconst 2, 1) := by decide +kernel
theorem dL_law_259 : decode cL_law 259 = .ok (.iadd, 1) := by decide +kernel
theorem dL_law_260 : decode cL_law 260 = .ok (.iaload, 1) := by decide +kernel
theorem dL_law_261 : decode cL_law 261 = .ok (.aload_n 0, 1) := by decide +kernel
theorem dL_law_262 : decode cL_law 262 = .ok (.iload 4, 2) := by decide +kernel
theorem dL_law_264 : decode cL_law 264 = .ok (.iconst 3, 1) := by decide +kernel
theorem dL_law_265 : decode cL_law 265 = .ok (.iadd, 1) := by decide +kernel
theorem dL_law_266 : decode cL_law 266 = .ok (.iaload, 1) := by decide +kernel
theorem dL_law_267 : decode cL_law 267 = .ok (.aload_n 3, 1) := by decide +kernel
theorem dL_law_268 : decode cL_law 268 = .ok (.invokestatic 93, 3) := by decide +kernel
theorem dL_law_271 : decode cL_law 271 = .ok (.istore 5, 2) := by decide +kernel
theorem dL_law_273 : decode cL_law 273 = .ok (.aload_n 2, 1) := by decide +kernel
theorem dL_law_274 : decode cL_law 274 = .ok (.aload_n 0, 1) := by decide +kernel
theorem dL_law_275 : decode cL_law 275 = .ok (.iload 4, 2) := by decide +kernel
theorem dL_law_277 : decode cL_law 277 = .ok (.iconst 1, 1) := by decide +kernel
theorem dL_law_278 : decode cL_law 278 = .ok (.iadd, 1) := by decide +kernel
theorem dL_law_279 : decode cL_law 279 = .ok (.iaload, 1) := by decide +kernel
theorem dL_law_280 : decode cL_law 280 = .ok (.aload_n 0, 1) := by decide +kernel
theorem dL_law_281 : decode cL_law 281 = .ok (.iload 4, 2) := by decide +kernel
theorem dL_law_283 : decode cL_law 283 = .ok (.iconst 2, 1) := by decide +kernel
theorem dL_law_284 : decode cL_law 284 = .ok (.iadd, 1) := by decide +kernel
theorem dL_law_285 : decode cL_law 285 = .ok (.iaload, 1) := by decide +kernel
theorem dL_law_286 : decode cL_law 286 = .ok (.aload_n 0, 1) := by decide +kernel
theorem dL_law_287 : decode cL_law 287 = .ok (.iload 4, 2) := by decide +kernel
theorem dL_law_289 : decode cL_law 289 = .ok (.iconst 3, 1) := by decide +kernel
theorem dL_law_290 : decode cL_law 290 = .ok (.iadd, 1) := by decide +kernel
theorem dL_law_291 : decode cL_law 291 = .ok (.iaload, 1) := by decide +kernel
theorem dL_law_292 : decode cL_law 292 = .ok (.invokevirtual 96, 3) := by decide +kernel
theorem dL_law_295 : decode cL_law 295 = .ok (.istore 6, 2) := by decide +kernel
theorem dL_law_297 : decode cL_law 297 = .ok (.aload_n 2, 1) := by decide +kernel
theorem dL_law_298 : decode cL_law 298 = .ok (.invokevirtual 90, 3) := by decide +kernel
theorem dL_law_301 : decode cL_law 301 = .ok (.iload 5, 2) := by decide +kernel
theorem dL_law_303 : decode cL_law 303 = .ok (.if_icmp .eq 5, 3) := by decide +kernel
theorem dL_law_306 : decode cL_law 306 = .ok (.iconst 0, 1) := by decide +kernel
theorem dL_law_307 : decode cL_law 307 = .ok (.ireturn, 1) := by decide +kernel
theorem dL_law_308 : decode cL_law 308 = .ok (.iload 5, 2) := by decide +kernel
theorem dL_law_310 : decode cL_law 310 = .ok (.ifCond .ne 15, 3) := by decide +kernel
theorem dL_law_313 : decode cL_law 313 = .ok (.aload_n 3, 1) := by decide +kernel
theorem dL_law_314 : decode cL_law 314 = .ok (.iconst 0, 1) := by decide +kernel
theorem dL_law_315 : decode cL_law 315 = .ok (.laload, 1) := by decide +kernel
theorem dL_law_316 : decode cL_law 316 = .ok (.iload 6, 2) := by decide +kernel
theorem dL_law_318 : decode cL_law 318 = .ok (.i2l, 1) := by decide +kernel
theorem dL_law_319 : decode cL_law 319 = .ok (.lcmp, 1) := by decide +kernel
theorem dL_law_320 : decode cL_law 320 = .ok (.ifCond .eq 5, 3) := by decide +kernel
theorem dL_law_323 : decode cL_law 323 = .ok (.iconst 0, 1) := by decide +kernel
theorem dL_law_324 : decode cL_law 324 = .ok (.ireturn, 1) := by decide +kernel
theorem dL_law_325 : decode cL_law 325 = .ok (.goto 1190, 3) := by decide +kernel
theorem dL_law_328 : decode cL_law 328 = .ok (.aload_n 1, 1) := by decide +kernel
theorem dL_law_329 : decode cL_law 329 = .ok (.aload_n 0, 1) := by decide +kernel
theorem dL_law_330 : decode cL_law 330 = .ok (.iload 4, 2) := by decide +kernel
theorem dL_law_332 : decode cL_law 332 = .ok (.iconst 1, 1) := by decide +kernel
theorem dL_law_333 : decode cL_law 333 = .ok (.iadd, 1) := by decide +kernel
theorem dL_law_334 : decode cL_law 334 = .ok (.iaload, 1) := by decide +kernel
theorem dL_law_335 : decode cL_law 335 = .ok (.aload_n 0, 1) := by decide +kernel
theorem dL_law_336 : decode cL_law 336 = .ok (.iload 4, 2) := by decide +kernel
theorem dL_law_338 : decode cL_law 338 = .ok (.iconst 2, 1) := by decide +kernel
theorem dL_law_339 : decode cL_law 339 = .ok (.iadd, 1) := by decide +kernel
theorem dL_law_340 : decode cL_law 340 = .ok (.iaload, 1) := by decide +kernel
theorem dL_law_341 : decode cL_law 341 = .ok (.aload_n 3, 1) := by decide +kernel
theorem dL_law_342 : decode cL_law 342 = .ok (.invokestatic 97, 3) := by decide +kernel
theorem dL_law_345 : decode cL_law 345 = .ok (.istore 5, 2) := by decide +kernel
theorem dL_law_347 : decode cL_law 347 = .ok (.aload_n 2, 1) := by decide +kernel
theorem dL_law_348 : decode cL_law 348 = .ok (.aload_n 0, 1) := by decide +kernel
theorem dL_law_349 : decode cL_law 349 = .ok (.iload 4, 2) := by decide +kernel
theorem dL_law_351 : decode cL_law 351 = .ok (.iconst 1, 1) := by decide +kernel
theorem dL_law_352 : decode cL_law 352 = .ok (.iadd, 1) := by decide +kernel
theorem dL_law_353 : decode cL_law 353 = .ok (.iaload, 1) := by decide +kernel
theorem dL_law_354 : decode cL_law 354 = .ok (.aload_n 0, 1) := by decide +kernel
theorem dL_law_355 : decode cL_law 355 = .ok (.iload 4, 2) := by decide +kernel
theorem dL_law_357 : decode cL_law 357 = .ok (.iconst 2, 1) := by decide +kernel
theorem dL_law_358 : decode cL_law 358 = .ok (.iadd, 1) := by decide +kernel
theorem dL_law_359 : decode cL_law 359 = .ok (.iaload, 1) := by decide +kernel
theorem dL_law_360 : decode cL_law 360 = .ok (.invokevirtual 100, 3) := by decide +kernel
theorem dL_law_363 : decode cL_law 363 = .ok (.istore 6, 2) := by decide +kernel
theorem dL_law_365 : decode cL_law 365 = .ok (.aload_n 2, 1) := by decide +kernel
theorem dL_law_366 : decode cL_law 366 = .ok (.invokevirtual 90, 3) := by decide +kernel
theorem dL_law_369 : decode cL_law 369 = .ok (.iload 5, 2) := by decide +kernel
theorem dL_law_371 : decode cL_law 371 = .ok (.if_icmp .eq 5, 3) := by decide +kernel
theorem dL_law_374 : decode cL_law 374 = .ok (.iconst 0, 1) := by decide +kernel
theorem dL_law_375 : decode cL_law 375 = .ok (.ireturn, 1) := by decide +kernel
theorem dL_law_376 : decode cL_law 376 = .ok (.iload 5, 2) := by decide +kernel
theorem dL_law_378 : decode cL_law 378 = .ok (.ifCond .ne 15, 3) := by decide +kernel
theorem dL_law_381 : decode cL_law 381 = .ok (.aload_n 3, 1) := by decide +kernel
theorem dL_law_382 : decode cL_law 382 = .ok (.iconst 0, 1) := by decide +kernel
theorem dL_law_383 : decode cL_law 383 = .ok (.laload, 1) := by decide +kernel
theorem dL_law_384 : decode cL_law 384 = .ok (.iload 6, 2) := by decide +kernel
theorem dL_law_386 : decode cL_law 386 = .ok (.i2l, 1) := by decide +kernel
theorem dL_law_387 : decode cL_law 387 = .ok (.lcmp, 1) := by decide +kernel
theorem dL_law_388 : decode cL_law 388 = .ok (.ifCond .eq 5, 3) := by decide +kernel
theorem dL_law_391 : decode cL_law 391 = .ok (.iconst 0, 1) := by decide +kernel
theorem dL_law_392 : decode cL_law 392 = .ok (.ireturn, 1) := by decide +kernel
theorem dL_law_393 : decode cL_law 393 = .ok (.goto 1122, 3) := by decide +kernel
theorem dL_law_396 : decode cL_law 396 = .ok (.aload_n 1, 1) := by decide +kernel
theorem dL_law_397 : decode cL_law 397 = .ok (.aload_n 0, 1) := by decide +kernel
theorem dL_law_398 : decode cL_law 398 = .ok (.iload 4, 2) := by decide +kernel
theorem dL_law_400 : decode cL_law 400 = .ok (.iconst 1, 1) := by decide +kernel
theorem dL_law_401 : decode cL_law 401 = .ok (.iadd, 1) := by decide +kernel
theorem dL_law_402 : decode cL_law 402 = .ok (.iaload, 1) := by decide +kernel
theorem dL_law_403 : decode cL_law 403 = .ok (.aload_n 3, 1) := by decide +kernel
theorem dL_law_404 : decode cL_law 404 = .ok (.invokestatic 101, 3) := by decide +kernel
theorem dL_law_407 : decode cL_law 407 = .ok (.istore 5, 2) := by decide +kernel
theorem dL_law_409 : decode cL_law 409 = .ok (.aload_n 2, 1) := by decide +kernel
theorem dL_law_410 : decode cL_law 410 = .ok (.aload_n 0, 1) := by decide +kernel
theorem dL_law_411 : decode cL_law 411 = .ok (.iload 4, 2) := by decide +kernel
theorem dL_law_413 : decode cL_law 413 = .ok (.iconst 1, 1) := by decide +kernel
theorem dL_law_414 : decode cL_law 414 = .ok (.iadd, 1) := by decide +kernel
theorem dL_law_415 : decode cL_law 415 = .ok (.iaload, 1) := by decide +kernel
theorem dL_law_416 : decode cL_law 416 = .ok (.invokevirtual 104, 3) := by decide +kernel
theorem dL_law_419 : decode cL_law 419 = .ok (.istore 6, 2) := by decide +kernel
theorem dL_law_421 : decode cL_law 421 = .ok (.aload_n 2, 1) := by decide +kernel
theorem dL_law_422 : decode cL_law 422 = .ok (.invokevirtual 90, 3) := by decide +kernel
theorem dL_law_425 : decode cL_law 425 = .ok (.iload 5, 2) := by decide +kernel
theorem dL_law_427 : decode cL_law 427 = .ok (.if_icmp .eq 5, 3) := by decide +kernel
theorem dL_law_430 : decode cL_law 430 = .ok (.iconst 0, 1) := by decide +kernel
theorem dL_law_431 : decode cL_law 431 = .ok (.ireturn, 1) := by decide +kernel
theorem dL_law_432 : decode cL_law 432 = .ok (.iload 5, 2) := by decide +kernel
theorem dL_law_434 : decode cL_law 434 = .ok (.ifCond .ne 15, 3) := by decide +kernel
theorem dL_law_437 : decode cL_law 437 = .ok (.aload_n 3, 1) := by decide +kernel
theorem dL_law_438 : decode cL_law 438 = .ok (.iconst 0, 1) := by decide +kernel
theorem dL_law_439 : decode cL_law 439 = .ok (.laload, 1) := by decide +kernel
theorem dL_law_440 : decode cL_law 440 = .ok (.iload 6, 2) := by decide +kernel
theorem dL_law_442 : decode cL_law 442 = .ok (.i2l, 1) := by decide +kernel
theorem dL_law_443 : decode cL_law 443 = .ok (.lcmp, 1) := by decide +kernel
theorem dL_law_444 : decode cL_law 444 = .ok (.ifCond .eq 5, 3) := by decide +kernel
theorem dL_law_447 : decode cL_law 447 = .ok (.iconst 0, 1) := by decide +kernel
theorem dL_law_448 : decode cL_law 448 = .ok (.ireturn, 1) := by decide +kernel
theorem dL_law_449 : decode cL_law 449 = .ok (.goto 1066, 3) := by decide +kernel
theorem dL_law_452 : decode cL_law 452 = .ok (.aload_n 1, 1) := by decide +kernel
theorem dL_law_453 : decode cL_law 453 = .ok (.aload_n 0, 1) := by decide +kernel
theorem dL_law_454 : decode cL_law 454 = .ok (.iload 4, 2) := by decide +kernel
theorem dL_law_456 : decode cL_law 456 = .ok (.iconst 1, 1) := by decide +kernel
theorem dL_law_457 : decode cL_law 457 = .ok (.iadd, 1) := by decide +kernel
theorem dL_law_458 : decode cL_law 458 = .ok (.iaload, 1) := by decide +kernel
theorem dL_law_459 : decode cL_law 459 = .ok (.aload_n 3, 1) := by decide +kernel
theorem dL_law_460 : decode cL_law 460 = .ok (.invokestatic 105, 3) := by decide +kernel
theorem dL_law_463 : decode cL_law 463 = .ok (.istore 5, 2) := by decide +kernel
theorem dL_law_465 : decode cL_law 465 = .ok (.aload_n 2, 1) := by decide +kernel
theorem dL_law_466 : decode cL_law 466 = .ok (.aload_n 0, 1) := by decide +kernel
theorem dL_law_467 : decode cL_law 467 = .ok (.iload 4, 2) := by decide +kernel
theorem dL_law_469 : decode cL_law 469 = .ok (.iconst 1, 1) := by decide +kernel
theorem dL_law_470 : decode cL_law 470 = .ok (.iadd, 1) := by decide +kernel
theorem dL_law_471 : decode cL_law 471 = .ok (.iaload, 1) := by decide +kernel
theorem dL_law_472 : decode cL_law 472 = .ok (.invokevirtual 107, 3) := by decide +kernel
theorem dL_law_475 : decode cL_law 475 = .ok (.istore 6, 2) := by decide +kernel
theorem dL_law_477 : decode cL_law 477 = .ok (.aload_n 2, 1) := by decide +kernel
theorem dL_law_478 : decode cL_law 478 = .ok (.invokevirtual 90, 3) := by decide +kernel
theorem dL_law_481 : decode cL_law 481 = .ok (.iload 5, 2) := by decide +kernel
theorem dL_law_483 : decode cL_law 483 = .ok (.if_icmp .eq 5, 3) := by decide +kernel
theorem dL_law_486 : decode cL_law 486 = .ok (.iconst 0, 1) := by decide +kernel
theorem dL_law_487 : decode cL_law 487 = .ok (.ireturn, 1) := by decide +kernel
theorem dL_law_488 : decode cL_law 488 = .ok (.iload 5, 2) := by decide +kernel
theorem dL_law_490 : decode cL_law 490 = .ok (.ifCond .ne 15, 3) := by decide +kernel
theorem dL_law_493 : decode cL_law 493 = .ok (.aload_n 3, 1) := by decide +kernel
theorem dL_law_494 : decode cL_law 494 = .ok (.iconst 0, 1) := by decide +kernel
theorem dL_law_495 : decode cL_law 495 = .ok (.laload, 1) := by decide +kernel
theorem dL_law_496 : decode cL_law 496 = .ok (.iload 6, 2) := by decide +kernel
theorem dL_law_498 : decode cL_law 498 = .ok (.i2l, 1) := by decide +kernel
theorem dL_law_499 : decode cL_law 499 = .ok (.lcmp, 1) := by decide +kernel
theorem dL_law_500 : decode cL_law 500 = .ok (.ifCond .eq 5, 3) := by decide +kernel
theorem dL_law_503 : decode cL_law 503 = .ok (.iconst 0, 1) := by decide +kernel
theorem dL_law_504 : decode cL_law 504 = .ok (.ireturn, 1) := by decide +kernel
theorem dL_law_505 : decode cL_law 505 = .ok (.goto 1010, 3) := by decide +kernel
theorem dL_law_508 : decode cL_law 508 = .ok (.aload_n 1, 1) := by decide +kernel
theorem dL_law_509 : decode cL_law 509 = .ok (.aload_n 0, 1) := by decide +kernel
theorem dL_law_510 : decode cL_law 510 = .ok (.iload 4, 2) := by decide +kernel
theorem dL_law_512 : decode cL_law 512 = .ok (.iconst 1, 1) := by decide +kernel
theorem dL_law_513 : decode cL_law 513 = .ok (.iadd, 1) := by decide +kernel
theorem dL_law_514 : decode cL_law 514 = .ok (.iaload, 1) := by decide +kernel
theorem dL_law_515 : decode cL_law 515 = .ok (.aload_n 3, 1) := by decide +kernel
theorem dL_law_516 : decode cL_law 516 = .ok (.invokestatic 108, 3) := by decide +kernel
theorem dL_law_519 : decode cL_law 519 = .ok (.istore 5, 2) := by decide +kernel
theorem dL_law_521 : decode cL_law 521 = .ok (.aload_n 2, 1) := by decide +kernel
theorem dL_law_522 : decode cL_law 522 = .ok (.aload_n 0, 1) := by decide +kernel
theorem dL_law_523 : decode cL_law 523 = .ok (.iload 4, 2) := by decide +kernel
theorem dL_law_525 : decode cL_law 525 = .ok (.iconst 1, 1) := by decide +kernel
theorem dL_law_526 : decode cL_law 526 = .ok (.iadd, 1) := by decide +kernel
theorem dL_law_527 : decode cL_law 527 = .ok (.iaload, 1) := by decide +kernel
theorem dL_law_528 : decode cL_law 528 = .ok (.invokevirtual 110, 3) := by decide +kernel
theorem dL_law_531 : decode cL_law 531 = .ok (.istore 6, 2) := by decide +kernel
theorem dL_law_533 : decode cL_law 533 = .ok (.aload_n 2, 1) := by decide +kernel
theorem dL_law_534 : decode cL_law 534 = .ok (.invokevirtual 90, 3) := by decide +kernel
theorem dL_law_537 : decode cL_law 537 = .ok (.iload 5, 2) := by decide +kernel
theorem dL_law_539 : decode cL_law 539 = .ok (.if_icmp .eq 5, 3) := by decide +kernel
theorem dL_law_542 : decode cL_law 542 = .ok (.iconst 0, 1) := by decide +kernel
theorem dL_law_543 : decode cL_law 543 = .ok (.ireturn, 1) := by decide +kernel
theorem dL_law_544 : decode cL_law 544 = .ok (.iload 5, 2) := by decide +kernel
theorem dL_law_546 : decode cL_law 546 = .ok (.ifCond .ne 15, 3) := by decide +kernel
theorem dL_law_549 : decode cL_law 549 = .ok (.aload_n 3, 1) := by decide +kernel
theorem dL_law_550 : decode cL_law 550 = .ok (.iconst 0, 1) := by decide +kernel
theorem dL_law_551 : decode cL_law 551 = .ok (.laload, 1) := by decide +kernel
theorem dL_law_552 : decode cL_law 552 = .ok (.iload 6, 2) := by decide +kernel
theorem dL_law_554 : decode cL_law 554 = .ok (.i2l, 1) := by decide +kernel
theorem dL_law_555 : decode cL_law 555 = .ok (.lcmp, 1) := by decide +kernel
theorem dL_law_556 : decode cL_law 556 = .ok (.ifCond .eq 5, 3) := by decide +kernel
theorem dL_law_559 : decode cL_law 559 = .ok (.iconst 0, 1) := by decide +kernel
theorem dL_law_560 : decode cL_law 560 = .ok (.ireturn, 1) := by decide +kernel
theorem dL_law_561 : decode cL_law 561 = .ok (.goto 954, 3) := by decide +kernel
theorem dL_law_564 : decode cL_law 564 = .ok (.aload_n 1, 1) := by decide +kernel
theorem dL_law_565 : decode cL_law 565 = .ok (.aload_n 0, 1) := by decide +kernel
theorem dL_law_566 : decode cL_law 566 = .ok (.iload 4, 2) := by decide +kernel
theorem dL_law_568 : decode cL_law 568 = .ok (.iconst 1, 1) := by decide +kernel
theorem dL_law_569 : decode cL_law 569 = .ok (.iadd, 1) := by decide +kernel
theorem dL_law_570 : decode cL_law 570 = .ok (.iaload, 1) := by decide +kernel
theorem dL_law_571 : decode cL_law 571 = .ok (.aload_n 3, 1) := by decide +kernel
theorem dL_law_572 : decode cL_law 572 = .ok (.invokestatic 111, 3) := by decide +kernel
theorem dL_law_575 : decode cL_law 575 = .ok (.istore 5, 2) := by decide +kernel
theorem dL_law_577 : decode cL_law 577 = .ok (.aload_n 2, 1) := by decide +kernel
theorem dL_law_578 : decode cL_law 578 = .ok (.aload_n 0, 1) := by decide +kernel
theorem dL_law_579 : decode cL_law 579 = .ok (.iload 4, 2) := by decide +kernel
theorem dL_law_581 : decode cL_law 581 = .ok (.iconst 1, 1) := by decide +kernel
theorem dL_law_582 : decode cL_law 582 = .ok (.iadd, 1) := by decide +kernel
theorem dL_law_583 : decode cL_law 583 = .ok (.iaload, 1) := by decide +kernel
theorem dL_law_584 : decode cL_law 584 = .ok (.invokevirtual 113, 3) := by decide +kernel
theorem dL_law_587 : decode cL_law 587 = .ok (.istore 6, 2) := by decide +kernel
theorem dL_law_589 : decode cL_law 589 = .ok (.aload_n 2, 1) := by decide +kernel
theorem dL_law_590 : decode cL_law 590 = .ok (.invokevirtual 90, 3) := by decide +kernel
theorem dL_law_593 : decode cL_law 593 = .ok (.iload 5, 2) := by decide +kernel
theorem dL_law_595 : decode cL_law 595 = .ok (.if_icmp .eq 5, 3) := by decide +kernel
theorem dL_law_598 : decode cL_law 598 = .ok (.iconst 0, 1) := by decide +kernel
theorem dL_law_599 : decode cL_law 599 = .ok (.ireturn, 1) := by decide +kernel
theorem dL_law_600 : decode cL_law 600 = .ok (.iload 5, 2) := by decide +kernel
theorem dL_law_602 : decode cL_law 602 = .ok (.ifCond .ne 15, 3) := by decide +kernel
theorem dL_law_605 : decode cL_law 605 = .ok (.aload_n 3, 1) := by decide +kernel
theorem dL_law_606 : decode cL_law 606 = .ok (.iconst 0, 1) := by decide +kernel
theorem dL_law_607 : decode cL_law 607 = .ok (.laload, 1) := by decide +kernel
theorem dL_law_608 : decode cL_law 608 = .ok (.iload 6, 2) := by decide +kernel
theorem dL_law_610 : decode cL_law 610 = .ok (.i2l, 1) := by decide +kernel
theorem dL_law_611 : decode cL_law 611 = .ok (.lcmp, 1) := by decide +kernel
theorem dL_law_612 : decode cL_law 612 = .ok (.ifCond .eq 5, 3) := by decide +kernel
theorem dL_law_615 : decode cL_law 615 = .ok (.iconst 0, 1) := by decide +kernel
theorem dL_law_616 : decode cL_law 616 = .ok (.ireturn, 1) := by decide +kernel
theorem dL_law_617 : decode cL_law 617 = .ok (.goto 898, 3) := by decide +kernel
theorem dL_law_620 : decode cL_law 620 = .ok (.aload_n 1, 1) := by decide +kernel
theorem dL_law_621 : decode cL_law 621 = .ok (.aload_n 0, 1) := by decide +kernel
theorem dL_law_622 : decode cL_law 622 = .ok (.iload 4, 2) := by decide +kernel
theorem dL_law_624 : decode cL_law 624 = .ok (.iconst 1, 1) := by decide +kernel
theorem dL_law_625 : decode cL_law 625 = .ok (.iadd, 1) := by decide +kernel
theorem dL_law_626 : decode cL_law 626 = .ok (.iaload, 1) := by decide +kernel
theorem dL_law_627 : decode cL_law 627 = .ok (.aload_n 0, 1) := by decide +kernel
theorem dL_law_628 : decode cL_law 628 = .ok (.iload 4, 2) := by decide +kernel
theorem dL_law_630 : decode cL_law 630 = .ok (.iconst 2, 1) := by decide +kernel
theorem dL_law_631 : decode cL_law 631 = .ok (.iadd, 1) := by decide +kernel
theorem dL_law_632 : decode cL_law 632 = .ok (.iaload, 1) := by decide +kernel
theorem dL_law_633 : decode cL_law 633 = .ok (.aload_n 3, 1) := by decide +kernel
theorem dL_law_634 : decode cL_law 634 = .ok (.invokestatic 114, 3) := by decide +kernel
theorem dL_law_637 : decode cL_law 637 = .ok (.istore 5, 2) := by decide +kernel
theorem dL_law_639 : decode cL_law 639 = .ok (.aload_n 2, 1) := by decide +kernel
theorem dL_law_640 : decode cL_law 640 = .ok (.aload_n 0, 1) := by decide +kernel
theorem dL_law_641 : decode cL_law 641 = .ok (.iload 4, 2) := by decide +kernel
theorem dL_law_643 : decode cL_law 643 = .ok (.iconst 1, 1) := by decide +kernel
theorem dL_law_644 : decode cL_law 644 = .ok (.iadd, 1) := by decide +kernel
theorem dL_law_645 : decode cL_law 645 = .ok (.iaload, 1) := by decide +kernel
theorem dL_law_646 : decode cL_law 646 = .ok (.aload_n 0, 1) := by decide +kernel
theorem dL_law_647 : decode cL_law 647 = .ok (.iload 4, 2) := by decide +kernel
theorem dL_law_649 : decode cL_law 649 = .ok (.iconst 2, 1) := by decide +kernel
theorem dL_law_650 : decode cL_law 650 = .ok (.iadd, 1) := by decide +kernel
theorem dL_law_651 : decode cL_law 651 = .ok (.iaload, 1) := by decide +kernel
theorem dL_law_652 : decode cL_law 652 = .ok (.invokevirtual 116, 3) := by decide +kernel
theorem dL_law_655 : decode cL_law 655 = .ok (.istore 6, 2) := by decide +kernel
theorem dL_law_657 : decode cL_law 657 = .ok (.aload_n 2, 1) := by decide +kernel
theorem dL_law_658 : decode cL_law 658 = .ok (.invokevirtual 90, 3) := by decide +kernel
theorem dL_law_661 : decode cL_law 661 = .ok (.iload 5, 2) := by decide +kernel
theorem dL_law_663 : decode cL_law 663 = .ok (.if_icmp .eq 5, 3) := by decide +kernel
theorem dL_law_666 : decode cL_law 666 = .ok (.iconst 0, 1) := by decide +kernel
theorem dL_law_667 : decode cL_law 667 = .ok (.ireturn, 1) := by decide +kernel
theorem dL_law_668 : decode cL_law 668 = .ok (.iload 5, 2) := by decide +kernel
theorem dL_law_670 : decode cL_law 670 = .ok (.ifCond .ne 15, 3) := by decide +kernel
theorem dL_law_673 : decode cL_law 673 = .ok (.aload_n 3, 1) := by decide +kernel
theorem dL_law_674 : decode cL_law 674 = .ok (.iconst 0, 1) := by decide +kernel
theorem dL_law_675 : decode cL_law 675 = .ok (.laload, 1) := by decide +kernel
theorem dL_law_676 : decode cL_law 676 = .ok (.iload 6, 2) := by decide +kernel
theorem dL_law_678 : decode cL_law 678 = .ok (.i2l, 1) := by decide +kernel
theorem dL_law_679 : decode cL_law 679 = .ok (.lcmp, 1) := by decide +kernel
theorem dL_law_680 : decode cL_law 680 = .ok (.ifCond .eq 5, 3) := by decide +kernel
theorem dL_law_683 : decode cL_law 683 = .ok (.iconst 0, 1) := by decide +kernel
theorem dL_law_684 : decode cL_law 684 = .ok (.ireturn, 1) := by decide +kernel
theorem dL_law_685 : decode cL_law 685 = .ok (.goto 830, 3) := by decide +kernel
theorem dL_law_688 : decode cL_law 688 = .ok (.aload_n 1, 1) := by decide +kernel
theorem dL_law_689 : decode cL_law 689 = .ok (.aload_n 0, 1) := by decide +kernel
theorem dL_law_690 : decode cL_law 690 = .ok (.iload 4, 2) := by decide +kernel
theorem dL_law_692 : decode cL_law 692 = .ok (.iconst 1, 1) := by decide +kernel
theorem dL_law_693 : decode cL_law 693 = .ok (.iadd, 1) := by decide +kernel
theorem dL_law_694 : decode cL_law 694 = .ok (.iaload, 1) := by decide +kernel
theorem dL_law_695 : decode cL_law 695 = .ok (.aload_n 0, 1) := by decide +kernel
theorem dL_law_696 : decode cL_law 696 = .ok (.iload 4, 2) := by decide +kernel
theorem dL_law_698 : decode cL_law 698 = .ok (.iconst 2, 1) := by decide +kernel
theorem dL_law_699 : decode cL_law 699 = .ok (.iadd, 1) := by decide +kernel
theorem dL_law_700 : decode cL_law 700 = .ok (.iaload, 1) := by decide +kernel
theorem dL_law_701 : decode cL_law 701 = .ok (.aload_n 3, 1) := by decide +kernel
theorem dL_law_702 : decode cL_law 702 = .ok (.invokestatic 117, 3) := by decide +kernel
theorem dL_law_705 : decode cL_law 705 = .ok (.istore 5, 2) := by decide +kernel
theorem dL_law_707 : decode cL_law 707 = .ok (.aload_n 2, 1) := by decide +kernel
theorem dL_law_708 : decode cL_law 708 = .ok (.aload_n 0, 1) := by decide +kernel
theorem dL_law_709 : decode cL_law 709 = .ok (.iload 4, 2) := by decide +kernel
theorem dL_law_711 : decode cL_law 711 = .ok (.iconst 1, 1) := by decide +kernel
theorem dL_law_712 : decode cL_law 712 = .ok (.iadd, 1) := by decide +kernel
theorem dL_law_713 : decode cL_law 713 = .ok (.iaload, 1) := by decide +kernel
theorem dL_law_714 : decode cL_law 714 = .ok (.aload_n 0, 1) := by decide +kernel
theorem dL_law_715 : decode cL_law 715 = .ok (.iload 4, 2) := by decide +kernel
theorem dL_law_717 : decode cL_law 717 = .ok (.iconst 2, 1) := by decide +kernel
theorem dL_law_718 : decode cL_law 718 = .ok (.iadd, 1) := by decide +kernel
theorem dL_law_719 : decode cL_law 719 = .ok (.iaload, 1) := by decide +kernel
theorem dL_law_720 : decode cL_law 720 = .ok (.invokevirtual 119, 3) := by decide +kernel
theorem dL_law_723 : decode cL_law 723 = .ok (.istore 6, 2) := by decide +kernel
theorem dL_law_725 : decode cL_law 725 = .ok (.aload_n 2, 1) := by decide +kernel
theorem dL_law_726 : decode cL_law 726 = .ok (.invokevirtual 90, 3) := by decide +kernel
theorem dL_law_729 : decode cL_law 729 = .ok (.iload 5, 2) := by decide +kernel
theorem dL_law_731 : decode cL_law 731 = .ok (.if_icmp .eq 5, 3) := by decide +kernel
theorem dL_law_734 : decode cL_law 734 = .ok (.iconst 0, 1) := by decide +kernel
theorem dL_law_735 : decode cL_law 735 = .ok (.ireturn, 1) := by decide +kernel
theorem dL_law_736 : decode cL_law 736 = .ok (.iload 5, 2) := by decide +kernel
theorem dL_law_738 : decode cL_law 738 = .ok (.ifCond .ne 15, 3) := by decide +kernel
theorem dL_law_741 : decode cL_law 741 = .ok (.aload_n 3, 1) := by decide +kernel
theorem dL_law_742 : decode cL_law 742 = .ok (.iconst 0, 1) := by decide +kernel
theorem dL_law_743 : decode cL_law 743 = .ok (.laload, 1) := by decide +kernel
theorem dL_law_744 : decode cL_law 744 = .ok (.iload 6, 2) := by decide +kernel
theorem dL_law_746 : decode cL_law 746 = .ok (.i2l, 1) := by decide +kernel
theorem dL_law_747 : decode cL_law 747 = .ok (.lcmp, 1) := by decide +kernel
theorem dL_law_748 : decode cL_law 748 = .ok (.ifCond .eq 5, 3) := by decide +kernel
theorem dL_law_751 : decode cL_law 751 = .ok (.iconst 0, 1) := by decide +kernel
theorem dL_law_752 : decode cL_law 752 = .ok (.ireturn, 1) := by decide +kernel
theorem dL_law_753 : decode cL_law 753 = .ok (.goto 762, 3) := by decide +kernel
theorem dL_law_756 : decode cL_law 756 = .ok (.aload_n 1, 1) := by decide +kernel
theorem dL_law_757 : decode cL_law 757 = .ok (.aload_n 0, 1) := by decide +kernel
theorem dL_law_758 : decode cL_law 758 = .ok (.iload 4, 2) := by decide +kernel
theorem dL_law_760 : decode cL_law 760 = .ok (.iconst 1, 1) := by decide +kernel
theorem dL_law_761 : decode cL_law 761 = .ok (.iadd, 1) := by decide +kernel
theorem dL_law_762 : decode cL_law 762 = .ok (.iaload, 1) := by decide +kernel
theorem dL_law_763 : decode cL_law 763 = .ok (.aload_n 3, 1) := by decide +kernel
theorem dL_law_764 : decode cL_law 764 = .ok (.invokestatic 120, 3) := by decide +kernel
theorem dL_law_767 : decode cL_law 767 = .ok (.istore 5, 2) := by decide +kernel
theorem dL_law_769 : decode cL_law 769 = .ok (.aload_n 2, 1) := by decide +kernel
theorem dL_law_770 : decode cL_law 770 = .ok (.aload_n 0, 1) := by decide +kernel
theorem dL_law_771 : decode cL_law 771 = .ok (.iload 4, 2) := by decide +kernel
theorem dL_law_773 : decode cL_law 773 = .ok (.iconst 1, 1) := by decide +kernel
theorem dL_law_774 : decode cL_law 774 = .ok (.iadd, 1) := by decide +kernel
theorem dL_law_775 : decode cL_law 775 = .ok (.iaload, 1) := by decide +kernel
theorem dL_law_776 : decode cL_law 776 = .ok (.invokevirtual 122, 3) := by decide +kernel
theorem dL_law_779 : decode cL_law 779 = .ok (.istore 6, 2) := by decide +kernel
theorem dL_law_781 : decode cL_law 781 = .ok (.aload_n 2, 1) := by decide +kernel
theorem dL_law_782 : decode cL_law 782 = .ok (.invokevirtual 90, 3) := by decide +kernel
theorem dL_law_785 : decode cL_law 785 = .ok (.iload 5, 2) := by decide +kernel
theorem dL_law_787 : decode cL_law 787 = .ok (.if_icmp .eq 5, 3) := by decide +kernel
theorem dL_law_790 : decode cL_law 790 = .ok (.iconst 0, 1) := by decide +kernel
theorem dL_law_791 : decode cL_law 791 = .ok (.ireturn, 1) := by decide +kernel
theorem dL_law_792 : decode cL_law 792 = .ok (.iload 5, 2) := by decide +kernel
theorem dL_law_794 : decode cL_law 794 = .ok (.ifCond .ne 15, 3) := by decide +kernel
theorem dL_law_797 : decode cL_law 797 = .ok (.aload_n 3, 1) := by decide +kernel
theorem dL_law_798 : decode cL_law 798 = .ok (.iconst 0, 1) := by decide +kernel
theorem dL_law_799 : decode cL_law 799 = .ok (.laload, 1) := by decide +kernel
theorem dL_law_800 : decode cL_law 800 = .ok (.iload 6, 2) := by decide +kernel
theorem dL_law_802 : decode cL_law 802 = .ok (.i2l, 1) := by decide +kernel
theorem dL_law_803 : decode cL_law 803 = .ok (.lcmp, 1) := by decide +kernel
theorem dL_law_804 : decode cL_law 804 = .ok (.ifCond .eq 5, 3) := by decide +kernel
theorem dL_law_807 : decode cL_law 807 = .ok (.iconst 0, 1) := by decide +kernel
theorem dL_law_808 : decode cL_law 808 = .ok (.ireturn, 1) := by decide +kernel
theorem dL_law_809 : decode cL_law 809 = .ok (.goto 706, 3) := by decide +kernel
theorem dL_law_812 : decode cL_law 812 = .ok (.aload_n 1, 1) := by decide +kernel
theorem dL_law_813 : decode cL_law 813 = .ok (.aload_n 0, 1) := by decide +kernel
theorem dL_law_814 : decode cL_law 814 = .ok (.iload 4, 2) := by decide +kernel
theorem dL_law_816 : decode cL_law 816 = .ok (.iconst 1, 1) := by decide +kernel
theorem dL_law_817 : decode cL_law 817 = .ok (.iadd, 1) := by decide +kernel
theorem dL_law_818 : decode cL_law 818 = .ok (.iaload, 1) := by decide +kernel
theorem dL_law_819 : decode cL_law 819 = .ok (.aload_n 3, 1) := by decide +kernel
theorem dL_law_820 : decode cL_law 820 = .ok (.invokestatic 123, 3) := by decide +kernel
theorem dL_law_823 : decode cL_law 823 = .ok (.istore 5, 2) := by decide +kernel
theorem dL_law_825 : decode cL_law 825 = .ok (.aload_n 2, 1) := by decide +kernel
theorem dL_law_826 : decode cL_law 826 = .ok (.aload_n 0, 1) := by decide +kernel
theorem dL_law_827 : decode cL_law 827 = .ok (.iload 4, 2) := by decide +kernel
theorem dL_law_829 : decode cL_law 829 = .ok (.iconst 1, 1) := by decide +kernel
theorem dL_law_830 : decode cL_law 830 = .ok (.iadd, 1) := by decide +kernel
theorem dL_law_831 : decode cL_law 831 = .ok (.iaload, 1) := by decide +kernel
theorem dL_law_832 : decode cL_law 832 = .ok (.invokevirtual 125, 3) := by decide +kernel
theorem dL_law_835 : decode cL_law 835 = .ok (.istore 6, 2) := by decide +kernel
theorem dL_law_837 : decode cL_law 837 = .ok (.aload_n 2, 1) := by decide +kernel
theorem dL_law_838 : decode cL_law 838 = .ok (.invokevirtual 90, 3) := by decide +kernel
theorem dL_law_841 : decode cL_law 841 = .ok (.iload 5, 2) := by decide +kernel
theorem dL_law_843 : decode cL_law 843 = .ok (.if_icmp .eq 5, 3) := by decide +kernel
theorem dL_law_846 : decode cL_law 846 = .ok (.iconst 0, 1) := by decide +kernel
theorem dL_law_847 : decode cL_law 847 = .ok (.ireturn, 1) := by decide +kernel
theorem dL_law_848 : decode cL_law 848 = .ok (.iload 5, 2) := by decide +kernel
theorem dL_law_850 : decode cL_law 850 = .ok (.ifCond .ne 15, 3) := by decide +kernel
theorem dL_law_853 : decode cL_law 853 = .ok (.aload_n 3, 1) := by decide +kernel
theorem dL_law_854 : decode cL_law 854 = .ok (.iconst 0, 1) := by decide +kernel
theorem dL_law_855 : decode cL_law 855 = .ok (.laload, 1) := by decide +kernel
theorem dL_law_856 : decode cL_law 856 = .ok (.iload 6, 2) := by decide +kernel
theorem dL_law_858 : decode cL_law 858 = .ok (.i2l, 1) := by decide +kernel
theorem dL_law_859 : decode cL_law 859 = .ok (.lcmp, 1) := by decide +kernel
theorem dL_law_860 : decode cL_law 860 = .ok (.ifCond .eq 5, 3) := by decide +kernel
theorem dL_law_863 : decode cL_law 863 = .ok (.iconst 0, 1) := by decide +kernel
theorem dL_law_864 : decode cL_law 864 = .ok (.ireturn, 1) := by decide +kernel
theorem dL_law_865 : decode cL_law 865 = .ok (.goto 650, 3) := by decide +kernel
theorem dL_law_868 : decode cL_law 868 = .ok (.aload_n 1, 1) := by decide +kernel
theorem dL_law_869 : decode cL_law 869 = .ok (.invokevirtual 126, 3) := by decide +kernel
theorem dL_law_872 : decode cL_law 872 = .ok (.aload_n 2, 1) := by decide +kernel
theorem dL_law_873 : decode cL_law 873 = .ok (.invokevirtual 129, 3) := by decide +kernel
theorem dL_law_876 : decode cL_law 876 = .ok (.if_icmp .eq 639, 3) := by decide +kernel
theorem dL_law_879 : decode cL_law 879 = .ok (.iconst 0, 1) := by decide +kernel
theorem dL_law_880 : decode cL_law 880 = .ok (.ireturn, 1) := by decide +kernel
theorem dL_law_881 : decode cL_law 881 = .ok (.aload_n 1, 1) := by decide +kernel
theorem dL_law_882 : decode cL_law 882 = .ok (.invokevirtual 130, 3) := by decide +kernel
theorem dL_law_885 : decode cL_law 885 = .ok (.aload_n 2, 1) := by decide +kernel
theorem dL_law_886 : decode cL_law 886 = .ok (.invokevirtual 133, 3) := by decide +kernel
theorem dL_law_889 : decode cL_law 889 = .ok (.if_icmp .eq 626, 3) := by decide +kernel
theorem dL_law_892 : decode cL_law 892 = .ok (.iconst 0, 1) := by decide +kernel
theorem dL_law_893 : decode cL_law 893 = .ok (.ireturn, 1) := by decide +kernel
theorem dL_law_894 : decode cL_law 894 = .ok (.aload_n 1, 1) := by decide +kernel
theorem dL_law_895 : decode cL_law 895 = .ok (.aload_n 3, 1) := by decide +kernel
theorem dL_law_896 : decode cL_law 896 = .ok (.invokestatic 134, 3) := by decide +kernel
theorem dL_law_899 : decode cL_law 899 = .ok (.istore 5, 2) := by decide +kernel
theorem dL_law_901 : decode cL_law 901 = .ok (.aload_n 2, 1) := by decide +kernel
theorem dL_law_902 : decode cL_law 902 = .ok (.invokevirtual 137, 3) := by decide +kernel
theorem dL_law_905 : decode cL_law 905 = .ok (.istore 6, 2) := by decide +kernel
theorem dL_law_907 : decode cL_law 907 = .ok (.aload_n 2, 1) := by decide +kernel
theorem dL_law_908 : decode cL_law 908 = .ok (.invokevirtual 90, 3) := by decide +kernel
theorem dL_law_911 : decode cL_law 911 = .ok (.iload 5, 2) := by decide +kernel
theorem dL_law_913 : decode cL_law 913 = .ok (.if_icmp .eq 5, 3) := by decide +kernel
theorem dL_law_916 : decode cL_law 916 = .ok (.iconst 0, 1) := by decide +kernel
theorem dL_law_917 : decode cL_law 917 = .ok (.ireturn, 1) := by decide +kernel
theorem dL_law_918 : decode cL_law 918 = .ok (.iload 5, 2) := by decide +kernel
theorem dL_law_920 : decode cL_law 920 = .ok (.ifCond .ne 15, 3) := by decide +kernel
theorem dL_law_923 : decode cL_law 923 = .ok (.aload_n 3, 1) := by decide +kernel
theorem dL_law_924 : decode cL_law 924 = .ok (.iconst 0, 1) := by decide +kernel
theorem dL_law_925 : decode cL_law 925 = .ok (.laload, 1) := by decide +kernel
theorem dL_law_926 : decode cL_law 926 = .ok (.iload 6, 2) := by decide +kernel
theorem dL_law_928 : decode cL_law 928 = .ok (.i2l, 1) := by decide +kernel
theorem dL_law_929 : decode cL_law 929 = .ok (.lcmp, 1) := by decide +kernel
theorem dL_law_930 : decode cL_law 930 = .ok (.ifCond .eq 5, 3) := by decide +kernel
theorem dL_law_933 : decode cL_law 933 = .ok (.iconst 0, 1) := by decide +kernel
theorem dL_law_934 : decode cL_law 934 = .ok (.ireturn, 1) := by decide +kernel
theorem dL_law_935 : decode cL_law 935 = .ok (.goto 580, 3) := by decide +kernel
theorem dL_law_938 : decode cL_law 938 = .ok (.aload_n 1, 1) := by decide +kernel
theorem dL_law_939 : decode cL_law 939 = .ok (.aload_n 3, 1) := by decide +kernel
theorem dL_law_940 : decode cL_law 940 = .ok (.invokestatic 138, 3) := by decide +kernel
theorem dL_law_943 : decode cL_law 943 = .ok (.istore 5, 2) := by decide +kernel
theorem dL_law_945 : decode cL_law 945 = .ok (.aload_n 2, 1) := by decide +kernel
theorem dL_law_946 : decode cL_law 946 = .ok (.invokevirtual 140, 3) := by decide +kernel
theorem dL_law_949 : decode cL_law 949 = .ok (.istore 6, 2) := by decide +kernel
theorem dL_law_951 : decode cL_law 951 = .ok (.aload_n 2, 1) := by decide +kernel
theorem dL_law_952 : decode cL_law 952 = .ok (.invokevirtual 90, 3) := by decide +kernel
theorem dL_law_955 : decode cL_law 955 = .ok (.iload 5, 2) := by decide +kernel
theorem dL_law_957 : decode cL_law 957 = .ok (.if_icmp .eq 5, 3) := by decide +kernel
theorem dL_law_960 : decode cL_law 960 = .ok (.iconst 0, 1) := by decide +kernel
theorem dL_law_961 : decode cL_law 961 = .ok (.ireturn, 1) := by decide +kernel
theorem dL_law_962 : decode cL_law 962 = .ok (.iload 5, 2) := by decide +kernel
theorem dL_law_964 : decode cL_law 964 = .ok (.ifCond .ne 15, 3) := by decide +kernel
theorem dL_law_967 : decode cL_law 967 = .ok (.aload_n 3, 1) := by decide +kernel
theorem dL_law_968 : decode cL_law 968 = .ok (.iconst 0, 1) := by decide +kernel
theorem dL_law_969 : decode cL_law 969 = .ok (.laload, 1) := by decide +kernel
theorem dL_law_970 : decode cL_law 970 = .ok (.iload 6, 2) := by decide +kernel
theorem dL_law_972 : decode cL_law 972 = .ok (.i2l, 1) := by decide +kernel
theorem dL_law_973 : decode cL_law 973 = .ok (.lcmp, 1) := by decide +kernel
theorem dL_law_974 : decode cL_law 974 = .ok (.ifCond .eq 5, 3) := by decide +kernel
theorem dL_law_977 : decode cL_law 977 = .ok (.iconst 0, 1) := by decide +kernel
theorem dL_law_978 : decode cL_law 978 = .ok (.ireturn, 1) := by decide +kernel
theorem dL_law_979 : decode cL_law 979 = .ok (.goto 536, 3) := by decide +kernel
theorem dL_law_982 : decode cL_law 982 = .ok (.aload_n 1, 1) := by decide +kernel
theorem dL_law_983 : decode cL_law 983 = .ok (.aload_n 0, 1) := by decide +kernel
theorem dL_law_984 : decode cL_law 984 = .ok (.iload 4, 2) := by decide +kernel
theorem dL_law_986 : decode cL_law 986 = .ok (.iconst 1, 1) := by decide +kernel
theorem dL_law_987 : decode cL_law 987 = .ok (.iadd, 1) := by decide +kernel
theorem dL_law_988 : decode cL_law 988 = .ok (.iaload, 1) := by decide +kernel
theorem dL_law_989 : decode cL_law 989 = .ok (.aload_n 0, 1) := by decide +kernel
theorem dL_law_990 : decode cL_law 990 = .ok (.iload 4, 2) := by decide +kernel
theorem dL_law_992 : decode cL_law 992 = .ok (.iconst 2, 1) := by decide +kernel
theorem dL_law_993 : decode cL_law 993 = .ok (.iadd, 1) := by decide +kernel
theorem dL_law_994 : decode cL_law 994 = .ok (.iaload, 1) := by decide +kernel
theorem dL_law_995 : decode cL_law 995 = .ok (.aload_n 3, 1) := by decide +kernel
theorem dL_law_996 : decode cL_law 996 = .ok (.invokestatic 141, 3) := by decide +kernel
theorem dL_law_999 : decode cL_law 999 = .ok (.istore 5, 2) := by decide +kernel
theorem dL_law_1001 : decode cL_law 1001 = .ok (.aload_n 2, 1) := by decide +kernel
theorem dL_law_1002 : decode cL_law 1002 = .ok (.aload_n 0, 1) := by decide +kernel
theorem dL_law_1003 : decode cL_law 1003 = .ok (.iload 4, 2) := by decide +kernel
theorem dL_law_1005 : decode cL_law 1005 = .ok (.iconst 1, 1) := by decide +kernel
theorem dL_law_1006 : decode cL_law 1006 = .ok (.iadd, 1) := by decide +kernel
theorem dL_law_1007 : decode cL_law 1007 = .ok (.iaload, 1) := by decide +kernel
theorem dL_law_1008 : decode cL_law 1008 = .ok (.aload_n 0, 1) := by decide +kernel
theorem dL_law_1009 : decode cL_law 1009 = .ok (.iload 4, 2) := by decide +kernel
theorem dL_law_1011 : decode cL_law 1011 = .ok (.iconst 2, 1) := by decide +kernel
theorem dL_law_1012 : decode cL_law 1012 = .ok (.iadd, 1) := by decide +kernel
theorem dL_law_1013 : decode cL_law 1013 = .ok (.iaload, 1) := by decide +kernel
theorem dL_law_1014 : decode cL_law 1014 = .ok (.invokevirtual 143, 3) := by decide +kernel
theorem dL_law_1017 : decode cL_law 1017 = .ok (.istore 6, 2) := by decide +kernel
theorem dL_law_1019 : decode cL_law 1019 = .ok (.aload_n 2, 1) := by decide +kernel
theorem dL_law_1020 : decode cL_law 1020 = .ok (.invokevirtual 90, 3) := by decide +kernel
theorem dL_law_1023 : decode cL_law 1023 = .ok (.iload 5, 2) := by decide +kernel
theorem dL_law_1025 : decode cL_law 1025 = .ok (.if_icmp .eq 5, 3) := by decide +kernel
theorem dL_law_1028 : decode cL_law 1028 = .ok (.iconst 0, 1) := by decide +kernel
theorem dL_law_1029 : decode cL_law 1029 = .ok (.ireturn, 1) := by decide +kernel
theorem dL_law_1030 : decode cL_law 1030 = .ok (.iload 5, 2) := by decide +kernel
theorem dL_law_1032 : decode cL_law 1032 = .ok (.ifCond .ne 15, 3) := by decide +kernel
theorem dL_law_1035 : decode cL_law 1035 = .ok (.aload_n 3, 1) := by decide +kernel
theorem dL_law_1036 : decode cL_law 1036 = .ok (.iconst 0, 1) := by decide +kernel
theorem dL_law_1037 : decode cL_law 1037 = .ok (.laload, 1) := by decide +kernel
theorem dL_law_1038 : decode cL_law 1038 = .ok (.iload 6, 2) := by decide +kernel
theorem dL_law_1040 : decode cL_law 1040 = .ok (.i2l, 1) := by decide +kernel
theorem dL_law_1041 : decode cL_law 1041 = .ok (.lcmp, 1) := by decide +kernel
theorem dL_law_1042 : decode cL_law 1042 = .ok (.ifCond .eq 5, 3) := by decide +kernel
theorem dL_law_1045 : decode cL_law 1045 = .ok (.iconst 0, 1) := by decide +kernel
theorem dL_law_1046 : decode cL_law 1046 = .ok (.ireturn, 1) := by decide +kernel
theorem dL_law_1047 : decode cL_law 1047 = .ok (.goto 468, 3) := by decide +kernel
theorem dL_law_1050 : decode cL_law 1050 = .ok (.aload_n 1, 1) := by decide +kernel
theorem dL_law_1051 : decode cL_law 1051 = .ok (.aload_n 0, 1) := by decide +kernel
theorem dL_law_1052 : decode cL_law 1052 = .ok (.iload 4, 2) := by decide +kernel
theorem dL_law_1054 : decode cL_law 1054 = .ok (.iconst 1, 1) := by decide +kernel
theorem dL_law_1055 : decode cL_law 1055 = .ok (.iadd, 1) := by decide +kernel
theorem dL_law_1056 : decode cL_law 1056 = .ok (.iaload, 1) := by decide +kernel
theorem dL_law_1057 : decode cL_law 1057 = .ok (.aload_n 0, 1) := by decide +kernel
theorem dL_law_1058 : decode cL_law 1058 = .ok (.iload 4, 2) := by decide +kernel
theorem dL_law_1060 : decode cL_law 1060 = .ok (.iconst 2, 1) := by decide +kernel
theorem dL_law_1061 : decode cL_law 1061 = .ok (.iadd, 1) := by decide +kernel
theorem dL_law_1062 : decode cL_law 1062 = .ok (.iaload, 1) := by decide +kernel
theorem dL_law_1063 : decode cL_law 1063 = .ok (.aload_n 3, 1) := by decide +kernel
theorem dL_law_1064 : decode cL_law 1064 = .ok (.invokestatic 144, 3) := by decide +kernel
theorem dL_law_1067 : decode cL_law 1067 = .ok (.istore 5, 2) := by decide +kernel
theorem dL_law_1069 : decode cL_law 1069 = .ok (.aload_n 2, 1) := by decide +kernel
theorem dL_law_1070 : decode cL_law 1070 = .ok (.aload_n 0, 1) := by decide +kernel
theorem dL_law_1071 : decode cL_law 1071 = .ok (.iload 4, 2) := by decide +kernel
theorem dL_law_1073 : decode cL_law 1073 = .ok (.iconst 1, 1) := by decide +kernel
theorem dL_law_1074 : decode cL_law 1074 = .ok (.iadd, 1) := by decide +kernel
theorem dL_law_1075 : decode cL_law 1075 = .ok (.iaload, 1) := by decide +kernel
theorem dL_law_1076 : decode cL_law 1076 = .ok (.aload_n 0, 1) := by decide +kernel
theorem dL_law_1077 : decode cL_law 1077 = .ok (.iload 4, 2) := by decide +kernel
theorem dL_law_1079 : decode cL_law 1079 = .ok (.iconst 2, 1) := by decide +kernel
theorem dL_law_1080 : decode cL_law 1080 = .ok (.iadd, 1) := by decide +kernel
theorem dL_law_1081 : decode cL_law 1081 = .ok (.iaload, 1) := by decide +kernel
theorem dL_law_1082 : decode cL_law 1082 = .ok (.invokevirtual 146, 3) := by decide +kernel
theorem dL_law_1085 : decode cL_law 1085 = .ok (.istore 6, 2) := by decide +kernel
theorem dL_law_1087 : decode cL_law 1087 = .ok (.aload_n 2, 1) := by decide +kernel
theorem dL_law_1088 : decode cL_law 1088 = .ok (.invokevirtual 90, 3) := by decide +kernel
theorem dL_law_1091 : decode cL_law 1091 = .ok (.iload 5, 2) := by decide +kernel
theorem dL_law_1093 : decode cL_law 1093 = .ok (.if_icmp .eq 5, 3) := by decide +kernel
theorem dL_law_1096 : decode cL_law 1096 = .ok (.iconst 0, 1) := by decide +kernel
theorem dL_law_1097 : decode cL_law 1097 = .ok (.ireturn, 1) := by decide +kernel
theorem dL_law_1098 : decode cL_law 1098 = .ok (.iload 5, 2) := by decide +kernel
theorem dL_law_1100 : decode cL_law 1100 = .ok (.ifCond .ne 15, 3) := by decide +kernel
theorem dL_law_1103 : decode cL_law 1103 = .ok (.aload_n 3, 1) := by decide +kernel
theorem dL_law_1104 : decode cL_law 1104 = .ok (.iconst 0, 1) := by decide +kernel
theorem dL_law_1105 : decode cL_law 1105 = .ok (.laload, 1) := by decide +kernel
theorem dL_law_1106 : decode cL_law 1106 = .ok (.iload 6, 2) := by decide +kernel
theorem dL_law_1108 : decode cL_law 1108 = .ok (.i2l, 1) := by decide +kernel
theorem dL_law_1109 : decode cL_law 1109 = .ok (.lcmp, 1) := by decide +kernel
theorem dL_law_1110 : decode cL_law 1110 = .ok (.ifCond .eq 5, 3) := by decide +kernel
theorem dL_law_1113 : decode cL_law 1113 = .ok (.iconst 0, 1) := by decide +kernel
theorem dL_law_1114 : decode cL_law 1114 = .ok (.ireturn, 1) := by decide +kernel
theorem dL_law_1115 : decode cL_law 1115 = .ok (.goto 400, 3) := by decide +kernel
theorem dL_law_1118 : decode cL_law 1118 = .ok (.aload_n 1, 1) := by decide +kernel
theorem dL_law_1119 : decode cL_law 1119 = .ok (.aload_n 0, 1) := by decide +kernel
theorem dL_law_1120 : decode cL_law 1120 = .ok (.iload 4, 2) := by decide +kernel
theorem dL_law_1122 : decode cL_law 1122 = .ok (.iconst 1, 1) := by decide +kernel
theorem dL_law_1123 : decode cL_law 1123 = .ok (.iadd, 1) := by decide +kernel
theorem dL_law_1124 : decode cL_law 1124 = .ok (.iaload, 1) := by decide +kernel
theorem dL_law_1125 : decode cL_law 1125 = .ok (.aload_n 0, 1) := by decide +kernel
theorem dL_law_1126 : decode cL_law 1126 = .ok (.iload 4, 2) := by decide +kernel
theorem dL_law_1128 : decode cL_law 1128 = .ok (.iconst 2, 1) := by decide +kernel
theorem dL_law_1129 : decode cL_law 1129 = .ok (.iadd, 1) := by decide +kernel
theorem dL_law_1130 : decode cL_law 1130 = .ok (.iaload, 1) := by decide +kernel
theorem dL_law_1131 : decode cL_law 1131 = .ok (.aload_n 3, 1) := by decide +kernel
theorem dL_law_1132 : decode cL_law 1132 = .ok (.invokestatic 147, 3) := by decide +kernel
theorem dL_law_1135 : decode cL_law 1135 = .ok (.istore 5, 2) := by decide +kernel
theorem dL_law_1137 : decode cL_law 1137 = .ok (.aload_n 2, 1) := by decide +kernel
theorem dL_law_1138 : decode cL_law 1138 = .ok (.aload_n 0, 1) := by decide +kernel
theorem dL_law_1139 : decode cL_law 1139 = .ok (.iload 4, 2) := by decide +kernel
theorem dL_law_1141 : decode cL_law 1141 = .ok (.iconst 1, 1) := by decide +kernel
theorem dL_law_1142 : decode cL_law 1142 = .ok (.iadd, 1) := by decide +kernel
theorem dL_law_1143 : decode cL_law 1143 = .ok (.iaload, 1) := by decide +kernel
theorem dL_law_1144 : decode cL_law 1144 = .ok (.aload_n 0, 1) := by decide +kernel
theorem dL_law_1145 : decode cL_law 1145 = .ok (.iload 4, 2) := by decide +kernel
theorem dL_law_1147 : decode cL_law 1147 = .ok (.iconst 2, 1) := by decide +kernel
theorem dL_law_1148 : decode cL_law 1148 = .ok (.iadd, 1) := by decide +kernel
theorem dL_law_1149 : decode cL_law 1149 = .ok (.iaload, 1) := by decide +kernel
theorem dL_law_1150 : decode cL_law 1150 = .ok (.invokevirtual 149, 3) := by decide +kernel
theorem dL_law_1153 : decode cL_law 1153 = .ok (.istore 6, 2) := by decide +kernel
theorem dL_law_1155 : decode cL_law 1155 = .ok (.aload_n 2, 1) := by decide +kernel
theorem dL_law_1156 : decode cL_law 1156 = .ok (.invokevirtual 90, 3) := by decide +kernel
theorem dL_law_1159 : decode cL_law 1159 = .ok (.iload 5, 2) := by decide +kernel
theorem dL_law_1161 : decode cL_law 1161 = .ok (.if_icmp .eq 5, 3) := by decide +kernel
theorem dL_law_1164 : decode cL_law 1164 = .ok (.iconst 0, 1) := by decide +kernel
theorem dL_law_1165 : decode cL_law 1165 = .ok (.ireturn, 1) := by decide +kernel
theorem dL_law_1166 : decode cL_law 1166 = .ok (.iload 5, 2) := by decide +kernel
theorem dL_law_1168 : decode cL_law 1168 = .ok (.ifCond .ne 15, 3) := by decide +kernel
theorem dL_law_1171 : decode cL_law 1171 = .ok (.aload_n 3, 1) := by decide +kernel
theorem dL_law_1172 : decode cL_law 1172 = .ok (.iconst 0, 1) := by decide +kernel
theorem dL_law_1173 : decode cL_law 1173 = .ok (.laload, 1) := by decide +kernel
theorem dL_law_1174 : decode cL_law 1174 = .ok (.iload 6, 2) := by decide +kernel
theorem dL_law_1176 : decode cL_law 1176 = .ok (.i2l, 1) := by decide +kernel
theorem dL_law_1177 : decode cL_law 1177 = .ok (.lcmp, 1) := by decide +kernel
theorem dL_law_1178 : decode cL_law 1178 = .ok (.ifCond .eq 5, 3) := by decide +kernel
theorem dL_law_1181 : decode cL_law 1181 = .ok (.iconst 0, 1) := by decide +kernel
theorem dL_law_1182 : decode cL_law 1182 = .ok (.ireturn, 1) := by decide +kernel
theorem dL_law_1183 : decode cL_law 1183 = .ok (.goto 332, 3) := by decide +kernel
theorem dL_law_1186 : decode cL_law 1186 = .ok (.aload_n 1, 1) := by decide +kernel
theorem dL_law_1187 : decode cL_law 1187 = .ok (.aload_n 0, 1) := by decide +kernel
theorem dL_law_1188 : decode cL_law 1188 = .ok (.iload 4, 2) := by decide +kernel
theorem dL_law_1190 : decode cL_law 1190 = .ok (.iconst 1, 1) := by decide +kernel
theorem dL_law_1191 : decode cL_law 1191 = .ok (.iadd, 1) := by decide +kernel
theorem dL_law_1192 : decode cL_law 1192 = .ok (.iaload, 1) := by decide +kernel
theorem dL_law_1193 : decode cL_law 1193 = .ok (.aload_n 3, 1) := by decide +kernel
theorem dL_law_1194 : decode cL_law 1194 = .ok (.invokestatic 150, 3) := by decide +kernel
theorem dL_law_1197 : decode cL_law 1197 = .ok (.istore 5, 2) := by decide +kernel
theorem dL_law_1199 : decode cL_law 1199 = .ok (.aload_n 2, 1) := by decide +kernel
theorem dL_law_1200 : decode cL_law 1200 = .ok (.aload_n 0, 1) := by decide +kernel
theorem dL_law_1201 : decode cL_law 1201 = .ok (.iload 4, 2) := by decide +kernel
theorem dL_law_1203 : decode cL_law 1203 = .ok (.iconst 1, 1) := by decide +kernel
theorem dL_law_1204 : decode cL_law 1204 = .ok (.iadd, 1) := by decide +kernel
theorem dL_law_1205 : decode cL_law 1205 = .ok (.iaload, 1) := by decide +kernel
theorem dL_law_1206 : decode cL_law 1206 = .ok (.invokevirtual 152, 3) := by decide +kernel
theorem dL_law_1209 : decode cL_law 1209 = .ok (.istore 6, 2) := by decide +kernel
theorem dL_law_1211 : decode cL_law 1211 = .ok (.aload_n 2, 1) := by decide +kernel
theorem dL_law_1212 : decode cL_law 1212 = .ok (.invokevirtual 90, 3) := by decide +kernel
theorem dL_law_1215 : decode cL_law 1215 = .ok (.iload 5, 2) := by decide +kernel
theorem dL_law_1217 : decode cL_law 1217 = .ok (.if_icmp .eq 5, 3) := by decide +kernel
theorem dL_law_1220 : decode cL_law 1220 = .ok (.iconst 0, 1) := by decide +kernel
theorem dL_law_1221 : decode cL_law 1221 = .ok (.ireturn, 1) := by decide +kernel
theorem dL_law_1222 : decode cL_law 1222 = .ok (.iload 5, 2) := by decide +kernel
theorem dL_law_1224 : decode cL_law 1224 = .ok (.ifCond .ne 15, 3) := by decide +kernel
theorem dL_law_1227 : decode cL_law 1227 = .ok (.aload_n 3, 1) := by decide +kernel
theorem dL_law_1228 : decode cL_law 1228 = .ok (.iconst 0, 1) := by decide +kernel
theorem dL_law_1229 : decode cL_law 1229 = .ok (.laload, 1) := by decide +kernel
theorem dL_law_1230 : decode cL_law 1230 = .ok (.iload 6, 2) := by decide +kernel
theorem dL_law_1232 : decode cL_law 1232 = .ok (.i2l, 1) := by decide +kernel
theorem dL_law_1233 : decode cL_law 1233 = .ok (.lcmp, 1) := by decide +kernel
theorem dL_law_1234 : decode cL_law 1234 = .ok (.ifCond .eq 5, 3) := by decide +kernel
theorem dL_law_1237 : decode cL_law 1237 = .ok (.iconst 0, 1) := by decide +kernel
theorem dL_law_1238 : decode cL_law 1238 = .ok (.ireturn, 1) := by decide +kernel
theorem dL_law_1239 : decode cL_law 1239 = .ok (.goto 276, 3) := by decide +kernel
theorem dL_law_1242 : decode cL_law 1242 = .ok (.aload_n 1, 1) := by decide +kernel
theorem dL_law_1243 : decode cL_law 1243 = .ok (.aload_n 0, 1) := by decide +kernel
theorem dL_law_1244 : decode cL_law 1244 = .ok (.iload 4, 2) := by decide +kernel
theorem dL_law_1246 : decode cL_law 1246 = .ok (.iconst 1, 1) := by decide +kernel
theorem dL_law_1247 : decode cL_law 1247 = .ok (.iadd, 1) := by decide +kernel
theorem dL_law_1248 : decode cL_law 1248 = .ok (.iaload, 1) := by decide +kernel
theorem dL_law_1249 : decode cL_law 1249 = .ok (.aload_n 3, 1) := by decide +kernel
theorem dL_law_1250 : decode cL_law 1250 = .ok (.invokestatic 153, 3) := by decide +kernel
theorem dL_law_1253 : decode cL_law 1253 = .ok (.istore 5, 2) := by decide +kernel
theorem dL_law_1255 : decode cL_law 1255 = .ok (.aload_n 2, 1) := by decide +kernel
theorem dL_law_1256 : decode cL_law 1256 = .ok (.aload_n 0, 1) := by decide +kernel
theorem dL_law_1257 : decode cL_law 1257 = .ok (.iload 4, 2) := by decide +kernel
theorem dL_law_1259 : decode cL_law 1259 = .ok (.iconst 1, 1) := by decide +kernel
theorem dL_law_1260 : decode cL_law 1260 = .ok (.iadd, 1) := by decide +kernel
theorem dL_law_1261 : decode cL_law 1261 = .ok (.iaload, 1) := by decide +kernel
theorem dL_law_1262 : decode cL_law 1262 = .ok (.invokevirtual 155, 3) := by decide +kernel
theorem dL_law_1265 : decode cL_law 1265 = .ok (.istore 6, 2) := by decide +kernel
theorem dL_law_1267 : decode cL_law 1267 = .ok (.aload_n 2, 1) := by decide +kernel
theorem dL_law_1268 : decode cL_law 1268 = .ok (.invokevirtual 90, 3) := by decide +kernel
theorem dL_law_1271 : decode cL_law 1271 = .ok (.iload 5, 2) := by decide +kernel
theorem dL_law_1273 : decode cL_law 1273 = .ok (.if_icmp .eq 5, 3) := by decide +kernel
theorem dL_law_1276 : decode cL_law 1276 = .ok (.iconst 0, 1) := by decide +kernel
theorem dL_law_1277 : decode cL_law 1277 = .ok (.ireturn, 1) := by decide +kernel
theorem dL_law_1278 : decode cL_law 1278 = .ok (.iload 5, 2) := by decide +kernel
theorem dL_law_1280 : decode cL_law 1280 = .ok (.ifCond .ne 15, 3) := by decide +kernel
theorem dL_law_1283 : decode cL_law 1283 = .ok (.aload_n 3, 1) := by decide +kernel
theorem dL_law_1284 : decode cL_law 1284 = .ok (.iconst 0, 1) := by decide +kernel
theorem dL_law_1285 : decode cL_law 1285 = .ok (.laload, 1) := by decide +kernel
theorem dL_law_1286 : decode cL_law 1286 = .ok (.iload 6, 2) := by decide +kernel
theorem dL_law_1288 : decode cL_law 1288 = .ok (.i2l, 1) := by decide +kernel
theorem dL_law_1289 : decode cL_law 1289 = .ok (.lcmp, 1) := by decide +kernel
theorem dL_law_1290 : decode cL_law 1290 = .ok (.ifCond .eq 5, 3) := by decide +kernel
theorem dL_law_1293 : decode cL_law 1293 = .ok (.iconst 0, 1) := by decide +kernel
theorem dL_law_1294 : decode cL_law 1294 = .ok (.ireturn, 1) := by decide +kernel
theorem dL_law_1295 : decode cL_law 1295 = .ok (.goto 220, 3) := by decide +kernel
theorem dL_law_1298 : decode cL_law 1298 = .ok (.aload_n 1, 1) := by decide +kernel
theorem dL_law_1299 : decode cL_law 1299 = .ok (.invokevirtual 156, 3) := by decide +kernel
theorem dL_law_1302 : decode cL_law 1302 = .ok (.aload_n 2, 1) := by decide +kernel
theorem dL_law_1303 : decode cL_law 1303 = .ok (.invokevirtual 159, 3) := by decide +kernel
theorem dL_law_1306 : decode cL_law 1306 = .ok (.if_icmp .eq 209, 3) := by decide +kernel
theorem dL_law_1309 : decode cL_law 1309 = .ok (.iconst 0, 1) := by decide +kernel
theorem dL_law_1310 : decode cL_law 1310 = .ok (.ireturn, 1) := by decide +kernel
theorem dL_law_1311 : decode cL_law 1311 = .ok (.aload_n 1, 1) := by decide +kernel
theorem dL_law_1312 : decode cL_law 1312 = .ok (.invokevirtual 160, 3) := by decide +kernel
theorem dL_law_1315 : decode cL_law 1315 = .ok (.aload_n 2, 1) := by decide +kernel
theorem dL_law_1316 : decode cL_law 1316 = .ok (.invokevirtual 163, 3) := by decide +kernel
theorem dL_law_1319 : decode cL_law 1319 = .ok (.if_icmp .eq 196, 3) := by decide +kernel
theorem dL_law_1322 : decode cL_law 1322 = .ok (.iconst 0, 1) := by decide +kernel
theorem dL_law_1323 : decode cL_law 1323 = .ok (.ireturn, 1) := by decide +kernel
theorem dL_law_1324 : decode cL_law 1324 = .ok (.aload_n 1, 1) := by decide +kernel
theorem dL_law_1325 : decode cL_law 1325 = .ok (.aload_n 0, 1) := by decide +kernel
theorem dL_law_1326 : decode cL_law 1326 = .ok (.iload 4, 2) := by decide +kernel
theorem dL_law_1328 : decode cL_law 1328 = .ok (.iconst 1, 1) := by decide +kernel
theorem dL_law_1329 : decode cL_law 1329 = .ok (.iadd, 1) := by decide +kernel
theorem dL_law_1330 : decode cL_law 1330 = .ok (.iaload, 1) := by decide +kernel
theorem dL_law_1331 : decode cL_law 1331 = .ok (.aload_n 0, 1) := by decide +kernel
theorem dL_law_1332 : decode cL_law 1332 = .ok (.iload 4, 2) := by decide +kernel
theorem dL_law_1334 : decode cL_law 1334 = .ok (.iconst 2, 1) := by decide +kernel
theorem dL_law_1335 : decode cL_law 1335 = .ok (.iadd, 1) := by decide +kernel
theorem dL_law_1336 : decode cL_law 1336 = .ok (.iaload, 1) := by decide +kernel
theorem dL_law_1337 : decode cL_law 1337 = .ok (.aload_n 0, 1) := by decide +kernel
theorem dL_law_1338 : decode cL_law 1338 = .ok (.iload 4, 2) := by decide +kernel
theorem dL_law_1340 : decode cL_law 1340 = .ok (.iconst 3, 1) := by decide +kernel
theorem dL_law_1341 : decode cL_law 1341 = .ok (.iadd, 1) := by decide +kernel
theorem dL_law_1342 : decode cL_law 1342 = .ok (.iaload, 1) := by decide +kernel
theorem dL_law_1343 : decode cL_law 1343 = .ok (.aload_n 3, 1) := by decide +kernel
theorem dL_law_1344 : decode cL_law 1344 = .ok (.invokestatic 164, 3) := by decide +kernel
theorem dL_law_1347 : decode cL_law 1347 = .ok (.istore 5, 2) := by decide +kernel
theorem dL_law_1349 : decode cL_law 1349 = .ok (.aload_n 2, 1) := by decide +kernel
theorem dL_law_1350 : decode cL_law 1350 = .ok (.aload_n 0, 1) := by decide +kernel
theorem dL_law_1351 : decode cL_law 1351 = .ok (.iload 4, 2) := by decide +kernel
theorem dL_law_1353 : decode cL_law 1353 = .ok (.iconst 1, 1) := by decide +kernel
theorem dL_law_1354 : decode cL_law 1354 = .ok (.iadd, 1) := by decide +kernel
theorem dL_law_1355 : decode cL_law 1355 = .ok (.iaload, 1) := by decide +kernel
theorem dL_law_1356 : decode cL_law 1356 = .ok (.aload_n 0, 1) := by decide +kernel
theorem dL_law_1357 : decode cL_law 1357 = .ok (.iload 4, 2) := by decide +kernel
theorem dL_law_1359 : decode cL_law 1359 = .ok (.iconst 2, 1) := by decide +kernel
theorem dL_law_1360 : decode cL_law 1360 = .ok (.iadd, 1) := by decide +kernel
theorem dL_law_1361 : decode cL_law 1361 = .ok (.iaload, 1) := by decide +kernel
theorem dL_law_1362 : decode cL_law 1362 = .ok (.aload_n 0, 1) := by decide +kernel
theorem dL_law_1363 : decode cL_law 1363 = .ok (.iload 4, 2) := by decide +kernel
theorem dL_law_1365 : decode cL_law 1365 = .ok (.iconst 3, 1) := by decide +kernel
theorem dL_law_1366 : decode cL_law 1366 = .ok (.iadd, 1) := by decide +kernel
theorem dL_law_1367 : decode cL_law 1367 = .ok (.iaload, 1) := by decide +kernel
theorem dL_law_1368 : decode cL_law 1368 = .ok (.invokevirtual 166, 3) := by decide +kernel
theorem dL_law_1371 : decode cL_law 1371 = .ok (.istore 6, 2) := by decide +kernel
theorem dL_law_1373 : decode cL_law 1373 = .ok (.aload_n 2, 1) := by decide +kernel
theorem dL_law_1374 : decode cL_law 1374 = .ok (.invokevirtual 90, 3) := by decide +kernel
theorem dL_law_1377 : decode cL_law 1377 = .ok (.iload 5, 2) := by decide +kernel
theorem dL_law_1379 : decode cL_law 1379 = .ok (.if_icmp .eq 5, 3) := by decide +kernel
theorem dL_law_1382 : decode cL_law 1382 = .ok (.iconst 0, 1) := by decide +kernel
theorem dL_law_1383 : decode cL_law 1383 = .ok (.ireturn, 1) := by decide +kernel
theorem dL_law_1384 : decode cL_law 1384 = .ok (.iload 5, 2) := by decide +kernel
theorem dL_law_1386 : decode cL_law 1386 = .ok (.ifCond .ne 15, 3) := by decide +kernel
theorem dL_law_1389 : decode cL_law 1389 = .ok (.aload_n 3, 1) := by decide +kernel
theorem dL_law_1390 : decode cL_law 1390 = .ok (.iconst 0, 1) := by decide +kernel
theorem dL_law_1391 : decode cL_law 1391 = .ok (.laload, 1) := by decide +kernel
theorem dL_law_1392 : decode cL_law 1392 = .ok (.iload 6, 2) := by decide +kernel
theorem dL_law_1394 : decode cL_law 1394 = .ok (.i2l, 1) := by decide +kernel
theorem dL_law_1395 : decode cL_law 1395 = .ok (.lcmp, 1) := by decide +kernel
theorem dL_law_1396 : decode cL_law 1396 = .ok (.ifCond .eq 5, 3) := by decide +kernel
theorem dL_law_1399 : decode cL_law 1399 = .ok (.iconst 0, 1) := by decide +kernel
theorem dL_law_1400 : decode cL_law 1400 = .ok (.ireturn, 1) := by decide +kernel
theorem dL_law_1401 : decode cL_law 1401 = .ok (.goto 114, 3) := by decide +kernel
theorem dL_law_1404 : decode cL_law 1404 = .ok (.aload_n 1, 1) := by decide +kernel
theorem dL_law_1405 : decode cL_law 1405 = .ok (.aload_n 0, 1) := by decide +kernel
theorem dL_law_1406 : decode cL_law 1406 = .ok (.iload 4, 2) := by decide +kernel
theorem dL_law_1408 : decode cL_law 1408 = .ok (.iconst 1, 1) := by decide +kernel
theorem dL_law_1409 : decode cL_law 1409 = .ok (.iadd, 1) := by decide +kernel
theorem dL_law_1410 : decode cL_law 1410 = .ok (.iaload, 1) := by decide +kernel
theorem dL_law_1411 : decode cL_law 1411 = .ok (.aload_n 3, 1) := by decide +kernel
theorem dL_law_1412 : decode cL_law 1412 = .ok (.invokestatic 167, 3) := by decide +kernel
theorem dL_law_1415 : decode cL_law 1415 = .ok (.istore 5, 2) := by decide +kernel
theorem dL_law_1417 : decode cL_law 1417 = .ok (.aload_n 2, 1) := by decide +kernel
theorem dL_law_1418 : decode cL_law 1418 = .ok (.aload_n 0, 1) := by decide +kernel
theorem dL_law_1419 : decode cL_law 1419 = .ok (.iload 4, 2) := by decide +kernel
theorem dL_law_1421 : decode cL_law 1421 = .ok (.iconst 1, 1) := by decide +kernel
theorem dL_law_1422 : decode cL_law 1422 = .ok (.iadd, 1) := by decide +kernel
theorem dL_law_1423 : decode cL_law 1423 = .ok (.iaload, 1) := by decide +kernel
theorem dL_law_1424 : decode cL_law 1424 = .ok (.invokevirtual 169, 3) := by decide +kernel
theorem dL_law_1427 : decode cL_law 1427 = .ok (.istore 6, 2) := by decide +kernel
theorem dL_law_1429 : decode cL_law 1429 = .ok (.aload_n 2, 1) := by decide +kernel
theorem dL_law_1430 : decode cL_law 1430 = .ok (.invokevirtual 90, 3) := by decide +kernel
theorem dL_law_1433 : decode cL_law 1433 = .ok (.iload 5, 2) := by decide +kernel
theorem dL_law_1435 : decode cL_law 1435 = .ok (.if_icmp .eq 5, 3) := by decide +kernel
theorem dL_law_1438 : decode cL_law 1438 = .ok (.iconst 0, 1) := by decide +kernel
theorem dL_law_1439 : decode cL_law 1439 = .ok (.ireturn, 1) := by decide +kernel
theorem dL_law_1440 : decode cL_law 1440 = .ok (.iload 5, 2) := by decide +kernel
theorem dL_law_1442 : decode cL_law 1442 = .ok (.ifCond .ne 15, 3) := by decide +kernel
theorem dL_law_1445 : decode cL_law 1445 = .ok (.aload_n 3, 1) := by decide +kernel
theorem dL_law_1446 : decode cL_law 1446 = .ok (.iconst 0, 1) := by decide +kernel
theorem dL_law_1447 : decode cL_law 1447 = .ok (.laload, 1) := by decide +kernel
theorem dL_law_1448 : decode cL_law 1448 = .ok (.iload 6, 2) := by decide +kernel
theorem dL_law_1450 : decode cL_law 1450 = .ok (.i2l, 1) := by decide +kernel
theorem dL_law_1451 : decode cL_law 1451 = .ok (.lcmp, 1) := by decide +kernel
theorem dL_law_1452 : decode cL_law 1452 = .ok (.ifCond .eq 5, 3) := by decide +kernel
theorem dL_law_1455 : decode cL_law 1455 = .ok (.iconst 0, 1) := by decide +kernel
theorem dL_law_1456 : decode cL_law 1456 = .ok (.ireturn, 1) := by decide +kernel
theorem dL_law_1457 : decode cL_law 1457 = .ok (.goto 58, 3) := by decide +kernel
theorem dL_law_1460 : decode cL_law 1460 = .ok (.aload_n 1, 1) := by decide +kernel
theorem dL_law_1461 : decode cL_law 1461 = .ok (.invokevirtual 170, 3) := by decide +kernel
theorem dL_law_1464 : decode cL_law 1464 = .ok (.dstore 5, 2) := by decide +kernel
theorem dL_law_1466 : decode cL_law 1466 = .ok (.aload_n 2, 1) := by decide +kernel
theorem dL_law_1467 : decode cL_law 1467 = .ok (.invokevirtual 174, 3) := by decide +kernel
theorem dL_law_1470 : decode cL_law 1470 = .ok (.dstore 7, 2) := by decide +kernel
theorem dL_law_1472 : decode cL_law 1472 = .ok (.dload 5, 2) := by decide +kernel
theorem dL_law_1474 : decode cL_law 1474 = .ok (.dload 7, 2) := by decide +kernel
theorem dL_law_1476 : decode cL_law 1476 = .ok (.dcmp .l, 1) := by decide +kernel
theorem dL_law_1477 : decode cL_law 1477 = .ok (.ifCond .eq 21, 3) := by decide +kernel
theorem dL_law_1480 : decode cL_law 1480 = .ok (.dload 5, 2) := by decide +kernel
theorem dL_law_1482 : decode cL_law 1482 = .ok (.dload 5, 2) := by decide +kernel
theorem dL_law_1484 : decode cL_law 1484 = .ok (.dcmp .l, 1) := by decide +kernel
theorem dL_law_1485 : decode cL_law 1485 = .ok (.ifCond .eq 11, 3) := by decide +kernel
theorem dL_law_1488 : decode cL_law 1488 = .ok (.dload 7, 2) := by decide +kernel
theorem dL_law_1490 : decode cL_law 1490 = .ok (.dload 7, 2) := by decide +kernel
theorem dL_law_1492 : decode cL_law 1492 = .ok (.dcmp .l, 1) := by decide +kernel
theorem dL_law_1493 : decode cL_law 1493 = .ok (.ifCond .ne 5, 3) := by decide +kernel
theorem dL_law_1496 : decode cL_law 1496 = .ok (.iconst 0, 1) := by decide +kernel
theorem dL_law_1497 : decode cL_law 1497 = .ok (.ireturn, 1) := by decide +kernel
theorem dL_law_1498 : decode cL_law 1498 = .ok (.goto 17, 3) := by decide +kernel
theorem dL_law_1501 : decode cL_law 1501 = .ok (.aload_n 1, 1) := by decide +kernel
theorem dL_law_1502 : decode cL_law 1502 = .ok (.invokevirtual 175, 3) := by decide +kernel
theorem dL_law_1505 : decode cL_law 1505 = .ok (.aload_n 2, 1) := by decide +kernel
theorem dL_law_1506 : decode cL_law 1506 = .ok (.invokevirtual 179, 3) := by decide +kernel
theorem dL_law_1509 : decode cL_law 1509 = .ok (.lcmp, 1) := by decide +kernel
theorem dL_law_1510 : decode cL_law 1510 = .ok (.ifCond .eq 5, 3) := by decide +kernel
theorem dL_law_1513 : decode cL_law 1513 = .ok (.iconst 0, 1) := by decide +kernel
theorem dL_law_1514 : decode cL_law 1514 = .ok (.ireturn, 1) := by decide +kernel
theorem dL_law_1515 : decode cL_law 1515 = .ok (.iinc 4 5, 3) := by decide +kernel
theorem dL_law_1518 : decode cL_law 1518 = .ok (.goto (-1495), 3) := by decide +kernel
theorem dL_law_1521 : decode cL_law 1521 = .ok (.iconst 1, 1) := by decide +kernel
theorem dL_law_1522 : decode cL_law 1522 = .ok (.ireturn, 1) := by decide +kernel
