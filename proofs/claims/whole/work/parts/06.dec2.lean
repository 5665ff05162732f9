theorem dX4_lookRising_6 : decode cX4_lookRising 6 = .ok (.aload_n 0, 1) := by decide +kernel
theorem dX4_lookRising_7 : decode cX4_lookRising 7 = .ok (.iload_n 1, 1) := by decide +kernel
theorem dX4_lookRising_8 : decode cX4_lookRising 8 = .ok (.bipush 8, 2) := by decide +kernel
theorem dX4_lookRising_10 : decode cX4_lookRising 10 = .ok (.invokevirtual 36, 3) := by decide +kernel
theorem dX4_lookRising_13 : decode cX4_lookRising 13 = .ok (.ifCond .ne 13, 3) := by decide +kernel
theorem dX4_lookRising_16 : decode cX4_lookRising 16 = .ok (.aload_n 0, 1) := by decide +kernel
theorem dX4_lookRising_17 : decode cX4_lookRising 17 = .ok (.iload_n 1, 1) := by decide +kernel
theorem dX4_lookRising_18 : decode cX4_lookRising 18 = .ok (.iconst 4, 1) := by decide +kernel
theorem dX4_lookRising_19 : decode cX4_lookRising 19 = .ok (.iconst (-1), 1) := by decide +kernel
theorem dX4_lookRising_20 : decode cX4_lookRising 20 = .ok (.invokevirtual 72, 3) := by decide +kernel
theorem dX4_lookRising_23 : decode cX4_lookRising 23 = .ok (.goto 64, 3) := by decide +kernel
theorem dX4_lookRising_26 : decode cX4_lookRising 26 = .ok (.iload_n 2, 1) := by decide +kernel
theorem dX4_lookRising_27 : decode cX4_lookRising 27 = .ok (.iconst (-1), 1) := by decide +kernel
theorem dX4_lookRising_28 : decode cX4_lookRising 28 = .ok (.if_icmp .eq 13, 3) := by decide +kernel
theorem dX4_lookRising_31 : decode cX4_lookRising 31 = .ok (.aload_n 0, 1) := by decide +kernel
theorem dX4_lookRising_32 : decode cX4_lookRising 32 = .ok (.iload_n 1, 1) := by decide +kernel
theorem dX4_lookRising_33 : decode cX4_lookRising 33 = .ok (.iconst 4, 1) := by decide +kernel
theorem dX4_lookRising_34 : decode cX4_lookRising 34 = .ok (.iload_n 2, 1) := by decide +kernel
theorem dX4_lookRising_35 : decode cX4_lookRising 35 = .ok (.invokevirtual 72, 3) := by decide +kernel
theorem dX4_lookRising_38 : decode cX4_lookRising 38 = .ok (.goto 49, 3) := by decide +kernel
theorem dX4_lookRising_41 : decode cX4_lookRising 41 = .ok (.aload_n 0, 1) := by decide +kernel
theorem dX4_lookRising_42 : decode cX4_lookRising 42 = .ok (.iload_n 1, 1) := by decide +kernel
theorem dX4_lookRising_43 : decode cX4_lookRising 43 = .ok (.invokevirtual 65, 3) := by decide +kernel
theorem dX4_lookRising_46 : decode cX4_lookRising 46 = .ok (.ifCond .eq 13, 3) := by decide +kernel
theorem dX4_lookRising_49 : decode cX4_lookRising 49 = .ok (.aload_n 0, 1) := by decide +kernel
theorem dX4_lookRising_50 : decode cX4_lookRising 50 = .ok (.iload_n 1, 1) := by decide +kernel
theorem dX4_lookRising_51 : decode cX4_lookRising 51 = .ok (.iconst 3, 1) := by decide +kernel
theorem dX4_lookRising_52 : decode cX4_lookRising 52 = .ok (.iconst (-1), 1) := by decide +kernel
theorem dX4_lookRising_53 : decode cX4_lookRising 53 = .ok (.invokevirtual 72, 3) := by decide +kernel
theorem dX4_lookRising_56 : decode cX4_lookRising 56 = .ok (.goto 31, 3) := by decide +kernel
theorem dX4_lookRising_59 : decode cX4_lookRising 59 = .ok (.aload_n 0, 1) := by decide +kernel
theorem dX4_lookRising_60 : decode cX4_lookRising 60 = .ok (.iload_n 1, 1) := by decide +kernel
theorem dX4_lookRising_61 : decode cX4_lookRising 61 = .ok (.bipush 13, 2) := by decide +kernel
theorem dX4_lookRising_63 : decode cX4_lookRising 63 = .ok (.invokevirtual 50, 3) := by decide +kernel
theorem dX4_lookRising_66 : decode cX4_lookRising 66 = .ok (.aload_n 0, 1) := by decide +kernel
theorem dX4_lookRising_67 : decode cX4_lookRising 67 = .ok (.iload_n 1, 1) := by decide +kernel
theorem dX4_lookRising_68 : decode cX4_lookRising 68 = .ok (.bipush 13, 2) := by decide +kernel
theorem dX4_lookRising_70 : decode cX4_lookRising 70 = .ok (.invokevirtual 36, 3) := by decide +kernel
theorem dX4_lookRising_73 : decode cX4_lookRising 73 = .ok (.aload_n 0, 1) := by decide +kernel
theorem dX4_lookRising_74 : decode cX4_lookRising 74 = .ok (.iload_n 1, 1) := by decide +kernel
theorem dX4_lookRising_75 : decode cX4_lookRising 75 = .ok (.iconst 5, 1) := by decide +kernel
theorem dX4_lookRising_76 : decode cX4_lookRising 76 = .ok (.invokevirtual 36, 3) := by decide +kernel
theorem dX4_lookRising_79 : decode cX4_lookRising 79 = .ok (.if_icmp .lt 8, 3) := by decide +kernel
theorem dX4_lookRising_82 : decode cX4_lookRising 82 = .ok (.aload_n 0, 1) := by decide +kernel
theorem dX4_lookRising_83 : decode cX4_lookRising 83 = .ok (.iload_n 1, 1) := by decide +kernel
theorem dX4_lookRising_84 : decode cX4_lookRising 84 = .ok (.invokevirtual 79, 3) := by decide +kernel
theorem dX4_lookRising_87 : decode cX4_lookRising 87 = .ok (.return_, 1) := by decide +kernel
theorem dX4_lookGood_0 : decode cX4_lookGood 0 = .ok (.aload_n 0, 1) := by decide +kernel
theorem dX4_lookGood_1 : decode cX4_lookGood 1 = .ok (.iload_n 1, 1) := by decide +kernel
theorem dX4_lookGood_2 : decode cX4_lookGood 2 = .ok (.invokevirtual 75, 3) := by decide +kernel
theorem dX4_lookGood_5 : decode cX4_lookGood 5 = .ok (.istore_n 2, 1) := by decide +kernel
theorem dX4_lookGood_6 : decode cX4_lookGood 6 = .ok (.iload_n 2, 1) := by decide +kernel
theorem dX4_lookGood_7 : decode cX4_lookGood 7 = .ok (.iconst (-1), 1) := by decide +kernel
theorem dX4_lookGood_8 : decode cX4_lookGood 8 = .ok (.if_icmp .eq 13, 3) := by decide +kernel
theorem dX4_lookGood_11 : decode cX4_lookGood 11 = .ok (.aload_n 0, 1) := by decide +kernel
theorem dX4_lookGood_12 : decode cX4_lookGood 12 = .ok (.iload_n 1, 1) := by decide +kernel
theorem dX4_lookGood_13 : decode cX4_lookGood 13 = .ok (.iconst 4, 1) := by decide +kernel
theorem dX4_lookGood_14 : decode cX4_lookGood 14 = .ok (.iload_n 2, 1) := by decide +kernel
theorem dX4_lookGood_15 : decode cX4_lookGood 15 = .ok (.invokevirtual 72, 3) := by decide +kernel
theorem dX4_lookGood_18 : decode cX4_lookGood 18 = .ok (.goto 44, 3) := by decide +kernel
theorem dX4_lookGood_21 : decode cX4_lookGood 21 = .ok (.aload_n 0, 1) := by decide +kernel
theorem dX4_lookGood_22 : decode cX4_lookGood 22 = .ok (.iload_n 1, 1) := by decide +kernel
theorem dX4_lookGood_23 : decode cX4_lookGood 23 = .ok (.invokevirtual 65, 3) := by decide +kernel
theorem dX4_lookGood_26 : decode cX4_lookGood 26 = .ok (.ifCond .ne 11, 3) := by decide +kernel
theorem dX4_lookGood_29 : decode cX4_lookGood 29 = .ok (.aload_n 0, 1) := by decide +kernel
theorem dX4_lookGood_30 : decode cX4_lookGood 30 = .ok (.iload_n 1, 1) := by decide +kernel
theorem dX4_lookGood_31 : decode cX4_lookGood 31 = .ok (.invokevirtual 79, 3) := by decide +kernel
theorem dX4_lookGood_34 : decode cX4_lookGood 34 = .ok (.goto 28, 3) := by decide +kernel
theorem dX4_lookGood_37 : decode cX4_lookGood 37 = .ok (.aload_n 0, 1) := by decide +kernel
theorem dX4_lookGood_38 : decode cX4_lookGood 38 = .ok (.iload_n 1, 1) := by decide +kernel
theorem dX4_lookGood_39 : decode cX4_lookGood 39 = .ok (.bipush 8, 2) := by decide +kernel
theorem dX4_lookGood_41 : decode cX4_lookGood 41 = .ok (.invokevirtual 36, 3) := by decide +kernel
theorem dX4_lookGood_44 : decode cX4_lookGood 44 = .ok (.ifCond .ne 18, 3) := by decide +kernel
theorem dX4_lookGood_47 : decode cX4_lookGood 47 = .ok (.aload_n 0, 1) := by decide +kernel
theorem dX4_lookGood_48 : decode cX4_lookGood 48 = .ok (.iload_n 1, 1) := by decide +kernel
theorem dX4_lookGood_49 : decode cX4_lookGood 49 = .ok (.invokevirtual 83, 3) := by decide +kernel
theorem dX4_lookGood_52 : decode cX4_lookGood 52 = .ok (.ifCond .ne 10, 3) := by decide +kernel
theorem dX4_lookGood_55 : decode cX4_lookGood 55 = .ok (.aload_n 0, 1) := by decide +kernel
theorem dX4_lookGood_56 : decode cX4_lookGood 56 = .ok (.iload_n 1, 1) := by decide +kernel
theorem dX4_lookGood_57 : decode cX4_lookGood 57 = .ok (.iconst 4, 1) := by decide +kernel
theorem dX4_lookGood_58 : decode cX4_lookGood 58 = .ok (.iconst (-1), 1) := by decide +kernel
theorem dX4_lookGood_59 : decode cX4_lookGood 59 = .ok (.invokevirtual 72, 3) := by decide +kernel
theorem dX4_lookGood_62 : decode cX4_lookGood 62 = .ok (.return_, 1) := by decide +kernel
theorem dX4_look_0 : decode cX4_look 0 = .ok (.aload_n 0, 1) := by decide +kernel
theorem dX4_look_1 : decode cX4_look 1 = .ok (.iload_n 1, 1) := by decide +kernel
theorem dX4_look_2 : decode cX4_look 2 = .ok (.bipush 8, 2) := by decide +kernel
theorem dX4_look_4 : decode cX4_look 4 = .ok (.invokevirtual 36, 3) := by decide +kernel
theorem dX4_look_7 : decode cX4_look 7 = .ok (.iconst 1, 1) := by decide +kernel
theorem dX4_look_8 : decode cX4_look 8 = .ok (.if_icmp .ne 7, 3) := by decide +kernel
theorem dX4_look_11 : decode cX4_look 11 = .ok (.iconst 1, 1) := by decide +kernel
theorem dX4_look_12 : decode cX4_look 12 = .ok (.goto 4, 3) := by decide +kernel
theorem dX4_look_15 : decode cX4_look 15 = .ok (.iconst 0, 1) := by decide +kernel
theorem dX4_look_16 : decode cX4_look 16 = .ok (.istore_n 2, 1) := by decide +kernel
theorem dX4_look_17 : decode cX4_look 17 = .ok (.aload_n 0, 1) := by decide +kernel
theorem dX4_look_18 : decode cX4_look 18 = .ok (.getfield 19, 3) := by decide +kernel
theorem dX4_look_21 : decode cX4_look 21 = .ok (.iload_n 1, 1) := by decide +kernel
theorem dX4_look_22 : decode cX4_look 22 = .ok (.iaload, 1) := by decide +kernel
theorem dX4_look_23 : decode cX4_look 23 = .ok (.tableswitch 133 0 4 #[33, 62, 70, 78, 86], 33) := by decide +kernel
theorem dX4_look_56 : decode cX4_look 56 = .ok (.iload_n 2, 1) := by decide +kernel
theorem dX4_look_57 : decode cX4_look 57 = .ok (.ifCond .eq 117, 3) := by decide +kernel
theorem dX4_look_60 : decode cX4_look 60 = .ok (.aload_n 0, 1) := by decide +kernel
theorem dX4_look_61 : decode cX4_look 61 = .ok (.iload_n 1, 1) := by decide +kernel
theorem dX4_look_62 : decode cX4_look 62 = .ok (.bipush 13, 2) := by decide +kernel
theorem dX4_look_64 : decode cX4_look 64 = .ok (.iconst 0, 1) := by decide +kernel
theorem dX4_look_65 : decode cX4_look 65 = .ok (.invokevirtual 40, 3) := by decide +kernel
theorem dX4_look_68 : decode cX4_look 68 = .ok (.aload_n 0, 1) := by decide +kernel
theorem dX4_look_69 : decode cX4_look 69 = .ok (.iload_n 1, 1) := by decide +kernel
theorem dX4_look_70 : decode cX4_look 70 = .ok (.bipush 14, 2) := by decide +kernel
theorem dX4_look_72 : decode cX4_look 72 = .ok (.iconst 0, 1) := by decide +kernel
theorem dX4_look_73 : decode cX4_look 73 = .ok (.invokevirtual 40, 3) := by decide +kernel
theorem dX4_look_76 : decode cX4_look 76 = .ok (.aload_n 0, 1) := by decide +kernel
theorem dX4_look_77 : decode cX4_look 77 = .ok (.iload_n 1, 1) := by decide +kernel
theorem dX4_look_78 : decode cX4_look 78 = .ok (.iconst 1, 1) := by decide +kernel
theorem dX4_look_79 : decode cX4_look 79 = .ok (.invokevirtual 54, 3) := by decide +kernel
theorem dX4_look_82 : decode cX4_look 82 = .ok (.goto 92, 3) := by decide +kernel
theorem dX4_look_85 : decode cX4_look 85 = .ok (.aload_n 0, 1) := by decide +kernel
theorem dX4_look_86 : decode cX4_look 86 = .ok (.iload_n 1, 1) := by decide +kernel
theorem dX4_look_87 : decode cX4_look 87 = .ok (.invokevirtual 86, 3) := by decide +kernel
theorem dX4_look_90 : decode cX4_look 90 = .ok (.goto 84, 3) := by decide +kernel
theorem dX4_look_93 : decode cX4_look 93 = .ok (.aload_n 0, 1) := by decide +kernel
theorem dX4_look_94 : decode cX4_look 94 = .ok (.iload_n 1, 1) := by decide +kernel
theorem dX4_look_95 : decode cX4_look 95 = .ok (.invokevirtual 89, 3) := by decide +kernel
theorem dX4_look_98 : decode cX4_look 98 = .ok (.goto 76, 3) := by decide +kernel
theorem dX4_look_101 : decode cX4_look 101 = .ok (.aload_n 0, 1) := by decide +kernel
theorem dX4_look_102 : decode cX4_look 102 = .ok (.iload_n 1, 1) := by decide +kernel
theorem dX4_look_103 : decode cX4_look 103 = .ok (.invokevirtual 92, 3) := by decide +kernel
theorem dX4_look_106 : decode cX4_look 106 = .ok (.goto 68, 3) := by decide +kernel
theorem dX4_look_109 : decode cX4_look 109 = .ok (.aload_n 0, 1) := by decide +kernel
theorem dX4_look_110 : decode cX4_look 110 = .ok (.iload_n 1, 1) := by decide +kernel
theorem dX4_look_111 : decode cX4_look 111 = .ok (.invokevirtual 69, 3) := by decide +kernel
theorem dX4_look_114 : decode cX4_look 114 = .ok (.ifCond .eq 60, 3) := by decide +kernel
theorem dX4_look_117 : decode cX4_look 117 = .ok (.aload_n 0, 1) := by decide +kernel
theorem dX4_look_118 : decode cX4_look 118 = .ok (.iload_n 1, 1) := by decide +kernel
theorem dX4_look_119 : decode cX4_look 119 = .ok (.bipush 13, 2) := by decide +kernel
theorem dX4_look_121 : decode cX4_look 121 = .ok (.iload_n 2, 1) := by decide +kernel
theorem dX4_look_122 : decode cX4_look 122 = .ok (.ifCond .eq 7, 3) := by decide +kernel
theorem dX4_look_125 : decode cX4_look 125 = .ok (.iconst 0, 1) := by decide +kernel
theorem dX4_look_126 : decode cX4_look 126 = .ok (.goto 10, 3) := by decide +kernel
theorem dX4_look_129 : decode cX4_look 129 = .ok (.aload_n 0, 1) := by decide +kernel
theorem dX4_look_130 : decode cX4_look 130 = .ok (.iload_n 1, 1) := by decide +kernel
theorem dX4_look_131 : decode cX4_look 131 = .ok (.bipush 13, 2) := by decide +kernel
theorem dX4_look_133 : decode cX4_look 133 = .ok (.invokevirtual 36, 3) := by decide +kernel
theorem dX4_look_136 : decode cX4_look 136 = .ok (.invokevirtual 40, 3) := by decide +kernel
theorem dX4_look_139 : decode cX4_look 139 = .ok (.aload_n 0, 1) := by decide +kernel
theorem dX4_look_140 : decode cX4_look 140 = .ok (.iload_n 1, 1) := by decide +kernel
theorem dX4_look_141 : decode cX4_look 141 = .ok (.iload_n 2, 1) := by decide +kernel
theorem dX4_look_142 : decode cX4_look 142 = .ok (.ifCond .eq 7, 3) := by decide +kernel
theorem dX4_look_145 : decode cX4_look 145 = .ok (.iconst 1, 1) := by decide +kernel
theorem dX4_look_146 : decode cX4_look 146 = .ok (.goto 4, 3) := by decide +kernel
theorem dX4_look_149 : decode cX4_look 149 = .ok (.iconst 0, 1) := by decide +kernel
theorem dX4_look_150 : decode cX4_look 150 = .ok (.invokevirtual 54, 3) := by decide +kernel
theorem dX4_look_153 : decode cX4_look 153 = .ok (.goto 21, 3) := by decide +kernel
theorem dX4_look_156 : decode cX4_look 156 = .ok (.iload_n 2, 1) := by decide +kernel
theorem dX4_look_157 : decode cX4_look 157 = .ok (.ifCond .ne 17, 3) := by decide +kernel
theorem dX4_look_160 : decode cX4_look 160 = .ok (.aload_n 0, 1) := by decide +kernel
theorem dX4_look_161 : decode cX4_look 161 = .ok (.iload_n 1, 1) := by decide +kernel
theorem dX4_look_162 : decode cX4_look 162 = .ok (.invokevirtual 69, 3) := by decide +kernel
theorem dX4_look_165 : decode cX4_look 165 = .ok (.ifCond .eq 9, 3) := by decide +kernel
theorem dX4_look_168 : decode cX4_look 168 = .ok (.aload_n 0, 1) := by decide +kernel
theorem dX4_look_169 : decode cX4_look 169 = .ok (.iload_n 1, 1) := by decide +kernel
theorem dX4_look_170 : decode cX4_look 170 = .ok (.iconst 0, 1) := by decide +kernel
theorem dX4_look_171 : decode cX4_look 171 = .ok (.invokevirtual 54, 3) := by decide +kernel
theorem dX4_look_174 : decode cX4_look 174 = .ok (.return_, 1) := by decide +kernel
theorem dX4_pass_0 : decode cX4_pass 0 = .ok (.iconst 0, 1) := by decide +kernel
theorem dX4_pass_1 : decode cX4_pass 1 = .ok (.istore_n 1, 1) := by decide +kernel
theorem dX4_pass_2 : decode cX4_pass 2 = .ok (.iload_n 1, 1) := by decide +kernel
theorem dX4_pass_3 : decode cX4_pass 3 = .ok (.aload_n 0, 1) := by decide +kernel
theorem dX4_pass_4 : decode cX4_pass 4 = .ok (.getfield 7, 3) := by decide +kernel
theorem dX4_pass_7 : decode cX4_pass 7 = .ok (.iconst 0, 1) := by decide +kernel
theorem dX4_pass_8 : decode cX4_pass 8 = .ok (.iaload, 1) := by decide +kernel
theorem dX4_pass_9 : decode cX4_pass 9 = .ok (.if_icmp .ge 27, 3) := by decide +kernel
theorem dX4_pass_12 : decode cX4_pass 12 = .ok (.aload_n 0, 1) := by decide +kernel
theorem dX4_pass_13 : decode cX4_pass 13 = .ok (.iload_n 1, 1) := by decide +kernel
theorem dX4_pass_14 : decode cX4_pass 14 = .ok (.invokevirtual 95, 3) := by decide +kernel
theorem dX4_pass_17 : decode cX4_pass 17 = .ok (.aload_n 0, 1) := by decide +kernel
theorem dX4_pass_18 : decode cX4_pass 18 = .ok (.getfield 19, 3) := by decide +kernel
theorem dX4_pass_21 : decode cX4_pass 21 = .ok (.iload_n 1, 1) := by decide +kernel
theorem dX4_pass_22 : decode cX4_pass 22 = .ok (.aload_n 0, 1) := by decide +kernel
theorem dX4_pass_23 : decode cX4_pass 23 = .ok (.iload_n 1, 1) := by decide +kernel
theorem dX4_pass_24 : decode cX4_pass 24 = .ok (.bipush 9, 2) := by decide +kernel
theorem dX4_pass_26 : decode cX4_pass 26 = .ok (.invokevirtual 36, 3) := by decide +kernel
theorem dX4_pass_29 : decode cX4_pass 29 = .ok (.iastore, 1) := by decide +kernel
theorem dX4_pass_30 : decode cX4_pass 30 = .ok (.iinc 1 1, 3) := by decide +kernel
theorem dX4_pass_33 : decode cX4_pass 33 = .ok (.goto (-31), 3) := by decide +kernel
theorem dX4_pass_36 : decode cX4_pass 36 = .ok (.iconst 0, 1) := by decide +kernel
theorem dX4_pass_37 : decode cX4_pass 37 = .ok (.istore_n 1, 1) := by decide +kernel
theorem dX4_pass_38 : decode cX4_pass 38 = .ok (.iload_n 1, 1) := by decide +kernel
theorem dX4_pass_39 : decode cX4_pass 39 = .ok (.aload_n 0, 1) := by decide +kernel
theorem dX4_pass_40 : decode cX4_pass 40 = .ok (.getfield 7, 3) := by decide +kernel
theorem dX4_pass_43 : decode cX4_pass 43 = .ok (.iconst 0, 1) := by decide +kernel
theorem dX4_pass_44 : decode cX4_pass 44 = .ok (.iaload, 1) := by decide +kernel
theorem dX4_pass_45 : decode cX4_pass 45 = .ok (.if_icmp .ge 14, 3) := by decide +kernel
theorem dX4_pass_48 : decode cX4_pass 48 = .ok (.aload_n 0, 1) := by decide +kernel
theorem dX4_pass_49 : decode cX4_pass 49 = .ok (.iload_n 1, 1) := by decide +kernel
theorem dX4_pass_50 : decode cX4_pass 50 = .ok (.invokevirtual 98, 3) := by decide +kernel
theorem dX4_pass_53 : decode cX4_pass 53 = .ok (.iinc 1 1, 3) := by decide +kernel
theorem dX4_pass_56 : decode cX4_pass 56 = .ok (.goto (-18), 3) := by decide +kernel
theorem dX4_pass_59 : decode cX4_pass 59 = .ok (.iconst 0, 1) := by decide +kernel
theorem dX4_pass_60 : decode cX4_pass 60 = .ok (.istore_n 1, 1) := by decide +kernel
theorem dX4_pass_61 : decode cX4_pass 61 = .ok (.iload_n 1, 1) := by decide +kernel
theorem dX4_pass_62 : decode cX4_pass 62 = .ok (.aload_n 0, 1) := by decide +kernel
theorem dX4_pass_63 : decode cX4_pass 63 = .ok (.getfield 7, 3) := by decide +kernel
theorem dX4_pass_66 : decode cX4_pass 66 = .ok (.iconst 0, 1) := by decide +kernel
theorem dX4_pass_67 : decode cX4_pass 67 = .ok (.iaload, 1) := by decide +kernel
theorem dX4_pass_68 : decode cX4_pass 68 = .ok (.if_icmp .ge 57, 3) := by decide +kernel
theorem dX4_pass_71 : decode cX4_pass 71 = .ok (.aload_n 0, 1) := by decide +kernel
theorem dX4_pass_72 : decode cX4_pass 72 = .ok (.iload_n 1, 1) := by decide +kernel
theorem dX4_pass_73 : decode cX4_pass 73 = .ok (.bipush 12, 2) := by decide +kernel
theorem dX4_pass_75 : decode cX4_pass 75 = .ok (.aload_n 0, 1) := by decide +kernel
theorem dX4_pass_76 : decode cX4_pass 76 = .ok (.iload_n 1, 1) := by decide +kernel
theorem dX4_pass_77 : decode cX4_pass 77 = .ok (.bipush 12, 2) := by decide +kernel
theorem dX4_pass_79 : decode cX4_pass 79 = .ok (.invokevirtual 36, 3) := by decide +kernel
theorem dX4_pass_82 : decode cX4_pass 82 = .ok (.ifCond .le 15, 3) := by decide +kernel
theorem dX4_pass_85 : decode cX4_pass 85 = .ok (.aload_n 0, 1) := by decide +kernel
theorem dX4_pass_86 : decode cX4_pass 86 = .ok (.iload_n 1, 1) := by decide +kernel
theorem dX4_pass_87 : decode cX4_pass 87 = .ok (.bipush 12, 2) := by decide +kernel
theorem dX4_pass_89 : decode cX4_pass 89 = .ok (.invokevirtual 36, 3) := by decide +kernel
theorem dX4_pass_92 : decode cX4_pass 92 = .ok (.iconst 1, 1) := by decide +kernel
theorem dX4_pass_93 : decode cX4_pass 93 = .ok (.isub, 1) := by decide +kernel
theorem dX4_pass_94 : decode cX4_pass 94 = .ok (.goto 4, 3) := by decide +kernel
theorem dX4_pass_97 : decode cX4_pass 97 = .ok (.iconst 0, 1) := by decide +kernel
theorem dX4_pass_98 : decode cX4_pass 98 = .ok (.invokevirtual 40, 3) := by decide +kernel
theorem dX4_pass_101 : decode cX4_pass 101 = .ok (.aload_n 0, 1) := by decide +kernel
theorem dX4_pass_102 : decode cX4_pass 102 = .ok (.iload_n 1, 1) := by decide +kernel
theorem dX4_pass_103 : decode cX4_pass 103 = .ok (.bipush 9, 2) := by decide +kernel
theorem dX4_pass_105 : decode cX4_pass 105 = .ok (.invokevirtual 36, 3) := by decide +kernel
theorem dX4_pass_108 : decode cX4_pass 108 = .ok (.iconst 3, 1) := by decide +kernel
theorem dX4_pass_109 : decode cX4_pass 109 = .ok (.if_icmp .ne 10, 3) := by decide +kernel
theorem dX4_pass_112 : decode cX4_pass 112 = .ok (.aload_n 0, 1) := by decide +kernel
theorem dX4_pass_113 : decode cX4_pass 113 = .ok (.iload_n 1, 1) := by decide +kernel
theorem dX4_pass_114 : decode cX4_pass 114 = .ok (.bipush 19, 2) := by decide +kernel
theorem dX4_pass_116 : decode cX4_pass 116 = .ok (.invokevirtual 50, 3) := by decide +kernel
theorem dX4_pass_119 : decode cX4_pass 119 = .ok (.iinc 1 1, 3) := by decide +kernel
theorem dX4_pass_122 : decode cX4_pass 122 = .ok (.goto (-61), 3) := by decide +kernel
theorem dX4_pass_125 : decode cX4_pass 125 = .ok (.aload_n 0, 1) := by decide +kernel
theorem dX4_pass_126 : decode cX4_pass 126 = .ok (.getfield 7, 3) := by decide +kernel
theorem dX4_pass_129 : decode cX4_pass 129 = .ok (.iconst 2, 1) := by decide +kernel
theorem dX4_pass_130 : decode cX4_pass 130 = .ok (.dup2, 1) := by decide +kernel
theorem dX4_pass_131 : decode cX4_pass 131 = .ok (.iaload, 1) := by decide +kernel
theorem dX4_pass_132 : decode cX4_pass 132 = .ok (.iconst 1, 1) := by decide +kernel
theorem dX4_pass_133 : decode cX4_pass 133 = .ok (.iadd, 1) := by decide +kernel
theorem dX4_pass_134 : decode cX4_pass 134 = .ok (.iastore, 1) := by decide +kernel
theorem dX4_pass_135 : decode cX4_pass 135 = .ok (.return_, 1) := by decide +kernel
theorem dX4_save_0 : decode cX4_save 0 = .ok (.aload_n 0, 1) := by decide +kernel
theorem dX4_save_1 : decode cX4_save 1 = .ok (.getfield 101, 3) := by decide +kernel
theorem dX4_save_4 : decode cX4_save 4 = .ok (.bipush 6, 2) := by decide +kernel
theorem dX4_save_6 : decode cX4_save 6 = .ok (.if_icmp .ne 46, 3) := by decide +kernel
theorem dX4_save_9 : decode cX4_save 9 = .ok (.sipush 228, 3) := by decide +kernel
theorem dX4_save_12 : decode cX4_save 12 = .ok (.istore_n 1, 1) := by decide +kernel
theorem dX4_save_13 : decode cX4_save 13 = .ok (.iload_n 1, 1) := by decide +kernel
theorem dX4_save_14 : decode cX4_save 14 = .ok (.sipush 1368, 3) := by decide +kernel
theorem dX4_save_17 : decode cX4_save 17 = .ok (.if_icmp .ge 25, 3) := by decide +kernel
theorem dX4_save_20 : decode cX4_save 20 = .ok (.aload_n 0, 1) := by decide +kernel
theorem dX4_save_21 : decode cX4_save 21 = .ok (.getfield 13, 3) := by decide +kernel
theorem dX4_save_24 : decode cX4_save 24 = .ok (.iload_n 1, 1) := by decide +kernel
theorem dX4_save_25 : decode cX4_save 25 = .ok (.sipush 228, 3) := by decide +kernel
theorem dX4_save_28 : decode cX4_save 28 = .ok (.isub, 1) := by decide +kernel
theorem dX4_save_29 : decode cX4_save 29 = .ok (.aload_n 0, 1) := by decide +kernel
theorem dX4_save_30 : decode cX4_save 30 = .ok (.getfield 13, 3) := by decide +kernel
theorem dX4_save_33 : decode cX4_save 33 = .ok (.iload_n 1, 1) := by decide +kernel
theorem dX4_save_34 : decode cX4_save 34 = .ok (.iaload, 1) := by decide +kernel
theorem dX4_save_35 : decode cX4_save 35 = .ok (.iastore, 1) := by decide +kernel
theorem dX4_save_36 : decode cX4_save 36 = .ok (.iinc 1 1, 3) := by decide +kernel
theorem dX4_save_39 : decode cX4_save 39 = .ok (.goto (-26), 3) := by decide +kernel
theorem dX4_save_42 : decode cX4_save 42 = .ok (.aload_n 0, 1) := by decide +kernel
theorem dX4_save_43 : decode cX4_save 43 = .ok (.dup, 1) := by decide +kernel
theorem dX4_save_44 : decode cX4_save 44 = .ok (.getfield 101, 3) := by decide +kernel
theorem dX4_save_47 : decode cX4_save 47 = .ok (.iconst 1, 1) := by decide +kernel
theorem dX4_save_48 : decode cX4_save 48 = .ok (.isub, 1) := by decide +kernel
theorem dX4_save_49 : decode cX4_save 49 = .ok (.putfield 101, 3) := by decide +kernel
theorem dX4_save_52 : decode cX4_save 52 = .ok (.iconst 0, 1) := by decide +kernel
theorem dX4_save_53 : decode cX4_save 53 = .ok (.istore_n 1, 1) := by decide +kernel
theorem dX4_save_54 : decode cX4_save 54 = .ok (.iload_n 1, 1) := by decide +kernel
theorem dX4_save_55 : decode cX4_save 55 = .ok (.sipush 228, 3) := by decide +kernel
theorem dX4_save_58 : decode cX4_save 58 = .ok (.if_icmp .ge 30, 3) := by decide +kernel
theorem dX4_save_61 : decode cX4_save 61 = .ok (.aload_n 0, 1) := by decide +kernel
theorem dX4_save_62 : decode cX4_save 62 = .ok (.getfield 13, 3) := by decide +kernel
theorem dX4_save_65 : decode cX4_save 65 = .ok (.sipush 228, 3) := by decide +kernel
theorem dX4_save_68 : decode cX4_save 68 = .ok (.aload_n 0, 1) := by decide +kernel
theorem dX4_save_69 : decode cX4_save 69 = .ok (.getfield 101, 3) := by decide +kernel
theorem dX4_save_72 : decode cX4_save 72 = .ok (.imul, 1) := by decide +kernel
theorem dX4_save_73 : decode cX4_save 73 = .ok (.iload_n 1, 1) := by decide +kernel
theorem dX4_save_74 : decode cX4_save 74 = .ok (.iadd, 1) := by decide +kernel
theorem dX4_save_75 : decode cX4_save 75 = .ok (.aload_n 0, 1) := by decide +kernel
theorem dX4_save_76 : decode cX4_save 76 = .ok (.getfield 7, 3) := by decide +kernel
theorem dX4_save_79 : decode cX4_save 79 = .ok (.iload_n 1, 1) := by decide +kernel
theorem dX4_save_80 : decode cX4_save 80 = .ok (.iaload, 1) := by decide +kernel
theorem dX4_save_81 : decode cX4_save 81 = .ok (.iastore, 1) := by decide +kernel
theorem dX4_save_82 : decode cX4_save 82 = .ok (.iinc 1 1, 3) := by decide +kernel
theorem dX4_save_85 : decode cX4_save 85 = .ok (.goto (-31), 3) := by decide +kernel
theorem dX4_save_88 : decode cX4_save 88 = .ok (.aload_n 0, 1) := by decide +kernel
theorem dX4_save_89 : decode cX4_save 89 = .ok (.dup, 1) := by decide +kernel
theorem dX4_save_90 : decode cX4_save 90 = .ok (.getfield 101, 3) := by decide +kernel
theorem dX4_save_93 : decode cX4_save 93 = .ok (.iconst 1, 1) := by decide +kernel
theorem dX4_save_94 : decode cX4_save 94 = .ok (.iadd, 1) := by decide +kernel
theorem dX4_save_95 : decode cX4_save 95 = .ok (.putfield 101, 3) := by decide +kernel
theorem dX4_save_98 : decode cX4_save 98 = .ok (.return_, 1) := by decide +kernel
theorem dX4_undo_0 : decode cX4_undo 0 = .ok (.aload_n 0, 1) := by decide +kernel
theorem dX4_undo_1 : decode cX4_undo 1 = .ok (.aload_n 0, 1) := by decide +kernel
theorem dX4_undo_2 : decode cX4_undo 2 = .ok (.getfield 101, 3) := by decide +kernel
theorem dX4_undo_5 : decode cX4_undo 5 = .ok (.ifCond .le 7, 3) := by decide +kernel
theorem dX4_undo_8 : decode cX4_undo 8 = .ok (.iconst 0, 1) := by decide +kernel
theorem dX4_undo_9 : decode cX4_undo 9 = .ok (.goto 4, 3) := by decide +kernel
theorem dX4_undo_12 : decode cX4_undo 12 = .ok (.iconst 1, 1) := by decide +kernel
theorem dX4_undo_13 : decode cX4_undo 13 = .ok (.putfield 28, 3) := by decide +kernel
theorem dX4_undo_16 : decode cX4_undo 16 = .ok (.aload_n 0, 1) := by decide +kernel
theorem dX4_undo_17 : decode cX4_undo 17 = .ok (.getfield 28, 3) := by decide +kernel
theorem dX4_undo_20 : decode cX4_undo 20 = .ok (.ifCond .le 5, 3) := by decide +kernel
theorem dX4_undo_23 : decode cX4_undo 23 = .ok (.iconst 0, 1) := by decide +kernel
theorem dX4_undo_24 : decode cX4_undo 24 = .ok (.ireturn, 1) := by decide +kernel
theorem dX4_undo_25 : decode cX4_undo 25 = .ok (.aload_n 0, 1) := by decide +kernel
theorem dX4_undo_26 : decode cX4_undo 26 = .ok (.dup, 1) := by decide +kernel
theorem dX4_undo_27 : decode cX4_undo 27 = .ok (.getfield 101, 3) := by decide +kernel
theorem dX4_undo_30 : decode cX4_undo 30 = .ok (.iconst 1, 1) := by decide +kernel
theorem dX4_undo_31 : decode cX4_undo 31 = .ok (.isub, 1) := by decide +kernel
theorem dX4_undo_32 : decode cX4_undo 32 = .ok (.putfield 101, 3) := by decide +kernel
theorem dX4_undo_35 : decode cX4_undo 35 = .ok (.iconst 0, 1) := by decide +kernel
theorem dX4_undo_36 : decode cX4_undo 36 = .ok (.istore_n 1, 1) := by decide +kernel
theorem dX4_undo_37 : decode cX4_undo 37 = .ok (.iload_n 1, 1) := by decide +kernel
theorem dX4_undo_38 : decode cX4_undo 38 = .ok (.sipush 228, 3) := by decide +kernel
theorem dX4_undo_41 : decode cX4_undo 41 = .ok (.if_icmp .ge 30, 3) := by decide +kernel
theorem dX4_undo_44 : decode cX4_undo 44 = .ok (.aload_n 0, 1) := by decide +kernel
theorem dX4_undo_45 : decode cX4_undo 45 = .ok (.getfield 7, 3) := by decide +kernel
theorem dX4_undo_48 : decode cX4_undo 48 = .ok (.iload_n 1, 1) := by decide +kernel
theorem dX4_undo_49 : decode cX4_undo 49 = .ok (.aload_n 0, 1) := by decide +kernel
theorem dX4_undo_50 : decode cX4_undo 50 = .ok (.getfield 13, 3) := by decide +kernel
theorem dX4_undo_53 : decode cX4_undo 53 = .ok (.sipush 228, 3) := by decide +kernel
theorem dX4_undo_56 : decode cX4_undo 56 = .ok (.aload_n 0, 1) := by decide +kernel
theorem dX4_undo_57 : decode cX4_undo 57 = .ok (.getfield 101, 3) := by decide +kernel
theorem dX4_undo_60 : decode cX4_undo 60 = .ok (.imul, 1) := by decide +kernel
theorem dX4_undo_61 : decode cX4_undo 61 = .ok (.iload_n 1, 1) := by decide +kernel
theorem dX4_undo_62 : decode cX4_undo 62 = .ok (.iadd, 1) := by decide +kernel
theorem dX4_undo_63 : decode cX4_undo 63 = .ok (.iaload, 1) := by decide +kernel
theorem dX4_undo_64 : decode cX4_undo 64 = .ok (.iastore, 1) := by decide +kernel
theorem dX4_undo_65 : decode cX4_undo 65 = .ok (.iinc 1 1, 3) := by decide +kernel
theorem dX4_undo_68 : decode cX4_undo 68 = .ok (.goto (-31), 3) := by decide +kernel
theorem dX4_undo_71 : decode cX4_undo 71 = .ok (.aload_n 0, 1) := by decide +kernel
theorem dX4_undo_72 : decode cX4_undo 72 = .ok (.getfield 101, 3) := by decide +kernel
theorem dX4_undo_75 : decode cX4_undo 75 = .ok (.ireturn, 1) := by decide +kernel
theorem dX4_keepAside_0 : decode cX4_keepAside 0 = .ok (.iconst 0, 1) := by decide +kernel
theorem dX4_keepAside_1 : decode cX4_keepAside 1 = .ok (.istore_n 1, 1) := by decide +kernel
theorem dX4_keepAside_2 : decode cX4_keepAside 2 = .ok (.iload_n 1, 1) := by decide +kernel
theorem dX4_keepAside_3 : decode cX4_keepAside 3 = .ok (.sipush 228, 3) := by decide +kernel
theorem dX4_keepAside_6 : decode cX4_keepAside 6 = .ok (.if_icmp .ge 21, 3) := by decide +kernel
theorem dX4_keepAside_9 : decode cX4_keepAside 9 = .ok (.aload_n 0, 1) := by decide +kernel
theorem dX4_keepAside_10 : decode cX4_keepAside 10 = .ok (.getfield 22, 3) := by decide +kernel
theorem dX4_keepAside_13 : decode cX4_keepAside 13 = .ok (.iload_n 1, 1) := by decide +kernel
theorem dX4_keepAside_14 : decode cX4_keepAside 14 = .ok (.aload_n 0, 1) := by decide +kernel
theorem dX4_keepAside_15 : decode cX4_keepAside 15 = .ok (.getfield 7, 3) := by decide +kernel
theorem dX4_keepAside_18 : decode cX4_keepAside 18 = .ok (.iload_n 1, 1) := by decide +kernel
theorem dX4_keepAside_19 : decode cX4_keepAside 19 = .ok (.iaload, 1) := by decide +kernel
theorem dX4_keepAside_20 : decode cX4_keepAside 20 = .ok (.iastore, 1) := by decide +kernel
theorem dX4_keepAside_21 : decode cX4_keepAside 21 = .ok (.iinc 1 1, 3) := by decide +kernel
theorem dX4_keepAside_24 : decode cX4_keepAside 24 = .ok (.goto (-22), 3) := by decide +kernel
theorem dX4_keepAside_27 : decode cX4_keepAside 27 = .ok (.return_, 1) := by decide +kernel
theorem dX4_takeBack_0 : decode cX4_takeBack 0 = .ok (.iconst 0, 1) := by decide +kernel
theorem dX4_takeBack_1 : decode cX4_takeBack 1 = .ok (.istore_n 1, 1) := by decide +kernel
theorem dX4_takeBack_2 : decode cX4_takeBack 2 = .ok (.iload_n 1, 1) := by decide +kernel
theorem dX4_takeBack_3 : decode cX4_takeBack 3 = .ok (.sipush 228, 3) := by decide +kernel
theorem dX4_takeBack_6 : decode cX4_takeBack 6 = .ok (.if_icmp .ge 21, 3) := by decide +kernel
theorem dX4_takeBack_9 : decode cX4_takeBack 9 = .ok (.aload_n 0, 1) := by decide +kernel
theorem dX4_takeBack_10 : decode cX4_takeBack 10 = .ok (.getfield 7, 3) := by decide +kernel
theorem dX4_takeBack_13 : decode cX4_takeBack 13 = .ok (.iload_n 1, 1) := by decide +kernel
theorem dX4_takeBack_14 : decode cX4_takeBack 14 = .ok (.aload_n 0, 1) := by decide +kernel
theorem dX4_takeBack_15 : decode cX4_takeBack 15 = .ok (.getfield 22, 3) := by decide +kernel
theorem dX4_takeBack_18 : decode cX4_takeBack 18 = .ok (.iload_n 1, 1) := by decide +kernel
theorem dX4_takeBack_19 : decode cX4_takeBack 19 = .ok (.iaload, 1) := by decide +kernel
theorem dX4_takeBack_20 : decode cX4_takeBack 20 = .ok (.iastore, 1) := by decide +kernel
theorem dX4_takeBack_21 : decode cX4_takeBack 21 = .ok (.iinc 1 1, 3) := by decide +kernel
theorem dX4_takeBack_24 : decode cX4_takeBack 24 = .ok (.goto (-22), 3) := by decide +kernel
theorem dX4_takeBack_27 : decode cX4_takeBack 27 = .ok (.return_, 1) := by decide +kernel
theorem dX4_isValue_0 : decode cX4_isValue 0 = .ok (.iload_n 0, 1) := by decide +kernel
theorem dX4_isValue_1 : decode cX4_isValue 1 = .ok (.tableswitch 84 0 5 #[39, 49, 49, 58, 67, 75], 39) := by decide +kernel
theorem dX4_isValue_40 : decode cX4_isValue 40 = .ok (.iload_n 1, 1) := by decide +kernel
theorem dX4_isValue_41 : decode cX4_isValue 41 = .ok (.bipush 100, 2) := by decide +kernel
theorem dX4_isValue_43 : decode cX4_isValue 43 = .ok (.sipush 5000, 3) := by decide +kernel
theorem dX4_isValue_46 : decode cX4_isValue 46 = .ok (.invokestatic 32, 3) := by decide +kernel
theorem dX4_isValue_49 : decode cX4_isValue 49 = .ok (.ireturn, 1) := by decide +kernel
theorem dX4_isValue_50 : decode cX4_isValue 50 = .ok (.iload_n 1, 1) := by decide +kernel
theorem dX4_isValue_51 : decode cX4_isValue 51 = .ok (.iconst 1, 1) := by decide +kernel
theorem dX4_isValue_52 : decode cX4_isValue 52 = .ok (.sipush 1000, 3) := by decide +kernel
theorem dX4_isValue_55 : decode cX4_isValue 55 = .ok (.invokestatic 32, 3) := by decide +kernel
theorem dX4_isValue_58 : decode cX4_isValue 58 = .ok (.ireturn, 1) := by decide +kernel
theorem dX4_isValue_59 : decode cX4_isValue 59 = .ok (.iload_n 1, 1) := by decide +kernel
theorem dX4_isValue_60 : decode cX4_isValue 60 = .ok (.bipush 50, 2) := by decide +kernel
theorem dX4_isValue_62 : decode cX4_isValue 62 = .ok (.bipush 100, 2) := by decide +kernel
theorem dX4_isValue_64 : decode cX4_isValue 64 = .ok (.invokestatic 32, 3) := by decide +kernel
theorem dX4_isValue_67 : decode cX4_isValue 67 = .ok (.ireturn, 1) := by decide +kernel
theorem dX4_isValue_68 : decode cX4_isValue 68 = .ok (.iload_n 1, 1) := by decide +kernel
theorem dX4_isValue_69 : decode cX4_isValue 69 = .ok (.iconst 0, 1) := by decide +kernel
theorem dX4_isValue_70 : decode cX4_isValue 70 = .ok (.bipush 50, 2) := by decide +kernel
theorem dX4_isValue_72 : decode cX4_isValue 72 = .ok (.invokestatic 32, 3) := by decide +kernel
theorem dX4_isValue_75 : decode cX4_isValue 75 = .ok (.ireturn, 1) := by decide +kernel
theorem dX4_isValue_76 : decode cX4_isValue 76 = .ok (.iload_n 1, 1) := by decide +kernel
theorem dX4_isValue_77 : decode cX4_isValue 77 = .ok (.iconst 1, 1) := by decide +kernel
theorem dX4_isValue_78 : decode cX4_isValue 78 = .ok (.sipush 200, 3) := by decide +kernel
theorem dX4_isValue_81 : decode cX4_isValue 81 = .ok (.invokestatic 32, 3) := by decide +kernel
theorem dX4_isValue_84 : decode cX4_isValue 84 = .ok (.ireturn, 1) := by decide +kernel
theorem dX4_isValue_85 : decode cX4_isValue 85 = .ok (.iload_n 1, 1) := by decide +kernel
theorem dX4_isValue_86 : decode cX4_isValue 86 = .ok (.iconst 1, 1) := by decide +kernel
theorem dX4_isValue_87 : decode cX4_isValue 87 = .ok (.iconst 4, 1) := by decide +kernel
theorem dX4_isValue_88 : decode cX4_isValue 88 = .ok (.invokestatic 32, 3) := by decide +kernel
theorem dX4_isValue_91 : decode cX4_isValue 91 = .ok (.ireturn, 1) := by decide +kernel
theorem dX4_bring_0 : decode cX4_bring 0 = .ok (.aload_n 0, 1) := by decide +kernel
theorem dX4_bring_1 : decode cX4_bring 1 = .ok (.getfield 7, 3) := by decide +kernel
theorem dX4_bring_4 : decode cX4_bring 4 = .ok (.iconst 0, 1) := by decide +kernel
theorem dX4_bring_5 : decode cX4_bring 5 = .ok (.iaload, 1) := by decide +kernel
theorem dX4_bring_6 : decode cX4_bring 6 = .ok (.istore 5, 2) := by decide +kernel
theorem dX4_bring_8 : decode cX4_bring 8 = .ok (.iconst 0, 1) := by decide +kernel
theorem dX4_bring_9 : decode cX4_bring 9 = .ok (.istore 6, 2) := by decide +kernel
theorem dX4_bring_11 : decode cX4_bring 11 = .ok (.iload 6, 2) := by decide +kernel
theorem dX4_bring_13 : decode cX4_bring 13 = .ok (.bipush 20, 2) := by decide +kernel
theorem dX4_bring_15 : decode cX4_bring 15 = .ok (.if_icmp .ge 18, 3) := by decide +kernel
theorem dX4_bring_18 : decode cX4_bring 18 = .ok (.aload_n 0, 1) := by decide +kernel
theorem dX4_bring_19 : decode cX4_bring 19 = .ok (.iload 5, 2) := by decide +kernel
theorem dX4_bring_21 : decode cX4_bring 21 = .ok (.iload 6, 2) := by decide +kernel
theorem dX4_bring_23 : decode cX4_bring 23 = .ok (.iconst 0, 1) := by decide +kernel
theorem dX4_bring_24 : decode cX4_bring 24 = .ok (.invokevirtual 40, 3) := by decide +kernel
theorem dX4_bring_27 : decode cX4_bring 27 = .ok (.iinc 6 1, 3) := by decide +kernel
theorem dX4_bring_30 : decode cX4_bring 30 = .ok (.goto (-19), 3) := by decide +kernel
theorem dX4_bring_33 : decode cX4_bring 33 = .ok (.aload_n 0, 1) := by decide +kernel
theorem dX4_bring_34 : decode cX4_bring 34 = .ok (.iload 5, 2) := by decide +kernel
theorem dX4_bring_36 : decode cX4_bring 36 = .ok (.iconst 0, 1) := by decide +kernel
theorem dX4_bring_37 : decode cX4_bring 37 = .ok (.iload_n 1, 1) := by decide +kernel
theorem dX4_bring_38 : decode cX4_bring 38 = .ok (.invokevirtual 40, 3) := by decide +kernel
theorem dX4_bring_41 : decode cX4_bring 41 = .ok (.aload_n 0, 1) := by decide +kernel
theorem dX4_bring_42 : decode cX4_bring 42 = .ok (.iload 5, 2) := by decide +kernel
theorem dX4_bring_44 : decode cX4_bring 44 = .ok (.iconst 1, 1) := by decide +kernel
theorem dX4_bring_45 : decode cX4_bring 45 = .ok (.iload_n 2, 1) := by decide +kernel
theorem dX4_bring_46 : decode cX4_bring 46 = .ok (.invokevirtual 40, 3) := by decide +kernel
theorem dX4_bring_49 : decode cX4_bring 49 = .ok (.aload_n 0, 1) := by decide +kernel
theorem dX4_bring_50 : decode cX4_bring 50 = .ok (.iload 5, 2) := by decide +kernel
theorem dX4_bring_52 : decode cX4_bring 52 = .ok (.iconst 2, 1) := by decide +kernel
theorem dX4_bring_53 : decode cX4_bring 53 = .ok (.iload_n 3, 1) := by decide +kernel
theorem dX4_bring_54 : decode cX4_bring 54 = .ok (.invokevirtual 40, 3) := by decide +kernel
theorem dX4_bring_57 : decode cX4_bring 57 = .ok (.aload_n 0, 1) := by decide +kernel
theorem dX4_bring_58 : decode cX4_bring 58 = .ok (.iload 5, 2) := by decide +kernel
theorem dX4_bring_60 : decode cX4_bring 60 = .ok (.iconst 3, 1) := by decide +kernel
theorem dX4_bring_61 : decode cX4_bring 61 = .ok (.bipush 90, 2) := by decide +kernel
theorem dX4_bring_63 : decode cX4_bring 63 = .ok (.invokevirtual 40, 3) := by decide +kernel
theorem dX4_bring_66 : decode cX4_bring 66 = .ok (.aload_n 0, 1) := by decide +kernel
theorem dX4_bring_67 : decode cX4_bring 67 = .ok (.iload 5, 2) := by decide +kernel
theorem dX4_bring_69 : decode cX4_bring 69 = .ok (.iconst 4, 1) := by decide +kernel
theorem dX4_bring_70 : decode cX4_bring 70 = .ok (.iconst 2, 1) := by decide +kernel
theorem dX4_bring_71 : decode cX4_bring 71 = .ok (.invokevirtual 40, 3) := by decide +kernel
theorem dX4_bring_74 : decode cX4_bring 74 = .ok (.aload_n 0, 1) := by decide +kernel
theorem dX4_bring_75 : decode cX4_bring 75 = .ok (.iload 5, 2) := by decide +kernel
theorem dX4_bring_77 : decode cX4_bring 77 = .ok (.iconst 5, 1) := by decide +kernel
theorem dX4_bring_78 : decode cX4_bring 78 = .ok (.bipush 40, 2) := by decide +kernel
theorem dX4_bring_80 : decode cX4_bring 80 = .ok (.invokevirtual 40, 3) := by decide +kernel
theorem dX4_bring_83 : decode cX4_bring 83 = .ok (.aload_n 0, 1) := by decide +kernel
theorem dX4_bring_84 : decode cX4_bring 84 = .ok (.iload 5, 2) := by decide +kernel
theorem dX4_bring_86 : decode cX4_bring 86 = .ok (.bipush 6, 2) := by decide +kernel
theorem dX4_bring_88 : decode cX4_bring 88 = .ok (.iconst 2, 1) := by decide +kernel
theorem dX4_bring_89 : decode cX4_bring 89 = .ok (.invokevirtual 40, 3) := by decide +kernel
theorem dX4_bring_92 : decode cX4_bring 92 = .ok (.aload_n 0, 1) := by decide +kernel
theorem dX4_bring_93 : decode cX4_bring 93 = .ok (.iload 5, 2) := by decide +kernel
theorem dX4_bring_95 : decode cX4_bring 95 = .ok (.bipush 7, 2) := by decide +kernel
theorem dX4_bring_97 : decode cX4_bring 97 = .ok (.iload 4, 2) := by decide +kernel
theorem dX4_bring_99 : decode cX4_bring 99 = .ok (.invokevirtual 40, 3) := by decide +kernel
theorem dX4_bring_102 : decode cX4_bring 102 = .ok (.aload_n 0, 1) := by decide +kernel
theorem dX4_bring_103 : decode cX4_bring 103 = .ok (.iload 5, 2) := by decide +kernel
theorem dX4_bring_105 : decode cX4_bring 105 = .ok (.bipush 15, 2) := by decide +kernel
theorem dX4_bring_107 : decode cX4_bring 107 = .ok (.iconst (-1), 1) := by decide +kernel
theorem dX4_bring_108 : decode cX4_bring 108 = .ok (.invokevirtual 40, 3) := by decide +kernel
theorem dX4_bring_111 : decode cX4_bring 111 = .ok (.aload_n 0, 1) := by decide +kernel
theorem dX4_bring_112 : decode cX4_bring 112 = .ok (.getfield 7, 3) := by decide +kernel
theorem dX4_bring_115 : decode cX4_bring 115 = .ok (.iconst 0, 1) := by decide +kernel
theorem dX4_bring_116 : decode cX4_bring 116 = .ok (.dup2, 1) := by decide +kernel
theorem dX4_bring_117 : decode cX4_bring 117 = .ok (.iaload, 1) := by decide +kernel
theorem dX4_bring_118 : decode cX4_bring 118 = .ok (.iconst 1, 1) := by decide +kernel
theorem dX4_bring_119 : decode cX4_bring 119 = .ok (.iadd, 1) := by decide +kernel
theorem dX4_bring_120 : decode cX4_bring 120 = .ok (.iastore, 1) := by decide +kernel
theorem dX4_bring_121 : decode cX4_bring 121 = .ok (.return_, 1) := by decide +kernel
theorem dX4_addRail_0 : decode cX4_addRail 0 = .ok (.iconst 0, 1) := by decide +kernel
theorem dX4_addRail_1 : decode cX4_addRail 1 = .ok (.iload_n 1, 1) := by decide +kernel
theorem dX4_addRail_2 : decode cX4_addRail 2 = .ok (.invokestatic 104, 3) := by decide +kernel
theorem dX4_addRail_5 : decode cX4_addRail 5 = .ok (.ifCond .eq 38, 3) := by decide +kernel
theorem dX4_addRail_8 : decode cX4_addRail 8 = .ok (.iconst 1, 1) := by decide +kernel
theorem dX4_addRail_9 : decode cX4_addRail 9 = .ok (.iload_n 2, 1) := by decide +kernel
theorem dX4_addRail_10 : decode cX4_addRail 10 = .ok (.invokestatic 104, 3) := by decide +kernel
theorem dX4_addRail_13 : decode cX4_addRail 13 = .ok (.ifCond .eq 30, 3) := by decide +kernel
theorem dX4_addRail_16 : decode cX4_addRail 16 = .ok (.iconst 2, 1) := by decide +kernel
theorem dX4_addRail_17 : decode cX4_addRail 17 = .ok (.iload_n 3, 1) := by decide +kernel
theorem dX4_addRail_18 : decode cX4_addRail 18 = .ok (.invokestatic 104, 3) := by decide +kernel
theorem dX4_addRail_21 : decode cX4_addRail 21 = .ok (.ifCond .eq 22, 3) := by decide +kernel
theorem dX4_addRail_24 : decode cX4_addRail 24 = .ok (.aload_n 0, 1) := by decide +kernel
theorem dX4_addRail_25 : decode cX4_addRail 25 = .ok (.iload 4, 2) := by decide +kernel
theorem dX4_addRail_27 : decode cX4_addRail 27 = .ok (.aload_n 0, 1) := by decide +kernel
theorem dX4_addRail_28 : decode cX4_addRail 28 = .ok (.getfield 7, 3) := by decide +kernel
theorem dX4_addRail_31 : decode cX4_addRail 31 = .ok (.iconst 0, 1) := by decide +kernel
theorem dX4_addRail_32 : decode cX4_addRail 32 = .ok (.iaload, 1) := by decide +kernel
theorem dX4_addRail_33 : decode cX4_addRail 33 = .ok (.invokevirtual 107, 3) := by decide +kernel
theorem dX4_addRail_36 : decode cX4_addRail 36 = .ok (.ifCond .eq 7, 3) := by decide +kernel
theorem dX4_addRail_39 : decode cX4_addRail 39 = .ok (.iconst 1, 1) := by decide +kernel
theorem dX4_addRail_40 : decode cX4_addRail 40 = .ok (.goto 4, 3) := by decide +kernel
theorem dX4_addRail_43 : decode cX4_addRail 43 = .ok (.iconst 0, 1) := by decide +kernel
theorem dX4_addRail_44 : decode cX4_addRail 44 = .ok (.istore 5, 2) := by decide +kernel
theorem dX4_addRail_46 : decode cX4_addRail 46 = .ok (.aload_n 0, 1) := by decide +kernel
theorem dX4_addRail_47 : decode cX4_addRail 47 = .ok (.iload 5, 2) := by decide +kernel
theorem dX4_addRail_49 : decode cX4_addRail 49 = .ok (.ifCond .ne 7, 3) := by decide +kernel
theorem dX4_addRail_52 : decode cX4_addRail 52 = .ok (.iconst 1, 1) := by decide +kernel
theorem dX4_addRail_53 : decode cX4_addRail 53 = .ok (.goto 19, 3) := by decide +kernel
theorem dX4_addRail_56 : decode cX4_addRail 56 = .ok (.aload_n 0, 1) := by decide +kernel
theorem dX4_addRail_57 : decode cX4_addRail 57 = .ok (.getfield 7, 3) := by decide +kernel
theorem dX4_addRail_60 : decode cX4_addRail 60 = .ok (.iconst 0, 1) := by decide +kernel
theorem dX4_addRail_61 : decode cX4_addRail 61 = .ok (.iaload, 1) := by decide +kernel
theorem dX4_addRail_62 : decode cX4_addRail 62 = .ok (.bipush 8, 2) := by decide +kernel
theorem dX4_addRail_64 : decode cX4_addRail 64 = .ok (.if_icmp .ne 7, 3) := by decide +kernel
theorem dX4_addRail_67 : decode cX4_addRail 67 = .ok (.iconst 2, 1) := by decide +kernel
theorem dX4_addRail_68 : decode cX4_addRail 68 = .ok (.goto 4, 3) := by decide +kernel
theorem dX4_addRail_71 : decode cX4_addRail 71 = .ok (.iconst 0, 1) := by decide +kernel
theorem dX4_addRail_72 : decode cX4_addRail 72 = .ok (.putfield 28, 3) := by decide +kernel
theorem dX4_addRail_75 : decode cX4_addRail 75 = .ok (.aload_n 0, 1) := by decide +kernel
theorem dX4_addRail_76 : decode cX4_addRail 76 = .ok (.getfield 28, 3) := by decide +kernel
theorem dX4_addRail_79 : decode cX4_addRail 79 = .ok (.ifCond .le 5, 3) := by decide +kernel
theorem dX4_addRail_82 : decode cX4_addRail 82 = .ok (.iconst 0, 1) := by decide +kernel
theorem dX4_addRail_83 : decode cX4_addRail 83 = .ok (.ireturn, 1) := by decide +kernel
theorem dX4_addRail_84 : decode cX4_addRail 84 = .ok (.aload_n 0, 1) := by decide +kernel
theorem dX4_addRail_85 : decode cX4_addRail 85 = .ok (.invokevirtual 110, 3) := by decide +kernel
theorem dX4_addRail_88 : decode cX4_addRail 88 = .ok (.aload_n 0, 1) := by decide +kernel
theorem dX4_addRail_89 : decode cX4_addRail 89 = .ok (.iload_n 1, 1) := by decide +kernel
theorem dX4_addRail_90 : decode cX4_addRail 90 = .ok (.iload_n 2, 1) := by decide +kernel
theorem dX4_addRail_91 : decode cX4_addRail 91 = .ok (.iload_n 3, 1) := by decide +kernel
theorem dX4_addRail_92 : decode cX4_addRail 92 = .ok (.iload 4, 2) := by decide +kernel
theorem dX4_addRail_94 : decode cX4_addRail 94 = .ok (.invokevirtual 113, 3) := by decide +kernel
theorem dX4_addRail_97 : decode cX4_addRail 97 = .ok (.aload_n 0, 1) := by decide +kernel
theorem dX4_addRail_98 : decode cX4_addRail 98 = .ok (.getfield 7, 3) := by decide +kernel
theorem dX4_addRail_101 : decode cX4_addRail 101 = .ok (.iconst 0, 1) := by decide +kernel
theorem dX4_addRail_102 : decode cX4_addRail 102 = .ok (.iaload, 1) := by decide +kernel
theorem dX4_addRail_103 : decode cX4_addRail 103 = .ok (.iconst 1, 1) := by decide +kernel
theorem dX4_addRail_104 : decode cX4_addRail 104 = .ok (.isub, 1) := by decide +kernel
theorem dX4_addRail_105 : decode cX4_addRail 105 = .ok (.ireturn, 1) := by decide +kernel
theorem dX4_replaced_0 : decode cX4_replaced 0 = .ok (.aload_n 0, 1) := by decide +kernel
theorem dX4_replaced_1 : decode cX4_replaced 1 = .ok (.invokevirtual 110, 3) := by decide +kernel
theorem dX4_replaced_4 : decode cX4_replaced 4 = .ok (.aload_n 0, 1) := by decide +kernel
theorem dX4_replaced_5 : decode cX4_replaced 5 = .ok (.iload_n 1, 1) := by decide +kernel
theorem dX4_replaced_6 : decode cX4_replaced 6 = .ok (.iload_n 2, 1) := by decide +kernel
theorem dX4_replaced_7 : decode cX4_replaced 7 = .ok (.invokevirtual 36, 3) := by decide +kernel
theorem dX4_replaced_10 : decode cX4_replaced 10 = .ok (.istore 4, 2) := by decide +kernel
theorem dX4_replaced_12 : decode cX4_replaced 12 = .ok (.aload_n 0, 1) := by decide +kernel
theorem dX4_replaced_13 : decode cX4_replaced 13 = .ok (.iload_n 1, 1) := by decide +kernel
theorem dX4_replaced_14 : decode cX4_replaced 14 = .ok (.iload_n 2, 1) := by decide +kernel
theorem dX4_replaced_15 : decode cX4_replaced 15 = .ok (.iload_n 3, 1) := by decide +kernel
theorem dX4_replaced_16 : decode cX4_replaced 16 = .ok (.invokevirtual 40, 3) := by decide +kernel
theorem dX4_replaced_19 : decode cX4_replaced 19 = .ok (.iload 4, 2) := by decide +kernel
theorem dX4_replaced_21 : decode cX4_replaced 21 = .ok (.ireturn, 1) := by decide +kernel
theorem dX4_set_0 : decode cX4_set 0 = .ok (.aload_n 0, 1) := by decide +kernel
theorem dX4_set_1 : decode cX4_set 1 = .ok (.iload_n 1, 1) := by decide +kernel
theorem dX4_set_2 : decode cX4_set 2 = .ok (.invokevirtual 117, 3) := by decide +kernel
theorem dX4_set_5 : decode cX4_set 5 = .ok (.ifCond .eq 17, 3) := by decide +kernel
theorem dX4_set_8 : decode cX4_set 8 = .ok (.iload_n 2, 1) := by decide +kernel
theorem dX4_set_9 : decode cX4_set 9 = .ok (.iconst 0, 1) := by decide +kernel
theorem dX4_set_10 : decode cX4_set 10 = .ok (.bipush 6, 2) := by decide +kernel
theorem dX4_set_12 : decode cX4_set 12 = .ok (.invokestatic 32, 3) := by decide +kernel
theorem dX4_set_15 : decode cX4_set 15 = .ok (.ifCond .eq 7, 3) := by decide +kernel
theorem dX4_set_18 : decode cX4_set 18 = .ok (.iconst 1, 1) := by decide +kernel
theorem dX4_set_19 : decode cX4_set 19 = .ok (.goto 4, 3) := by decide +kernel
theorem dX4_set_22 : decode cX4_set 22 = .ok (.iconst 0, 1) := by decide +kernel
theorem dX4_set_23 : decode cX4_set 23 = .ok (.istore 4, 2) := by decide +kernel
theorem dX4_set_25 : decode cX4_set 25 = .ok (.aload_n 0, 1) := by decide +kernel
theorem dX4_set_26 : decode cX4_set 26 = .ok (.iload 4, 2) := by decide +kernel
theorem dX4_set_28 : decode cX4_set 28 = .ok (.ifCond .ne 7, 3) := by decide +kernel
theorem dX4_set_31 : decode cX4_set 31 = .ok (.iconst 1, 1) := by decide +kernel
theorem dX4_set_32 : decode cX4_set 32 = .ok (.goto 16, 3) := by decide +kernel
theorem dX4_set_35 : decode cX4_set 35 = .ok (.iload_n 2, 1) := by decide +kernel
theorem dX4_set_36 : decode cX4_set 36 = .ok (.iload_n 3, 1) := by decide +kernel
theorem dX4_set_37 : decode cX4_set 37 = .ok (.invokestatic 104, 3) := by decide +kernel
theorem dX4_set_40 : decode cX4_set 40 = .ok (.ifCond .eq 7, 3) := by decide +kernel
theorem dX4_set_43 : decode cX4_set 43 = .ok (.iconst 0, 1) := by decide +kernel
theorem dX4_set_44 : decode cX4_set 44 = .ok (.goto 4, 3) := by decide +kernel
theorem dX4_set_47 : decode cX4_set 47 = .ok (.iconst 2, 1) := by decide +kernel
theorem dX4_set_48 : decode cX4_set 48 = .ok (.putfield 28, 3) := by decide +kernel
theorem dX4_set_51 : decode cX4_set 51 = .ok (.aload_n 0, 1) := by decide +kernel
theorem dX4_set_52 : decode cX4_set 52 = .ok (.getfield 28, 3) := by decide +kernel
theorem dX4_set_55 : decode cX4_set 55 = .ok (.ifCond .le 7, 3) := by decide +kernel
theorem dX4_set_58 : decode cX4_set 58 = .ok (.iconst 0, 1) := by decide +kernel
theorem dX4_set_59 : decode cX4_set 59 = .ok (.goto 10, 3) := by decide +kernel
theorem dX4_set_62 : decode cX4_set 62 = .ok (.aload_n 0, 1) := by decide +kernel
theorem dX4_set_63 : decode cX4_set 63 = .ok (.iload_n 1, 1) := by decide +kernel
theorem dX4_set_64 : decode cX4_set 64 = .ok (.iload_n 2, 1) := by decide +kernel
theorem dX4_set_65 : decode cX4_set 65 = .ok (.iload_n 3, 1) := by decide +kernel
theorem dX4_set_66 : decode cX4_set 66 = .ok (.invokevirtual 120, 3) := by decide +kernel
theorem dX4_set_69 : decode cX4_set 69 = .ok (.ireturn, 1) := by decide +kernel
theorem dX4_setNeeds_0 : decode cX4_setNeeds 0 = .ok (.aload_n 0, 1) := by decide +kernel
theorem dX4_setNeeds_1 : decode cX4_setNeeds 1 = .ok (.iload_n 1, 1) := by decide +kernel
theorem dX4_setNeeds_2 : decode cX4_setNeeds 2 = .ok (.invokevirtual 117, 3) := by decide +kernel
theorem dX4_setNeeds_5 : decode cX4_setNeeds 5 = .ok (.ifCond .ne 10, 3) := by decide +kernel
theorem dX4_setNeeds_8 : decode cX4_setNeeds 8 = .ok (.aload_n 0, 1) := by decide +kernel
theorem dX4_setNeeds_9 : decode cX4_setNeeds 9 = .ok (.iconst 1, 1) := by decide +kernel
theorem dX4_setNeeds_10 : decode cX4_setNeeds 10 = .ok (.putfield 28, 3) := by decide +kernel
theorem dX4_setNeeds_13 : decode cX4_setNeeds 13 = .ok (.iconst 0, 1) := by decide +kernel
theorem dX4_setNeeds_14 : decode cX4_setNeeds 14 = .ok (.ireturn, 1) := by decide +kernel
theorem dX4_setNeeds_15 : decode cX4_setNeeds 15 = .ok (.aload_n 0, 1) := by decide +kernel
theorem dX4_setNeeds_16 : decode cX4_setNeeds 16 = .ok (.iload_n 1, 1) := by decide +kernel
theorem dX4_setNeeds_17 : decode cX4_setNeeds 17 = .ok (.bipush 9, 2) := by decide +kernel
theorem dX4_setNeeds_19 : decode cX4_setNeeds 19 = .ok (.invokevirtual 36, 3) := by decide +kernel
theorem dX4_setNeeds_22 : decode cX4_setNeeds 22 = .ok (.ifCond .eq 14, 3) := by decide +kernel
theorem dX4_setNeeds_25 : decode cX4_setNeeds 25 = .ok (.aload_n 0, 1) := by decide +kernel
theorem dX4_setNeeds_26 : decode cX4_setNeeds 26 = .ok (.iload_n 1, 1) := by decide +kernel
theorem dX4_setNeeds_27 : decode cX4_setNeeds 27 = .ok (.bipush 9, 2) := by decide +kernel
theorem dX4_setNeeds_29 : decode cX4_setNeeds 29 = .ok (.invokevirtual 36, 3) := by decide +kernel
theorem dX4_setNeeds_32 : decode cX4_setNeeds 32 = .ok (.iconst 5, 1) := by decide +kernel
theorem dX4_setNeeds_33 : decode cX4_setNeeds 33 = .ok (.if_icmp .ne 7, 3) := by decide +kernel
theorem dX4_setNeeds_36 : decode cX4_setNeeds 36 = .ok (.iconst 1, 1) := by decide +kernel
theorem dX4_setNeeds_37 : decode cX4_setNeeds 37 = .ok (.goto 4, 3) := by decide +kernel
theorem dX4_setNeeds_40 : decode cX4_setNeeds 40 = .ok (.iconst 0, 1) := by decide +kernel
theorem dX4_setNeeds_41 : decode cX4_setNeeds 41 = .ok (.istore_n 3, 1) := by decide +kernel
theorem dX4_setNeeds_42 : decode cX4_setNeeds 42 = .ok (.aload_n 0, 1) := by decide +kernel
theorem dX4_setNeeds_43 : decode cX4_setNeeds 43 = .ok (.aload_n 0, 1) := by decide +kernel
theorem dX4_setNeeds_44 : decode cX4_setNeeds 44 = .ok (.iload_n 2, 1) := by decide +kernel
theorem dX4_setNeeds_45 : decode cX4_setNeeds 45 = .ok (.iload_n 1, 1) := by decide +kernel
theorem dX4_setNeeds_46 : decode cX4_setNeeds 46 = .ok (.invokevirtual 107, 3) := by decide +kernel
theorem dX4_setNeeds_49 : decode cX4_setNeeds 49 = .ok (.ifCond .ne 7, 3) := by decide +kernel
theorem dX4_setNeeds_52 : decode cX4_setNeeds 52 = .ok (.iconst 2, 1) := by decide +kernel
theorem dX4_setNeeds_53 : decode cX4_setNeeds 53 = .ok (.goto 12, 3) := by decide +kernel
theorem dX4_setNeeds_56 : decode cX4_setNeeds 56 = .ok (.iload_n 3, 1) := by decide +kernel
theorem dX4_setNeeds_57 : decode cX4_setNeeds 57 = .ok (.ifCond .eq 7, 3) := by decide +kernel
theorem dX4_setNeeds_60 : decode cX4_setNeeds 60 = .ok (.iconst 0, 1) := by decide +kernel
theorem dX4_setNeeds_61 : decode cX4_setNeeds 61 = .ok (.goto 4, 3) := by decide +kernel
theorem dX4_setNeeds_64 : decode cX4_setNeeds 64 = .ok (.iconst 3, 1) := by decide +kernel
theorem dX4_setNeeds_65 : decode cX4_setNeeds 65 = .ok (.putfield 28, 3) := by decide +kernel
theorem dX4_setNeeds_68 : decode cX4_setNeeds 68 = .ok (.aload_n 0, 1) := by decide +kernel
theorem dX4_setNeeds_69 : decode cX4_setNeeds 69 = .ok (.getfield 28, 3) := by decide +kernel
theorem dX4_setNeeds_72 : decode cX4_setNeeds 72 = .ok (.ifCond .le 7, 3) := by decide +kernel
theorem dX4_setNeeds_75 : decode cX4_setNeeds 75 = .ok (.iconst 0, 1) := by decide +kernel
theorem dX4_setNeeds_76 : decode cX4_setNeeds 76 = .ok (.goto 11, 3) := by decide +kernel
theorem dX4_setNeeds_79 : decode cX4_setNeeds 79 = .ok (.aload_n 0, 1) := by decide +kernel
theorem dX4_setNeeds_80 : decode cX4_setNeeds 80 = .ok (.iload_n 1, 1) := by decide +kernel
theorem dX4_setNeeds_81 : decode cX4_setNeeds 81 = .ok (.bipush 7, 2) := by decide +kernel
theorem dX4_setNeeds_83 : decode cX4_setNeeds 83 = .ok (.iload_n 2, 1) := by decide +kernel
theorem dX4_setNeeds_84 : decode cX4_setNeeds 84 = .ok (.invokevirtual 120, 3) := by decide +kernel
theorem dX4_setNeeds_87 : decode cX4_setNeeds 87 = .ok (.ireturn, 1) := by decide +kernel
theorem dX4_setResidue_0 : decode cX4_setResidue 0 = .ok (.aload_n 0, 1) := by decide +kernel
theorem dX4_setResidue_1 : decode cX4_setResidue 1 = .ok (.iload_n 1, 1) := by decide +kernel
theorem dX4_setResidue_2 : decode cX4_setResidue 2 = .ok (.iconst 0, 1) := by decide +kernel
theorem dX4_setResidue_3 : decode cX4_setResidue 3 = .ok (.sipush 500, 3) := by decide +kernel
theorem dX4_setResidue_6 : decode cX4_setResidue 6 = .ok (.invokestatic 32, 3) := by decide +kernel
theorem dX4_setResidue_9 : decode cX4_setResidue 9 = .ok (.ifCond .eq 7, 3) := by decide +kernel
theorem dX4_setResidue_12 : decode cX4_setResidue 12 = .ok (.iconst 0, 1) := by decide +kernel
theorem dX4_setResidue_13 : decode cX4_setResidue 13 = .ok (.goto 4, 3) := by decide +kernel
theorem dX4_setResidue_16 : decode cX4_setResidue 16 = .ok (.iconst 1, 1) := by decide +kernel
theorem dX4_setResidue_17 : decode cX4_setResidue 17 = .ok (.putfield 28, 3) := by decide +kernel
theorem dX4_setResidue_20 : decode cX4_setResidue 20 = .ok (.aload_n 0, 1) := by decide +kernel
theorem dX4_setResidue_21 : decode cX4_setResidue 21 = .ok (.getfield 28, 3) := by decide +kernel
theorem dX4_setResidue_24 : decode cX4_setResidue 24 = .ok (.ifCond .le 5, 3) := by decide +kernel
theorem dX4_setResidue_27 : decode cX4_setResidue 27 = .ok (.iconst 0, 1) := by decide +kernel
theorem dX4_setResidue_28 : decode cX4_setResidue 28 = .ok (.ireturn, 1) := by decide +kernel
theorem dX4_setResidue_29 : decode cX4_setResidue 29 = .ok (.aload_n 0, 1) := by decide +kernel
theorem dX4_setResidue_30 : decode cX4_setResidue 30 = .ok (.invokevirtual 110, 3) := by decide +kernel
theorem dX4_setResidue_33 : decode cX4_setResidue 33 = .ok (.aload_n 0, 1) := by decide +kernel
theorem dX4_setResidue_34 : decode cX4_setResidue 34 = .ok (.getfield 7, 3) := by decide +kernel
theorem dX4_setResidue_37 : decode cX4_setResidue 37 = .ok (.iconst 1, 1) := by decide +kernel
theorem dX4_setResidue_38 : decode cX4_setResidue 38 = .ok (.iaload, 1) := by decide +kernel
theorem dX4_setResidue_39 : decode cX4_setResidue 39 = .ok (.istore_n 2, 1) := by decide +kernel
theorem dX4_setResidue_40 : decode cX4_setResidue 40 = .ok (.aload_n 0, 1) := by decide +kernel
theorem dX4_setResidue_41 : decode cX4_setResidue 41 = .ok (.getfield 7, 3) := by decide +kernel
theorem dX4_setResidue_44 : decode cX4_setResidue 44 = .ok (.iconst 1, 1) := by decide +kernel
theorem dX4_setResidue_45 : decode cX4_setResidue 45 = .ok (.iload_n 1, 1) := by decide +kernel
theorem dX4_setResidue_46 : decode cX4_setResidue 46 = .ok (.iastore, 1) := by decide +kernel
theorem dX4_setResidue_47 : decode cX4_setResidue 47 = .ok (.iload_n 2, 1) := by decide +kernel
theorem dX4_setResidue_48 : decode cX4_setResidue 48 = .ok (.ireturn, 1) := by decide +kernel
theorem dX4_maskOf_0 : decode cX4_maskOf 0 = .ok (.iconst 0, 1) := by decide +kernel
theorem dX4_maskOf_1 : decode cX4_maskOf 1 = .ok (.istore_n 3, 1) := by decide +kernel
theorem dX4_maskOf_2 : decode cX4_maskOf 2 = .ok (.iconst 0, 1) := by decide +kernel
theorem dX4_maskOf_3 : decode cX4_maskOf 3 = .ok (.istore 4, 2) := by decide +kernel
theorem dX4_maskOf_5 : decode cX4_maskOf 5 = .ok (.iload 4, 2) := by decide +kernel
theorem dX4_maskOf_7 : decode cX4_maskOf 7 = .ok (.aload_n 0, 1) := by decide +kernel
theorem dX4_maskOf_8 : decode cX4_maskOf 8 = .ok (.getfield 7, 3) := by decide +kernel
theorem dX4_maskOf_11 : decode cX4_maskOf 11 = .ok (.iconst 0, 1) := by decide +kernel
theorem dX4_maskOf_12 : decode cX4_maskOf 12 = .ok (.iaload, 1) := by decide +kernel
theorem dX4_maskOf_13 : decode cX4_maskOf 13 = .ok (.if_icmp .ge 31, 3) := by decide +kernel
theorem dX4_maskOf_16 : decode cX4_maskOf 16 = .ok (.iload_n 3, 1) := by decide +kernel
theorem dX4_maskOf_17 : decode cX4_maskOf 17 = .ok (.aload_n 0, 1) := by decide +kernel
theorem dX4_maskOf_18 : decode cX4_maskOf 18 = .ok (.iload 4, 2) := by decide +kernel
theorem dX4_maskOf_20 : decode cX4_maskOf 20 = .ok (.iload_n 1, 1) := by decide +kernel
theorem dX4_maskOf_21 : decode cX4_maskOf 21 = .ok (.invokevirtual 36, 3) := by decide +kernel
theorem dX4_maskOf_24 : decode cX4_maskOf 24 = .ok (.iload_n 2, 1) := by decide +kernel
theorem dX4_maskOf_25 : decode cX4_maskOf 25 = .ok (.if_icmp .ne 10, 3) := by decide +kernel
theorem dX4_maskOf_28 : decode cX4_maskOf 28 = .ok (.iconst 1, 1) := by decide +kernel
theorem dX4_maskOf_29 : decode cX4_maskOf 29 = .ok (.iload 4, 2) := by decide +kernel
theorem dX4_maskOf_31 : decode cX4_maskOf 31 = .ok (.ishl, 1) := by decide +kernel
theorem dX4_maskOf_32 : decode cX4_maskOf 32 = .ok (.goto 4, 3) := by decide +kernel
theorem dX4_maskOf_35 : decode cX4_maskOf 35 = .ok (.iconst 0, 1) := by decide +kernel
theorem dX4_maskOf_36 : decode cX4_maskOf 36 = .ok (.ior, 1) := by decide +kernel
theorem dX4_maskOf_37 : decode cX4_maskOf 37 = .ok (.istore_n 3, 1) := by decide +kernel
theorem dX4_maskOf_38 : decode cX4_maskOf 38 = .ok (.iinc 4 1, 3) := by decide +kernel
theorem dX4_maskOf_41 : decode cX4_maskOf 41 = .ok (.goto (-36), 3) := by decide +kernel
theorem dX4_maskOf_44 : decode cX4_maskOf 44 = .ok (.iload_n 3, 1) := by decide +kernel
theorem dX4_maskOf_45 : decode cX4_maskOf 45 = .ok (.ireturn, 1) := by decide +kernel
theorem dX4_on_0 : decode cX4_on 0 = .ok (.aload_n 0, 1) := by decide +kernel
theorem dX4_on_1 : decode cX4_on 1 = .ok (.aload_n 0, 1) := by decide +kernel
theorem dX4_on_2 : decode cX4_on 2 = .ok (.iload_n 1, 1) := by decide +kernel
theorem dX4_on_3 : decode cX4_on 3 = .ok (.aload_n 0, 1) := by decide +kernel
theorem dX4_on_4 : decode cX4_on 4 = .ok (.getfield 7, 3) := by decide +kernel
theorem dX4_on_7 : decode cX4_on 7 = .ok (.iconst 0, 1) := by decide +kernel
theorem dX4_on_8 : decode cX4_on 8 = .ok (.iaload, 1) := by decide +kernel
theorem dX4_on_9 : decode cX4_on 9 = .ok (.invokevirtual 107, 3) := by decide +kernel
theorem dX4_on_12 : decode cX4_on 12 = .ok (.ifCond .eq 7, 3) := by decide +kernel
theorem dX4_on_15 : decode cX4_on 15 = .ok (.iconst 0, 1) := by decide +kernel
theorem dX4_on_16 : decode cX4_on 16 = .ok (.goto 4, 3) := by decide +kernel
theorem dX4_on_19 : decode cX4_on 19 = .ok (.iconst 1, 1) := by decide +kernel
theorem dX4_on_20 : decode cX4_on 20 = .ok (.putfield 28, 3) := by decide +kernel
theorem dX4_on_23 : decode cX4_on 23 = .ok (.aload_n 0, 1) := by decide +kernel
theorem dX4_on_24 : decode cX4_on 24 = .ok (.getfield 28, 3) := by decide +kernel
theorem dX4_on_27 : decode cX4_on 27 = .ok (.ifCond .le 5, 3) := by decide +kernel
theorem dX4_on_30 : decode cX4_on 30 = .ok (.iconst 0, 1) := by decide +kernel
theorem dX4_on_31 : decode cX4_on 31 = .ok (.ireturn, 1) := by decide +kernel
theorem dX4_on_32 : decode cX4_on 32 = .ok (.aload_n 0, 1) := by decide +kernel
theorem dX4_on_33 : decode cX4_on 33 = .ok (.invokevirtual 110, 3) := by decide +kernel
theorem dX4_on_36 : decode cX4_on 36 = .ok (.iload_n 1, 1) := by decide +kernel
theorem dX4_on_37 : decode cX4_on 37 = .ok (.istore_n 2, 1) := by decide +kernel
theorem dX4_on_38 : decode cX4_on 38 = .ok (.aload_n 0, 1) := by decide +kernel
theorem dX4_on_39 : decode cX4_on 39 = .ok (.getfield 7, 3) := by decide +kernel
theorem dX4_on_42 : decode cX4_on 42 = .ok (.iconst 0, 1) := by decide +kernel
theorem dX4_on_43 : decode cX4_on 43 = .ok (.iaload, 1) := by decide +kernel
theorem dX4_on_44 : decode cX4_on 44 = .ok (.iconst 1, 1) := by decide +kernel
theorem dX4_on_45 : decode cX4_on 45 = .ok (.isub, 1) := by decide +kernel
theorem dX4_on_46 : decode cX4_on 46 = .ok (.istore_n 3, 1) := by decide +kernel
theorem dX4_on_47 : decode cX4_on 47 = .ok (.iload_n 3, 1) := by decide +kernel
theorem dX4_on_48 : decode cX4_on 48 = .ok (.ifCond .lt 57, 3) := by decide +kernel
theorem dX4_on_51 : decode cX4_on 51 = .ok (.iload_n 2, 1) := by decide +kernel
theorem dX4_on_52 : decode cX4_on 52 = .ok (.iload_n 2, 1) := by decide +kernel
theorem dX4_on_53 : decode cX4_on 53 = .ok (.iload_n 3, 1) := by decide +kernel
theorem dX4_on_54 : decode cX4_on 54 = .ok (.invokestatic 61, 3) := by decide +kernel
theorem dX4_on_57 : decode cX4_on 57 = .ok (.ifCond .eq 13, 3) := by decide +kernel
theorem dX4_on_60 : decode cX4_on 60 = .ok (.aload_n 0, 1) := by decide +kernel
theorem dX4_on_61 : decode cX4_on 61 = .ok (.iload_n 3, 1) := by decide +kernel
theorem dX4_on_62 : decode cX4_on 62 = .ok (.bipush 7, 2) := by decide +kernel
theorem dX4_on_64 : decode cX4_on 64 = .ok (.invokevirtual 36, 3) := by decide +kernel
theorem dX4_on_67 : decode cX4_on 67 = .ok (.goto 4, 3) := by decide +kernel
theorem dX4_on_70 : decode cX4_on 70 = .ok (.iconst 0, 1) := by decide +kernel
theorem dX4_on_71 : decode cX4_on 71 = .ok (.ior, 1) := by decide +kernel
theorem dX4_on_72 : decode cX4_on 72 = .ok (.istore_n 2, 1) := by decide +kernel
theorem dX4_on_73 : decode cX4_on 73 = .ok (.aload_n 0, 1) := by decide +kernel
theorem dX4_on_74 : decode cX4_on 74 = .ok (.iload_n 3, 1) := by decide +kernel
theorem dX4_on_75 : decode cX4_on 75 = .ok (.bipush 8, 2) := by decide +kernel
theorem dX4_on_77 : decode cX4_on 77 = .ok (.iload_n 2, 1) := by decide +kernel
theorem dX4_on_78 : decode cX4_on 78 = .ok (.iload_n 3, 1) := by decide +kernel
theorem dX4_on_79 : decode cX4_on 79 = .ok (.invokestatic 61, 3) := by decide +kernel
theorem dX4_on_82 : decode cX4_on 82 = .ok (.ifCond .eq 7, 3) := by decide +kernel
theorem dX4_on_85 : decode cX4_on 85 = .ok (.iconst 1, 1) := by decide +kernel
theorem dX4_on_86 : decode cX4_on 86 = .ok (.goto 10, 3) := by decide +kernel
theorem dX4_on_89 : decode cX4_on 89 = .ok (.aload_n 0, 1) := by decide +kernel
theorem dX4_on_90 : decode cX4_on 90 = .ok (.iload_n 3, 1) := by decide +kernel
theorem dX4_on_91 : decode cX4_on 91 = .ok (.bipush 8, 2) := by decide +kernel
theorem dX4_on_93 : decode cX4_on 93 = .ok (.invokevirtual 36, 3) := by decide +kernel
theorem dX4_on_96 : decode cX4_on 96 = .ok (.invokevirtual 40, 3) := by decide +kernel
theorem dX4_on_99 : decode cX4_on 99 = .ok (.iinc 3 (-1), 3) := by decide +kernel
theorem dX4_on_102 : decode cX4_on 102 = .ok (.goto (-55), 3) := by decide +kernel
theorem dX4_on_105 : decode cX4_on 105 = .ok (.aload_n 0, 1) := by decide +kernel
theorem dX4_on_106 : decode cX4_on 106 = .ok (.bipush 8, 2) := by decide +kernel
theorem dX4_on_108 : decode cX4_on 108 = .ok (.iconst 1, 1) := by decide +kernel
theorem dX4_on_109 : decode cX4_on 109 = .ok (.invokevirtual 123, 3) := by decide +kernel
theorem dX4_on_112 : decode cX4_on 112 = .ok (.ireturn, 1) := by decide +kernel
theorem dX4_unwant_0 : decode cX4_unwant 0 = .ok (.iload_n 1, 1) := by decide +kernel
theorem dX4_unwant_1 : decode cX4_unwant 1 = .ok (.istore_n 2, 1) := by decide +kernel
theorem dX4_unwant_2 : decode cX4_unwant 2 = .ok (.iconst 0, 1) := by decide +kernel
theorem dX4_unwant_3 : decode cX4_unwant 3 = .ok (.istore_n 3, 1) := by decide +kernel
theorem dX4_unwant_4 : decode cX4_unwant 4 = .ok (.iload_n 3, 1) := by decide +kernel
theorem dX4_unwant_5 : decode cX4_unwant 5 = .ok (.aload_n 0, 1) := by decide +kernel
theorem dX4_unwant_6 : decode cX4_unwant 6 = .ok (.getfield 7, 3) := by decide +kernel
theorem dX4_unwant_9 : decode cX4_unwant 9 = .ok (.iconst 0, 1) := by decide +kernel
theorem dX4_unwant_10 : decode cX4_unwant 10 = .ok (.iaload, 1) := by decide +kernel
theorem dX4_unwant_11 : decode cX4_unwant 11 = .ok (.if_icmp .ge 57, 3) := by decide +kernel
theorem dX4_unwant_14 : decode cX4_unwant 14 = .ok (.iload_n 2, 1) := by decide +kernel
theorem dX4_unwant_15 : decode cX4_unwant 15 = .ok (.aload_n 0, 1) := by decide +kernel
theorem dX4_unwant_16 : decode cX4_unwant 16 = .ok (.iload_n 3, 1) := by decide +kernel
theorem dX4_unwant_17 : decode cX4_unwant 17 = .ok (.bipush 7, 2) := by decide +kernel
theorem dX4_unwant_19 : decode cX4_unwant 19 = .ok (.invokevirtual 36, 3) := by decide +kernel
theorem dX4_unwant_22 : decode cX4_unwant 22 = .ok (.iload_n 2, 1) := by decide +kernel
theorem dX4_unwant_23 : decode cX4_unwant 23 = .ok (.iand, 1) := by decide +kernel
theorem dX4_unwant_24 : decode cX4_unwant 24 = .ok (.ifCond .eq 9, 3) := by decide +kernel
theorem dX4_unwant_27 : decode cX4_unwant 27 = .ok (.iconst 1, 1) := by decide +kernel
theorem dX4_unwant_28 : decode cX4_unwant 28 = .ok (.iload_n 3, 1) := by decide +kernel
theorem dX4_unwant_29 : decode cX4_unwant 29 = .ok (.ishl, 1) := by decide +kernel
theorem dX4_unwant_30 : decode cX4_unwant 30 = .ok (.goto 4, 3) := by decide +kernel
theorem dX4_unwant_33 : decode cX4_unwant 33 = .ok (.iconst 0, 1) := by decide +kernel
theorem dX4_unwant_34 : decode cX4_unwant 34 = .ok (.ior, 1) := by decide +kernel
theorem dX4_unwant_35 : decode cX4_unwant 35 = .ok (.istore_n 2, 1) := by decide +kernel
theorem dX4_unwant_36 : decode cX4_unwant 36 = .ok (.aload_n 0, 1) := by decide +kernel
theorem dX4_unwant_37 : decode cX4_unwant 37 = .ok (.iload_n 3, 1) := by decide +kernel
theorem dX4_unwant_38 : decode cX4_unwant 38 = .ok (.bipush 8, 2) := by decide +kernel
theorem dX4_unwant_40 : decode cX4_unwant 40 = .ok (.iload_n 2, 1) := by decide +kernel
theorem dX4_unwant_41 : decode cX4_unwant 41 = .ok (.iload_n 3, 1) := by decide +kernel
theorem dX4_unwant_42 : decode cX4_unwant 42 = .ok (.invokestatic 61, 3) := by decide +kernel
theorem dX4_unwant_45 : decode cX4_unwant 45 = .ok (.ifCond .eq 7, 3) := by decide +kernel
theorem dX4_unwant_48 : decode cX4_unwant 48 = .ok (.iconst 0, 1) := by decide +kernel
theorem dX4_unwant_49 : decode cX4_unwant 49 = .ok (.goto 10, 3) := by decide +kernel
theorem dX4_unwant_52 : decode cX4_unwant 52 = .ok (.aload_n 0, 1) := by decide +kernel
theorem dX4_unwant_53 : decode cX4_unwant 53 = .ok (.iload_n 3, 1) := by decide +kernel
theorem dX4_unwant_54 : decode cX4_unwant 54 = .ok (.bipush 8, 2) := by decide +kernel
theorem dX4_unwant_56 : decode cX4_unwant 56 = .ok (.invokevirtual 36, 3) := by decide +kernel
theorem dX4_unwant_59 : decode cX4_unwant 59 = .ok (.invokevirtual 40, 3) := by decide +kernel
theorem dX4_unwant_62 : decode cX4_unwant 62 = .ok (.iinc 3 1, 3) := by decide +kernel
theorem dX4_unwant_65 : decode cX4_unwant 65 = .ok (.goto (-61), 3) := by decide +kernel
theorem dX4_unwant_68 : decode cX4_unwant 68 = .ok (.return_, 1) := by decide +kernel
theorem dX4_off_0 : decode cX4_off 0 = .ok (.aload_n 0, 1) := by decide +kernel
theorem dX4_off_1 : decode cX4_off 1 = .ok (.aload_n 0, 1) := by decide +kernel
theorem dX4_off_2 : decode cX4_off 2 = .ok (.iload_n 1, 1) := by decide +kernel
theorem dX4_off_3 : decode cX4_off 3 = .ok (.aload_n 0, 1) := by decide +kernel
theorem dX4_off_4 : decode cX4_off 4 = .ok (.getfield 7, 3) := by decide +kernel
theorem dX4_off_7 : decode cX4_off 7 = .ok (.iconst 0, 1) := by decide +kernel
theorem dX4_off_8 : decode cX4_off 8 = .ok (.iaload, 1) := by decide +kernel
theorem dX4_off_9 : decode cX4_off 9 = .ok (.invokevirtual 107, 3) := by decide +kernel
theorem dX4_off_12 : decode cX4_off 12 = .ok (.ifCond .eq 7, 3) := by decide +kernel
theorem dX4_off_15 : decode cX4_off 15 = .ok (.iconst 0, 1) := by decide +kernel
theorem dX4_off_16 : decode cX4_off 16 = .ok (.goto 4, 3) := by decide +kernel
theorem dX4_off_19 : decode cX4_off 19 = .ok (.iconst 1, 1) := by decide +kernel
theorem dX4_off_20 : decode cX4_off 20 = .ok (.putfield 28, 3) := by decide +kernel
theorem dX4_off_23 : decode cX4_off 23 = .ok (.aload_n 0, 1) := by decide +kernel
theorem dX4_off_24 : decode cX4_off 24 = .ok (.getfield 28, 3) := by decide +kernel
theorem dX4_off_27 : decode cX4_off 27 = .ok (.ifCond .le 5, 3) := by decide +kernel
theorem dX4_off_30 : decode cX4_off 30 = .ok (.iconst 0, 1) := by decide +kernel
theorem dX4_off_31 : decode cX4_off 31 = .ok (.ireturn, 1) := by decide +kernel
theorem dX4_off_32 : decode cX4_off 32 = .ok (.aload_n 0, 1) := by decide +kernel
theorem dX4_off_33 : decode cX4_off 33 = .ok (.invokevirtual 110, 3) := by decide +kernel
theorem dX4_off_36 : decode cX4_off 36 = .ok (.aload_n 0, 1) := by decide +kernel
theorem dX4_off_37 : decode cX4_off 37 = .ok (.iload_n 1, 1) := by decide +kernel
theorem dX4_off_38 : decode cX4_off 38 = .ok (.invokevirtual 126, 3) := by decide +kernel
theorem dX4_off_41 : decode cX4_off 41 = .ok (.aload_n 0, 1) := by decide +kernel
theorem dX4_off_42 : decode cX4_off 42 = .ok (.bipush 8, 2) := by decide +kernel
theorem dX4_off_44 : decode cX4_off 44 = .ok (.iconst 1, 1) := by decide +kernel
theorem dX4_off_45 : decode cX4_off 45 = .ok (.invokevirtual 123, 3) := by decide +kernel
theorem dX4_off_48 : decode cX4_off 48 = .ok (.ireturn, 1) := by decide +kernel
theorem dX4_restart_0 : decode cX4_restart 0 = .ok (.aload_n 0, 1) := by decide +kernel
theorem dX4_restart_1 : decode cX4_restart 1 = .ok (.aload_n 0, 1) := by decide +kernel
theorem dX4_restart_2 : decode cX4_restart 2 = .ok (.iload_n 1, 1) := by decide +kernel
theorem dX4_restart_3 : decode cX4_restart 3 = .ok (.invokevirtual 117, 3) := by decide +kernel
theorem dX4_restart_6 : decode cX4_restart 6 = .ok (.ifCond .ne 7, 3) := by decide +kernel
theorem dX4_restart_9 : decode cX4_restart 9 = .ok (.iconst 1, 1) := by decide +kernel
theorem dX4_restart_10 : decode cX4_restart 10 = .ok (.goto 19, 3) := by decide +kernel
theorem dX4_restart_13 : decode cX4_restart 13 = .ok (.aload_n 0, 1) := by decide +kernel
theorem dX4_restart_14 : decode cX4_restart 14 = .ok (.iload_n 1, 1) := by decide +kernel
theorem dX4_restart_15 : decode cX4_restart 15 = .ok (.bipush 8, 2) := by decide +kernel
theorem dX4_restart_17 : decode cX4_restart 17 = .ok (.invokevirtual 36, 3) := by decide +kernel
theorem dX4_restart_20 : decode cX4_restart 20 = .ok (.iconst 1, 1) := by decide +kernel
theorem dX4_restart_21 : decode cX4_restart 21 = .ok (.if_icmp .ne 7, 3) := by decide +kernel
theorem dX4_restart_24 : decode cX4_restart 24 = .ok (.iconst 0, 1) := by decide +kernel
theorem dX4_restart_25 : decode cX4_restart 25 = .ok (.goto 4, 3) := by decide +kernel
theorem dX4_restart_28 : decode cX4_restart 28 = .ok (.iconst 2, 1) := by decide +kernel
theorem dX4_restart_29 : decode cX4_restart 29 = .ok (.putfield 28, 3) := by decide +kernel
theorem dX4_restart_32 : decode cX4_restart 32 = .ok (.aload_n 0, 1) := by decide +kernel
theorem dX4_restart_33 : decode cX4_restart 33 = .ok (.getfield 28, 3) := by decide +kernel
theorem dX4_restart_36 : decode cX4_restart 36 = .ok (.ifCond .le 5, 3) := by decide +kernel
theorem dX4_restart_39 : decode cX4_restart 39 = .ok (.iconst 0, 1) := by decide +kernel
theorem dX4_restart_40 : decode cX4_restart 40 = .ok (.ireturn, 1) := by decide +kernel
theorem dX4_restart_41 : decode cX4_restart 41 = .ok (.aload_n 0, 1) := by decide +kernel
theorem dX4_restart_42 : decode cX4_restart 42 = .ok (.invokevirtual 110, 3) := by decide +kernel
theorem dX4_restart_45 : decode cX4_restart 45 = .ok (.aload_n 0, 1) := by decide +kernel
theorem dX4_restart_46 : decode cX4_restart 46 = .ok (.iload_n 1, 1) := by decide +kernel
theorem dX4_restart_47 : decode cX4_restart 47 = .ok (.invokevirtual 129, 3) := by decide +kernel
theorem dX4_restart_50 : decode cX4_restart 50 = .ok (.iconst 1, 1) := by decide +kernel
theorem dX4_restart_51 : decode cX4_restart 51 = .ok (.iload_n 1, 1) := by decide +kernel
theorem dX4_restart_52 : decode cX4_restart 52 = .ok (.ishl, 1) := by decide +kernel
theorem dX4_restart_53 : decode cX4_restart 53 = .ok (.ior, 1) := by decide +kernel
theorem dX4_restart_54 : decode cX4_restart 54 = .ok (.istore_n 2, 1) := by decide +kernel
theorem dX4_restart_55 : decode cX4_restart 55 = .ok (.aload_n 0, 1) := by decide +kernel
theorem dX4_restart_56 : decode cX4_restart 56 = .ok (.iconst 0, 1) := by decide +kernel
theorem dX4_restart_57 : decode cX4_restart 57 = .ok (.putfield 44, 3) := by decide +kernel
theorem dX4_restart_60 : decode cX4_restart 60 = .ok (.iload_n 1, 1) := by decide +kernel
theorem dX4_restart_61 : decode cX4_restart 61 = .ok (.istore_n 3, 1) := by decide +kernel
theorem dX4_restart_62 : decode cX4_restart 62 = .ok (.iload_n 3, 1) := by decide +kernel
theorem dX4_restart_63 : decode cX4_restart 63 = .ok (.aload_n 0, 1) := by decide +kernel
theorem dX4_restart_64 : decode cX4_restart 64 = .ok (.getfield 7, 3) := by decide +kernel
theorem dX4_restart_67 : decode cX4_restart 67 = .ok (.iconst 0, 1) := by decide +kernel
theorem dX4_restart_68 : decode cX4_restart 68 = .ok (.iaload, 1) := by decide +kernel
theorem dX4_restart_69 : decode cX4_restart 69 = .ok (.if_icmp .ge 82, 3) := by decide +kernel
theorem dX4_restart_72 : decode cX4_restart 72 = .ok (.aload_n 0, 1) := by decide +kernel
theorem dX4_restart_73 : decode cX4_restart 73 = .ok (.iload_n 3, 1) := by decide +kernel
theorem dX4_restart_74 : decode cX4_restart 74 = .ok (.bipush 9, 2) := by decide +kernel
theorem dX4_restart_76 : decode cX4_restart 76 = .ok (.invokevirtual 36, 3) := by decide +kernel
theorem dX4_restart_79 : decode cX4_restart 79 = .ok (.istore 4, 2) := by decide +kernel
theorem dX4_restart_81 : decode cX4_restart 81 = .ok (.iload 4, 2) := by decide +kernel
theorem dX4_restart_83 : decode cX4_restart 83 = .ok (.iconst 2, 1) := by decide +kernel
theorem dX4_restart_84 : decode cX4_restart 84 = .ok (.if_icmp .eq 26, 3) := by decide +kernel
theorem dX4_restart_87 : decode cX4_restart 87 = .ok (.iload 4, 2) := by decide +kernel
theorem dX4_restart_89 : decode cX4_restart 89 = .ok (.iconst 3, 1) := by decide +kernel
theorem dX4_restart_90 : decode cX4_restart 90 = .ok (.if_icmp .eq 20, 3) := by decide +kernel
theorem dX4_restart_93 : decode cX4_restart 93 = .ok (.iload 4, 2) := by decide +kernel
theorem dX4_restart_95 : decode cX4_restart 95 = .ok (.iconst 5, 1) := by decide +kernel
theorem dX4_restart_96 : decode cX4_restart 96 = .ok (.if_icmp .ne 18, 3) := by decide +kernel
theorem dX4_restart_99 : decode cX4_restart 99 = .ok (.aload_n 0, 1) := by decide +kernel
theorem dX4_restart_100 : decode cX4_restart 100 = .ok (.iload_n 3, 1) := by decide +kernel
theorem dX4_restart_101 : decode cX4_restart 101 = .ok (.bipush 8, 2) := by decide +kernel
theorem dX4_restart_103 : decode cX4_restart 103 = .ok (.invokevirtual 36, 3) := by decide +kernel
theorem dX4_restart_106 : decode cX4_restart 106 = .ok (.iconst 1, 1) := by decide +kernel
theorem dX4_restart_107 : decode cX4_restart 107 = .ok (.if_icmp .ne 7, 3) := by decide +kernel
theorem dX4_restart_110 : decode cX4_restart 110 = .ok (.iconst 1, 1) := by decide +kernel
theorem dX4_restart_111 : decode cX4_restart 111 = .ok (.goto 4, 3) := by decide +kernel
theorem dX4_restart_114 : decode cX4_restart 114 = .ok (.iconst 0, 1) := by decide +kernel
theorem dX4_restart_115 : decode cX4_restart 115 = .ok (.istore 5, 2) := by decide +kernel
theorem dX4_restart_117 : decode cX4_restart 117 = .ok (.iload_n 2, 1) := by decide +kernel
theorem dX4_restart_118 : decode cX4_restart 118 = .ok (.iload_n 3, 1) := by decide +kernel
theorem dX4_restart_119 : decode cX4_restart 119 = .ok (.invokestatic 61, 3) := by decide +kernel
theorem dX4_restart_122 : decode cX4_restart 122 = .ok (.ifCond .eq 23, 3) := by decide +kernel
theorem dX4_restart_125 : decode cX4_restart 125 = .ok (.iload 5, 2) := by decide +kernel
theorem dX4_restart_127 : decode cX4_restart 127 = .ok (.ifCond .eq 18, 3) := by decide +kernel
theorem dX4_restart_130 : decode cX4_restart 130 = .ok (.aload_n 0, 1) := by decide +kernel
theorem dX4_restart_131 : decode cX4_restart 131 = .ok (.iload_n 3, 1) := by decide +kernel
theorem dX4_restart_132 : decode cX4_restart 132 = .ok (.bipush 14, 2) := by decide +kernel
theorem dX4_restart_134 : decode cX4_restart 134 = .ok (.iconst 0, 1) := by decide +kernel
theorem dX4_restart_135 : decode cX4_restart 135 = .ok (.invokevirtual 40, 3) := by decide +kernel
theorem dX4_restart_138 : decode cX4_restart 138 = .ok (.aload_n 0, 1) := by decide +kernel
theorem dX4_restart_139 : decode cX4_restart 139 = .ok (.iload_n 3, 1) := by decide +kernel
theorem dX4_restart_140 : decode cX4_restart 140 = .ok (.iconst 4, 1) := by decide +kernel
theorem dX4_restart_141 : decode cX4_restart 141 = .ok (.iload_n 1, 1) := by decide +kernel
theorem dX4_restart_142 : decode cX4_restart 142 = .ok (.invokevirtual 72, 3) := by decide +kernel
theorem dX4_restart_145 : decode cX4_restart 145 = .ok (.iinc 3 1, 3) := by decide +kernel
theorem dX4_restart_148 : decode cX4_restart 148 = .ok (.goto (-86), 3) := by decide +kernel
theorem dX4_restart_151 : decode cX4_restart 151 = .ok (.aload_n 0, 1) := by decide +kernel
theorem dX4_restart_152 : decode cX4_restart 152 = .ok (.getfield 44, 3) := by decide +kernel
theorem dX4_restart_155 : decode cX4_restart 155 = .ok (.ireturn, 1) := by decide +kernel
theorem dX4_shortCircuit_0 : decode cX4_shortCircuit 0 = .ok (.aload_n 0, 1) := by decide +kernel
theorem dX4_shortCircuit_1 : decode cX4_shortCircuit 1 = .ok (.aload_n 0, 1) := by decide +kernel
theorem dX4_shortCircuit_2 : decode cX4_shortCircuit 2 = .ok (.iload_n 1, 1) := by decide +kernel
theorem dX4_shortCircuit_3 : decode cX4_shortCircuit 3 = .ok (.invokevirtual 117, 3) := by decide +kernel
theorem dX4_shortCircuit_6 : decode cX4_shortCircuit 6 = .ok (.ifCond .ne 7, 3) := by decide +kernel
theorem dX4_shortCircuit_9 : decode cX4_shortCircuit 9 = .ok (.iconst 1, 1) := by decide +kernel
theorem dX4_shortCircuit_10 : decode cX4_shortCircuit 10 = .ok (.goto 19, 3) := by decide +kernel
theorem dX4_shortCircuit_13 : decode cX4_shortCircuit 13 = .ok (.iload_n 2, 1) := by decide +kernel
theorem dX4_shortCircuit_14 : decode cX4_shortCircuit 14 = .ok (.iconst 0, 1) := by decide +kernel
theorem dX4_shortCircuit_15 : decode cX4_shortCircuit 15 = .ok (.sipush 500, 3) := by decide +kernel
theorem dX4_shortCircuit_18 : decode cX4_shortCircuit 18 = .ok (.invokestatic 32, 3) := by decide +kernel
theorem dX4_shortCircuit_21 : decode cX4_shortCircuit 21 = .ok (.ifCond .eq 7, 3) := by decide +kernel
theorem dX4_shortCircuit_24 : decode cX4_shortCircuit 24 = .ok (.iconst 0, 1) := by decide +kernel
theorem dX4_shortCircuit_25 : decode cX4_shortCircuit 25 = .ok (.goto 4, 3) := by decide +kernel
theorem dX4_shortCircuit_28 : decode cX4_shortCircuit 28 = .ok (.iconst 2, 1) := by decide +kernel
theorem dX4_shortCircuit_29 : decode cX4_shortCircuit 29 = .ok (.putfield 28, 3) := by decide +kernel
theorem dX4_shortCircuit_32 : decode cX4_shortCircuit 32 = .ok (.aload_n 0, 1) := by decide +kernel
theorem dX4_shortCircuit_33 : decode cX4_shortCircuit 33 = .ok (.getfield 28, 3) := by decide +kernel
theorem dX4_shortCircuit_36 : decode cX4_shortCircuit 36 = .ok (.ifCond .le 7, 3) := by decide +kernel
theorem dX4_shortCircuit_39 : decode cX4_shortCircuit 39 = .ok (.iconst 0, 1) := by decide +kernel
theorem dX4_shortCircuit_40 : decode cX4_shortCircuit 40 = .ok (.goto 11, 3) := by decide +kernel
theorem dX4_shortCircuit_43 : decode cX4_shortCircuit 43 = .ok (.aload_n 0, 1) := by decide +kernel
theorem dX4_shortCircuit_44 : decode cX4_shortCircuit 44 = .ok (.iload_n 1, 1) := by decide +kernel
theorem dX4_shortCircuit_45 : decode cX4_shortCircuit 45 = .ok (.bipush 12, 2) := by decide +kernel
theorem dX4_shortCircuit_47 : decode cX4_shortCircuit 47 = .ok (.iload_n 2, 1) := by decide +kernel
theorem dX4_shortCircuit_48 : decode cX4_shortCircuit 48 = .ok (.invokevirtual 120, 3) := by decide +kernel
theorem dX4_shortCircuit_51 : decode cX4_shortCircuit 51 = .ok (.ireturn, 1) := by decide +kernel
theorem dX4_stick_0 : decode cX4_stick 0 = .ok (.aload_n 0, 1) := by decide +kernel
theorem dX4_stick_1 : decode cX4_stick 1 = .ok (.aload_n 0, 1) := by decide +kernel
theorem dX4_stick_2 : decode cX4_stick 2 = .ok (.iload_n 1, 1) := by decide +kernel
theorem dX4_stick_3 : decode cX4_stick 3 = .ok (.invokevirtual 117, 3) := by decide +kernel
theorem dX4_stick_6 : decode cX4_stick 6 = .ok (.ifCond .ne 7, 3) := by decide +kernel
theorem dX4_stick_9 : decode cX4_stick 9 = .ok (.iconst 1, 1) := by decide +kernel
theorem dX4_stick_10 : decode cX4_stick 10 = .ok (.goto 17, 3) := by decide +kernel
theorem dX4_stick_13 : decode cX4_stick 13 = .ok (.iload_n 2, 1) := by decide +kernel
theorem dX4_stick_14 : decode cX4_stick 14 = .ok (.iconst 0, 1) := by decide +kernel
theorem dX4_stick_15 : decode cX4_stick 15 = .ok (.iconst 2, 1) := by decide +kernel
theorem dX4_stick_16 : decode cX4_stick 16 = .ok (.invokestatic 32, 3) := by decide +kernel
theorem dX4_stick_19 : decode cX4_stick 19 = .ok (.ifCond .eq 7, 3) := by decide +kernel
theorem dX4_stick_22 : decode cX4_stick 22 = .ok (.iconst 0, 1) := by decide +kernel
theorem dX4_stick_23 : decode cX4_stick 23 = .ok (.goto 4, 3) := by decide +kernel
theorem dX4_stick_26 : decode cX4_stick 26 = .ok (.iconst 2, 1) := by decide +kernel
theorem dX4_stick_27 : decode cX4_stick 27 = .ok (.putfield 28, 3) := by decide +kernel
theorem dX4_stick_30 : decode cX4_stick 30 = .ok (.aload_n 0, 1) := by decide +kernel
theorem dX4_stick_31 : decode cX4_stick 31 = .ok (.getfield 28, 3) := by decide +kernel
theorem dX4_stick_34 : decode cX4_stick 34 = .ok (.ifCond .le 7, 3) := by decide +kernel
theorem dX4_stick_37 : decode cX4_stick 37 = .ok (.iconst 0, 1) := by decide +kernel
theorem dX4_stick_38 : decode cX4_stick 38 = .ok (.goto 11, 3) := by decide +kernel
theorem dX4_stick_41 : decode cX4_stick 41 = .ok (.aload_n 0, 1) := by decide +kernel
theorem dX4_stick_42 : decode cX4_stick 42 = .ok (.iload_n 1, 1) := by decide +kernel
theorem dX4_stick_43 : decode cX4_stick 43 = .ok (.bipush 11, 2) := by decide +kernel
theorem dX4_stick_45 : decode cX4_stick 45 = .ok (.iload_n 2, 1) := by decide +kernel
theorem dX4_stick_46 : decode cX4_stick 46 = .ok (.invokevirtual 120, 3) := by decide +kernel
theorem dX4_stick_49 : decode cX4_stick 49 = .ok (.ireturn, 1) := by decide +kernel
theorem dX4_tick_0 : decode cX4_tick 0 = .ok (.aload_n 0, 1) := by decide +kernel
theorem dX4_tick_1 : decode cX4_tick 1 = .ok (.iload_n 1, 1) := by decide +kernel
theorem dX4_tick_2 : decode cX4_tick 2 = .ok (.iconst 1, 1) := by decide +kernel
theorem dX4_tick_3 : decode cX4_tick 3 = .ok (.sipush 200, 3) := by decide +kernel
theorem dX4_tick_6 : decode cX4_tick 6 = .ok (.invokestatic 32, 3) := by decide +kernel
theorem dX4_tick_9 : decode cX4_tick 9 = .ok (.ifCond .ne 7, 3) := by decide +kernel
theorem dX4_tick_12 : decode cX4_tick 12 = .ok (.iconst 1, 1) := by decide +kernel
theorem dX4_tick_13 : decode cX4_tick 13 = .ok (.goto 22, 3) := by decide +kernel
theorem dX4_tick_16 : decode cX4_tick 16 = .ok (.aload_n 0, 1) := by decide +kernel
theorem dX4_tick_17 : decode cX4_tick 17 = .ok (.getfield 7, 3) := by decide +kernel
theorem dX4_tick_20 : decode cX4_tick 20 = .ok (.iconst 2, 1) := by decide +kernel
theorem dX4_tick_21 : decode cX4_tick 21 = .ok (.iaload, 1) := by decide +kernel
theorem dX4_tick_22 : decode cX4_tick 22 = .ok (.iload_n 1, 1) := by decide +kernel
theorem dX4_tick_23 : decode cX4_tick 23 = .ok (.iadd, 1) := by decide +kernel
theorem dX4_tick_24 : decode cX4_tick 24 = .ok (.sipush 20000, 3) := by decide +kernel
theorem dX4_tick_27 : decode cX4_tick 27 = .ok (.if_icmp .le 7, 3) := by decide +kernel
theorem dX4_tick_30 : decode cX4_tick 30 = .ok (.iconst 2, 1) := by decide +kernel
theorem dX4_tick_31 : decode cX4_tick 31 = .ok (.goto 4, 3) := by decide +kernel
theorem dX4_tick_34 : decode cX4_tick 34 = .ok (.iconst 0, 1) := by decide +kernel
theorem dX4_tick_35 : decode cX4_tick 35 = .ok (.putfield 28, 3) := by decide +kernel
theorem dX4_tick_38 : decode cX4_tick 38 = .ok (.aload_n 0, 1) := by decide +kernel
theorem dX4_tick_39 : decode cX4_tick 39 = .ok (.getfield 28, 3) := by decide +kernel
theorem dX4_tick_42 : decode cX4_tick 42 = .ok (.ifCond .le 5, 3) := by decide +kernel
theorem dX4_tick_45 : decode cX4_tick 45 = .ok (.iconst 0, 1) := by decide +kernel
theorem dX4_tick_46 : decode cX4_tick 46 = .ok (.ireturn, 1) := by decide +kernel
theorem dX4_tick_47 : decode cX4_tick 47 = .ok (.aload_n 0, 1) := by decide +kernel
theorem dX4_tick_48 : decode cX4_tick 48 = .ok (.invokevirtual 110, 3) := by decide +kernel
theorem dX4_tick_51 : decode cX4_tick 51 = .ok (.aload_n 0, 1) := by decide +kernel
theorem dX4_tick_52 : decode cX4_tick 52 = .ok (.iconst 0, 1) := by decide +kernel
theorem dX4_tick_53 : decode cX4_tick 53 = .ok (.putfield 44, 3) := by decide +kernel
theorem dX4_tick_56 : decode cX4_tick 56 = .ok (.iconst 0, 1) := by decide +kernel
theorem dX4_tick_57 : decode cX4_tick 57 = .ok (.istore_n 2, 1) := by decide +kernel
theorem dX4_tick_58 : decode cX4_tick 58 = .ok (.iload_n 2, 1) := by decide +kernel
theorem dX4_tick_59 : decode cX4_tick 59 = .ok (.iload_n 1, 1) := by decide +kernel
theorem dX4_tick_60 : decode cX4_tick 60 = .ok (.if_icmp .ge 13, 3) := by decide +kernel
theorem dX4_tick_63 : decode cX4_tick 63 = .ok (.aload_n 0, 1) := by decide +kernel
theorem dX4_tick_64 : decode cX4_tick 64 = .ok (.invokevirtual 132, 3) := by decide +kernel
theorem dX4_tick_67 : decode cX4_tick 67 = .ok (.iinc 2 1, 3) := by decide +kernel
theorem dX4_tick_70 : decode cX4_tick 70 = .ok (.goto (-12), 3) := by decide +kernel
theorem dX4_tick_73 : decode cX4_tick 73 = .ok (.aload_n 0, 1) := by decide +kernel
theorem dX4_tick_74 : decode cX4_tick 74 = .ok (.getfield 44, 3) := by decide +kernel
theorem dX4_tick_77 : decode cX4_tick 77 = .ok (.ireturn, 1) := by decide +kernel
theorem dX4_append_0 : decode cX4_append 0 = .ok (.aload_n 0, 1) := by decide +kernel
theorem dX4_append_1 : decode cX4_append 1 = .ok (.iload_n 1, 1) := by decide +kernel
theorem dX4_append_2 : decode cX4_append 2 = .ok (.bipush 33, 2) := by decide +kernel
theorem dX4_append_4 : decode cX4_append 4 = .ok (.bipush 126, 2) := by decide +kernel
theorem dX4_append_6 : decode cX4_append 6 = .ok (.invokestatic 32, 3) := by decide +kernel
theorem dX4_append_9 : decode cX4_append 9 = .ok (.ifCond .ne 7, 3) := by decide +kernel
theorem dX4_append_12 : decode cX4_append 12 = .ok (.iconst 1, 1) := by decide +kernel
theorem dX4_append_13 : decode cX4_append 13 = .ok (.goto 17, 3) := by decide +kernel
theorem dX4_append_16 : decode cX4_append 16 = .ok (.aload_n 0, 1) := by decide +kernel
theorem dX4_append_17 : decode cX4_append 17 = .ok (.getfield 135, 3) := by decide +kernel
theorem dX4_append_20 : decode cX4_append 20 = .ok (.bipush 60, 2) := by decide +kernel
theorem dX4_append_22 : decode cX4_append 22 = .ok (.if_icmp .ne 7, 3) := by decide +kernel
theorem dX4_append_25 : decode cX4_append 25 = .ok (.iconst 2, 1) := by decide +kernel
theorem dX4_append_26 : decode cX4_append 26 = .ok (.goto 4, 3) := by decide +kernel
theorem dX4_append_29 : decode cX4_append 29 = .ok (.iconst 0, 1) := by decide +kernel
theorem dX4_append_30 : decode cX4_append 30 = .ok (.putfield 28, 3) := by decide +kernel
theorem dX4_append_33 : decode cX4_append 33 = .ok (.aload_n 0, 1) := by decide +kernel
theorem dX4_append_34 : decode cX4_append 34 = .ok (.getfield 28, 3) := by decide +kernel
theorem dX4_append_37 : decode cX4_append 37 = .ok (.ifCond .le 5, 3) := by decide +kernel
theorem dX4_append_40 : decode cX4_append 40 = .ok (.iconst 0, 1) := by decide +kernel
theorem dX4_append_41 : decode cX4_append 41 = .ok (.ireturn, 1) := by decide +kernel
theorem dX4_append_42 : decode cX4_append 42 = .ok (.aload_n 0, 1) := by decide +kernel
theorem dX4_append_43 : decode cX4_append 43 = .ok (.getfield 16, 3) := by decide +kernel
theorem dX4_append_46 : decode cX4_append 46 = .ok (.aload_n 0, 1) := by decide +kernel
theorem dX4_append_47 : decode cX4_append 47 = .ok (.getfield 135, 3) := by decide +kernel
theorem dX4_append_50 : decode cX4_append 50 = .ok (.iload_n 1, 1) := by decide +kernel
theorem dX4_append_51 : decode cX4_append 51 = .ok (.iastore, 1) := by decide +kernel
theorem dX4_append_52 : decode cX4_append 52 = .ok (.aload_n 0, 1) := by decide +kernel
theorem dX4_append_53 : decode cX4_append 53 = .ok (.dup, 1) := by decide +kernel
theorem dX4_append_54 : decode cX4_append 54 = .ok (.getfield 135, 3) := by decide +kernel
theorem dX4_append_57 : decode cX4_append 57 = .ok (.iconst 1, 1) := by decide +kernel
theorem dX4_append_58 : decode cX4_append 58 = .ok (.iadd, 1) := by decide +kernel
theorem dX4_append_59 : decode cX4_append 59 = .ok (.putfield 135, 3) := by decide +kernel
theorem dX4_append_62 : decode cX4_append 62 = .ok (.aload_n 0, 1) := by decide +kernel
theorem dX4_append_63 : decode cX4_append 63 = .ok (.getfield 135, 3) := by decide +kernel
theorem dX4_append_66 : decode cX4_append 66 = .ok (.ireturn, 1) := by decide +kernel
theorem dX4_clearBuffer_0 : decode cX4_clearBuffer 0 = .ok (.aload_n 0, 1) := by decide +kernel
theorem dX4_clearBuffer_1 : decode cX4_clearBuffer 1 = .ok (.iconst 0, 1) := by decide +kernel
theorem dX4_clearBuffer_2 : decode cX4_clearBuffer 2 = .ok (.putfield 28, 3) := by decide +kernel
theorem dX4_clearBuffer_5 : decode cX4_clearBuffer 5 = .ok (.aload_n 0, 1) := by decide +kernel
theorem dX4_clearBuffer_6 : decode cX4_clearBuffer 6 = .ok (.getfield 135, 3) := by decide +kernel
theorem dX4_clearBuffer_9 : decode cX4_clearBuffer 9 = .ok (.istore_n 1, 1) := by decide +kernel
theorem dX4_clearBuffer_10 : decode cX4_clearBuffer 10 = .ok (.aload_n 0, 1) := by decide +kernel
theorem dX4_clearBuffer_11 : decode cX4_clearBuffer 11 = .ok (.iconst 0, 1) := by decide +kernel
theorem dX4_clearBuffer_12 : decode cX4_clearBuffer 12 = .ok (.putfield 135, 3) := by decide +kernel
theorem dX4_clearBuffer_15 : decode cX4_clearBuffer 15 = .ok (.iload_n 1, 1) := by decide +kernel
theorem dX4_clearBuffer_16 : decode cX4_clearBuffer 16 = .ok (.ireturn, 1) := by decide +kernel
theorem dX4_beginRail_0 : decode cX4_beginRail 0 = .ok (.aload_n 0, 1) := by decide +kernel
theorem dX4_beginRail_1 : decode cX4_beginRail 1 = .ok (.iconst 0, 1) := by decide +kernel
theorem dX4_beginRail_2 : decode cX4_beginRail 2 = .ok (.putfield 138, 3) := by decide +kernel
theorem dX4_beginRail_5 : decode cX4_beginRail 5 = .ok (.aload_n 0, 1) := by decide +kernel
theorem dX4_beginRail_6 : decode cX4_beginRail 6 = .ok (.iconst 0, 1) := by decide +kernel
theorem dX4_beginRail_7 : decode cX4_beginRail 7 = .ok (.putfield 141, 3) := by decide +kernel
theorem dX4_beginRail_10 : decode cX4_beginRail 10 = .ok (.aload_n 0, 1) := by decide +kernel
theorem dX4_beginRail_11 : decode cX4_beginRail 11 = .ok (.iconst (-1), 1) := by decide +kernel
theorem dX4_beginRail_12 : decode cX4_beginRail 12 = .ok (.putfield 144, 3) := by decide +kernel
theorem dX4_beginRail_15 : decode cX4_beginRail 15 = .ok (.iconst 0, 1) := by decide +kernel
theorem dX4_beginRail_16 : decode cX4_beginRail 16 = .ok (.istore_n 1, 1) := by decide +kernel
theorem dX4_beginRail_17 : decode cX4_beginRail 17 = .ok (.iload_n 1, 1) := by decide +kernel
theorem dX4_beginRail_18 : decode cX4_beginRail 18 = .ok (.iconst 4, 1) := by decide +kernel
theorem dX4_beginRail_19 : decode cX4_beginRail 19 = .ok (.if_icmp .ge 23, 3) := by decide +kernel
theorem dX4_beginRail_22 : decode cX4_beginRail 22 = .ok (.aload_n 0, 1) := by decide +kernel
theorem dX4_beginRail_23 : decode cX4_beginRail 23 = .ok (.getfield 25, 3) := by decide +kernel
theorem dX4_beginRail_26 : decode cX4_beginRail 26 = .ok (.iconst 4, 1) := by decide +kernel
theorem dX4_beginRail_27 : decode cX4_beginRail 27 = .ok (.aload_n 0, 1) := by decide +kernel
theorem dX4_beginRail_28 : decode cX4_beginRail 28 = .ok (.getfield 147, 3) := by decide +kernel
theorem dX4_beginRail_31 : decode cX4_beginRail 31 = .ok (.imul, 1) := by decide +kernel
theorem dX4_beginRail_32 : decode cX4_beginRail 32 = .ok (.iload_n 1, 1) := by decide +kernel
theorem dX4_beginRail_33 : decode cX4_beginRail 33 = .ok (.iadd, 1) := by decide +kernel
theorem dX4_beginRail_34 : decode cX4_beginRail 34 = .ok (.iconst 0, 1) := by decide +kernel
theorem dX4_beginRail_35 : decode cX4_beginRail 35 = .ok (.iastore, 1) := by decide +kernel
theorem dX4_beginRail_36 : decode cX4_beginRail 36 = .ok (.iinc 1 1, 3) := by decide +kernel
theorem dX4_beginRail_39 : decode cX4_beginRail 39 = .ok (.goto (-22), 3) := by decide +kernel
theorem dX4_beginRail_42 : decode cX4_beginRail 42 = .ok (.return_, 1) := by decide +kernel
theorem dX4_least_0 : decode cX4_least 0 = .ok (.aload_n 0, 1) := by decide +kernel
theorem dX4_least_1 : decode cX4_least 1 = .ok (.getfield 138, 3) := by decide +kernel
theorem dX4_least_4 : decode cX4_least 4 = .ok (.ifCond .ne 8, 3) := by decide +kernel
theorem dX4_least_7 : decode cX4_least 7 = .ok (.bipush 100, 2) := by decide +kernel
theorem dX4_least_9 : decode cX4_least 9 = .ok (.goto 4, 3) := by decide +kernel
theorem dX4_least_12 : decode cX4_least 12 = .ok (.iconst 1, 1) := by decide +kernel
theorem dX4_least_13 : decode cX4_least 13 = .ok (.ireturn, 1) := by decide +kernel
theorem dX4_takesDigit_0 : decode cX4_takesDigit 0 = .ok (.iconst 4, 1) := by decide +kernel
theorem dX4_takesDigit_1 : decode cX4_takesDigit 1 = .ok (.aload_n 0, 1) := by decide +kernel
theorem dX4_takesDigit_2 : decode cX4_takesDigit 2 = .ok (.getfield 147, 3) := by decide +kernel
theorem dX4_takesDigit_5 : decode cX4_takesDigit 5 = .ok (.imul, 1) := by decide +kernel
theorem dX4_takesDigit_6 : decode cX4_takesDigit 6 = .ok (.aload_n 0, 1) := by decide +kernel
theorem dX4_takesDigit_7 : decode cX4_takesDigit 7 = .ok (.getfield 138, 3) := by decide +kernel
theorem dX4_takesDigit_10 : decode cX4_takesDigit 10 = .ok (.iadd, 1) := by decide +kernel
theorem dX4_takesDigit_11 : decode cX4_takesDigit 11 = .ok (.istore_n 2, 1) := by decide +kernel
theorem dX4_takesDigit_12 : decode cX4_takesDigit 12 = .ok (.aload_n 0, 1) := by decide +kernel
theorem dX4_takesDigit_13 : decode cX4_takesDigit 13 = .ok (.getfield 138, 3) := by decide +kernel
theorem dX4_takesDigit_16 : decode cX4_takesDigit 16 = .ok (.iconst 3, 1) := by decide +kernel
theorem dX4_takesDigit_17 : decode cX4_takesDigit 17 = .ok (.if_icmp .ne 79, 3) := by decide +kernel
theorem dX4_takesDigit_20 : decode cX4_takesDigit 20 = .ok (.iload_n 1, 1) := by decide +kernel
theorem dX4_takesDigit_21 : decode cX4_takesDigit 21 = .ok (.aload_n 0, 1) := by decide +kernel
theorem dX4_takesDigit_22 : decode cX4_takesDigit 22 = .ok (.getfield 144, 3) := by decide +kernel
theorem dX4_takesDigit_25 : decode cX4_takesDigit 25 = .ok (.if_icmp .le 13, 3) := by decide +kernel
theorem dX4_takesDigit_28 : decode cX4_takesDigit 28 = .ok (.iload_n 1, 1) := by decide +kernel
theorem dX4_takesDigit_29 : decode cX4_takesDigit 29 = .ok (.bipush 7, 2) := by decide +kernel
theorem dX4_takesDigit_31 : decode cX4_takesDigit 31 = .ok (.if_icmp .ge 7, 3) := by decide +kernel
theorem dX4_takesDigit_34 : decode cX4_takesDigit 34 = .ok (.iconst 1, 1) := by decide +kernel
theorem dX4_takesDigit_35 : decode cX4_takesDigit 35 = .ok (.goto 4, 3) := by decide +kernel
theorem dX4_takesDigit_38 : decode cX4_takesDigit 38 = .ok (.iconst 0, 1) := by decide +kernel
theorem dX4_takesDigit_39 : decode cX4_takesDigit 39 = .ok (.istore_n 3, 1) := by decide +kernel
theorem dX4_takesDigit_40 : decode cX4_takesDigit 40 = .ok (.aload_n 0, 1) := by decide +kernel
theorem dX4_takesDigit_41 : decode cX4_takesDigit 41 = .ok (.getfield 25, 3) := by decide +kernel
theorem dX4_takesDigit_44 : decode cX4_takesDigit 44 = .ok (.iload_n 2, 1) := by decide +kernel
theorem dX4_takesDigit_45 : decode cX4_takesDigit 45 = .ok (.dup2, 1) := by decide +kernel
theorem dX4_takesDigit_46 : decode cX4_takesDigit 46 = .ok (.iaload, 1) := by decide +kernel
theorem dX4_takesDigit_47 : decode cX4_takesDigit 47 = .ok (.iload_n 3, 1) := by decide +kernel
theorem dX4_takesDigit_48 : decode cX4_takesDigit 48 = .ok (.ifCond .eq 9, 3) := by decide +kernel
theorem dX4_takesDigit_51 : decode cX4_takesDigit 51 = .ok (.iconst 1, 1) := by decide +kernel
theorem dX4_takesDigit_52 : decode cX4_takesDigit 52 = .ok (.iload_n 1, 1) := by decide +kernel
theorem dX4_takesDigit_53 : decode cX4_takesDigit 53 = .ok (.ishl, 1) := by decide +kernel
theorem dX4_takesDigit_54 : decode cX4_takesDigit 54 = .ok (.goto 4, 3) := by decide +kernel
theorem dX4_takesDigit_57 : decode cX4_takesDigit 57 = .ok (.iconst 0, 1) := by decide +kernel
theorem dX4_takesDigit_58 : decode cX4_takesDigit 58 = .ok (.ior, 1) := by decide +kernel
theorem dX4_takesDigit_59 : decode cX4_takesDigit 59 = .ok (.iastore, 1) := by decide +kernel
theorem dX4_takesDigit_60 : decode cX4_takesDigit 60 = .ok (.aload_n 0, 1) := by decide +kernel
theorem dX4_takesDigit_61 : decode cX4_takesDigit 61 = .ok (.iload_n 3, 1) := by decide +kernel
theorem dX4_takesDigit_62 : decode cX4_takesDigit 62 = .ok (.ifCond .eq 7, 3) := by decide +kernel
theorem dX4_takesDigit_65 : decode cX4_takesDigit 65 = .ok (.iload_n 1, 1) := by decide +kernel
theorem dX4_takesDigit_66 : decode cX4_takesDigit 66 = .ok (.goto 7, 3) := by decide +kernel
theorem dX4_takesDigit_69 : decode cX4_takesDigit 69 = .ok (.aload_n 0, 1) := by decide +kernel
theorem dX4_takesDigit_70 : decode cX4_takesDigit 70 = .ok (.getfield 144, 3) := by decide +kernel
theorem dX4_takesDigit_73 : decode cX4_takesDigit 73 = .ok (.putfield 144, 3) := by decide +kernel
theorem dX4_takesDigit_76 : decode cX4_takesDigit 76 = .ok (.aload_n 0, 1) := by decide +kernel
theorem dX4_takesDigit_77 : decode cX4_takesDigit 77 = .ok (.dup, 1) := by decide +kernel
theorem dX4_takesDigit_78 : decode cX4_takesDigit 78 = .ok (.getfield 141, 3) := by decide +kernel
theorem dX4_takesDigit_81 : decode cX4_takesDigit 81 = .ok (.iload_n 3, 1) := by decide +kernel
theorem dX4_takesDigit_82 : decode cX4_takesDigit 82 = .ok (.ifCond .eq 7, 3) := by decide +kernel
theorem dX4_takesDigit_85 : decode cX4_takesDigit 85 = .ok (.iconst 1, 1) := by decide +kernel
theorem dX4_takesDigit_86 : decode cX4_takesDigit 86 = .ok (.goto 4, 3) := by decide +kernel
theorem dX4_takesDigit_89 : decode cX4_takesDigit 89 = .ok (.iconst 0, 1) := by decide +kernel
theorem dX4_takesDigit_90 : decode cX4_takesDigit 90 = .ok (.iadd, 1) := by decide +kernel
theorem dX4_takesDigit_91 : decode cX4_takesDigit 91 = .ok (.putfield 141, 3) := by decide +kernel
theorem dX4_takesDigit_94 : decode cX4_takesDigit 94 = .ok (.iload_n 3, 1) := by decide +kernel
theorem dX4_takesDigit_95 : decode cX4_takesDigit 95 = .ok (.ireturn, 1) := by decide +kernel
theorem dX4_takesDigit_96 : decode cX4_takesDigit 96 = .ok (.aload_n 0, 1) := by decide +kernel
theorem dX4_takesDigit_97 : decode cX4_takesDigit 97 = .ok (.getfield 138, 3) := by decide +kernel
theorem dX4_takesDigit_100 : decode cX4_takesDigit 100 = .ok (.ifCond .ne 9, 3) := by decide +kernel
theorem dX4_takesDigit_103 : decode cX4_takesDigit 103 = .ok (.sipush 5000, 3) := by decide +kernel
theorem dX4_takesDigit_106 : decode cX4_takesDigit 106 = .ok (.goto 6, 3) := by decide +kernel
theorem dX4_takesDigit_109 : decode cX4_takesDigit 109 = .ok (.sipush 1000, 3) := by decide +kernel
theorem dX4_takesDigit_112 : decode cX4_takesDigit 112 = .ok (.istore_n 3, 1) := by decide +kernel
theorem dX4_takesDigit_113 : decode cX4_takesDigit 113 = .ok (.bipush 10, 2) := by decide +kernel
theorem dX4_takesDigit_115 : decode cX4_takesDigit 115 = .ok (.aload_n 0, 1) := by decide +kernel
theorem dX4_takesDigit_116 : decode cX4_takesDigit 116 = .ok (.getfield 25, 3) := by decide +kernel
theorem dX4_takesDigit_119 : decode cX4_takesDigit 119 = .ok (.iload_n 2, 1) := by decide +kernel
theorem dX4_takesDigit_120 : decode cX4_takesDigit 120 = .ok (.iaload, 1) := by decide +kernel
theorem dX4_takesDigit_121 : decode cX4_takesDigit 121 = .ok (.imul, 1) := by decide +kernel
theorem dX4_takesDigit_122 : decode cX4_takesDigit 122 = .ok (.iload_n 1, 1) := by decide +kernel
theorem dX4_takesDigit_123 : decode cX4_takesDigit 123 = .ok (.iadd, 1) := by decide +kernel
theorem dX4_takesDigit_124 : decode cX4_takesDigit 124 = .ok (.istore 4, 2) := by decide +kernel
theorem dX4_takesDigit_126 : decode cX4_takesDigit 126 = .ok (.iload 4, 2) := by decide +kernel
theorem dX4_takesDigit_128 : decode cX4_takesDigit 128 = .ok (.ifCond .le 13, 3) := by decide +kernel
theorem dX4_takesDigit_131 : decode cX4_takesDigit 131 = .ok (.iload 4, 2) := by decide +kernel
theorem dX4_takesDigit_133 : decode cX4_takesDigit 133 = .ok (.iload_n 3, 1) := by decide +kernel
theorem dX4_takesDigit_134 : decode cX4_takesDigit 134 = .ok (.if_icmp .gt 7, 3) := by decide +kernel
theorem dX4_takesDigit_137 : decode cX4_takesDigit 137 = .ok (.iconst 1, 1) := by decide +kernel
theorem dX4_takesDigit_138 : decode cX4_takesDigit 138 = .ok (.goto 4, 3) := by decide +kernel
theorem dX4_takesDigit_141 : decode cX4_takesDigit 141 = .ok (.iconst 0, 1) := by decide +kernel
theorem dX4_takesDigit_142 : decode cX4_takesDigit 142 = .ok (.istore 5, 2) := by decide +kernel
theorem dX4_takesDigit_144 : decode cX4_takesDigit 144 = .ok (.aload_n 0, 1) := by decide +kernel
theorem dX4_takesDigit_145 : decode cX4_takesDigit 145 = .ok (.getfield 25, 3) := by decide +kernel
theorem dX4_takesDigit_148 : decode cX4_takesDigit 148 = .ok (.iload_n 2, 1) := by decide +kernel
theorem dX4_takesDigit_149 : decode cX4_takesDigit 149 = .ok (.iload 5, 2) := by decide +kernel
theorem dX4_takesDigit_151 : decode cX4_takesDigit 151 = .ok (.ifCond .eq 8, 3) := by decide +kernel
theorem dX4_takesDigit_154 : decode cX4_takesDigit 154 = .ok (.iload 4, 2) := by decide +kernel
theorem dX4_takesDigit_156 : decode cX4_takesDigit 156 = .ok (.goto 9, 3) := by decide +kernel
theorem dX4_takesDigit_159 : decode cX4_takesDigit 159 = .ok (.aload_n 0, 1) := by decide +kernel
theorem dX4_takesDigit_160 : decode cX4_takesDigit 160 = .ok (.getfield 25, 3) := by decide +kernel
theorem dX4_takesDigit_163 : decode cX4_takesDigit 163 = .ok (.iload_n 2, 1) := by decide +kernel
theorem dX4_takesDigit_164 : decode cX4_takesDigit 164 = .ok (.iaload, 1) := by decide +kernel
theorem dX4_takesDigit_165 : decode cX4_takesDigit 165 = .ok (.iastore, 1) := by decide +kernel
theorem dX4_takesDigit_166 : decode cX4_takesDigit 166 = .ok (.aload_n 0, 1) := by decide +kernel
theorem dX4_takesDigit_167 : decode cX4_takesDigit 167 = .ok (.dup, 1) := by decide +kernel
theorem dX4_takesDigit_168 : decode cX4_takesDigit 168 = .ok (.getfield 141, 3) := by decide +kernel
theorem dX4_takesDigit_171 : decode cX4_takesDigit 171 = .ok (.iload 5, 2) := by decide +kernel
theorem dX4_takesDigit_173 : decode cX4_takesDigit 173 = .ok (.ifCond .eq 7, 3) := by decide +kernel
theorem dX4_takesDigit_176 : decode cX4_takesDigit 176 = .ok (.iconst 1, 1) := by decide +kernel
theorem dX4_takesDigit_177 : decode cX4_takesDigit 177 = .ok (.goto 4, 3) := by decide +kernel
theorem dX4_takesDigit_180 : decode cX4_takesDigit 180 = .ok (.iconst 0, 1) := by decide +kernel
theorem dX4_takesDigit_181 : decode cX4_takesDigit 181 = .ok (.iadd, 1) := by decide +kernel
theorem dX4_takesDigit_182 : decode cX4_takesDigit 182 = .ok (.putfield 141, 3) := by decide +kernel
theorem dX4_takesDigit_185 : decode cX4_takesDigit 185 = .ok (.iload 5, 2) := by decide +kernel
theorem dX4_takesDigit_187 : decode cX4_takesDigit 187 = .ok (.ireturn, 1) := by decide +kernel
theorem dX4_isNumberOver_0 : decode cX4_isNumberOver 0 = .ok (.aload_n 0, 1) := by decide +kernel
theorem dX4_isNumberOver_1 : decode cX4_isNumberOver 1 = .ok (.getfield 138, 3) := by decide +kernel
theorem dX4_isNumberOver_4 : decode cX4_isNumberOver 4 = .ok (.iconst 3, 1) := by decide +kernel
theorem dX4_isNumberOver_5 : decode cX4_isNumberOver 5 = .ok (.if_icmp .ge 37, 3) := by decide +kernel
theorem dX4_isNumberOver_8 : decode cX4_isNumberOver 8 = .ok (.aload_n 0, 1) := by decide +kernel
theorem dX4_isNumberOver_9 : decode cX4_isNumberOver 9 = .ok (.getfield 141, 3) := by decide +kernel
theorem dX4_isNumberOver_12 : decode cX4_isNumberOver 12 = .ok (.ifCond .le 30, 3) := by decide +kernel
theorem dX4_isNumberOver_15 : decode cX4_isNumberOver 15 = .ok (.aload_n 0, 1) := by decide +kernel
theorem dX4_isNumberOver_16 : decode cX4_isNumberOver 16 = .ok (.getfield 25, 3) := by decide +kernel
theorem dX4_isNumberOver_19 : decode cX4_isNumberOver 19 = .ok (.iconst 4, 1) := by decide +kernel
theorem dX4_isNumberOver_20 : decode cX4_isNumberOver 20 = .ok (.aload_n 0, 1) := by decide +kernel
theorem dX4_isNumberOver_21 : decode cX4_isNumberOver 21 = .ok (.getfield 147, 3) := by decide +kernel
theorem dX4_isNumberOver_24 : decode cX4_isNumberOver 24 = .ok (.imul, 1) := by decide +kernel
theorem dX4_isNumberOver_25 : decode cX4_isNumberOver 25 = .ok (.aload_n 0, 1) := by decide +kernel
theorem dX4_isNumberOver_26 : decode cX4_isNumberOver 26 = .ok (.getfield 138, 3) := by decide +kernel
theorem dX4_isNumberOver_29 : decode cX4_isNumberOver 29 = .ok (.iadd, 1) := by decide +kernel
theorem dX4_isNumberOver_30 : decode cX4_isNumberOver 30 = .ok (.iaload, 1) := by decide +kernel
theorem dX4_isNumberOver_31 : decode cX4_isNumberOver 31 = .ok (.aload_n 0, 1) := by decide +kernel
theorem dX4_isNumberOver_32 : decode cX4_isNumberOver 32 = .ok (.invokevirtual 150, 3) := by decide +kernel
theorem dX4_isNumberOver_35 : decode cX4_isNumberOver 35 = .ok (.if_icmp .lt 7, 3) := by decide +kernel
theorem dX4_isNumberOver_38 : decode cX4_isNumberOver 38 = .ok (.iconst 1, 1) := by decide +kernel
theorem dX4_isNumberOver_39 : decode cX4_isNumberOver 39 = .ok (.goto 4, 3) := by decide +kernel
theorem dX4_isNumberOver_42 : decode cX4_isNumberOver 42 = .ok (.iconst 0, 1) := by decide +kernel
theorem dX4_isNumberOver_43 : decode cX4_isNumberOver 43 = .ok (.ireturn, 1) := by decide +kernel
theorem dX4_isRailOver_0 : decode cX4_isRailOver 0 = .ok (.aload_n 0, 1) := by decide +kernel
theorem dX4_isRailOver_1 : decode cX4_isRailOver 1 = .ok (.getfield 138, 3) := by decide +kernel
theorem dX4_isRailOver_4 : decode cX4_isRailOver 4 = .ok (.iconst 3, 1) := by decide +kernel
theorem dX4_isRailOver_5 : decode cX4_isRailOver 5 = .ok (.if_icmp .ne 18, 3) := by decide +kernel
theorem dX4_isRailOver_8 : decode cX4_isRailOver 8 = .ok (.aload_n 0, 1) := by decide +kernel
theorem dX4_isRailOver_9 : decode cX4_isRailOver 9 = .ok (.getfield 141, 3) := by decide +kernel
theorem dX4_isRailOver_12 : decode cX4_isRailOver 12 = .ok (.ifCond .le 7, 3) := by decide +kernel
theorem dX4_isRailOver_15 : decode cX4_isRailOver 15 = .ok (.iconst 1, 1) := by decide +kernel
theorem dX4_isRailOver_16 : decode cX4_isRailOver 16 = .ok (.goto 27, 3) := by decide +kernel
theorem dX4_isRailOver_19 : decode cX4_isRailOver 19 = .ok (.iconst 0, 1) := by decide +kernel
theorem dX4_isRailOver_20 : decode cX4_isRailOver 20 = .ok (.goto 23, 3) := by decide +kernel
theorem dX4_isRailOver_23 : decode cX4_isRailOver 23 = .ok (.aload_n 0, 1) := by decide +kernel
theorem dX4_isRailOver_24 : decode cX4_isRailOver 24 = .ok (.getfield 138, 3) := by decide +kernel
theorem dX4_isRailOver_27 : decode cX4_isRailOver 27 = .ok (.iconst 2, 1) := by decide +kernel
theorem dX4_isRailOver_28 : decode cX4_isRailOver 28 = .ok (.if_icmp .ne 14, 3) := by decide +kernel
theorem dX4_isRailOver_31 : decode cX4_isRailOver 31 = .ok (.aload_n 0, 1) := by decide +kernel
theorem dX4_isRailOver_32 : decode cX4_isRailOver 32 = .ok (.invokevirtual 154, 3) := by decide +kernel
theorem dX4_isRailOver_35 : decode cX4_isRailOver 35 = .ok (.ifCond .eq 7, 3) := by decide +kernel
theorem dX4_isRailOver_38 : decode cX4_isRailOver 38 = .ok (.iconst 1, 1) := by decide +kernel
theorem dX4_isRailOver_39 : decode cX4_isRailOver 39 = .ok (.goto 4, 3) := by decide +kernel
theorem dX4_isRailOver_42 : decode cX4_isRailOver 42 = .ok (.iconst 0, 1) := by decide +kernel
theorem dX4_isRailOver_43 : decode cX4_isRailOver 43 = .ok (.ireturn, 1) := by decide +kernel
theorem dX4_takes_0 : decode cX4_takes 0 = .ok (.iload_n 1, 1) := by decide +kernel
theorem dX4_takes_1 : decode cX4_takes 1 = .ok (.bipush 48, 2) := by decide +kernel
theorem dX4_takes_3 : decode cX4_takes 3 = .ok (.bipush 57, 2) := by decide +kernel
theorem dX4_takes_5 : decode cX4_takes 5 = .ok (.invokestatic 32, 3) := by decide +kernel
theorem dX4_takes_8 : decode cX4_takes 8 = .ok (.ifCond .eq 12, 3) := by decide +kernel
theorem dX4_takes_11 : decode cX4_takes 11 = .ok (.aload_n 0, 1) := by decide +kernel
theorem dX4_takes_12 : decode cX4_takes 12 = .ok (.iload_n 1, 1) := by decide +kernel
theorem dX4_takes_13 : decode cX4_takes 13 = .ok (.bipush 48, 2) := by decide +kernel
theorem dX4_takes_15 : decode cX4_takes 15 = .ok (.isub, 1) := by decide +kernel
theorem dX4_takes_16 : decode cX4_takes 16 = .ok (.invokevirtual 158, 3) := by decide +kernel
theorem dX4_takes_19 : decode cX4_takes 19 = .ok (.ireturn, 1) := by decide +kernel
theorem dX4_takes_20 : decode cX4_takes 20 = .ok (.iload_n 1, 1) := by decide +kernel
theorem dX4_takes_21 : decode cX4_takes 21 = .ok (.bipush 47, 2) := by decide +kernel
theorem dX4_takes_23 : decode cX4_takes 23 = .ok (.if_icmp .ne 18, 3) := by decide +kernel
theorem dX4_takes_26 : decode cX4_takes 26 = .ok (.aload_n 0, 1) := by decide +kernel
theorem dX4_takes_27 : decode cX4_takes 27 = .ok (.getfield 138, 3) := by decide +kernel
theorem dX4_takes_30 : decode cX4_takes 30 = .ok (.iconst 2, 1) := by decide +kernel
theorem dX4_takes_31 : decode cX4_takes 31 = .ok (.if_icmp .ge 10, 3) := by decide +kernel
theorem dX4_takes_34 : decode cX4_takes 34 = .ok (.aload_n 0, 1) := by decide +kernel
theorem dX4_takes_35 : decode cX4_takes 35 = .ok (.invokevirtual 154, 3) := by decide +kernel
theorem dX4_takes_38 : decode cX4_takes 38 = .ok (.ifCond .ne 24, 3) := by decide +kernel
theorem dX4_takes_41 : decode cX4_takes 41 = .ok (.iload_n 1, 1) := by decide +kernel
theorem dX4_takes_42 : decode cX4_takes 42 = .ok (.bipush 60, 2) := by decide +kernel
theorem dX4_takes_44 : decode cX4_takes 44 = .ok (.if_icmp .ne 22, 3) := by decide +kernel
theorem dX4_takes_47 : decode cX4_takes 47 = .ok (.aload_n 0, 1) := by decide +kernel
theorem dX4_takes_48 : decode cX4_takes 48 = .ok (.getfield 138, 3) := by decide +kernel
theorem dX4_takes_51 : decode cX4_takes 51 = .ok (.iconst 2, 1) := by decide +kernel
theorem dX4_takes_52 : decode cX4_takes 52 = .ok (.if_icmp .ne 14, 3) := by decide +kernel
theorem dX4_takes_55 : decode cX4_takes 55 = .ok (.aload_n 0, 1) := by decide +kernel
theorem dX4_takes_56 : decode cX4_takes 56 = .ok (.invokevirtual 154, 3) := by decide +kernel
theorem dX4_takes_59 : decode cX4_takes 59 = .ok (.ifCond .eq 7, 3) := by decide +kernel
theorem dX4_takes_62 : decode cX4_takes 62 = .ok (.iconst 1, 1) := by decide +kernel
theorem dX4_takes_63 : decode cX4_takes 63 = .ok (.goto 4, 3) := by decide +kernel
theorem dX4_takes_66 : decode cX4_takes 66 = .ok (.iconst 0, 1) := by decide +kernel
theorem dX4_takes_67 : decode cX4_takes 67 = .ok (.istore_n 2, 1) := by decide +kernel
theorem dX4_takes_68 : decode cX4_takes 68 = .ok (.iload_n 2, 1) := by decide +kernel
theorem dX4_takes_69 : decode cX4_takes 69 = .ok (.ifCond .eq 20, 3) := by decide +kernel
theorem dX4_takes_72 : decode cX4_takes 72 = .ok (.aload_n 0, 1) := by decide +kernel
theorem dX4_takes_73 : decode cX4_takes 73 = .ok (.dup, 1) := by decide +kernel
theorem dX4_takes_74 : decode cX4_takes 74 = .ok (.getfield 138, 3) := by decide +kernel
theorem dX4_takes_77 : decode cX4_takes 77 = .ok (.iconst 1, 1) := by decide +kernel
theorem dX4_takes_78 : decode cX4_takes 78 = .ok (.iadd, 1) := by decide +kernel
theorem dX4_takes_79 : decode cX4_takes 79 = .ok (.putfield 138, 3) := by decide +kernel
theorem dX4_takes_82 : decode cX4_takes 82 = .ok (.aload_n 0, 1) := by decide +kernel
theorem dX4_takes_83 : decode cX4_takes 83 = .ok (.iconst 0, 1) := by decide +kernel
theorem dX4_takes_84 : decode cX4_takes 84 = .ok (.putfield 141, 3) := by decide +kernel
theorem dX4_takes_87 : decode cX4_takes 87 = .ok (.iconst 1, 1) := by decide +kernel
theorem dX4_takes_88 : decode cX4_takes 88 = .ok (.ireturn, 1) := by decide +kernel
theorem dX4_takes_89 : decode cX4_takes 89 = .ok (.iload_n 1, 1) := by decide +kernel
theorem dX4_takes_90 : decode cX4_takes 90 = .ok (.bipush 59, 2) := by decide +kernel
theorem dX4_takes_92 : decode cX4_takes 92 = .ok (.if_icmp .ne 26, 3) := by decide +kernel
theorem dX4_takes_95 : decode cX4_takes 95 = .ok (.aload_n 0, 1) := by decide +kernel
theorem dX4_takes_96 : decode cX4_takes 96 = .ok (.invokevirtual 161, 3) := by decide +kernel
theorem dX4_takes_99 : decode cX4_takes 99 = .ok (.ifCond .eq 19, 3) := by decide +kernel
theorem dX4_takes_102 : decode cX4_takes 102 = .ok (.aload_n 0, 1) := by decide +kernel
theorem dX4_takes_103 : decode cX4_takes 103 = .ok (.dup, 1) := by decide +kernel
theorem dX4_takes_104 : decode cX4_takes 104 = .ok (.getfield 147, 3) := by decide +kernel
theorem dX4_takes_107 : decode cX4_takes 107 = .ok (.iconst 1, 1) := by decide +kernel
theorem dX4_takes_108 : decode cX4_takes 108 = .ok (.iadd, 1) := by decide +kernel
theorem dX4_takes_109 : decode cX4_takes 109 = .ok (.putfield 147, 3) := by decide +kernel
theorem dX4_takes_112 : decode cX4_takes 112 = .ok (.aload_n 0, 1) := by decide +kernel
theorem dX4_takes_113 : decode cX4_takes 113 = .ok (.invokevirtual 164, 3) := by decide +kernel
theorem dX4_takes_116 : decode cX4_takes 116 = .ok (.iconst 1, 1) := by decide +kernel
theorem dX4_takes_117 : decode cX4_takes 117 = .ok (.ireturn, 1) := by decide +kernel
theorem dX4_takes_118 : decode cX4_takes 118 = .ok (.iconst 0, 1) := by decide +kernel
theorem dX4_takes_119 : decode cX4_takes 119 = .ok (.ireturn, 1) := by decide +kernel
theorem dX4_readText_0 : decode cX4_readText 0 = .ok (.aload_n 0, 1) := by decide +kernel
theorem dX4_readText_1 : decode cX4_readText 1 = .ok (.iconst 0, 1) := by decide +kernel
theorem dX4_readText_2 : decode cX4_readText 2 = .ok (.putfield 147, 3) := by decide +kernel
theorem dX4_readText_5 : decode cX4_readText 5 = .ok (.aload_n 0, 1) := by decide +kernel
theorem dX4_readText_6 : decode cX4_readText 6 = .ok (.invokevirtual 164, 3) := by decide +kernel
theorem dX4_readText_9 : decode cX4_readText 9 = .ok (.iconst 0, 1) := by decide +kernel
theorem dX4_readText_10 : decode cX4_readText 10 = .ok (.istore_n 1, 1) := by decide +kernel
theorem dX4_readText_11 : decode cX4_readText 11 = .ok (.iload_n 1, 1) := by decide +kernel
theorem dX4_readText_12 : decode cX4_readText 12 = .ok (.aload_n 0, 1) := by decide +kernel
theorem dX4_readText_13 : decode cX4_readText 13 = .ok (.getfield 135, 3) := by decide +kernel
theorem dX4_readText_16 : decode cX4_readText 16 = .ok (.if_icmp .ge 22, 3) := by decide +kernel
theorem dX4_readText_19 : decode cX4_readText 19 = .ok (.aload_n 0, 1) := by decide +kernel
theorem dX4_readText_20 : decode cX4_readText 20 = .ok (.aload_n 0, 1) := by decide +kernel
theorem dX4_readText_21 : decode cX4_readText 21 = .ok (.getfield 16, 3) := by decide +kernel
theorem dX4_readText_24 : decode cX4_readText 24 = .ok (.iload_n 1, 1) := by decide +kernel
theorem dX4_readText_25 : decode cX4_readText 25 = .ok (.iaload, 1) := by decide +kernel
theorem dX4_readText_26 : decode cX4_readText 26 = .ok (.invokevirtual 167, 3) := by decide +kernel
theorem dX4_readText_29 : decode cX4_readText 29 = .ok (.ifCond .eq 9, 3) := by decide +kernel
theorem dX4_readText_32 : decode cX4_readText 32 = .ok (.iinc 1 1, 3) := by decide +kernel
theorem dX4_readText_35 : decode cX4_readText 35 = .ok (.goto (-24), 3) := by decide +kernel
theorem dX4_readText_38 : decode cX4_readText 38 = .ok (.iload_n 1, 1) := by decide +kernel
theorem dX4_readText_39 : decode cX4_readText 39 = .ok (.ireturn, 1) := by decide +kernel
theorem dX4_firstError_0 : decode cX4_firstError 0 = .ok (.aload_n 0, 1) := by decide +kernel
theorem dX4_firstError_1 : decode cX4_firstError 1 = .ok (.iconst 0, 1) := by decide +kernel
theorem dX4_firstError_2 : decode cX4_firstError 2 = .ok (.putfield 28, 3) := by decide +kernel
theorem dX4_firstError_5 : decode cX4_firstError 5 = .ok (.aload_n 0, 1) := by decide +kernel
theorem dX4_firstError_6 : decode cX4_firstError 6 = .ok (.invokevirtual 170, 3) := by decide +kernel
theorem dX4_firstError_9 : decode cX4_firstError 9 = .ok (.ireturn, 1) := by decide +kernel
theorem dX4_isEarlier_0 : decode cX4_isEarlier 0 = .ok (.aload_n 0, 1) := by decide +kernel
theorem dX4_isEarlier_1 : decode cX4_isEarlier 1 = .ok (.getfield 7, 3) := by decide +kernel
theorem dX4_isEarlier_4 : decode cX4_isEarlier 4 = .ok (.iconst 0, 1) := by decide +kernel
theorem dX4_isEarlier_5 : decode cX4_isEarlier 5 = .ok (.iaload, 1) := by decide +kernel
theorem dX4_isEarlier_6 : decode cX4_isEarlier 6 = .ok (.aload_n 0, 1) := by decide +kernel
theorem dX4_isEarlier_7 : decode cX4_isEarlier 7 = .ok (.getfield 147, 3) := by decide +kernel
theorem dX4_isEarlier_10 : decode cX4_isEarlier 10 = .ok (.iadd, 1) := by decide +kernel
theorem dX4_isEarlier_11 : decode cX4_isEarlier 11 = .ok (.bipush 8, 2) := by decide +kernel
theorem dX4_isEarlier_13 : decode cX4_isEarlier 13 = .ok (.if_icmp .ge 7, 3) := by decide +kernel
theorem dX4_isEarlier_16 : decode cX4_isEarlier 16 = .ok (.iconst 1, 1) := by decide +kernel
theorem dX4_isEarlier_17 : decode cX4_isEarlier 17 = .ok (.goto 4, 3) := by decide +kernel
theorem dX4_isEarlier_20 : decode cX4_isEarlier 20 = .ok (.iconst 0, 1) := by decide +kernel
theorem dX4_isEarlier_21 : decode cX4_isEarlier 21 = .ok (.istore_n 1, 1) := by decide +kernel
theorem dX4_isEarlier_22 : decode cX4_isEarlier 22 = .ok (.iconst 0, 1) := by decide +kernel
theorem dX4_isEarlier_23 : decode cX4_isEarlier 23 = .ok (.istore_n 2, 1) := by decide +kernel
theorem dX4_isEarlier_24 : decode cX4_isEarlier 24 = .ok (.iload_n 2, 1) := by decide +kernel
theorem dX4_isEarlier_25 : decode cX4_isEarlier 25 = .ok (.aload_n 0, 1) := by decide +kernel
theorem dX4_isEarlier_26 : decode cX4_isEarlier 26 = .ok (.getfield 147, 3) := by decide +kernel
theorem dX4_isEarlier_29 : decode cX4_isEarlier 29 = .ok (.if_icmp .gt 44, 3) := by decide +kernel
theorem dX4_isEarlier_32 : decode cX4_isEarlier 32 = .ok (.iload_n 1, 1) := by decide +kernel
theorem dX4_isEarlier_33 : decode cX4_isEarlier 33 = .ok (.ifCond .eq 32, 3) := by decide +kernel
theorem dX4_isEarlier_36 : decode cX4_isEarlier 36 = .ok (.aload_n 0, 1) := by decide +kernel
theorem dX4_isEarlier_37 : decode cX4_isEarlier 37 = .ok (.aload_n 0, 1) := by decide +kernel
theorem dX4_isEarlier_38 : decode cX4_isEarlier 38 = .ok (.getfield 25, 3) := by decide +kernel
theorem dX4_isEarlier_41 : decode cX4_isEarlier 41 = .ok (.iconst 4, 1) := by decide +kernel
theorem dX4_isEarlier_42 : decode cX4_isEarlier 42 = .ok (.iload_n 2, 1) := by decide +kernel
theorem dX4_isEarlier_43 : decode cX4_isEarlier 43 = .ok (.imul, 1) := by decide +kernel
theorem dX4_isEarlier_44 : decode cX4_isEarlier 44 = .ok (.iconst 3, 1) := by decide +kernel
theorem dX4_isEarlier_45 : decode cX4_isEarlier 45 = .ok (.iadd, 1) := by decide +kernel
theorem dX4_isEarlier_46 : decode cX4_isEarlier 46 = .ok (.iaload, 1) := by decide +kernel
theorem dX4_isEarlier_47 : decode cX4_isEarlier 47 = .ok (.aload_n 0, 1) := by decide +kernel
theorem dX4_isEarlier_48 : decode cX4_isEarlier 48 = .ok (.getfield 7, 3) := by decide +kernel
theorem dX4_isEarlier_51 : decode cX4_isEarlier 51 = .ok (.iconst 0, 1) := by decide +kernel
theorem dX4_isEarlier_52 : decode cX4_isEarlier 52 = .ok (.iaload, 1) := by decide +kernel
theorem dX4_isEarlier_53 : decode cX4_isEarlier 53 = .ok (.iload_n 2, 1) := by decide +kernel
theorem dX4_isEarlier_54 : decode cX4_isEarlier 54 = .ok (.iadd, 1) := by decide +kernel
theorem dX4_isEarlier_55 : decode cX4_isEarlier 55 = .ok (.invokevirtual 107, 3) := by decide +kernel
theorem dX4_isEarlier_58 : decode cX4_isEarlier 58 = .ok (.ifCond .eq 7, 3) := by decide +kernel
theorem dX4_isEarlier_61 : decode cX4_isEarlier 61 = .ok (.iconst 1, 1) := by decide +kernel
theorem dX4_isEarlier_62 : decode cX4_isEarlier 62 = .ok (.goto 4, 3) := by decide +kernel
theorem dX4_isEarlier_65 : decode cX4_isEarlier 65 = .ok (.iconst 0, 1) := by decide +kernel
theorem dX4_isEarlier_66 : decode cX4_isEarlier 66 = .ok (.istore_n 1, 1) := by decide +kernel
theorem dX4_isEarlier_67 : decode cX4_isEarlier 67 = .ok (.iinc 2 1, 3) := by decide +kernel
theorem dX4_isEarlier_70 : decode cX4_isEarlier 70 = .ok (.goto (-46), 3) := by decide +kernel
theorem dX4_isEarlier_73 : decode cX4_isEarlier 73 = .ok (.iload_n 1, 1) := by decide +kernel
theorem dX4_isEarlier_74 : decode cX4_isEarlier 74 = .ok (.ireturn, 1) := by decide +kernel
theorem dX4_load_0 : decode cX4_load 0 = .ok (.aload_n 0, 1) := by decide +kernel
theorem dX4_load_1 : decode cX4_load 1 = .ok (.invokevirtual 170, 3) := by decide +kernel
theorem dX4_load_4 : decode cX4_load 4 = .ok (.aload_n 0, 1) := by decide +kernel
theorem dX4_load_5 : decode cX4_load 5 = .ok (.getfield 135, 3) := by decide +kernel
theorem dX4_load_8 : decode cX4_load 8 = .ok (.if_icmp .ne 14, 3) := by decide +kernel
theorem dX4_load_11 : decode cX4_load 11 = .ok (.aload_n 0, 1) := by decide +kernel
theorem dX4_load_12 : decode cX4_load 12 = .ok (.invokevirtual 161, 3) := by decide +kernel
theorem dX4_load_15 : decode cX4_load 15 = .ok (.ifCond .eq 7, 3) := by decide +kernel
theorem dX4_load_18 : decode cX4_load 18 = .ok (.iconst 1, 1) := by decide +kernel
theorem dX4_load_19 : decode cX4_load 19 = .ok (.goto 4, 3) := by decide +kernel
theorem dX4_load_22 : decode cX4_load 22 = .ok (.iconst 0, 1) := by decide +kernel
theorem dX4_load_23 : decode cX4_load 23 = .ok (.istore_n 1, 1) := by decide +kernel
theorem dX4_load_24 : decode cX4_load 24 = .ok (.aload_n 0, 1) := by decide +kernel
theorem dX4_load_25 : decode cX4_load 25 = .ok (.iload_n 1, 1) := by decide +kernel
theorem dX4_load_26 : decode cX4_load 26 = .ok (.ifCond .ne 7, 3) := by decide +kernel
theorem dX4_load_29 : decode cX4_load 29 = .ok (.iconst 1, 1) := by decide +kernel
theorem dX4_load_30 : decode cX4_load 30 = .ok (.goto 15, 3) := by decide +kernel
theorem dX4_load_33 : decode cX4_load 33 = .ok (.aload_n 0, 1) := by decide +kernel
theorem dX4_load_34 : decode cX4_load 34 = .ok (.invokevirtual 173, 3) := by decide +kernel
theorem dX4_load_37 : decode cX4_load 37 = .ok (.ifCond .eq 7, 3) := by decide +kernel
theorem dX4_load_40 : decode cX4_load 40 = .ok (.iconst 0, 1) := by decide +kernel
theorem dX4_load_41 : decode cX4_load 41 = .ok (.goto 4, 3) := by decide +kernel
theorem dX4_load_44 : decode cX4_load 44 = .ok (.iconst 2, 1) := by decide +kernel
theorem dX4_load_45 : decode cX4_load 45 = .ok (.putfield 28, 3) := by decide +kernel
theorem dX4_load_48 : decode cX4_load 48 = .ok (.aload_n 0, 1) := by decide +kernel
theorem dX4_load_49 : decode cX4_load 49 = .ok (.getfield 28, 3) := by decide +kernel
theorem dX4_load_52 : decode cX4_load 52 = .ok (.ifCond .le 5, 3) := by decide +kernel
theorem dX4_load_55 : decode cX4_load 55 = .ok (.iconst 0, 1) := by decide +kernel
theorem dX4_load_56 : decode cX4_load 56 = .ok (.ireturn, 1) := by decide +kernel
theorem dX4_load_57 : decode cX4_load 57 = .ok (.aload_n 0, 1) := by decide +kernel
theorem dX4_load_58 : decode cX4_load 58 = .ok (.invokevirtual 110, 3) := by decide +kernel
theorem dX4_load_61 : decode cX4_load 61 = .ok (.iconst 0, 1) := by decide +kernel
theorem dX4_load_62 : decode cX4_load 62 = .ok (.istore_n 2, 1) := by decide +kernel
theorem dX4_load_63 : decode cX4_load 63 = .ok (.iload_n 2, 1) := by decide +kernel
theorem dX4_load_64 : decode cX4_load 64 = .ok (.aload_n 0, 1) := by decide +kernel
theorem dX4_load_65 : decode cX4_load 65 = .ok (.getfield 147, 3) := by decide +kernel
theorem dX4_load_68 : decode cX4_load 68 = .ok (.if_icmp .gt 51, 3) := by decide +kernel
theorem dX4_load_71 : decode cX4_load 71 = .ok (.aload_n 0, 1) := by decide +kernel
theorem dX4_load_72 : decode cX4_load 72 = .ok (.aload_n 0, 1) := by decide +kernel
theorem dX4_load_73 : decode cX4_load 73 = .ok (.getfield 25, 3) := by decide +kernel
theorem dX4_load_76 : decode cX4_load 76 = .ok (.iconst 4, 1) := by decide +kernel
theorem dX4_load_77 : decode cX4_load 77 = .ok (.iload_n 2, 1) := by decide +kernel
theorem dX4_load_78 : decode cX4_load 78 = .ok (.imul, 1) := by decide +kernel
theorem dX4_load_79 : decode cX4_load 79 = .ok (.iaload, 1) := by decide +kernel
theorem dX4_load_80 : decode cX4_load 80 = .ok (.aload_n 0, 1) := by decide +kernel
theorem dX4_load_81 : decode cX4_load 81 = .ok (.getfield 25, 3) := by decide +kernel
theorem dX4_load_84 : decode cX4_load 84 = .ok (.iconst 4, 1) := by decide +kernel
theorem dX4_load_85 : decode cX4_load 85 = .ok (.iload_n 2, 1) := by decide +kernel
theorem dX4_load_86 : decode cX4_load 86 = .ok (.imul, 1) := by decide +kernel
theorem dX4_load_87 : decode cX4_load 87 = .ok (.iconst 1, 1) := by decide +kernel
theorem dX4_load_88 : decode cX4_load 88 = .ok (.iadd, 1) := by decide +kernel
theorem dX4_load_89 : decode cX4_load 89 = .ok (.iaload, 1) := by decide +kernel
theorem dX4_load_90 : decode cX4_load 90 = .ok (.aload_n 0, 1) := by decide +kernel
theorem dX4_load_91 : decode cX4_load 91 = .ok (.getfield 25, 3) := by decide +kernel
theorem dX4_load_94 : decode cX4_load 94 = .ok (.iconst 4, 1) := by decide +kernel
theorem dX4_load_95 : decode cX4_load 95 = .ok (.iload_n 2, 1) := by decide +kernel
theorem dX4_load_96 : decode cX4_load 96 = .ok (.imul, 1) := by decide +kernel
theorem dX4_load_97 : decode cX4_load 97 = .ok (.iconst 2, 1) := by decide +kernel
theorem dX4_load_98 : decode cX4_load 98 = .ok (.iadd, 1) := by decide +kernel
theorem dX4_load_99 : decode cX4_load 99 = .ok (.iaload, 1) := by decide +kernel
theorem dX4_load_100 : decode cX4_load 100 = .ok (.aload_n 0, 1) := by decide +kernel
theorem dX4_load_101 : decode cX4_load 101 = .ok (.getfield 25, 3) := by decide +kernel
theorem dX4_load_104 : decode cX4_load 104 = .ok (.iconst 4, 1) := by decide +kernel
theorem dX4_load_105 : decode cX4_load 105 = .ok (.iload_n 2, 1) := by decide +kernel
theorem dX4_load_106 : decode cX4_load 106 = .ok (.imul, 1) := by decide +kernel
theorem dX4_load_107 : decode cX4_load 107 = .ok (.iconst 3, 1) := by decide +kernel
theorem dX4_load_108 : decode cX4_load 108 = .ok (.iadd, 1) := by decide +kernel
theorem dX4_load_109 : decode cX4_load 109 = .ok (.iaload, 1) := by decide +kernel
theorem dX4_load_110 : decode cX4_load 110 = .ok (.invokevirtual 113, 3) := by decide +kernel
theorem dX4_load_113 : decode cX4_load 113 = .ok (.iinc 2 1, 3) := by decide +kernel
theorem dX4_load_116 : decode cX4_load 116 = .ok (.goto (-53), 3) := by decide +kernel
theorem dX4_load_119 : decode cX4_load 119 = .ok (.aload_n 0, 1) := by decide +kernel
theorem dX4_load_120 : decode cX4_load 120 = .ok (.iconst 0, 1) := by decide +kernel
theorem dX4_load_121 : decode cX4_load 121 = .ok (.putfield 135, 3) := by decide +kernel
theorem dX4_load_124 : decode cX4_load 124 = .ok (.aload_n 0, 1) := by decide +kernel
theorem dX4_load_125 : decode cX4_load 125 = .ok (.getfield 7, 3) := by decide +kernel
theorem dX4_load_128 : decode cX4_load 128 = .ok (.iconst 0, 1) := by decide +kernel
theorem dX4_load_129 : decode cX4_load 129 = .ok (.iaload, 1) := by decide +kernel
theorem dX4_load_130 : decode cX4_load 130 = .ok (.ireturn, 1) := by decide +kernel
theorem dX4_firstBlame_0 : decode cX4_firstBlame 0 = .ok (.aload_n 0, 1) := by decide +kernel
theorem dX4_firstBlame_1 : decode cX4_firstBlame 1 = .ok (.iload_n 1, 1) := by decide +kernel
theorem dX4_firstBlame_2 : decode cX4_firstBlame 2 = .ok (.bipush 15, 2) := by decide +kernel
theorem dX4_firstBlame_4 : decode cX4_firstBlame 4 = .ok (.invokevirtual 36, 3) := by decide +kernel
theorem dX4_firstBlame_7 : decode cX4_firstBlame 7 = .ok (.istore_n 2, 1) := by decide +kernel
theorem dX4_firstBlame_8 : decode cX4_firstBlame 8 = .ok (.iload_n 2, 1) := by decide +kernel
theorem dX4_firstBlame_9 : decode cX4_firstBlame 9 = .ok (.iconst (-1), 1) := by decide +kernel
theorem dX4_firstBlame_10 : decode cX4_firstBlame 10 = .ok (.if_icmp .eq 36, 3) := by decide +kernel
theorem dX4_firstBlame_13 : decode cX4_firstBlame 13 = .ok (.aload_n 0, 1) := by decide +kernel
theorem dX4_firstBlame_14 : decode cX4_firstBlame 14 = .ok (.iload_n 2, 1) := by decide +kernel
theorem dX4_firstBlame_15 : decode cX4_firstBlame 15 = .ok (.bipush 15, 2) := by decide +kernel
theorem dX4_firstBlame_17 : decode cX4_firstBlame 17 = .ok (.invokevirtual 36, 3) := by decide +kernel
theorem dX4_firstBlame_20 : decode cX4_firstBlame 20 = .ok (.iconst (-1), 1) := by decide +kernel
theorem dX4_firstBlame_21 : decode cX4_firstBlame 21 = .ok (.if_icmp .eq 25, 3) := by decide +kernel
theorem dX4_firstBlame_24 : decode cX4_firstBlame 24 = .ok (.aload_n 0, 1) := by decide +kernel
theorem dX4_firstBlame_25 : decode cX4_firstBlame 25 = .ok (.iload_n 2, 1) := by decide +kernel
theorem dX4_firstBlame_26 : decode cX4_firstBlame 26 = .ok (.bipush 15, 2) := by decide +kernel
theorem dX4_firstBlame_28 : decode cX4_firstBlame 28 = .ok (.invokevirtual 36, 3) := by decide +kernel
theorem dX4_firstBlame_31 : decode cX4_firstBlame 31 = .ok (.iload_n 2, 1) := by decide +kernel
theorem dX4_firstBlame_32 : decode cX4_firstBlame 32 = .ok (.if_icmp .eq 14, 3) := by decide +kernel
theorem dX4_firstBlame_35 : decode cX4_firstBlame 35 = .ok (.aload_n 0, 1) := by decide +kernel
theorem dX4_firstBlame_36 : decode cX4_firstBlame 36 = .ok (.iload_n 2, 1) := by decide +kernel
theorem dX4_firstBlame_37 : decode cX4_firstBlame 37 = .ok (.bipush 15, 2) := by decide +kernel
theorem dX4_firstBlame_39 : decode cX4_firstBlame 39 = .ok (.invokevirtual 36, 3) := by decide +kernel
theorem dX4_firstBlame_42 : decode cX4_firstBlame 42 = .ok (.istore_n 2, 1) := by decide +kernel
theorem dX4_firstBlame_43 : decode cX4_firstBlame 43 = .ok (.goto (-35), 3) := by decide +kernel
theorem dX4_firstBlame_46 : decode cX4_firstBlame 46 = .ok (.iload_n 2, 1) := by decide +kernel
theorem dX4_firstBlame_47 : decode cX4_firstBlame 47 = .ok (.ireturn, 1) := by decide +kernel
theorem dX4_railNow_0 : decode cX4_railNow 0 = .ok (.iload_n 2, 1) := by decide +kernel
theorem dX4_railNow_1 : decode cX4_railNow 1 = .ok (.tableswitch 149 8 18 #[59, 65, 73, 81, 89, 103, 111, 119, 127, 135, 143], 59) := by decide +kernel
theorem dX4_railNow_60 : decode cX4_railNow 60 = .ok (.aload_n 0, 1) := by decide +kernel
theorem dX4_railNow_61 : decode cX4_railNow 61 = .ok (.iload_n 1, 1) := by decide +kernel
theorem dX4_railNow_62 : decode cX4_railNow 62 = .ok (.invokevirtual 129, 3) := by decide +kernel
theorem dX4_railNow_65 : decode cX4_railNow 65 = .ok (.ireturn, 1) := by decide +kernel
theorem dX4_railNow_66 : decode cX4_railNow 66 = .ok (.aload_n 0, 1) := by decide +kernel
theorem dX4_railNow_67 : decode cX4_railNow 67 = .ok (.iload_n 1, 1) := by decide +kernel
theorem dX4_railNow_68 : decode cX4_railNow 68 = .ok (.bipush 8, 2) := by decide +kernel
theorem dX4_railNow_70 : decode cX4_railNow 70 = .ok (.invokevirtual 36, 3) := by decide +kernel
theorem dX4_railNow_73 : decode cX4_railNow 73 = .ok (.ireturn, 1) := by decide +kernel
theorem dX4_railNow_74 : decode cX4_railNow 74 = .ok (.aload_n 0, 1) := by decide +kernel
theorem dX4_railNow_75 : decode cX4_railNow 75 = .ok (.iload_n 1, 1) := by decide +kernel
theorem dX4_railNow_76 : decode cX4_railNow 76 = .ok (.bipush 9, 2) := by decide +kernel
theorem dX4_railNow_78 : decode cX4_railNow 78 = .ok (.invokevirtual 36, 3) := by decide +kernel
theorem dX4_railNow_81 : decode cX4_railNow 81 = .ok (.ireturn, 1) := by decide +kernel
theorem dX4_railNow_82 : decode cX4_railNow 82 = .ok (.aload_n 0, 1) := by decide +kernel
theorem dX4_railNow_83 : decode cX4_railNow 83 = .ok (.iload_n 1, 1) := by decide +kernel
theorem dX4_railNow_84 : decode cX4_railNow 84 = .ok (.bipush 10, 2) := by decide +kernel
theorem dX4_railNow_86 : decode cX4_railNow 86 = .ok (.invokevirtual 36, 3) := by decide +kernel
theorem dX4_railNow_89 : decode cX4_railNow 89 = .ok (.ireturn, 1) := by decide +kernel
theorem dX4_railNow_90 : decode cX4_railNow 90 = .ok (.aload_n 0, 1) := by decide +kernel
theorem dX4_railNow_91 : decode cX4_railNow 91 = .ok (.iload_n 1, 1) := by decide +kernel
theorem dX4_railNow_92 : decode cX4_railNow 92 = .ok (.invokevirtual 65, 3) := by decide +kernel
theorem dX4_railNow_95 : decode cX4_railNow 95 = .ok (.ifCond .eq 7, 3) := by decide +kernel
theorem dX4_railNow_98 : decode cX4_railNow 98 = .ok (.iconst 1, 1) := by decide +kernel
theorem dX4_railNow_99 : decode cX4_railNow 99 = .ok (.goto 4, 3) := by decide +kernel
theorem dX4_railNow_102 : decode cX4_railNow 102 = .ok (.iconst 0, 1) := by decide +kernel
theorem dX4_railNow_103 : decode cX4_railNow 103 = .ok (.ireturn, 1) := by decide +kernel
theorem dX4_railNow_104 : decode cX4_railNow 104 = .ok (.aload_n 0, 1) := by decide +kernel
theorem dX4_railNow_105 : decode cX4_railNow 105 = .ok (.iload_n 1, 1) := by decide +kernel
theorem dX4_railNow_106 : decode cX4_railNow 106 = .ok (.bipush 11, 2) := by decide +kernel
theorem dX4_railNow_108 : decode cX4_railNow 108 = .ok (.invokevirtual 36, 3) := by decide +kernel
theorem dX4_railNow_111 : decode cX4_railNow 111 = .ok (.ireturn, 1) := by decide +kernel
theorem dX4_railNow_112 : decode cX4_railNow 112 = .ok (.aload_n 0, 1) := by decide +kernel
theorem dX4_railNow_113 : decode cX4_railNow 113 = .ok (.iload_n 1, 1) := by decide +kernel
theorem dX4_railNow_114 : decode cX4_railNow 114 = .ok (.bipush 12, 2) := by decide +kernel
theorem dX4_railNow_116 : decode cX4_railNow 116 = .ok (.invokevirtual 36, 3) := by decide +kernel
theorem dX4_railNow_119 : decode cX4_railNow 119 = .ok (.ireturn, 1) := by decide +kernel
theorem dX4_railNow_120 : decode cX4_railNow 120 = .ok (.aload_n 0, 1) := by decide +kernel
theorem dX4_railNow_121 : decode cX4_railNow 121 = .ok (.iload_n 1, 1) := by decide +kernel
theorem dX4_railNow_122 : decode cX4_railNow 122 = .ok (.bipush 13, 2) := by decide +kernel
theorem dX4_railNow_124 : decode cX4_railNow 124 = .ok (.invokevirtual 36, 3) := by decide +kernel
theorem dX4_railNow_127 : decode cX4_railNow 127 = .ok (.ireturn, 1) := by decide +kernel
theorem dX4_railNow_128 : decode cX4_railNow 128 = .ok (.aload_n 0, 1) := by decide +kernel
theorem dX4_railNow_129 : decode cX4_railNow 129 = .ok (.iload_n 1, 1) := by decide +kernel
theorem dX4_railNow_130 : decode cX4_railNow 130 = .ok (.bipush 14, 2) := by decide +kernel
theorem dX4_railNow_132 : decode cX4_railNow 132 = .ok (.invokevirtual 36, 3) := by decide +kernel
theorem dX4_railNow_135 : decode cX4_railNow 135 = .ok (.ireturn, 1) := by decide +kernel
theorem dX4_railNow_136 : decode cX4_railNow 136 = .ok (.aload_n 0, 1) := by decide +kernel
theorem dX4_railNow_137 : decode cX4_railNow 137 = .ok (.iload_n 1, 1) := by decide +kernel
theorem dX4_railNow_138 : decode cX4_railNow 138 = .ok (.bipush 15, 2) := by decide +kernel
theorem dX4_railNow_140 : decode cX4_railNow 140 = .ok (.invokevirtual 36, 3) := by decide +kernel
theorem dX4_railNow_143 : decode cX4_railNow 143 = .ok (.ireturn, 1) := by decide +kernel
theorem dX4_railNow_144 : decode cX4_railNow 144 = .ok (.aload_n 0, 1) := by decide +kernel
theorem dX4_railNow_145 : decode cX4_railNow 145 = .ok (.iload_n 1, 1) := by decide +kernel
theorem dX4_railNow_146 : decode cX4_railNow 146 = .ok (.invokevirtual 176, 3) := by decide +kernel
theorem dX4_railNow_149 : decode cX4_railNow 149 = .ok (.ireturn, 1) := by decide +kernel
theorem dX4_railNow_150 : decode cX4_railNow 150 = .ok (.aload_n 0, 1) := by decide +kernel
theorem dX4_railNow_151 : decode cX4_railNow 151 = .ok (.iload_n 1, 1) := by decide +kernel
theorem dX4_railNow_152 : decode cX4_railNow 152 = .ok (.iload_n 2, 1) := by decide +kernel
theorem dX4_railNow_153 : decode cX4_railNow 153 = .ok (.invokevirtual 36, 3) := by decide +kernel
theorem dX4_railNow_156 : decode cX4_railNow 156 = .ok (.ireturn, 1) := by decide +kernel
theorem dX4_rail_0 : decode cX4_rail 0 = .ok (.aload_n 0, 1) := by decide +kernel
theorem dX4_rail_1 : decode cX4_rail 1 = .ok (.aload_n 0, 1) := by decide +kernel
theorem dX4_rail_2 : decode cX4_rail 2 = .ok (.iload_n 1, 1) := by decide +kernel
theorem dX4_rail_3 : decode cX4_rail 3 = .ok (.invokevirtual 117, 3) := by decide +kernel
theorem dX4_rail_6 : decode cX4_rail 6 = .ok (.ifCond .ne 7, 3) := by decide +kernel
theorem dX4_rail_9 : decode cX4_rail 9 = .ok (.iconst 1, 1) := by decide +kernel
theorem dX4_rail_10 : decode cX4_rail 10 = .ok (.goto 18, 3) := by decide +kernel
theorem dX4_rail_13 : decode cX4_rail 13 = .ok (.iload_n 2, 1) := by decide +kernel
theorem dX4_rail_14 : decode cX4_rail 14 = .ok (.iconst 0, 1) := by decide +kernel
theorem dX4_rail_15 : decode cX4_rail 15 = .ok (.bipush 18, 2) := by decide +kernel
theorem dX4_rail_17 : decode cX4_rail 17 = .ok (.invokestatic 32, 3) := by decide +kernel
theorem dX4_rail_20 : decode cX4_rail 20 = .ok (.ifCond .eq 7, 3) := by decide +kernel
theorem dX4_rail_23 : decode cX4_rail 23 = .ok (.iconst 0, 1) := by decide +kernel
theorem dX4_rail_24 : decode cX4_rail 24 = .ok (.goto 4, 3) := by decide +kernel
theorem dX4_rail_27 : decode cX4_rail 27 = .ok (.iconst 2, 1) := by decide +kernel
theorem dX4_rail_28 : decode cX4_rail 28 = .ok (.putfield 28, 3) := by decide +kernel
theorem dX4_rail_31 : decode cX4_rail 31 = .ok (.aload_n 0, 1) := by decide +kernel
theorem dX4_rail_32 : decode cX4_rail 32 = .ok (.getfield 28, 3) := by decide +kernel
theorem dX4_rail_35 : decode cX4_rail 35 = .ok (.ifCond .le 7, 3) := by decide +kernel
theorem dX4_rail_38 : decode cX4_rail 38 = .ok (.iconst 0, 1) := by decide +kernel
theorem dX4_rail_39 : decode cX4_rail 39 = .ok (.goto 9, 3) := by decide +kernel
theorem dX4_rail_42 : decode cX4_rail 42 = .ok (.aload_n 0, 1) := by decide +kernel
theorem dX4_rail_43 : decode cX4_rail 43 = .ok (.iload_n 1, 1) := by decide +kernel
theorem dX4_rail_44 : decode cX4_rail 44 = .ok (.iload_n 2, 1) := by decide +kernel
theorem dX4_rail_45 : decode cX4_rail 45 = .ok (.invokevirtual 179, 3) := by decide +kernel
theorem dX4_rail_48 : decode cX4_rail 48 = .ok (.ireturn, 1) := by decide +kernel
theorem dX4_account_0 : decode cX4_account 0 = .ok (.aload_n 0, 1) := by decide +kernel
theorem dX4_account_1 : decode cX4_account 1 = .ok (.aload_n 0, 1) := by decide +kernel
theorem dX4_account_2 : decode cX4_account 2 = .ok (.iload_n 1, 1) := by decide +kernel
theorem dX4_account_3 : decode cX4_account 3 = .ok (.invokevirtual 117, 3) := by decide +kernel
theorem dX4_account_6 : decode cX4_account 6 = .ok (.ifCond .ne 7, 3) := by decide +kernel
theorem dX4_account_9 : decode cX4_account 9 = .ok (.iconst 1, 1) := by decide +kernel
theorem dX4_account_10 : decode cX4_account 10 = .ok (.goto 17, 3) := by decide +kernel
theorem dX4_account_13 : decode cX4_account 13 = .ok (.iload_n 2, 1) := by decide +kernel
theorem dX4_account_14 : decode cX4_account 14 = .ok (.iconst 0, 1) := by decide +kernel
theorem dX4_account_15 : decode cX4_account 15 = .ok (.iconst 3, 1) := by decide +kernel
theorem dX4_account_16 : decode cX4_account 16 = .ok (.invokestatic 32, 3) := by decide +kernel
theorem dX4_account_19 : decode cX4_account 19 = .ok (.ifCond .eq 7, 3) := by decide +kernel
theorem dX4_account_22 : decode cX4_account 22 = .ok (.iconst 0, 1) := by decide +kernel
theorem dX4_account_23 : decode cX4_account 23 = .ok (.goto 4, 3) := by decide +kernel
theorem dX4_account_26 : decode cX4_account 26 = .ok (.iconst 2, 1) := by decide +kernel
theorem dX4_account_27 : decode cX4_account 27 = .ok (.putfield 28, 3) := by decide +kernel
theorem dX4_account_30 : decode cX4_account 30 = .ok (.aload_n 0, 1) := by decide +kernel
theorem dX4_account_31 : decode cX4_account 31 = .ok (.getfield 28, 3) := by decide +kernel
theorem dX4_account_34 : decode cX4_account 34 = .ok (.ifCond .le 7, 3) := by decide +kernel
theorem dX4_account_37 : decode cX4_account 37 = .ok (.iconst 0, 1) := by decide +kernel
theorem dX4_account_38 : decode cX4_account 38 = .ok (.goto 12, 3) := by decide +kernel
theorem dX4_account_41 : decode cX4_account 41 = .ok (.aload_n 0, 1) := by decide +kernel
theorem dX4_account_42 : decode cX4_account 42 = .ok (.iload_n 1, 1) := by decide +kernel
theorem dX4_account_43 : decode cX4_account 43 = .ok (.bipush 16, 2) := by decide +kernel
theorem dX4_account_45 : decode cX4_account 45 = .ok (.iload_n 2, 1) := by decide +kernel
theorem dX4_account_46 : decode cX4_account 46 = .ok (.iadd, 1) := by decide +kernel
theorem dX4_account_47 : decode cX4_account 47 = .ok (.invokevirtual 36, 3) := by decide +kernel
theorem dX4_account_50 : decode cX4_account 50 = .ok (.ireturn, 1) := by decide +kernel
theorem dX4_entryNow_0 : decode cX4_entryNow 0 = .ok (.iload_n 1, 1) := by decide +kernel
theorem dX4_entryNow_1 : decode cX4_entryNow 1 = .ok (.aload_n 0, 1) := by decide +kernel
theorem dX4_entryNow_2 : decode cX4_entryNow 2 = .ok (.getfield 7, 3) := by decide +kernel
theorem dX4_entryNow_5 : decode cX4_entryNow 5 = .ok (.iconst 3, 1) := by decide +kernel
theorem dX4_entryNow_6 : decode cX4_entryNow 6 = .ok (.iaload, 1) := by decide +kernel
theorem dX4_entryNow_7 : decode cX4_entryNow 7 = .ok (.if_icmp .ge 27, 3) := by decide +kernel
theorem dX4_entryNow_10 : decode cX4_entryNow 10 = .ok (.aload_n 0, 1) := by decide +kernel
theorem dX4_entryNow_11 : decode cX4_entryNow 11 = .ok (.getfield 7, 3) := by decide +kernel
theorem dX4_entryNow_14 : decode cX4_entryNow 14 = .ok (.iconst 4, 1) := by decide +kernel
theorem dX4_entryNow_15 : decode cX4_entryNow 15 = .ok (.iconst 4, 1) := by decide +kernel
theorem dX4_entryNow_16 : decode cX4_entryNow 16 = .ok (.aload_n 0, 1) := by decide +kernel
theorem dX4_entryNow_17 : decode cX4_entryNow 17 = .ok (.getfield 7, 3) := by decide +kernel
theorem dX4_entryNow_20 : decode cX4_entryNow 20 = .ok (.iconst 3, 1) := by decide +kernel
theorem dX4_entryNow_21 : decode cX4_entryNow 21 = .ok (.iaload, 1) := by decide +kernel
theorem dX4_entryNow_22 : decode cX4_entryNow 22 = .ok (.iconst 1, 1) := by decide +kernel
theorem dX4_entryNow_23 : decode cX4_entryNow 23 = .ok (.isub, 1) := by decide +kernel
theorem dX4_entryNow_24 : decode cX4_entryNow 24 = .ok (.iload_n 1, 1) := by decide +kernel
theorem dX4_entryNow_25 : decode cX4_entryNow 25 = .ok (.isub, 1) := by decide +kernel
theorem dX4_entryNow_26 : decode cX4_entryNow 26 = .ok (.imul, 1) := by decide +kernel
theorem dX4_entryNow_27 : decode cX4_entryNow 27 = .ok (.iadd, 1) := by decide +kernel
theorem dX4_entryNow_28 : decode cX4_entryNow 28 = .ok (.iload_n 2, 1) := by decide +kernel
theorem dX4_entryNow_29 : decode cX4_entryNow 29 = .ok (.iadd, 1) := by decide +kernel
theorem dX4_entryNow_30 : decode cX4_entryNow 30 = .ok (.iaload, 1) := by decide +kernel
theorem dX4_entryNow_31 : decode cX4_entryNow 31 = .ok (.goto 4, 3) := by decide +kernel
theorem dX4_entryNow_34 : decode cX4_entryNow 34 = .ok (.iconst (-1), 1) := by decide +kernel
theorem dX4_entryNow_35 : decode cX4_entryNow 35 = .ok (.ireturn, 1) := by decide +kernel
theorem dX4_entry_0 : decode cX4_entry 0 = .ok (.aload_n 0, 1) := by decide +kernel
theorem dX4_entry_1 : decode cX4_entry 1 = .ok (.iload_n 1, 1) := by decide +kernel
theorem dX4_entry_2 : decode cX4_entry 2 = .ok (.iconst 0, 1) := by decide +kernel
theorem dX4_entry_3 : decode cX4_entry 3 = .ok (.bipush 15, 2) := by decide +kernel
theorem dX4_entry_5 : decode cX4_entry 5 = .ok (.invokestatic 32, 3) := by decide +kernel
theorem dX4_entry_8 : decode cX4_entry 8 = .ok (.ifCond .eq 16, 3) := by decide +kernel
theorem dX4_entry_11 : decode cX4_entry 11 = .ok (.iload_n 2, 1) := by decide +kernel
theorem dX4_entry_12 : decode cX4_entry 12 = .ok (.iconst 0, 1) := by decide +kernel
theorem dX4_entry_13 : decode cX4_entry 13 = .ok (.iconst 3, 1) := by decide +kernel
theorem dX4_entry_14 : decode cX4_entry 14 = .ok (.invokestatic 32, 3) := by decide +kernel
theorem dX4_entry_17 : decode cX4_entry 17 = .ok (.ifCond .eq 7, 3) := by decide +kernel
theorem dX4_entry_20 : decode cX4_entry 20 = .ok (.iconst 0, 1) := by decide +kernel
theorem dX4_entry_21 : decode cX4_entry 21 = .ok (.goto 4, 3) := by decide +kernel
theorem dX4_entry_24 : decode cX4_entry 24 = .ok (.iconst 1, 1) := by decide +kernel
theorem dX4_entry_25 : decode cX4_entry 25 = .ok (.putfield 28, 3) := by decide +kernel
theorem dX4_entry_28 : decode cX4_entry 28 = .ok (.aload_n 0, 1) := by decide +kernel
theorem dX4_entry_29 : decode cX4_entry 29 = .ok (.getfield 28, 3) := by decide +kernel
theorem dX4_entry_32 : decode cX4_entry 32 = .ok (.ifCond .le 7, 3) := by decide +kernel
theorem dX4_entry_35 : decode cX4_entry 35 = .ok (.iconst 0, 1) := by decide +kernel
theorem dX4_entry_36 : decode cX4_entry 36 = .ok (.goto 9, 3) := by decide +kernel
theorem dX4_entry_39 : decode cX4_entry 39 = .ok (.aload_n 0, 1) := by decide +kernel
theorem dX4_entry_40 : decode cX4_entry 40 = .ok (.iload_n 1, 1) := by decide +kernel
theorem dX4_entry_41 : decode cX4_entry 41 = .ok (.iload_n 2, 1) := by decide +kernel
theorem dX4_entry_42 : decode cX4_entry 42 = .ok (.invokevirtual 182, 3) := by decide +kernel
theorem dX4_entry_45 : decode cX4_entry 45 = .ok (.ireturn, 1) := by decide +kernel
theorem dX4_forget_0 : decode cX4_forget 0 = .ok (.aload_n 0, 1) := by decide +kernel
theorem dX4_forget_1 : decode cX4_forget 1 = .ok (.aload_n 0, 1) := by decide +kernel
theorem dX4_forget_2 : decode cX4_forget 2 = .ok (.iload_n 1, 1) := by decide +kernel
theorem dX4_forget_3 : decode cX4_forget 3 = .ok (.invokevirtual 117, 3) := by decide +kernel
theorem dX4_forget_6 : decode cX4_forget 6 = .ok (.ifCond .eq 7, 3) := by decide +kernel
theorem dX4_forget_9 : decode cX4_forget 9 = .ok (.iconst 0, 1) := by decide +kernel
theorem dX4_forget_10 : decode cX4_forget 10 = .ok (.goto 4, 3) := by decide +kernel
theorem dX4_forget_13 : decode cX4_forget 13 = .ok (.iconst 1, 1) := by decide +kernel
theorem dX4_forget_14 : decode cX4_forget 14 = .ok (.putfield 28, 3) := by decide +kernel
theorem dX4_forget_17 : decode cX4_forget 17 = .ok (.aload_n 0, 1) := by decide +kernel
theorem dX4_forget_18 : decode cX4_forget 18 = .ok (.getfield 28, 3) := by decide +kernel
theorem dX4_forget_21 : decode cX4_forget 21 = .ok (.ifCond .le 5, 3) := by decide +kernel
theorem dX4_forget_24 : decode cX4_forget 24 = .ok (.iconst 0, 1) := by decide +kernel
theorem dX4_forget_25 : decode cX4_forget 25 = .ok (.ireturn, 1) := by decide +kernel
theorem dX4_forget_26 : decode cX4_forget 26 = .ok (.aload_n 0, 1) := by decide +kernel
theorem dX4_forget_27 : decode cX4_forget 27 = .ok (.invokevirtual 110, 3) := by decide +kernel
theorem dX4_forget_30 : decode cX4_forget 30 = .ok (.iconst 0, 1) := by decide +kernel
theorem dX4_forget_31 : decode cX4_forget 31 = .ok (.istore_n 2, 1) := by decide +kernel
theorem dX4_forget_32 : decode cX4_forget 32 = .ok (.aload_n 0, 1) := by decide +kernel
theorem dX4_forget_33 : decode cX4_forget 33 = .ok (.getfield 7, 3) := by decide +kernel
theorem dX4_forget_36 : decode cX4_forget 36 = .ok (.iconst 3, 1) := by decide +kernel
theorem dX4_forget_37 : decode cX4_forget 37 = .ok (.iaload, 1) := by decide +kernel
theorem dX4_forget_38 : decode cX4_forget 38 = .ok (.istore_n 3, 1) := by decide +kernel
theorem dX4_forget_39 : decode cX4_forget 39 = .ok (.iconst 0, 1) := by decide +kernel
theorem dX4_forget_40 : decode cX4_forget 40 = .ok (.istore 4, 2) := by decide +kernel
theorem dX4_forget_42 : decode cX4_forget 42 = .ok (.iload 4, 2) := by decide +kernel
theorem dX4_forget_44 : decode cX4_forget 44 = .ok (.iload_n 3, 1) := by decide +kernel
theorem dX4_forget_45 : decode cX4_forget 45 = .ok (.if_icmp .ge 71, 3) := by decide +kernel
theorem dX4_forget_48 : decode cX4_forget 48 = .ok (.aload_n 0, 1) := by decide +kernel
theorem dX4_forget_49 : decode cX4_forget 49 = .ok (.getfield 7, 3) := by decide +kernel
theorem dX4_forget_52 : decode cX4_forget 52 = .ok (.iconst 4, 1) := by decide +kernel
theorem dX4_forget_53 : decode cX4_forget 53 = .ok (.iconst 4, 1) := by decide +kernel
theorem dX4_forget_54 : decode cX4_forget 54 = .ok (.iload 4, 2) := by decide +kernel
theorem dX4_forget_56 : decode cX4_forget 56 = .ok (.imul, 1) := by decide +kernel
theorem dX4_forget_57 : decode cX4_forget 57 = .ok (.iadd, 1) := by decide +kernel
theorem dX4_forget_58 : decode cX4_forget 58 = .ok (.iconst 1, 1) := by decide +kernel
theorem dX4_forget_59 : decode cX4_forget 59 = .ok (.iadd, 1) := by decide +kernel
theorem dX4_forget_60 : decode cX4_forget 60 = .ok (.iaload, 1) := by decide +kernel
theorem dX4_forget_61 : decode cX4_forget 61 = .ok (.iload_n 1, 1) := by decide +kernel
theorem dX4_forget_62 : decode cX4_forget 62 = .ok (.if_icmp .eq 48, 3) := by decide +kernel
theorem dX4_forget_65 : decode cX4_forget 65 = .ok (.iconst 0, 1) := by decide +kernel
theorem dX4_forget_66 : decode cX4_forget 66 = .ok (.istore 5, 2) := by decide +kernel
theorem dX4_forget_68 : decode cX4_forget 68 = .ok (.iload 5, 2) := by decide +kernel
theorem dX4_forget_70 : decode cX4_forget 70 = .ok (.iconst 4, 1) := by decide +kernel
theorem dX4_forget_71 : decode cX4_forget 71 = .ok (.if_icmp .ge 36, 3) := by decide +kernel
theorem dX4_forget_74 : decode cX4_forget 74 = .ok (.aload_n 0, 1) := by decide +kernel
theorem dX4_forget_75 : decode cX4_forget 75 = .ok (.getfield 7, 3) := by decide +kernel
theorem dX4_forget_78 : decode cX4_forget 78 = .ok (.iconst 4, 1) := by decide +kernel
theorem dX4_forget_79 : decode cX4_forget 79 = .ok (.iconst 4, 1) := by decide +kernel
theorem dX4_forget_80 : decode cX4_forget 80 = .ok (.iload_n 2, 1) := by decide +kernel
theorem dX4_forget_81 : decode cX4_forget 81 = .ok (.imul, 1) := by decide +kernel
theorem dX4_forget_82 : decode cX4_forget 82 = .ok (.iadd, 1) := by decide +kernel
theorem dX4_forget_83 : decode cX4_forget 83 = .ok (.iload 5, 2) := by decide +kernel
theorem dX4_forget_85 : decode cX4_forget 85 = .ok (.iadd, 1) := by decide +kernel
theorem dX4_forget_86 : decode cX4_forget 86 = .ok (.aload_n 0, 1) := by decide +kernel
theorem dX4_forget_87 : decode cX4_forget 87 = .ok (.getfield 7, 3) := by decide +kernel
theorem dX4_forget_90 : decode cX4_forget 90 = .ok (.iconst 4, 1) := by decide +kernel
theorem dX4_forget_91 : decode cX4_forget 91 = .ok (.iconst 4, 1) := by decide +kernel
theorem dX4_forget_92 : decode cX4_forget 92 = .ok (.iload 4, 2) := by decide +kernel
theorem dX4_forget_94 : decode cX4_forget 94 = .ok (.imul, 1) := by decide +kernel
theorem dX4_forget_95 : decode cX4_forget 95 = .ok (.iadd, 1) := by decide +kernel
theorem dX4_forget_96 : decode cX4_forget 96 = .ok (.iload 5, 2) := by decide +kernel
theorem dX4_forget_98 : decode cX4_forget 98 = .ok (.iadd, 1) := by decide +kernel
theorem dX4_forget_99 : decode cX4_forget 99 = .ok (.iaload, 1) := by decide +kernel
theorem dX4_forget_100 : decode cX4_forget 100 = .ok (.iastore, 1) := by decide +kernel
theorem dX4_forget_101 : decode cX4_forget 101 = .ok (.iinc 5 1, 3) := by decide +kernel
theorem dX4_forget_104 : decode cX4_forget 104 = .ok (.goto (-36), 3) := by decide +kernel
theorem dX4_forget_107 : decode cX4_forget 107 = .ok (.iinc 2 1, 3) := by decide +kernel
theorem dX4_forget_110 : decode cX4_forget 110 = .ok (.iinc 4 1, 3) := by decide +kernel
theorem dX4_forget_113 : decode cX4_forget 113 = .ok (.goto (-71), 3) := by decide +kernel
theorem dX4_forget_116 : decode cX4_forget 116 = .ok (.aload_n 0, 1) := by decide +kernel
theorem dX4_forget_117 : decode cX4_forget 117 = .ok (.getfield 7, 3) := by decide +kernel
theorem dX4_forget_120 : decode cX4_forget 120 = .ok (.iconst 3, 1) := by decide +kernel
theorem dX4_forget_121 : decode cX4_forget 121 = .ok (.iload_n 2, 1) := by decide +kernel
theorem dX4_forget_122 : decode cX4_forget 122 = .ok (.iastore, 1) := by decide +kernel
theorem dX4_forget_123 : decode cX4_forget 123 = .ok (.iload_n 3, 1) := by decide +kernel
theorem dX4_forget_124 : decode cX4_forget 124 = .ok (.iload_n 2, 1) := by decide +kernel
theorem dX4_forget_125 : decode cX4_forget 125 = .ok (.isub, 1) := by decide +kernel
theorem dX4_forget_126 : decode cX4_forget 126 = .ok (.ireturn, 1) := by decide +kernel
theorem dX4_voltages_0 : decode cX4_voltages 0 = .ok (.iconst 0, 1) := by decide +kernel
theorem dX4_voltages_1 : decode cX4_voltages 1 = .ok (.istore_n 1, 1) := by decide +kernel
theorem dX4_voltages_2 : decode cX4_voltages 2 = .ok (.iconst 0, 1) := by decide +kernel
theorem dX4_voltages_3 : decode cX4_voltages 3 = .ok (.istore_n 2, 1) := by decide +kernel
theorem dX4_voltages_4 : decode cX4_voltages 4 = .ok (.iload_n 2, 1) := by decide +kernel
theorem dX4_voltages_5 : decode cX4_voltages 5 = .ok (.aload_n 0, 1) := by decide +kernel
theorem dX4_voltages_6 : decode cX4_voltages 6 = .ok (.getfield 7, 3) := by decide +kernel
theorem dX4_voltages_9 : decode cX4_voltages 9 = .ok (.iconst 0, 1) := by decide +kernel
theorem dX4_voltages_10 : decode cX4_voltages 10 = .ok (.iaload, 1) := by decide +kernel
theorem dX4_voltages_11 : decode cX4_voltages 11 = .ok (.if_icmp .ge 19, 3) := by decide +kernel
theorem dX4_voltages_14 : decode cX4_voltages 14 = .ok (.iload_n 1, 1) := by decide +kernel
theorem dX4_voltages_15 : decode cX4_voltages 15 = .ok (.aload_n 0, 1) := by decide +kernel
theorem dX4_voltages_16 : decode cX4_voltages 16 = .ok (.iload_n 2, 1) := by decide +kernel
theorem dX4_voltages_17 : decode cX4_voltages 17 = .ok (.bipush 10, 2) := by decide +kernel
theorem dX4_voltages_19 : decode cX4_voltages 19 = .ok (.invokevirtual 36, 3) := by decide +kernel
theorem dX4_voltages_22 : decode cX4_voltages 22 = .ok (.iadd, 1) := by decide +kernel
theorem dX4_voltages_23 : decode cX4_voltages 23 = .ok (.istore_n 1, 1) := by decide +kernel
theorem dX4_voltages_24 : decode cX4_voltages 24 = .ok (.iinc 2 1, 3) := by decide +kernel
theorem dX4_voltages_27 : decode cX4_voltages 27 = .ok (.goto (-23), 3) := by decide +kernel
theorem dX4_voltages_30 : decode cX4_voltages 30 = .ok (.iload_n 1, 1) := by decide +kernel
theorem dX4_voltages_31 : decode cX4_voltages 31 = .ok (.ireturn, 1) := by decide +kernel
theorem dX4_isStill_0 : decode cX4_isStill 0 = .ok (.aload_n 0, 1) := by decide +kernel
theorem dX4_isStill_1 : decode cX4_isStill 1 = .ok (.invokevirtual 185, 3) := by decide +kernel
theorem dX4_isStill_4 : decode cX4_isStill 4 = .ok (.aload_n 0, 1) := by decide +kernel
theorem dX4_isStill_5 : decode cX4_isStill 5 = .ok (.invokevirtual 132, 3) := by decide +kernel
theorem dX4_isStill_8 : decode cX4_isStill 8 = .ok (.iconst 1, 1) := by decide +kernel
theorem dX4_isStill_9 : decode cX4_isStill 9 = .ok (.istore_n 1, 1) := by decide +kernel
theorem dX4_isStill_10 : decode cX4_isStill 10 = .ok (.iconst 0, 1) := by decide +kernel
theorem dX4_isStill_11 : decode cX4_isStill 11 = .ok (.istore_n 2, 1) := by decide +kernel
