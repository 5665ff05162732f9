theorem dL_mask_23 : decode cL_mask 23 = .ok (.iadd, 1) := by decide +kernel
theorem dL_mask_24 : decode cL_mask 24 = .ok (.iaload, 1) := by decide +kernel
theorem dL_mask_25 : decode cL_mask 25 = .ok (.iload_n 1, 1) := by decide +kernel
theorem dL_mask_26 : decode cL_mask 26 = .ok (.if_icmp .ne 10, 3) := by decide +kernel
theorem dL_mask_29 : decode cL_mask 29 = .ok (.iconst 1, 1) := by decide +kernel
theorem dL_mask_30 : decode cL_mask 30 = .ok (.iload 5, 2) := by decide +kernel
theorem dL_mask_32 : decode cL_mask 32 = .ok (.ishl, 1) := by decide +kernel
theorem dL_mask_33 : decode cL_mask 33 = .ok (.goto 4, 3) := by decide +kernel
theorem dL_mask_36 : decode cL_mask 36 = .ok (.iconst 0, 1) := by decide +kernel
theorem dL_mask_37 : decode cL_mask 37 = .ok (.ior, 1) := by decide +kernel
theorem dL_mask_38 : decode cL_mask 38 = .ok (.istore 4, 2) := by decide +kernel
theorem dL_mask_40 : decode cL_mask 40 = .ok (.iinc 5 1, 3) := by decide +kernel
theorem dL_mask_43 : decode cL_mask 43 = .ok (.goto (-37), 3) := by decide +kernel
theorem dL_mask_46 : decode cL_mask 46 = .ok (.iload 4, 2) := by decide +kernel
theorem dL_mask_48 : decode cL_mask 48 = .ok (.ireturn, 1) := by decide +kernel
theorem dL_closed_0 : decode cL_closed 0 = .ok (.iload_n 0, 1) := by decide +kernel
theorem dL_closed_1 : decode cL_closed 1 = .ok (.istore 4, 2) := by decide +kernel
theorem dL_closed_3 : decode cL_closed 3 = .ok (.iconst 0, 1) := by decide +kernel
theorem dL_closed_4 : decode cL_closed 4 = .ok (.istore 5, 2) := by decide +kernel
theorem dL_closed_6 : decode cL_closed 6 = .ok (.iload 5, 2) := by decide +kernel
theorem dL_closed_8 : decode cL_closed 8 = .ok (.aload_n 3, 1) := by decide +kernel
theorem dL_closed_9 : decode cL_closed 9 = .ok (.iconst 0, 1) := by decide +kernel
theorem dL_closed_10 : decode cL_closed 10 = .ok (.iaload, 1) := by decide +kernel
theorem dL_closed_11 : decode cL_closed 11 = .ok (.if_icmp .ge 79, 3) := by decide +kernel
theorem dL_closed_14 : decode cL_closed 14 = .ok (.iconst 0, 1) := by decide +kernel
theorem dL_closed_15 : decode cL_closed 15 = .ok (.istore 6, 2) := by decide +kernel
theorem dL_closed_17 : decode cL_closed 17 = .ok (.iload 6, 2) := by decide +kernel
theorem dL_closed_19 : decode cL_closed 19 = .ok (.aload_n 3, 1) := by decide +kernel
theorem dL_closed_20 : decode cL_closed 20 = .ok (.iconst 0, 1) := by decide +kernel
theorem dL_closed_21 : decode cL_closed 21 = .ok (.iaload, 1) := by decide +kernel
theorem dL_closed_22 : decode cL_closed 22 = .ok (.if_icmp .ge 62, 3) := by decide +kernel
theorem dL_closed_25 : decode cL_closed 25 = .ok (.iload_n 1, 1) := by decide +kernel
theorem dL_closed_26 : decode cL_closed 26 = .ok (.ifCond .eq 25, 3) := by decide +kernel
theorem dL_closed_29 : decode cL_closed 29 = .ok (.aload_n 2, 1) := by decide +kernel
theorem dL_closed_30 : decode cL_closed 30 = .ok (.bipush 9, 2) := by decide +kernel
theorem dL_closed_32 : decode cL_closed 32 = .ok (.iload 6, 2) := by decide +kernel
theorem dL_closed_34 : decode cL_closed 34 = .ok (.imul, 1) := by decide +kernel
theorem dL_closed_35 : decode cL_closed 35 = .ok (.iaload, 1) := by decide +kernel
theorem dL_closed_36 : decode cL_closed 36 = .ok (.iload 4, 2) := by decide +kernel
theorem dL_closed_38 : decode cL_closed 38 = .ok (.iand, 1) := by decide +kernel
theorem dL_closed_39 : decode cL_closed 39 = .ok (.ifCond .eq 12, 3) := by decide +kernel
theorem dL_closed_42 : decode cL_closed 42 = .ok (.iload 4, 2) := by decide +kernel
theorem dL_closed_44 : decode cL_closed 44 = .ok (.iconst 1, 1) := by decide +kernel
theorem dL_closed_45 : decode cL_closed 45 = .ok (.iload 6, 2) := by decide +kernel
theorem dL_closed_47 : decode cL_closed 47 = .ok (.ishl, 1) := by decide +kernel
theorem dL_closed_48 : decode cL_closed 48 = .ok (.ior, 1) := by decide +kernel
theorem dL_closed_49 : decode cL_closed 49 = .ok (.istore 4, 2) := by decide +kernel
theorem dL_closed_51 : decode cL_closed 51 = .ok (.iload_n 1, 1) := by decide +kernel
theorem dL_closed_52 : decode cL_closed 52 = .ok (.ifCond .ne 26, 3) := by decide +kernel
theorem dL_closed_55 : decode cL_closed 55 = .ok (.iload 4, 2) := by decide +kernel
theorem dL_closed_57 : decode cL_closed 57 = .ok (.iload 6, 2) := by decide +kernel
theorem dL_closed_59 : decode cL_closed 59 = .ok (.ishr, 1) := by decide +kernel
theorem dL_closed_60 : decode cL_closed 60 = .ok (.iconst 1, 1) := by decide +kernel
theorem dL_closed_61 : decode cL_closed 61 = .ok (.iand, 1) := by decide +kernel
theorem dL_closed_62 : decode cL_closed 62 = .ok (.iconst 1, 1) := by decide +kernel
theorem dL_closed_63 : decode cL_closed 63 = .ok (.if_icmp .ne 15, 3) := by decide +kernel
theorem dL_closed_66 : decode cL_closed 66 = .ok (.iload 4, 2) := by decide +kernel
theorem dL_closed_68 : decode cL_closed 68 = .ok (.aload_n 2, 1) := by decide +kernel
theorem dL_closed_69 : decode cL_closed 69 = .ok (.bipush 9, 2) := by decide +kernel
theorem dL_closed_71 : decode cL_closed 71 = .ok (.iload 6, 2) := by decide +kernel
theorem dL_closed_73 : decode cL_closed 73 = .ok (.imul, 1) := by decide +kernel
theorem dL_closed_74 : decode cL_closed 74 = .ok (.iaload, 1) := by decide +kernel
theorem dL_closed_75 : decode cL_closed 75 = .ok (.ior, 1) := by decide +kernel
theorem dL_closed_76 : decode cL_closed 76 = .ok (.istore 4, 2) := by decide +kernel
theorem dL_closed_78 : decode cL_closed 78 = .ok (.iinc 6 1, 3) := by decide +kernel
theorem dL_closed_81 : decode cL_closed 81 = .ok (.goto (-64), 3) := by decide +kernel
theorem dL_closed_84 : decode cL_closed 84 = .ok (.iinc 5 1, 3) := by decide +kernel
theorem dL_closed_87 : decode cL_closed 87 = .ok (.goto (-81), 3) := by decide +kernel
theorem dL_closed_90 : decode cL_closed 90 = .ok (.iload 4, 2) := by decide +kernel
theorem dL_closed_92 : decode cL_closed 92 = .ok (.ireturn, 1) := by decide +kernel
theorem dL_patience_0 : decode cL_patience 0 = .ok (.aload_n 1, 1) := by decide +kernel
theorem dL_patience_1 : decode cL_patience 1 = .ok (.bipush 7, 2) := by decide +kernel
theorem dL_patience_3 : decode cL_patience 3 = .ok (.iload_n 0, 1) := by decide +kernel
theorem dL_patience_4 : decode cL_patience 4 = .ok (.imul, 1) := by decide +kernel
theorem dL_patience_5 : decode cL_patience 5 = .ok (.iaload, 1) := by decide +kernel
theorem dL_patience_6 : decode cL_patience 6 = .ok (.aload_n 1, 1) := by decide +kernel
theorem dL_patience_7 : decode cL_patience 7 = .ok (.bipush 7, 2) := by decide +kernel
theorem dL_patience_9 : decode cL_patience 9 = .ok (.iload_n 0, 1) := by decide +kernel
theorem dL_patience_10 : decode cL_patience 10 = .ok (.imul, 1) := by decide +kernel
theorem dL_patience_11 : decode cL_patience 11 = .ok (.iconst 3, 1) := by decide +kernel
theorem dL_patience_12 : decode cL_patience 12 = .ok (.iadd, 1) := by decide +kernel
theorem dL_patience_13 : decode cL_patience 13 = .ok (.iaload, 1) := by decide +kernel
theorem dL_patience_14 : decode cL_patience 14 = .ok (.imul, 1) := by decide +kernel
theorem dL_patience_15 : decode cL_patience 15 = .ok (.bipush 99, 2) := by decide +kernel
theorem dL_patience_17 : decode cL_patience 17 = .ok (.iadd, 1) := by decide +kernel
theorem dL_patience_18 : decode cL_patience 18 = .ok (.bipush 100, 2) := by decide +kernel
theorem dL_patience_20 : decode cL_patience 20 = .ok (.idiv, 1) := by decide +kernel
theorem dL_patience_21 : decode cL_patience 21 = .ok (.istore_n 2, 1) := by decide +kernel
theorem dL_patience_22 : decode cL_patience 22 = .ok (.iload_n 2, 1) := by decide +kernel
theorem dL_patience_23 : decode cL_patience 23 = .ok (.aload_n 1, 1) := by decide +kernel
theorem dL_patience_24 : decode cL_patience 24 = .ok (.bipush 7, 2) := by decide +kernel
theorem dL_patience_26 : decode cL_patience 26 = .ok (.iload_n 0, 1) := by decide +kernel
theorem dL_patience_27 : decode cL_patience 27 = .ok (.imul, 1) := by decide +kernel
theorem dL_patience_28 : decode cL_patience 28 = .ok (.iconst 1, 1) := by decide +kernel
theorem dL_patience_29 : decode cL_patience 29 = .ok (.iadd, 1) := by decide +kernel
theorem dL_patience_30 : decode cL_patience 30 = .ok (.iaload, 1) := by decide +kernel
theorem dL_patience_31 : decode cL_patience 31 = .ok (.iadd, 1) := by decide +kernel
theorem dL_patience_32 : decode cL_patience 32 = .ok (.iconst 1, 1) := by decide +kernel
theorem dL_patience_33 : decode cL_patience 33 = .ok (.isub, 1) := by decide +kernel
theorem dL_patience_34 : decode cL_patience 34 = .ok (.aload_n 1, 1) := by decide +kernel
theorem dL_patience_35 : decode cL_patience 35 = .ok (.bipush 7, 2) := by decide +kernel
theorem dL_patience_37 : decode cL_patience 37 = .ok (.iload_n 0, 1) := by decide +kernel
theorem dL_patience_38 : decode cL_patience 38 = .ok (.imul, 1) := by decide +kernel
theorem dL_patience_39 : decode cL_patience 39 = .ok (.iconst 1, 1) := by decide +kernel
theorem dL_patience_40 : decode cL_patience 40 = .ok (.iadd, 1) := by decide +kernel
theorem dL_patience_41 : decode cL_patience 41 = .ok (.iaload, 1) := by decide +kernel
theorem dL_patience_42 : decode cL_patience 42 = .ok (.idiv, 1) := by decide +kernel
theorem dL_patience_43 : decode cL_patience 43 = .ok (.istore_n 3, 1) := by decide +kernel
theorem dL_patience_44 : decode cL_patience 44 = .ok (.iload_n 3, 1) := by decide +kernel
theorem dL_patience_45 : decode cL_patience 45 = .ok (.sipush 200, 3) := by decide +kernel
theorem dL_patience_48 : decode cL_patience 48 = .ok (.if_icmp .le 7, 3) := by decide +kernel
theorem dL_patience_51 : decode cL_patience 51 = .ok (.iconst (-1), 1) := by decide +kernel
theorem dL_patience_52 : decode cL_patience 52 = .ok (.goto 4, 3) := by decide +kernel
theorem dL_patience_55 : decode cL_patience 55 = .ok (.iload_n 3, 1) := by decide +kernel
theorem dL_patience_56 : decode cL_patience 56 = .ok (.ireturn, 1) := by decide +kernel
theorem dL_told_0 : decode cL_told 0 = .ok (.iconst 0, 1) := by decide +kernel
theorem dL_told_1 : decode cL_told 1 = .ok (.istore 6, 2) := by decide +kernel
theorem dL_told_3 : decode cL_told 3 = .ok (.iconst 0, 1) := by decide +kernel
theorem dL_told_4 : decode cL_told 4 = .ok (.istore 7, 2) := by decide +kernel
theorem dL_told_6 : decode cL_told 6 = .ok (.iconst 0, 1) := by decide +kernel
theorem dL_told_7 : decode cL_told 7 = .ok (.istore 8, 2) := by decide +kernel
theorem dL_told_9 : decode cL_told 9 = .ok (.iload 8, 2) := by decide +kernel
theorem dL_told_11 : decode cL_told 11 = .ok (.aload 5, 2) := by decide +kernel
theorem dL_told_13 : decode cL_told 13 = .ok (.iconst 0, 1) := by decide +kernel
theorem dL_told_14 : decode cL_told 14 = .ok (.iaload, 1) := by decide +kernel
theorem dL_told_15 : decode cL_told 15 = .ok (.if_icmp .ge 367, 3) := by decide +kernel
theorem dL_told_18 : decode cL_told 18 = .ok (.bipush 9, 2) := by decide +kernel
theorem dL_told_20 : decode cL_told 20 = .ok (.iload 8, 2) := by decide +kernel
theorem dL_told_22 : decode cL_told 22 = .ok (.imul, 1) := by decide +kernel
theorem dL_told_23 : decode cL_told 23 = .ok (.istore 9, 2) := by decide +kernel
theorem dL_told_25 : decode cL_told 25 = .ok (.iload 6, 2) := by decide +kernel
theorem dL_told_27 : decode cL_told 27 = .ok (.aload_n 2, 1) := by decide +kernel
theorem dL_told_28 : decode cL_told 28 = .ok (.iload 9, 2) := by decide +kernel
theorem dL_told_30 : decode cL_told 30 = .ok (.iconst 3, 1) := by decide +kernel
theorem dL_told_31 : decode cL_told 31 = .ok (.iadd, 1) := by decide +kernel
theorem dL_told_32 : decode cL_told 32 = .ok (.iaload, 1) := by decide +kernel
theorem dL_told_33 : decode cL_told 33 = .ok (.iadd, 1) := by decide +kernel
theorem dL_told_34 : decode cL_told 34 = .ok (.istore 6, 2) := by decide +kernel
theorem dL_told_36 : decode cL_told 36 = .ok (.iload 7, 2) := by decide +kernel
theorem dL_told_38 : decode cL_told 38 = .ok (.aload_n 3, 1) := by decide +kernel
theorem dL_told_39 : decode cL_told 39 = .ok (.iconst 4, 1) := by decide +kernel
theorem dL_told_40 : decode cL_told 40 = .ok (.iload 8, 2) := by decide +kernel
theorem dL_told_42 : decode cL_told 42 = .ok (.imul, 1) := by decide +kernel
theorem dL_told_43 : decode cL_told 43 = .ok (.iconst 3, 1) := by decide +kernel
theorem dL_told_44 : decode cL_told 44 = .ok (.iadd, 1) := by decide +kernel
theorem dL_told_45 : decode cL_told 45 = .ok (.iaload, 1) := by decide +kernel
theorem dL_told_46 : decode cL_told 46 = .ok (.iadd, 1) := by decide +kernel
theorem dL_told_47 : decode cL_told 47 = .ok (.istore 7, 2) := by decide +kernel
theorem dL_told_49 : decode cL_told 49 = .ok (.iconst 0, 1) := by decide +kernel
theorem dL_told_50 : decode cL_told 50 = .ok (.istore 10, 2) := by decide +kernel
theorem dL_told_52 : decode cL_told 52 = .ok (.iload 10, 2) := by decide +kernel
theorem dL_told_54 : decode cL_told 54 = .ok (.bipush 7, 2) := by decide +kernel
theorem dL_told_56 : decode cL_told 56 = .ok (.if_icmp .ge 32, 3) := by decide +kernel
theorem dL_told_59 : decode cL_told 59 = .ok (.aload_n 0, 1) := by decide +kernel
theorem dL_told_60 : decode cL_told 60 = .ok (.iload 8, 2) := by decide +kernel
theorem dL_told_62 : decode cL_told 62 = .ok (.iload 10, 2) := by decide +kernel
theorem dL_told_64 : decode cL_told 64 = .ok (.invokevirtual 22, 3) := by decide +kernel
theorem dL_told_67 : decode cL_told 67 = .ok (.aload_n 1, 1) := by decide +kernel
theorem dL_told_68 : decode cL_told 68 = .ok (.bipush 7, 2) := by decide +kernel
theorem dL_told_70 : decode cL_told 70 = .ok (.iload 8, 2) := by decide +kernel
theorem dL_told_72 : decode cL_told 72 = .ok (.imul, 1) := by decide +kernel
theorem dL_told_73 : decode cL_told 73 = .ok (.iload 10, 2) := by decide +kernel
theorem dL_told_75 : decode cL_told 75 = .ok (.iadd, 1) := by decide +kernel
theorem dL_told_76 : decode cL_told 76 = .ok (.iaload, 1) := by decide +kernel
theorem dL_told_77 : decode cL_told 77 = .ok (.if_icmp .eq 5, 3) := by decide +kernel
theorem dL_told_80 : decode cL_told 80 = .ok (.iconst 0, 1) := by decide +kernel
theorem dL_told_81 : decode cL_told 81 = .ok (.ireturn, 1) := by decide +kernel
theorem dL_told_82 : decode cL_told 82 = .ok (.iinc 10 1, 3) := by decide +kernel
theorem dL_told_85 : decode cL_told 85 = .ok (.goto (-33), 3) := by decide +kernel
theorem dL_told_88 : decode cL_told 88 = .ok (.aload_n 2, 1) := by decide +kernel
theorem dL_told_89 : decode cL_told 89 = .ok (.iload 9, 2) := by decide +kernel
theorem dL_told_91 : decode cL_told 91 = .ok (.bipush 8, 2) := by decide +kernel
theorem dL_told_93 : decode cL_told 93 = .ok (.iadd, 1) := by decide +kernel
theorem dL_told_94 : decode cL_told 94 = .ok (.iaload, 1) := by decide +kernel
theorem dL_told_95 : decode cL_told 95 = .ok (.istore 10, 2) := by decide +kernel
theorem dL_told_97 : decode cL_told 97 = .ok (.iconst 0, 1) := by decide +kernel
theorem dL_told_98 : decode cL_told 98 = .ok (.istore 11, 2) := by decide +kernel
theorem dL_told_100 : decode cL_told 100 = .ok (.iload 11, 2) := by decide +kernel
theorem dL_told_102 : decode cL_told 102 = .ok (.bipush 8, 2) := by decide +kernel
theorem dL_told_104 : decode cL_told 104 = .ok (.if_icmp .ge 44, 3) := by decide +kernel
theorem dL_told_107 : decode cL_told 107 = .ok (.iload 10, 2) := by decide +kernel
theorem dL_told_109 : decode cL_told 109 = .ok (.ifCond .lt 39, 3) := by decide +kernel
theorem dL_told_112 : decode cL_told 112 = .ok (.aload_n 2, 1) := by decide +kernel
theorem dL_told_113 : decode cL_told 113 = .ok (.bipush 9, 2) := by decide +kernel
theorem dL_told_115 : decode cL_told 115 = .ok (.iload 10, 2) := by decide +kernel
theorem dL_told_117 : decode cL_told 117 = .ok (.imul, 1) := by decide +kernel
theorem dL_told_118 : decode cL_told 118 = .ok (.bipush 8, 2) := by decide +kernel
theorem dL_told_120 : decode cL_told 120 = .ok (.iadd, 1) := by decide +kernel
theorem dL_told_121 : decode cL_told 121 = .ok (.iaload, 1) := by decide +kernel
theorem dL_told_122 : decode cL_told 122 = .ok (.ifCond .lt 16, 3) := by decide +kernel
theorem dL_told_125 : decode cL_told 125 = .ok (.aload_n 2, 1) := by decide +kernel
theorem dL_told_126 : decode cL_told 126 = .ok (.bipush 9, 2) := by decide +kernel
theorem dL_told_128 : decode cL_told 128 = .ok (.iload 10, 2) := by decide +kernel
theorem dL_told_130 : decode cL_told 130 = .ok (.imul, 1) := by decide +kernel
theorem dL_told_131 : decode cL_told 131 = .ok (.bipush 8, 2) := by decide +kernel
theorem dL_told_133 : decode cL_told 133 = .ok (.iadd, 1) := by decide +kernel
theorem dL_told_134 : decode cL_told 134 = .ok (.iaload, 1) := by decide +kernel
theorem dL_told_135 : decode cL_told 135 = .ok (.goto 5, 3) := by decide +kernel
theorem dL_told_138 : decode cL_told 138 = .ok (.iload 10, 2) := by decide +kernel
theorem dL_told_140 : decode cL_told 140 = .ok (.istore 10, 2) := by decide +kernel
theorem dL_told_142 : decode cL_told 142 = .ok (.iinc 11 1, 3) := by decide +kernel
theorem dL_told_145 : decode cL_told 145 = .ok (.goto (-45), 3) := by decide +kernel
theorem dL_told_148 : decode cL_told 148 = .ok (.aload_n 0, 1) := by decide +kernel
theorem dL_told_149 : decode cL_told 149 = .ok (.iload 8, 2) := by decide +kernel
theorem dL_told_151 : decode cL_told 151 = .ok (.bipush 7, 2) := by decide +kernel
theorem dL_told_153 : decode cL_told 153 = .ok (.invokevirtual 22, 3) := by decide +kernel
theorem dL_told_156 : decode cL_told 156 = .ok (.aload_n 2, 1) := by decide +kernel
theorem dL_told_157 : decode cL_told 157 = .ok (.iload 9, 2) := by decide +kernel
theorem dL_told_159 : decode cL_told 159 = .ok (.iaload, 1) := by decide +kernel
theorem dL_told_160 : decode cL_told 160 = .ok (.if_icmp .ne 84, 3) := by decide +kernel
theorem dL_told_163 : decode cL_told 163 = .ok (.aload_n 0, 1) := by decide +kernel
theorem dL_told_164 : decode cL_told 164 = .ok (.iload 8, 2) := by decide +kernel
theorem dL_told_166 : decode cL_told 166 = .ok (.bipush 8, 2) := by decide +kernel
theorem dL_told_168 : decode cL_told 168 = .ok (.invokevirtual 22, 3) := by decide +kernel
theorem dL_told_171 : decode cL_told 171 = .ok (.iconst 1, 1) := by decide +kernel
theorem dL_told_172 : decode cL_told 172 = .ok (.iload 8, 2) := by decide +kernel
theorem dL_told_174 : decode cL_told 174 = .ok (.ishl, 1) := by decide +kernel
theorem dL_told_175 : decode cL_told 175 = .ok (.iconst 1, 1) := by decide +kernel
theorem dL_told_176 : decode cL_told 176 = .ok (.aload_n 2, 1) := by decide +kernel
theorem dL_told_177 : decode cL_told 177 = .ok (.aload 5, 2) := by decide +kernel
theorem dL_told_179 : decode cL_told 179 = .ok (.invokestatic 28, 3) := by decide +kernel
theorem dL_told_182 : decode cL_told 182 = .ok (.iconst 1, 1) := by decide +kernel
theorem dL_told_183 : decode cL_told 183 = .ok (.iload 8, 2) := by decide +kernel
theorem dL_told_185 : decode cL_told 185 = .ok (.ishl, 1) := by decide +kernel
theorem dL_told_186 : decode cL_told 186 = .ok (.isub, 1) := by decide +kernel
theorem dL_told_187 : decode cL_told 187 = .ok (.if_icmp .ne 57, 3) := by decide +kernel
theorem dL_told_190 : decode cL_told 190 = .ok (.aload_n 0, 1) := by decide +kernel
theorem dL_told_191 : decode cL_told 191 = .ok (.iload 8, 2) := by decide +kernel
theorem dL_told_193 : decode cL_told 193 = .ok (.bipush 12, 2) := by decide +kernel
theorem dL_told_195 : decode cL_told 195 = .ok (.invokevirtual 22, 3) := by decide +kernel
theorem dL_told_198 : decode cL_told 198 = .ok (.iload 8, 2) := by decide +kernel
theorem dL_told_200 : decode cL_told 200 = .ok (.aload_n 1, 1) := by decide +kernel
theorem dL_told_201 : decode cL_told 201 = .ok (.aload_n 2, 1) := by decide +kernel
theorem dL_told_202 : decode cL_told 202 = .ok (.invokestatic 8, 3) := by decide +kernel
theorem dL_told_205 : decode cL_told 205 = .ok (.ifCond .eq 7, 3) := by decide +kernel
theorem dL_told_208 : decode cL_told 208 = .ok (.iconst 1, 1) := by decide +kernel
theorem dL_told_209 : decode cL_told 209 = .ok (.goto 4, 3) := by decide +kernel
theorem dL_told_212 : decode cL_told 212 = .ok (.iconst 0, 1) := by decide +kernel
theorem dL_told_213 : decode cL_told 213 = .ok (.if_icmp .ne 31, 3) := by decide +kernel
theorem dL_told_216 : decode cL_told 216 = .ok (.aload_n 0, 1) := by decide +kernel
theorem dL_told_217 : decode cL_told 217 = .ok (.iload 8, 2) := by decide +kernel
theorem dL_told_219 : decode cL_told 219 = .ok (.bipush 18, 2) := by decide +kernel
theorem dL_told_221 : decode cL_told 221 = .ok (.invokevirtual 22, 3) := by decide +kernel
theorem dL_told_224 : decode cL_told 224 = .ok (.iload 10, 2) := by decide +kernel
theorem dL_told_226 : decode cL_told 226 = .ok (.if_icmp .ne 18, 3) := by decide +kernel
theorem dL_told_229 : decode cL_told 229 = .ok (.aload_n 0, 1) := by decide +kernel
theorem dL_told_230 : decode cL_told 230 = .ok (.iload 8, 2) := by decide +kernel
theorem dL_told_232 : decode cL_told 232 = .ok (.invokevirtual 32, 3) := by decide +kernel
theorem dL_told_235 : decode cL_told 235 = .ok (.iload 8, 2) := by decide +kernel
theorem dL_told_237 : decode cL_told 237 = .ok (.aload_n 1, 1) := by decide +kernel
theorem dL_told_238 : decode cL_told 238 = .ok (.invokestatic 36, 3) := by decide +kernel
theorem dL_told_241 : decode cL_told 241 = .ok (.if_icmp .eq 5, 3) := by decide +kernel
theorem dL_told_244 : decode cL_told 244 = .ok (.iconst 0, 1) := by decide +kernel
theorem dL_told_245 : decode cL_told 245 = .ok (.ireturn, 1) := by decide +kernel
theorem dL_told_246 : decode cL_told 246 = .ok (.aload_n 0, 1) := by decide +kernel
theorem dL_told_247 : decode cL_told 247 = .ok (.iload 8, 2) := by decide +kernel
theorem dL_told_249 : decode cL_told 249 = .ok (.bipush 9, 2) := by decide +kernel
theorem dL_told_251 : decode cL_told 251 = .ok (.invokevirtual 22, 3) := by decide +kernel
theorem dL_told_254 : decode cL_told 254 = .ok (.aload_n 2, 1) := by decide +kernel
theorem dL_told_255 : decode cL_told 255 = .ok (.iload 9, 2) := by decide +kernel
theorem dL_told_257 : decode cL_told 257 = .ok (.iconst 1, 1) := by decide +kernel
theorem dL_told_258 : decode cL_told 258 = .ok (.iadd, 1) := by decide +kernel
theorem dL_told_259 : decode cL_told 259 = .ok (.iaload, 1) := by decide +kernel
theorem dL_told_260 : decode cL_told 260 = .ok (.if_icmp .ne 37, 3) := by decide +kernel
theorem dL_told_263 : decode cL_told 263 = .ok (.aload_n 0, 1) := by decide +kernel
theorem dL_told_264 : decode cL_told 264 = .ok (.iload 8, 2) := by decide +kernel
theorem dL_told_266 : decode cL_told 266 = .ok (.bipush 10, 2) := by decide +kernel
theorem dL_told_268 : decode cL_told 268 = .ok (.invokevirtual 22, 3) := by decide +kernel
theorem dL_told_271 : decode cL_told 271 = .ok (.aload_n 2, 1) := by decide +kernel
theorem dL_told_272 : decode cL_told 272 = .ok (.iload 9, 2) := by decide +kernel
theorem dL_told_274 : decode cL_told 274 = .ok (.iconst 2, 1) := by decide +kernel
theorem dL_told_275 : decode cL_told 275 = .ok (.iadd, 1) := by decide +kernel
theorem dL_told_276 : decode cL_told 276 = .ok (.iaload, 1) := by decide +kernel
theorem dL_told_277 : decode cL_told 277 = .ok (.if_icmp .ne 20, 3) := by decide +kernel
theorem dL_told_280 : decode cL_told 280 = .ok (.aload_n 0, 1) := by decide +kernel
theorem dL_told_281 : decode cL_told 281 = .ok (.iload 8, 2) := by decide +kernel
theorem dL_told_283 : decode cL_told 283 = .ok (.bipush 11, 2) := by decide +kernel
theorem dL_told_285 : decode cL_told 285 = .ok (.invokevirtual 22, 3) := by decide +kernel
theorem dL_told_288 : decode cL_told 288 = .ok (.aload_n 2, 1) := by decide +kernel
theorem dL_told_289 : decode cL_told 289 = .ok (.iload 9, 2) := by decide +kernel
theorem dL_told_291 : decode cL_told 291 = .ok (.iconst 3, 1) := by decide +kernel
theorem dL_told_292 : decode cL_told 292 = .ok (.iadd, 1) := by decide +kernel
theorem dL_told_293 : decode cL_told 293 = .ok (.iaload, 1) := by decide +kernel
theorem dL_told_294 : decode cL_told 294 = .ok (.if_icmp .eq 5, 3) := by decide +kernel
theorem dL_told_297 : decode cL_told 297 = .ok (.iconst 0, 1) := by decide +kernel
theorem dL_told_298 : decode cL_told 298 = .ok (.ireturn, 1) := by decide +kernel
theorem dL_told_299 : decode cL_told 299 = .ok (.bipush 13, 2) := by decide +kernel
theorem dL_told_301 : decode cL_told 301 = .ok (.istore 11, 2) := by decide +kernel
theorem dL_told_303 : decode cL_told 303 = .ok (.iload 11, 2) := by decide +kernel
theorem dL_told_305 : decode cL_told 305 = .ok (.bipush 18, 2) := by decide +kernel
theorem dL_told_307 : decode cL_told 307 = .ok (.if_icmp .ge 32, 3) := by decide +kernel
theorem dL_told_310 : decode cL_told 310 = .ok (.aload_n 0, 1) := by decide +kernel
theorem dL_told_311 : decode cL_told 311 = .ok (.iload 8, 2) := by decide +kernel
theorem dL_told_313 : decode cL_told 313 = .ok (.iload 11, 2) := by decide +kernel
theorem dL_told_315 : decode cL_told 315 = .ok (.invokevirtual 22, 3) := by decide +kernel
theorem dL_told_318 : decode cL_told 318 = .ok (.aload_n 2, 1) := by decide +kernel
theorem dL_told_319 : decode cL_told 319 = .ok (.iload 9, 2) := by decide +kernel
theorem dL_told_321 : decode cL_told 321 = .ok (.iload 11, 2) := by decide +kernel
theorem dL_told_323 : decode cL_told 323 = .ok (.iadd, 1) := by decide +kernel
theorem dL_told_324 : decode cL_told 324 = .ok (.bipush 9, 2) := by decide +kernel
theorem dL_told_326 : decode cL_told 326 = .ok (.isub, 1) := by decide +kernel
theorem dL_told_327 : decode cL_told 327 = .ok (.iaload, 1) := by decide +kernel
theorem dL_told_328 : decode cL_told 328 = .ok (.if_icmp .eq 5, 3) := by decide +kernel
theorem dL_told_331 : decode cL_told 331 = .ok (.iconst 0, 1) := by decide +kernel
theorem dL_told_332 : decode cL_told 332 = .ok (.ireturn, 1) := by decide +kernel
theorem dL_told_333 : decode cL_told 333 = .ok (.iinc 11 1, 3) := by decide +kernel
theorem dL_told_336 : decode cL_told 336 = .ok (.goto (-33), 3) := by decide +kernel
theorem dL_told_339 : decode cL_told 339 = .ok (.iconst 0, 1) := by decide +kernel
theorem dL_told_340 : decode cL_told 340 = .ok (.istore 11, 2) := by decide +kernel
theorem dL_told_342 : decode cL_told 342 = .ok (.iload 11, 2) := by decide +kernel
theorem dL_told_344 : decode cL_told 344 = .ok (.iconst 4, 1) := by decide +kernel
theorem dL_told_345 : decode cL_told 345 = .ok (.if_icmp .ge 31, 3) := by decide +kernel
theorem dL_told_348 : decode cL_told 348 = .ok (.aload_n 0, 1) := by decide +kernel
theorem dL_told_349 : decode cL_told 349 = .ok (.iload 8, 2) := by decide +kernel
theorem dL_told_351 : decode cL_told 351 = .ok (.iload 11, 2) := by decide +kernel
theorem dL_told_353 : decode cL_told 353 = .ok (.invokevirtual 40, 3) := by decide +kernel
theorem dL_told_356 : decode cL_told 356 = .ok (.aload_n 3, 1) := by decide +kernel
theorem dL_told_357 : decode cL_told 357 = .ok (.iconst 4, 1) := by decide +kernel
theorem dL_told_358 : decode cL_told 358 = .ok (.iload 8, 2) := by decide +kernel
theorem dL_told_360 : decode cL_told 360 = .ok (.imul, 1) := by decide +kernel
theorem dL_told_361 : decode cL_told 361 = .ok (.iload 11, 2) := by decide +kernel
theorem dL_told_363 : decode cL_told 363 = .ok (.iadd, 1) := by decide +kernel
theorem dL_told_364 : decode cL_told 364 = .ok (.iaload, 1) := by decide +kernel
theorem dL_told_365 : decode cL_told 365 = .ok (.if_icmp .eq 5, 3) := by decide +kernel
theorem dL_told_368 : decode cL_told 368 = .ok (.iconst 0, 1) := by decide +kernel
theorem dL_told_369 : decode cL_told 369 = .ok (.ireturn, 1) := by decide +kernel
theorem dL_told_370 : decode cL_told 370 = .ok (.iinc 11 1, 3) := by decide +kernel
theorem dL_told_373 : decode cL_told 373 = .ok (.goto (-31), 3) := by decide +kernel
theorem dL_told_376 : decode cL_told 376 = .ok (.iinc 8 1, 3) := by decide +kernel
theorem dL_told_379 : decode cL_told 379 = .ok (.goto (-370), 3) := by decide +kernel
theorem dL_told_382 : decode cL_told 382 = .ok (.iconst 0, 1) := by decide +kernel
theorem dL_told_383 : decode cL_told 383 = .ok (.istore 8, 2) := by decide +kernel
theorem dL_told_385 : decode cL_told 385 = .ok (.iload 8, 2) := by decide +kernel
theorem dL_told_387 : decode cL_told 387 = .ok (.bipush 64, 2) := by decide +kernel
theorem dL_told_389 : decode cL_told 389 = .ok (.if_icmp .ge 46, 3) := by decide +kernel
theorem dL_told_392 : decode cL_told 392 = .ok (.aload_n 0, 1) := by decide +kernel
theorem dL_told_393 : decode cL_told 393 = .ok (.iload 8, 2) := by decide +kernel
theorem dL_told_395 : decode cL_told 395 = .ok (.iconst 4, 1) := by decide +kernel
theorem dL_told_396 : decode cL_told 396 = .ok (.idiv, 1) := by decide +kernel
theorem dL_told_397 : decode cL_told 397 = .ok (.iload 8, 2) := by decide +kernel
theorem dL_told_399 : decode cL_told 399 = .ok (.iconst 4, 1) := by decide +kernel
theorem dL_told_400 : decode cL_told 400 = .ok (.irem, 1) := by decide +kernel
theorem dL_told_401 : decode cL_told 401 = .ok (.invokevirtual 43, 3) := by decide +kernel
theorem dL_told_404 : decode cL_told 404 = .ok (.iload 8, 2) := by decide +kernel
theorem dL_told_406 : decode cL_told 406 = .ok (.iconst 4, 1) := by decide +kernel
theorem dL_told_407 : decode cL_told 407 = .ok (.idiv, 1) := by decide +kernel
theorem dL_told_408 : decode cL_told 408 = .ok (.aload 5, 2) := by decide +kernel
theorem dL_told_410 : decode cL_told 410 = .ok (.iconst 3, 1) := by decide +kernel
theorem dL_told_411 : decode cL_told 411 = .ok (.iaload, 1) := by decide +kernel
theorem dL_told_412 : decode cL_told 412 = .ok (.if_icmp .ge 11, 3) := by decide +kernel
theorem dL_told_415 : decode cL_told 415 = .ok (.aload 4, 2) := by decide +kernel
theorem dL_told_417 : decode cL_told 417 = .ok (.iload 8, 2) := by decide +kernel
theorem dL_told_419 : decode cL_told 419 = .ok (.iaload, 1) := by decide +kernel
theorem dL_told_420 : decode cL_told 420 = .ok (.goto 4, 3) := by decide +kernel
theorem dL_told_423 : decode cL_told 423 = .ok (.iconst (-1), 1) := by decide +kernel
theorem dL_told_424 : decode cL_told 424 = .ok (.if_icmp .eq 5, 3) := by decide +kernel
theorem dL_told_427 : decode cL_told 427 = .ok (.iconst 0, 1) := by decide +kernel
theorem dL_told_428 : decode cL_told 428 = .ok (.ireturn, 1) := by decide +kernel
theorem dL_told_429 : decode cL_told 429 = .ok (.iinc 8 1, 3) := by decide +kernel
theorem dL_told_432 : decode cL_told 432 = .ok (.goto (-47), 3) := by decide +kernel
theorem dL_told_435 : decode cL_told 435 = .ok (.aload 5, 2) := by decide +kernel
theorem dL_told_437 : decode cL_told 437 = .ok (.iconst 2, 1) := by decide +kernel
theorem dL_told_438 : decode cL_told 438 = .ok (.iaload, 1) := by decide +kernel
theorem dL_told_439 : decode cL_told 439 = .ok (.aload 5, 2) := by decide +kernel
theorem dL_told_441 : decode cL_told 441 = .ok (.iconst 0, 1) := by decide +kernel
theorem dL_told_442 : decode cL_told 442 = .ok (.iaload, 1) := by decide +kernel
theorem dL_told_443 : decode cL_told 443 = .ok (.imul, 1) := by decide +kernel
theorem dL_told_444 : decode cL_told 444 = .ok (.istore 8, 2) := by decide +kernel
theorem dL_told_446 : decode cL_told 446 = .ok (.aload_n 0, 1) := by decide +kernel
theorem dL_told_447 : decode cL_told 447 = .ok (.iconst 0, 1) := by decide +kernel
theorem dL_told_448 : decode cL_told 448 = .ok (.invokevirtual 46, 3) := by decide +kernel
theorem dL_told_451 : decode cL_told 451 = .ok (.aload 5, 2) := by decide +kernel
theorem dL_told_453 : decode cL_told 453 = .ok (.iconst 0, 1) := by decide +kernel
theorem dL_told_454 : decode cL_told 454 = .ok (.iaload, 1) := by decide +kernel
theorem dL_told_455 : decode cL_told 455 = .ok (.if_icmp .ne 129, 3) := by decide +kernel
theorem dL_told_458 : decode cL_told 458 = .ok (.aload_n 0, 1) := by decide +kernel
theorem dL_told_459 : decode cL_told 459 = .ok (.iconst 1, 1) := by decide +kernel
theorem dL_told_460 : decode cL_told 460 = .ok (.invokevirtual 46, 3) := by decide +kernel
theorem dL_told_463 : decode cL_told 463 = .ok (.aload 5, 2) := by decide +kernel
theorem dL_told_465 : decode cL_told 465 = .ok (.iconst 2, 1) := by decide +kernel
theorem dL_told_466 : decode cL_told 466 = .ok (.iaload, 1) := by decide +kernel
theorem dL_told_467 : decode cL_told 467 = .ok (.if_icmp .ne 117, 3) := by decide +kernel
theorem dL_told_470 : decode cL_told 470 = .ok (.aload_n 0, 1) := by decide +kernel
theorem dL_told_471 : decode cL_told 471 = .ok (.iconst 2, 1) := by decide +kernel
theorem dL_told_472 : decode cL_told 472 = .ok (.invokevirtual 46, 3) := by decide +kernel
theorem dL_told_475 : decode cL_told 475 = .ok (.aload 5, 2) := by decide +kernel
theorem dL_told_477 : decode cL_told 477 = .ok (.iconst 1, 1) := by decide +kernel
theorem dL_told_478 : decode cL_told 478 = .ok (.iaload, 1) := by decide +kernel
theorem dL_told_479 : decode cL_told 479 = .ok (.if_icmp .ne 105, 3) := by decide +kernel
theorem dL_told_482 : decode cL_told 482 = .ok (.aload_n 0, 1) := by decide +kernel
theorem dL_told_483 : decode cL_told 483 = .ok (.iconst 3, 1) := by decide +kernel
theorem dL_told_484 : decode cL_told 484 = .ok (.invokevirtual 46, 3) := by decide +kernel
theorem dL_told_487 : decode cL_told 487 = .ok (.iconst 1, 1) := by decide +kernel
theorem dL_told_488 : decode cL_told 488 = .ok (.iconst 1, 1) := by decide +kernel
theorem dL_told_489 : decode cL_told 489 = .ok (.aload_n 2, 1) := by decide +kernel
theorem dL_told_490 : decode cL_told 490 = .ok (.aload 5, 2) := by decide +kernel
theorem dL_told_492 : decode cL_told 492 = .ok (.invokestatic 49, 3) := by decide +kernel
theorem dL_told_495 : decode cL_told 495 = .ok (.if_icmp .ne 89, 3) := by decide +kernel
theorem dL_told_498 : decode cL_told 498 = .ok (.aload_n 0, 1) := by decide +kernel
theorem dL_told_499 : decode cL_told 499 = .ok (.iconst 4, 1) := by decide +kernel
theorem dL_told_500 : decode cL_told 500 = .ok (.invokevirtual 46, 3) := by decide +kernel
theorem dL_told_503 : decode cL_told 503 = .ok (.iconst 2, 1) := by decide +kernel
theorem dL_told_504 : decode cL_told 504 = .ok (.iconst 3, 1) := by decide +kernel
theorem dL_told_505 : decode cL_told 505 = .ok (.aload_n 2, 1) := by decide +kernel
theorem dL_told_506 : decode cL_told 506 = .ok (.aload 5, 2) := by decide +kernel
theorem dL_told_508 : decode cL_told 508 = .ok (.invokestatic 49, 3) := by decide +kernel
theorem dL_told_511 : decode cL_told 511 = .ok (.if_icmp .ne 73, 3) := by decide +kernel
theorem dL_told_514 : decode cL_told 514 = .ok (.aload_n 0, 1) := by decide +kernel
theorem dL_told_515 : decode cL_told 515 = .ok (.iconst 5, 1) := by decide +kernel
theorem dL_told_516 : decode cL_told 516 = .ok (.invokevirtual 46, 3) := by decide +kernel
theorem dL_told_519 : decode cL_told 519 = .ok (.iconst 2, 1) := by decide +kernel
theorem dL_told_520 : decode cL_told 520 = .ok (.iconst 5, 1) := by decide +kernel
theorem dL_told_521 : decode cL_told 521 = .ok (.aload_n 2, 1) := by decide +kernel
theorem dL_told_522 : decode cL_told 522 = .ok (.aload 5, 2) := by decide +kernel
theorem dL_told_524 : decode cL_told 524 = .ok (.invokestatic 49, 3) := by decide +kernel
theorem dL_told_527 : decode cL_told 527 = .ok (.if_icmp .ne 57, 3) := by decide +kernel
theorem dL_told_530 : decode cL_told 530 = .ok (.aload_n 0, 1) := by decide +kernel
theorem dL_told_531 : decode cL_told 531 = .ok (.bipush 6, 2) := by decide +kernel
theorem dL_told_533 : decode cL_told 533 = .ok (.invokevirtual 46, 3) := by decide +kernel
theorem dL_told_536 : decode cL_told 536 = .ok (.aload 5, 2) := by decide +kernel
theorem dL_told_538 : decode cL_told 538 = .ok (.iconst 3, 1) := by decide +kernel
theorem dL_told_539 : decode cL_told 539 = .ok (.iaload, 1) := by decide +kernel
theorem dL_told_540 : decode cL_told 540 = .ok (.if_icmp .ne 44, 3) := by decide +kernel
theorem dL_told_543 : decode cL_told 543 = .ok (.aload_n 0, 1) := by decide +kernel
theorem dL_told_544 : decode cL_told 544 = .ok (.bipush 7, 2) := by decide +kernel
theorem dL_told_546 : decode cL_told 546 = .ok (.invokevirtual 46, 3) := by decide +kernel
theorem dL_told_549 : decode cL_told 549 = .ok (.iload 6, 2) := by decide +kernel
theorem dL_told_551 : decode cL_told 551 = .ok (.if_icmp .ne 33, 3) := by decide +kernel
theorem dL_told_554 : decode cL_told 554 = .ok (.aload_n 0, 1) := by decide +kernel
theorem dL_told_555 : decode cL_told 555 = .ok (.invokevirtual 53, 3) := by decide +kernel
theorem dL_told_558 : decode cL_told 558 = .ok (.iload 8, 2) := by decide +kernel
theorem dL_told_560 : decode cL_told 560 = .ok (.ifCond .ne 7, 3) := by decide +kernel
theorem dL_told_563 : decode cL_told 563 = .ok (.dconst 0, 1) := by decide +kernel
theorem dL_told_564 : decode cL_told 564 = .ok (.goto 12, 3) := by decide +kernel
theorem dL_told_567 : decode cL_told 567 = .ok (.dconst 1, 1) := by decide +kernel
theorem dL_told_568 : decode cL_told 568 = .ok (.iload 7, 2) := by decide +kernel
theorem dL_told_570 : decode cL_told 570 = .ok (.i2d, 1) := by decide +kernel
theorem dL_told_571 : decode cL_told 571 = .ok (.dmul, 1) := by decide +kernel
theorem dL_told_572 : decode cL_told 572 = .ok (.iload 8, 2) := by decide +kernel
theorem dL_told_574 : decode cL_told 574 = .ok (.i2d, 1) := by decide +kernel
theorem dL_told_575 : decode cL_told 575 = .ok (.ddiv, 1) := by decide +kernel
theorem dL_told_576 : decode cL_told 576 = .ok (.dcmp .l, 1) := by decide +kernel
theorem dL_told_577 : decode cL_told 577 = .ok (.ifCond .ne 7, 3) := by decide +kernel
theorem dL_told_580 : decode cL_told 580 = .ok (.iconst 1, 1) := by decide +kernel
theorem dL_told_581 : decode cL_told 581 = .ok (.goto 4, 3) := by decide +kernel
theorem dL_told_584 : decode cL_told 584 = .ok (.iconst 0, 1) := by decide +kernel
theorem dL_told_585 : decode cL_told 585 = .ok (.ireturn, 1) := by decide +kernel
theorem dL_ahead_0 : decode cL_ahead 0 = .ok (.bipush 54, 2) := by decide +kernel
theorem dL_ahead_2 : decode cL_ahead 2 = .ok (.newarray .int, 2) := by decide +kernel
theorem dL_ahead_4 : decode cL_ahead 4 = .ok (.astore 6, 2) := by decide +kernel
theorem dL_ahead_6 : decode cL_ahead 6 = .ok (.bipush 24, 2) := by decide +kernel
theorem dL_ahead_8 : decode cL_ahead 8 = .ok (.newarray .int, 2) := by decide +kernel
theorem dL_ahead_10 : decode cL_ahead 10 = .ok (.astore 7, 2) := by decide +kernel
theorem dL_ahead_12 : decode cL_ahead 12 = .ok (.bipush 64, 2) := by decide +kernel
theorem dL_ahead_14 : decode cL_ahead 14 = .ok (.newarray .int, 2) := by decide +kernel
theorem dL_ahead_16 : decode cL_ahead 16 = .ok (.astore 8, 2) := by decide +kernel
theorem dL_ahead_18 : decode cL_ahead 18 = .ok (.bipush 6, 2) := by decide +kernel
theorem dL_ahead_20 : decode cL_ahead 20 = .ok (.newarray .int, 2) := by decide +kernel
theorem dL_ahead_22 : decode cL_ahead 22 = .ok (.astore 9, 2) := by decide +kernel
theorem dL_ahead_24 : decode cL_ahead 24 = .ok (.iconst 0, 1) := by decide +kernel
theorem dL_ahead_25 : decode cL_ahead 25 = .ok (.istore 10, 2) := by decide +kernel
theorem dL_ahead_27 : decode cL_ahead 27 = .ok (.iload 10, 2) := by decide +kernel
theorem dL_ahead_29 : decode cL_ahead 29 = .ok (.iconst 4, 1) := by decide +kernel
theorem dL_ahead_30 : decode cL_ahead 30 = .ok (.if_icmp .ge 561, 3) := by decide +kernel
theorem dL_ahead_33 : decode cL_ahead 33 = .ok (.iconst 0, 1) := by decide +kernel
theorem dL_ahead_34 : decode cL_ahead 34 = .ok (.istore 11, 2) := by decide +kernel
theorem dL_ahead_36 : decode cL_ahead 36 = .ok (.iload 11, 2) := by decide +kernel
theorem dL_ahead_38 : decode cL_ahead 38 = .ok (.bipush 54, 2) := by decide +kernel
theorem dL_ahead_40 : decode cL_ahead 40 = .ok (.if_icmp .ge 19, 3) := by decide +kernel
theorem dL_ahead_43 : decode cL_ahead 43 = .ok (.aload 6, 2) := by decide +kernel
theorem dL_ahead_45 : decode cL_ahead 45 = .ok (.iload 11, 2) := by decide +kernel
theorem dL_ahead_47 : decode cL_ahead 47 = .ok (.aload 4, 2) := by decide +kernel
theorem dL_ahead_49 : decode cL_ahead 49 = .ok (.iload 11, 2) := by decide +kernel
theorem dL_ahead_51 : decode cL_ahead 51 = .ok (.iaload, 1) := by decide +kernel
theorem dL_ahead_52 : decode cL_ahead 52 = .ok (.iastore, 1) := by decide +kernel
theorem dL_ahead_53 : decode cL_ahead 53 = .ok (.iinc 11 1, 3) := by decide +kernel
theorem dL_ahead_56 : decode cL_ahead 56 = .ok (.goto (-20), 3) := by decide +kernel
theorem dL_ahead_59 : decode cL_ahead 59 = .ok (.iconst 0, 1) := by decide +kernel
theorem dL_ahead_60 : decode cL_ahead 60 = .ok (.istore 11, 2) := by decide +kernel
theorem dL_ahead_62 : decode cL_ahead 62 = .ok (.iload 11, 2) := by decide +kernel
theorem dL_ahead_64 : decode cL_ahead 64 = .ok (.bipush 6, 2) := by decide +kernel
theorem dL_ahead_66 : decode cL_ahead 66 = .ok (.if_icmp .ge 19, 3) := by decide +kernel
theorem dL_ahead_69 : decode cL_ahead 69 = .ok (.aload 9, 2) := by decide +kernel
theorem dL_ahead_71 : decode cL_ahead 71 = .ok (.iload 11, 2) := by decide +kernel
theorem dL_ahead_73 : decode cL_ahead 73 = .ok (.aload 5, 2) := by decide +kernel
theorem dL_ahead_75 : decode cL_ahead 75 = .ok (.iload 11, 2) := by decide +kernel
theorem dL_ahead_77 : decode cL_ahead 77 = .ok (.iaload, 1) := by decide +kernel
theorem dL_ahead_78 : decode cL_ahead 78 = .ok (.iastore, 1) := by decide +kernel
theorem dL_ahead_79 : decode cL_ahead 79 = .ok (.iinc 11 1, 3) := by decide +kernel
theorem dL_ahead_82 : decode cL_ahead 82 = .ok (.goto (-20), 3) := by decide +kernel
theorem dL_ahead_85 : decode cL_ahead 85 = .ok (.iload 10, 2) := by decide +kernel
theorem dL_ahead_87 : decode cL_ahead 87 = .ok (.iconst 3, 1) := by decide +kernel
theorem dL_ahead_88 : decode cL_ahead 88 = .ok (.if_icmp .ne 140, 3) := by decide +kernel
theorem dL_ahead_91 : decode cL_ahead 91 = .ok (.aload_n 3, 1) := by decide +kernel
theorem dL_ahead_92 : decode cL_ahead 92 = .ok (.aload 6, 2) := by decide +kernel
theorem dL_ahead_94 : decode cL_ahead 94 = .ok (.aload 7, 2) := by decide +kernel
theorem dL_ahead_96 : decode cL_ahead 96 = .ok (.aload 8, 2) := by decide +kernel
theorem dL_ahead_98 : decode cL_ahead 98 = .ok (.aload 9, 2) := by decide +kernel
theorem dL_ahead_100 : decode cL_ahead 100 = .ok (.invokestatic 57, 3) := by decide +kernel
theorem dL_ahead_103 : decode cL_ahead 103 = .ok (.iconst 1, 1) := by decide +kernel
theorem dL_ahead_104 : decode cL_ahead 104 = .ok (.istore 11, 2) := by decide +kernel
theorem dL_ahead_106 : decode cL_ahead 106 = .ok (.iconst 0, 1) := by decide +kernel
theorem dL_ahead_107 : decode cL_ahead 107 = .ok (.istore 12, 2) := by decide +kernel
theorem dL_ahead_109 : decode cL_ahead 109 = .ok (.iload 12, 2) := by decide +kernel
theorem dL_ahead_111 : decode cL_ahead 111 = .ok (.aload 5, 2) := by decide +kernel
theorem dL_ahead_113 : decode cL_ahead 113 = .ok (.iconst 0, 1) := by decide +kernel
theorem dL_ahead_114 : decode cL_ahead 114 = .ok (.iaload, 1) := by decide +kernel
theorem dL_ahead_115 : decode cL_ahead 115 = .ok (.if_icmp .ge 92, 3) := by decide +kernel
theorem dL_ahead_118 : decode cL_ahead 118 = .ok (.iload 11, 2) := by decide +kernel
theorem dL_ahead_120 : decode cL_ahead 120 = .ok (.ifCond .eq 78, 3) := by decide +kernel
theorem dL_ahead_123 : decode cL_ahead 123 = .ok (.aload 6, 2) := by decide +kernel
theorem dL_ahead_125 : decode cL_ahead 125 = .ok (.bipush 9, 2) := by decide +kernel
theorem dL_ahead_127 : decode cL_ahead 127 = .ok (.iload 12, 2) := by decide +kernel
theorem dL_ahead_129 : decode cL_ahead 129 = .ok (.imul, 1) := by decide +kernel
theorem dL_ahead_130 : decode cL_ahead 130 = .ok (.iconst 2, 1) := by decide +kernel
theorem dL_ahead_131 : decode cL_ahead 131 = .ok (.iadd, 1) := by decide +kernel
theorem dL_ahead_132 : decode cL_ahead 132 = .ok (.iaload, 1) := by decide +kernel
theorem dL_ahead_133 : decode cL_ahead 133 = .ok (.aload 4, 2) := by decide +kernel
theorem dL_ahead_135 : decode cL_ahead 135 = .ok (.bipush 9, 2) := by decide +kernel
theorem dL_ahead_137 : decode cL_ahead 137 = .ok (.iload 12, 2) := by decide +kernel
theorem dL_ahead_139 : decode cL_ahead 139 = .ok (.imul, 1) := by decide +kernel
theorem dL_ahead_140 : decode cL_ahead 140 = .ok (.iconst 2, 1) := by decide +kernel
theorem dL_ahead_141 : decode cL_ahead 141 = .ok (.iadd, 1) := by decide +kernel
theorem dL_ahead_142 : decode cL_ahead 142 = .ok (.iaload, 1) := by decide +kernel
theorem dL_ahead_143 : decode cL_ahead 143 = .ok (.if_icmp .ne 55, 3) := by decide +kernel
theorem dL_ahead_146 : decode cL_ahead 146 = .ok (.aload 6, 2) := by decide +kernel
theorem dL_ahead_148 : decode cL_ahead 148 = .ok (.bipush 9, 2) := by decide +kernel
theorem dL_ahead_150 : decode cL_ahead 150 = .ok (.iload 12, 2) := by decide +kernel
theorem dL_ahead_152 : decode cL_ahead 152 = .ok (.imul, 1) := by decide +kernel
theorem dL_ahead_153 : decode cL_ahead 153 = .ok (.iconst 3, 1) := by decide +kernel
theorem dL_ahead_154 : decode cL_ahead 154 = .ok (.iadd, 1) := by decide +kernel
theorem dL_ahead_155 : decode cL_ahead 155 = .ok (.iaload, 1) := by decide +kernel
theorem dL_ahead_156 : decode cL_ahead 156 = .ok (.aload 4, 2) := by decide +kernel
theorem dL_ahead_158 : decode cL_ahead 158 = .ok (.bipush 9, 2) := by decide +kernel
theorem dL_ahead_160 : decode cL_ahead 160 = .ok (.iload 12, 2) := by decide +kernel
theorem dL_ahead_162 : decode cL_ahead 162 = .ok (.imul, 1) := by decide +kernel
theorem dL_ahead_163 : decode cL_ahead 163 = .ok (.iconst 3, 1) := by decide +kernel
theorem dL_ahead_164 : decode cL_ahead 164 = .ok (.iadd, 1) := by decide +kernel
theorem dL_ahead_165 : decode cL_ahead 165 = .ok (.iaload, 1) := by decide +kernel
theorem dL_ahead_166 : decode cL_ahead 166 = .ok (.if_icmp .ne 32, 3) := by decide +kernel
theorem dL_ahead_169 : decode cL_ahead 169 = .ok (.aload 6, 2) := by decide +kernel
theorem dL_ahead_171 : decode cL_ahead 171 = .ok (.bipush 9, 2) := by decide +kernel
theorem dL_ahead_173 : decode cL_ahead 173 = .ok (.iload 12, 2) := by decide +kernel
theorem dL_ahead_175 : decode cL_ahead 175 = .ok (.imul, 1) := by decide +kernel
theorem dL_ahead_176 : decode cL_ahead 176 = .ok (.bipush 6, 2) := by decide +kernel
theorem dL_ahead_178 : decode cL_ahead 178 = .ok (.iadd, 1) := by decide +kernel
theorem dL_ahead_179 : decode cL_ahead 179 = .ok (.iaload, 1) := by decide +kernel
theorem dL_ahead_180 : decode cL_ahead 180 = .ok (.aload 4, 2) := by decide +kernel
theorem dL_ahead_182 : decode cL_ahead 182 = .ok (.bipush 9, 2) := by decide +kernel
theorem dL_ahead_184 : decode cL_ahead 184 = .ok (.iload 12, 2) := by decide +kernel
theorem dL_ahead_186 : decode cL_ahead 186 = .ok (.imul, 1) := by decide +kernel
theorem dL_ahead_187 : decode cL_ahead 187 = .ok (.bipush 6, 2) := by decide +kernel
theorem dL_ahead_189 : decode cL_ahead 189 = .ok (.iadd, 1) := by decide +kernel
theorem dL_ahead_190 : decode cL_ahead 190 = .ok (.iaload, 1) := by decide +kernel
theorem dL_ahead_191 : decode cL_ahead 191 = .ok (.if_icmp .ne 7, 3) := by decide +kernel
theorem dL_ahead_194 : decode cL_ahead 194 = .ok (.iconst 1, 1) := by decide +kernel
theorem dL_ahead_195 : decode cL_ahead 195 = .ok (.goto 4, 3) := by decide +kernel
theorem dL_ahead_198 : decode cL_ahead 198 = .ok (.iconst 0, 1) := by decide +kernel
theorem dL_ahead_199 : decode cL_ahead 199 = .ok (.istore 11, 2) := by decide +kernel
theorem dL_ahead_201 : decode cL_ahead 201 = .ok (.iinc 12 1, 3) := by decide +kernel
theorem dL_ahead_204 : decode cL_ahead 204 = .ok (.goto (-95), 3) := by decide +kernel
theorem dL_ahead_207 : decode cL_ahead 207 = .ok (.aload_n 0, 1) := by decide +kernel
theorem dL_ahead_208 : decode cL_ahead 208 = .ok (.bipush 9, 2) := by decide +kernel
theorem dL_ahead_210 : decode cL_ahead 210 = .ok (.invokevirtual 46, 3) := by decide +kernel
theorem dL_ahead_213 : decode cL_ahead 213 = .ok (.iload 11, 2) := by decide +kernel
theorem dL_ahead_215 : decode cL_ahead 215 = .ok (.ifCond .eq 7, 3) := by decide +kernel
theorem dL_ahead_218 : decode cL_ahead 218 = .ok (.iconst 1, 1) := by decide +kernel
theorem dL_ahead_219 : decode cL_ahead 219 = .ok (.goto 4, 3) := by decide +kernel
theorem dL_ahead_222 : decode cL_ahead 222 = .ok (.iconst 0, 1) := by decide +kernel
theorem dL_ahead_223 : decode cL_ahead 223 = .ok (.if_icmp .eq 362, 3) := by decide +kernel
theorem dL_ahead_226 : decode cL_ahead 226 = .ok (.iconst 0, 1) := by decide +kernel
theorem dL_ahead_227 : decode cL_ahead 227 = .ok (.ireturn, 1) := by decide +kernel
theorem dL_ahead_228 : decode cL_ahead 228 = .ok (.iload 10, 2) := by decide +kernel
theorem dL_ahead_230 : decode cL_ahead 230 = .ok (.iconst 2, 1) := by decide +kernel
theorem dL_ahead_231 : decode cL_ahead 231 = .ok (.if_icmp .ne 144, 3) := by decide +kernel
theorem dL_ahead_234 : decode cL_ahead 234 = .ok (.iload_n 1, 1) := by decide +kernel
theorem dL_ahead_235 : decode cL_ahead 235 = .ok (.aload 5, 2) := by decide +kernel
theorem dL_ahead_237 : decode cL_ahead 237 = .ok (.iconst 0, 1) := by decide +kernel
theorem dL_ahead_238 : decode cL_ahead 238 = .ok (.iaload, 1) := by decide +kernel
theorem dL_ahead_239 : decode cL_ahead 239 = .ok (.invokestatic 61, 3) := by decide +kernel
theorem dL_ahead_242 : decode cL_ahead 242 = .ok (.istore 11, 2) := by decide +kernel
theorem dL_ahead_244 : decode cL_ahead 244 = .ok (.iconst 1, 1) := by decide +kernel
theorem dL_ahead_245 : decode cL_ahead 245 = .ok (.iload_n 2, 1) := by decide +kernel
theorem dL_ahead_246 : decode cL_ahead 246 = .ok (.iload_n 1, 1) := by decide +kernel
theorem dL_ahead_247 : decode cL_ahead 247 = .ok (.iconst 4, 1) := by decide +kernel
theorem dL_ahead_248 : decode cL_ahead 248 = .ok (.ishr, 1) := by decide +kernel
theorem dL_ahead_249 : decode cL_ahead 249 = .ok (.iconst 3, 1) := by decide +kernel
theorem dL_ahead_250 : decode cL_ahead 250 = .ok (.invokestatic 61, 3) := by decide +kernel
theorem dL_ahead_253 : decode cL_ahead 253 = .ok (.ifCond .ne 9, 3) := by decide +kernel
theorem dL_ahead_256 : decode cL_ahead 256 = .ok (.sipush 500, 3) := by decide +kernel
theorem dL_ahead_259 : decode cL_ahead 259 = .ok (.goto 5, 3) := by decide +kernel
theorem dL_ahead_262 : decode cL_ahead 262 = .ok (.bipush 30, 2) := by decide +kernel
theorem dL_ahead_264 : decode cL_ahead 264 = .ok (.invokestatic 61, 3) := by decide +kernel
theorem dL_ahead_267 : decode cL_ahead 267 = .ok (.iadd, 1) := by decide +kernel
theorem dL_ahead_268 : decode cL_ahead 268 = .ok (.istore 12, 2) := by decide +kernel
theorem dL_ahead_270 : decode cL_ahead 270 = .ok (.aload 6, 2) := by decide +kernel
theorem dL_ahead_272 : decode cL_ahead 272 = .ok (.bipush 9, 2) := by decide +kernel
theorem dL_ahead_274 : decode cL_ahead 274 = .ok (.iload 11, 2) := by decide +kernel
theorem dL_ahead_276 : decode cL_ahead 276 = .ok (.imul, 1) := by decide +kernel
theorem dL_ahead_277 : decode cL_ahead 277 = .ok (.iconst 5, 1) := by decide +kernel
theorem dL_ahead_278 : decode cL_ahead 278 = .ok (.iadd, 1) := by decide +kernel
theorem dL_ahead_279 : decode cL_ahead 279 = .ok (.iload 12, 2) := by decide +kernel
theorem dL_ahead_281 : decode cL_ahead 281 = .ok (.iastore, 1) := by decide +kernel
theorem dL_ahead_282 : decode cL_ahead 282 = .ok (.aload 9, 2) := by decide +kernel
theorem dL_ahead_284 : decode cL_ahead 284 = .ok (.iconst 5, 1) := by decide +kernel
theorem dL_ahead_285 : decode cL_ahead 285 = .ok (.iconst 0, 1) := by decide +kernel
theorem dL_ahead_286 : decode cL_ahead 286 = .ok (.iastore, 1) := by decide +kernel
theorem dL_ahead_287 : decode cL_ahead 287 = .ok (.iconst 0, 1) := by decide +kernel
theorem dL_ahead_288 : decode cL_ahead 288 = .ok (.istore 13, 2) := by decide +kernel
theorem dL_ahead_290 : decode cL_ahead 290 = .ok (.iload 13, 2) := by decide +kernel
theorem dL_ahead_292 : decode cL_ahead 292 = .ok (.bipush 100, 2) := by decide +kernel
theorem dL_ahead_294 : decode cL_ahead 294 = .ok (.if_icmp .ge 21, 3) := by decide +kernel
theorem dL_ahead_297 : decode cL_ahead 297 = .ok (.aload_n 3, 1) := by decide +kernel
theorem dL_ahead_298 : decode cL_ahead 298 = .ok (.aload 6, 2) := by decide +kernel
theorem dL_ahead_300 : decode cL_ahead 300 = .ok (.aload 7, 2) := by decide +kernel
theorem dL_ahead_302 : decode cL_ahead 302 = .ok (.aload 8, 2) := by decide +kernel
theorem dL_ahead_304 : decode cL_ahead 304 = .ok (.aload 9, 2) := by decide +kernel
theorem dL_ahead_306 : decode cL_ahead 306 = .ok (.invokestatic 57, 3) := by decide +kernel
theorem dL_ahead_309 : decode cL_ahead 309 = .ok (.iinc 13 1, 3) := by decide +kernel
theorem dL_ahead_312 : decode cL_ahead 312 = .ok (.goto (-22), 3) := by decide +kernel
theorem dL_ahead_315 : decode cL_ahead 315 = .ok (.aload_n 0, 1) := by decide +kernel
theorem dL_ahead_316 : decode cL_ahead 316 = .ok (.iload 11, 2) := by decide +kernel
theorem dL_ahead_318 : decode cL_ahead 318 = .ok (.iload 12, 2) := by decide +kernel
theorem dL_ahead_320 : decode cL_ahead 320 = .ok (.iconst 0, 1) := by decide +kernel
theorem dL_ahead_321 : decode cL_ahead 321 = .ok (.invokevirtual 64, 3) := by decide +kernel
theorem dL_ahead_324 : decode cL_ahead 324 = .ok (.aload 9, 2) := by decide +kernel
theorem dL_ahead_326 : decode cL_ahead 326 = .ok (.iconst 5, 1) := by decide +kernel
theorem dL_ahead_327 : decode cL_ahead 327 = .ok (.iaload, 1) := by decide +kernel
theorem dL_ahead_328 : decode cL_ahead 328 = .ok (.if_icmp .ne 45, 3) := by decide +kernel
theorem dL_ahead_331 : decode cL_ahead 331 = .ok (.aload_n 0, 1) := by decide +kernel
theorem dL_ahead_332 : decode cL_ahead 332 = .ok (.iload 11, 2) := by decide +kernel
theorem dL_ahead_334 : decode cL_ahead 334 = .ok (.iload 12, 2) := by decide +kernel
theorem dL_ahead_336 : decode cL_ahead 336 = .ok (.iconst 1, 1) := by decide +kernel
theorem dL_ahead_337 : decode cL_ahead 337 = .ok (.invokevirtual 64, 3) := by decide +kernel
theorem dL_ahead_340 : decode cL_ahead 340 = .ok (.iconst 2, 1) := by decide +kernel
theorem dL_ahead_341 : decode cL_ahead 341 = .ok (.iconst 3, 1) := by decide +kernel
theorem dL_ahead_342 : decode cL_ahead 342 = .ok (.aload 6, 2) := by decide +kernel
theorem dL_ahead_344 : decode cL_ahead 344 = .ok (.aload 9, 2) := by decide +kernel
theorem dL_ahead_346 : decode cL_ahead 346 = .ok (.invokestatic 49, 3) := by decide +kernel
theorem dL_ahead_349 : decode cL_ahead 349 = .ok (.if_icmp .ne 24, 3) := by decide +kernel
theorem dL_ahead_352 : decode cL_ahead 352 = .ok (.aload_n 0, 1) := by decide +kernel
theorem dL_ahead_353 : decode cL_ahead 353 = .ok (.iload 11, 2) := by decide +kernel
theorem dL_ahead_355 : decode cL_ahead 355 = .ok (.iload 12, 2) := by decide +kernel
theorem dL_ahead_357 : decode cL_ahead 357 = .ok (.iconst 2, 1) := by decide +kernel
theorem dL_ahead_358 : decode cL_ahead 358 = .ok (.invokevirtual 64, 3) := by decide +kernel
theorem dL_ahead_361 : decode cL_ahead 361 = .ok (.iconst 2, 1) := by decide +kernel
theorem dL_ahead_362 : decode cL_ahead 362 = .ok (.iconst 5, 1) := by decide +kernel
theorem dL_ahead_363 : decode cL_ahead 363 = .ok (.aload 6, 2) := by decide +kernel
theorem dL_ahead_365 : decode cL_ahead 365 = .ok (.aload 9, 2) := by decide +kernel
theorem dL_ahead_367 : decode cL_ahead 367 = .ok (.invokestatic 49, 3) := by decide +kernel
theorem dL_ahead_370 : decode cL_ahead 370 = .ok (.if_icmp .eq 215, 3) := by decide +kernel
theorem dL_ahead_373 : decode cL_ahead 373 = .ok (.iconst 0, 1) := by decide +kernel
theorem dL_ahead_374 : decode cL_ahead 374 = .ok (.ireturn, 1) := by decide +kernel
theorem dL_ahead_375 : decode cL_ahead 375 = .ok (.iload 10, 2) := by decide +kernel
theorem dL_ahead_377 : decode cL_ahead 377 = .ok (.iconst 1, 1) := by decide +kernel
theorem dL_ahead_378 : decode cL_ahead 378 = .ok (.if_icmp .ne 32, 3) := by decide +kernel
theorem dL_ahead_381 : decode cL_ahead 381 = .ok (.iconst 0, 1) := by decide +kernel
theorem dL_ahead_382 : decode cL_ahead 382 = .ok (.istore 11, 2) := by decide +kernel
theorem dL_ahead_384 : decode cL_ahead 384 = .ok (.iload 11, 2) := by decide +kernel
theorem dL_ahead_386 : decode cL_ahead 386 = .ok (.aload 5, 2) := by decide +kernel
theorem dL_ahead_388 : decode cL_ahead 388 = .ok (.iconst 0, 1) := by decide +kernel
theorem dL_ahead_389 : decode cL_ahead 389 = .ok (.iaload, 1) := by decide +kernel
theorem dL_ahead_390 : decode cL_ahead 390 = .ok (.if_icmp .ge 20, 3) := by decide +kernel
theorem dL_ahead_393 : decode cL_ahead 393 = .ok (.aload 6, 2) := by decide +kernel
theorem dL_ahead_395 : decode cL_ahead 395 = .ok (.bipush 9, 2) := by decide +kernel
theorem dL_ahead_397 : decode cL_ahead 397 = .ok (.iload 11, 2) := by decide +kernel
theorem dL_ahead_399 : decode cL_ahead 399 = .ok (.imul, 1) := by decide +kernel
theorem dL_ahead_400 : decode cL_ahead 400 = .ok (.iconst 1, 1) := by decide +kernel
theorem dL_ahead_401 : decode cL_ahead 401 = .ok (.iadd, 1) := by decide +kernel
theorem dL_ahead_402 : decode cL_ahead 402 = .ok (.iconst 0, 1) := by decide +kernel
theorem dL_ahead_403 : decode cL_ahead 403 = .ok (.iastore, 1) := by decide +kernel
theorem dL_ahead_404 : decode cL_ahead 404 = .ok (.iinc 11 1, 3) := by decide +kernel
theorem dL_ahead_407 : decode cL_ahead 407 = .ok (.goto (-23), 3) := by decide +kernel
theorem dL_ahead_410 : decode cL_ahead 410 = .ok (.iconst 0, 1) := by decide +kernel
theorem dL_ahead_411 : decode cL_ahead 411 = .ok (.istore 11, 2) := by decide +kernel
theorem dL_ahead_413 : decode cL_ahead 413 = .ok (.iconst 0, 1) := by decide +kernel
theorem dL_ahead_414 : decode cL_ahead 414 = .ok (.istore 12, 2) := by decide +kernel
theorem dL_ahead_416 : decode cL_ahead 416 = .ok (.iload 11, 2) := by decide +kernel
theorem dL_ahead_418 : decode cL_ahead 418 = .ok (.sipush 1001, 3) := by decide +kernel
theorem dL_ahead_421 : decode cL_ahead 421 = .ok (.if_icmp .ge 132, 3) := by decide +kernel
theorem dL_ahead_424 : decode cL_ahead 424 = .ok (.iload 12, 2) := by decide +kernel
theorem dL_ahead_426 : decode cL_ahead 426 = .ok (.ifCond .ne 127, 3) := by decide +kernel
theorem dL_ahead_429 : decode cL_ahead 429 = .ok (.iconst 1, 1) := by decide +kernel
theorem dL_ahead_430 : decode cL_ahead 430 = .ok (.istore 12, 2) := by decide +kernel
theorem dL_ahead_432 : decode cL_ahead 432 = .ok (.iconst 0, 1) := by decide +kernel
theorem dL_ahead_433 : decode cL_ahead 433 = .ok (.istore 13, 2) := by decide +kernel
theorem dL_ahead_435 : decode cL_ahead 435 = .ok (.iload 13, 2) := by decide +kernel
theorem dL_ahead_437 : decode cL_ahead 437 = .ok (.aload 5, 2) := by decide +kernel
theorem dL_ahead_439 : decode cL_ahead 439 = .ok (.iconst 0, 1) := by decide +kernel
theorem dL_ahead_440 : decode cL_ahead 440 = .ok (.iaload, 1) := by decide +kernel
theorem dL_ahead_441 : decode cL_ahead 441 = .ok (.if_icmp .ge 86, 3) := by decide +kernel
theorem dL_ahead_444 : decode cL_ahead 444 = .ok (.iload 12, 2) := by decide +kernel
theorem dL_ahead_446 : decode cL_ahead 446 = .ok (.ifCond .eq 72, 3) := by decide +kernel
theorem dL_ahead_449 : decode cL_ahead 449 = .ok (.iload 10, 2) := by decide +kernel
theorem dL_ahead_451 : decode cL_ahead 451 = .ok (.ifCond .ne 33, 3) := by decide +kernel
theorem dL_ahead_454 : decode cL_ahead 454 = .ok (.aload 6, 2) := by decide +kernel
theorem dL_ahead_456 : decode cL_ahead 456 = .ok (.bipush 9, 2) := by decide +kernel
theorem dL_ahead_458 : decode cL_ahead 458 = .ok (.iload 13, 2) := by decide +kernel
theorem dL_ahead_460 : decode cL_ahead 460 = .ok (.imul, 1) := by decide +kernel
theorem dL_ahead_461 : decode cL_ahead 461 = .ok (.iconst 1, 1) := by decide +kernel
theorem dL_ahead_462 : decode cL_ahead 462 = .ok (.iadd, 1) := by decide +kernel
theorem dL_ahead_463 : decode cL_ahead 463 = .ok (.iaload, 1) := by decide +kernel
theorem dL_ahead_464 : decode cL_ahead 464 = .ok (.ifCond .eq 50, 3) := by decide +kernel
theorem dL_ahead_467 : decode cL_ahead 467 = .ok (.aload 6, 2) := by decide +kernel
theorem dL_ahead_469 : decode cL_ahead 469 = .ok (.bipush 9, 2) := by decide +kernel
theorem dL_ahead_471 : decode cL_ahead 471 = .ok (.iload 13, 2) := by decide +kernel
theorem dL_ahead_473 : decode cL_ahead 473 = .ok (.imul, 1) := by decide +kernel
theorem dL_ahead_474 : decode cL_ahead 474 = .ok (.iconst 2, 1) := by decide +kernel
theorem dL_ahead_475 : decode cL_ahead 475 = .ok (.iadd, 1) := by decide +kernel
theorem dL_ahead_476 : decode cL_ahead 476 = .ok (.iaload, 1) := by decide +kernel
theorem dL_ahead_477 : decode cL_ahead 477 = .ok (.iconst 3, 1) := by decide +kernel
theorem dL_ahead_478 : decode cL_ahead 478 = .ok (.if_icmp .ne 40, 3) := by decide +kernel
theorem dL_ahead_481 : decode cL_ahead 481 = .ok (.goto 33, 3) := by decide +kernel
theorem dL_ahead_484 : decode cL_ahead 484 = .ok (.aload 6, 2) := by decide +kernel
theorem dL_ahead_486 : decode cL_ahead 486 = .ok (.bipush 9, 2) := by decide +kernel
theorem dL_ahead_488 : decode cL_ahead 488 = .ok (.iload 13, 2) := by decide +kernel
theorem dL_ahead_490 : decode cL_ahead 490 = .ok (.imul, 1) := by decide +kernel
theorem dL_ahead_491 : decode cL_ahead 491 = .ok (.iconst 2, 1) := by decide +kernel
theorem dL_ahead_492 : decode cL_ahead 492 = .ok (.iadd, 1) := by decide +kernel
theorem dL_ahead_493 : decode cL_ahead 493 = .ok (.iaload, 1) := by decide +kernel
theorem dL_ahead_494 : decode cL_ahead 494 = .ok (.ifCond .ne 24, 3) := by decide +kernel
theorem dL_ahead_497 : decode cL_ahead 497 = .ok (.aload 6, 2) := by decide +kernel
theorem dL_ahead_499 : decode cL_ahead 499 = .ok (.bipush 9, 2) := by decide +kernel
theorem dL_ahead_501 : decode cL_ahead 501 = .ok (.iload 13, 2) := by decide +kernel
theorem dL_ahead_503 : decode cL_ahead 503 = .ok (.imul, 1) := by decide +kernel
theorem dL_ahead_504 : decode cL_ahead 504 = .ok (.iconst 3, 1) := by decide +kernel
theorem dL_ahead_505 : decode cL_ahead 505 = .ok (.iadd, 1) := by decide +kernel
theorem dL_ahead_506 : decode cL_ahead 506 = .ok (.iaload, 1) := by decide +kernel
theorem dL_ahead_507 : decode cL_ahead 507 = .ok (.aload 5, 2) := by decide +kernel
theorem dL_ahead_509 : decode cL_ahead 509 = .ok (.iconst 1, 1) := by decide +kernel
theorem dL_ahead_510 : decode cL_ahead 510 = .ok (.iaload, 1) := by decide +kernel
theorem dL_ahead_511 : decode cL_ahead 511 = .ok (.if_icmp .gt 7, 3) := by decide +kernel
theorem dL_ahead_514 : decode cL_ahead 514 = .ok (.iconst 1, 1) := by decide +kernel
theorem dL_ahead_515 : decode cL_ahead 515 = .ok (.goto 4, 3) := by decide +kernel
theorem dL_ahead_518 : decode cL_ahead 518 = .ok (.iconst 0, 1) := by decide +kernel
theorem dL_ahead_519 : decode cL_ahead 519 = .ok (.istore 12, 2) := by decide +kernel
theorem dL_ahead_521 : decode cL_ahead 521 = .ok (.iinc 13 1, 3) := by decide +kernel
theorem dL_ahead_524 : decode cL_ahead 524 = .ok (.goto (-89), 3) := by decide +kernel
theorem dL_ahead_527 : decode cL_ahead 527 = .ok (.iload 12, 2) := by decide +kernel
theorem dL_ahead_529 : decode cL_ahead 529 = .ok (.ifCond .eq 6, 3) := by decide +kernel
theorem dL_ahead_532 : decode cL_ahead 532 = .ok (.goto 21, 3) := by decide +kernel
theorem dL_ahead_535 : decode cL_ahead 535 = .ok (.aload_n 3, 1) := by decide +kernel
theorem dL_ahead_536 : decode cL_ahead 536 = .ok (.aload 6, 2) := by decide +kernel
theorem dL_ahead_538 : decode cL_ahead 538 = .ok (.aload 7, 2) := by decide +kernel
theorem dL_ahead_540 : decode cL_ahead 540 = .ok (.aload 8, 2) := by decide +kernel
theorem dL_ahead_542 : decode cL_ahead 542 = .ok (.aload 9, 2) := by decide +kernel
theorem dL_ahead_544 : decode cL_ahead 544 = .ok (.invokestatic 57, 3) := by decide +kernel
theorem dL_ahead_547 : decode cL_ahead 547 = .ok (.iinc 11 1, 3) := by decide +kernel
theorem dL_ahead_550 : decode cL_ahead 550 = .ok (.goto (-134), 3) := by decide +kernel
theorem dL_ahead_553 : decode cL_ahead 553 = .ok (.iload 10, 2) := by decide +kernel
theorem dL_ahead_555 : decode cL_ahead 555 = .ok (.ifCond .ne 10, 3) := by decide +kernel
theorem dL_ahead_558 : decode cL_ahead 558 = .ok (.aload_n 0, 1) := by decide +kernel
theorem dL_ahead_559 : decode cL_ahead 559 = .ok (.invokevirtual 68, 3) := by decide +kernel
theorem dL_ahead_562 : decode cL_ahead 562 = .ok (.goto 7, 3) := by decide +kernel
theorem dL_ahead_565 : decode cL_ahead 565 = .ok (.aload_n 0, 1) := by decide +kernel
theorem dL_ahead_566 : decode cL_ahead 566 = .ok (.invokevirtual 72, 3) := by decide +kernel
theorem dL_ahead_569 : decode cL_ahead 569 = .ok (.iload 12, 2) := by decide +kernel
theorem dL_ahead_571 : decode cL_ahead 571 = .ok (.ifCond .eq 8, 3) := by decide +kernel
theorem dL_ahead_574 : decode cL_ahead 574 = .ok (.iload 11, 2) := by decide +kernel
theorem dL_ahead_576 : decode cL_ahead 576 = .ok (.goto 4, 3) := by decide +kernel
theorem dL_ahead_579 : decode cL_ahead 579 = .ok (.iconst (-1), 1) := by decide +kernel
theorem dL_ahead_580 : decode cL_ahead 580 = .ok (.if_icmp .eq 5, 3) := by decide +kernel
theorem dL_ahead_583 : decode cL_ahead 583 = .ok (.iconst 0, 1) := by decide +kernel
theorem dL_ahead_584 : decode cL_ahead 584 = .ok (.ireturn, 1) := by decide +kernel
theorem dL_ahead_585 : decode cL_ahead 585 = .ok (.iinc 10 1, 3) := by decide +kernel
theorem dL_ahead_588 : decode cL_ahead 588 = .ok (.goto (-561), 3) := by decide +kernel
theorem dL_ahead_591 : decode cL_ahead 591 = .ok (.iconst 1, 1) := by decide +kernel
theorem dL_ahead_592 : decode cL_ahead 592 = .ok (.ireturn, 1) := by decide +kernel
theorem dL_value_0 : decode cL_value 0 = .ok (.iload_n 0, 1) := by decide +kernel
theorem dL_value_1 : decode cL_value 1 = .ok (.ifCond .ne 16, 3) := by decide +kernel
theorem dL_value_4 : decode cL_value 4 = .ok (.bipush 100, 2) := by decide +kernel
theorem dL_value_6 : decode cL_value 6 = .ok (.iload_n 1, 1) := by decide +kernel
theorem dL_value_7 : decode cL_value 7 = .ok (.sipush 4901, 3) := by decide +kernel
theorem dL_value_10 : decode cL_value 10 = .ok (.invokestatic 61, 3) := by decide +kernel
theorem dL_value_13 : decode cL_value 13 = .ok (.iadd, 1) := by decide +kernel
theorem dL_value_14 : decode cL_value 14 = .ok (.goto 91, 3) := by decide +kernel
theorem dL_value_17 : decode cL_value 17 = .ok (.iload_n 0, 1) := by decide +kernel
theorem dL_value_18 : decode cL_value 18 = .ok (.iconst 3, 1) := by decide +kernel
theorem dL_value_19 : decode cL_value 19 = .ok (.if_icmp .ge 32, 3) := by decide +kernel
theorem dL_value_22 : decode cL_value 22 = .ok (.iconst 1, 1) := by decide +kernel
theorem dL_value_23 : decode cL_value 23 = .ok (.iload_n 1, 1) := by decide +kernel
theorem dL_value_24 : decode cL_value 24 = .ok (.iload_n 1, 1) := by decide +kernel
theorem dL_value_25 : decode cL_value 25 = .ok (.bipush 9, 2) := by decide +kernel
theorem dL_value_27 : decode cL_value 27 = .ok (.ishr, 1) := by decide +kernel
theorem dL_value_28 : decode cL_value 28 = .ok (.iconst 2, 1) := by decide +kernel
theorem dL_value_29 : decode cL_value 29 = .ok (.invokestatic 61, 3) := by decide +kernel
theorem dL_value_32 : decode cL_value 32 = .ok (.ifCond .ne 9, 3) := by decide +kernel
theorem dL_value_35 : decode cL_value 35 = .ok (.sipush 1000, 3) := by decide +kernel
theorem dL_value_38 : decode cL_value 38 = .ok (.goto 6, 3) := by decide +kernel
theorem dL_value_41 : decode cL_value 41 = .ok (.sipush 200, 3) := by decide +kernel
theorem dL_value_44 : decode cL_value 44 = .ok (.invokestatic 61, 3) := by decide +kernel
theorem dL_value_47 : decode cL_value 47 = .ok (.iadd, 1) := by decide +kernel
theorem dL_value_48 : decode cL_value 48 = .ok (.goto 57, 3) := by decide +kernel
theorem dL_value_51 : decode cL_value 51 = .ok (.iload_n 0, 1) := by decide +kernel
theorem dL_value_52 : decode cL_value 52 = .ok (.iconst 3, 1) := by decide +kernel
theorem dL_value_53 : decode cL_value 53 = .ok (.if_icmp .ne 15, 3) := by decide +kernel
theorem dL_value_56 : decode cL_value 56 = .ok (.bipush 50, 2) := by decide +kernel
theorem dL_value_58 : decode cL_value 58 = .ok (.iload_n 1, 1) := by decide +kernel
theorem dL_value_59 : decode cL_value 59 = .ok (.bipush 51, 2) := by decide +kernel
theorem dL_value_61 : decode cL_value 61 = .ok (.invokestatic 61, 3) := by decide +kernel
theorem dL_value_64 : decode cL_value 64 = .ok (.iadd, 1) := by decide +kernel
theorem dL_value_65 : decode cL_value 65 = .ok (.goto 40, 3) := by decide +kernel
theorem dL_value_68 : decode cL_value 68 = .ok (.iload_n 0, 1) := by decide +kernel
theorem dL_value_69 : decode cL_value 69 = .ok (.iconst 4, 1) := by decide +kernel
theorem dL_value_70 : decode cL_value 70 = .ok (.if_icmp .ne 12, 3) := by decide +kernel
theorem dL_value_73 : decode cL_value 73 = .ok (.iload_n 1, 1) := by decide +kernel
theorem dL_value_74 : decode cL_value 74 = .ok (.bipush 12, 2) := by decide +kernel
theorem dL_value_76 : decode cL_value 76 = .ok (.invokestatic 61, 3) := by decide +kernel
theorem dL_value_79 : decode cL_value 79 = .ok (.goto 26, 3) := by decide +kernel
theorem dL_value_82 : decode cL_value 82 = .ok (.iload_n 0, 1) := by decide +kernel
theorem dL_value_83 : decode cL_value 83 = .ok (.iconst 5, 1) := by decide +kernel
theorem dL_value_84 : decode cL_value 84 = .ok (.if_icmp .ne 14, 3) := by decide +kernel
theorem dL_value_87 : decode cL_value 87 = .ok (.iconst 1, 1) := by decide +kernel
theorem dL_value_88 : decode cL_value 88 = .ok (.iload_n 1, 1) := by decide +kernel
theorem dL_value_89 : decode cL_value 89 = .ok (.bipush 60, 2) := by decide +kernel
theorem dL_value_91 : decode cL_value 91 = .ok (.invokestatic 61, 3) := by decide +kernel
theorem dL_value_94 : decode cL_value 94 = .ok (.iadd, 1) := by decide +kernel
theorem dL_value_95 : decode cL_value 95 = .ok (.goto 10, 3) := by decide +kernel
theorem dL_value_98 : decode cL_value 98 = .ok (.iconst 1, 1) := by decide +kernel
theorem dL_value_99 : decode cL_value 99 = .ok (.iload_n 1, 1) := by decide +kernel
theorem dL_value_100 : decode cL_value 100 = .ok (.iconst 4, 1) := by decide +kernel
theorem dL_value_101 : decode cL_value 101 = .ok (.invokestatic 61, 3) := by decide +kernel
theorem dL_value_104 : decode cL_value 104 = .ok (.iadd, 1) := by decide +kernel
theorem dL_value_105 : decode cL_value 105 = .ok (.ireturn, 1) := by decide +kernel
theorem dL_act_0 : decode cL_act 0 = .ok (.iload_n 1, 1) := by decide +kernel
theorem dL_act_1 : decode cL_act 1 = .ok (.iconst 2, 1) := by decide +kernel
theorem dL_act_2 : decode cL_act 2 = .ok (.if_icmp .ge 224, 3) := by decide +kernel
theorem dL_act_5 : decode cL_act 5 = .ok (.aload 8, 2) := by decide +kernel
theorem dL_act_7 : decode cL_act 7 = .ok (.iconst 0, 1) := by decide +kernel
theorem dL_act_8 : decode cL_act 8 = .ok (.iaload, 1) := by decide +kernel
theorem dL_act_9 : decode cL_act 9 = .ok (.bipush 6, 2) := by decide +kernel
theorem dL_act_11 : decode cL_act 11 = .ok (.if_icmp .ne 5, 3) := by decide +kernel
theorem dL_act_14 : decode cL_act 14 = .ok (.iconst 1, 1) := by decide +kernel
theorem dL_act_15 : decode cL_act 15 = .ok (.ireturn, 1) := by decide +kernel
theorem dL_act_16 : decode cL_act 16 = .ok (.aload 8, 2) := by decide +kernel
theorem dL_act_18 : decode cL_act 18 = .ok (.iconst 0, 1) := by decide +kernel
theorem dL_act_19 : decode cL_act 19 = .ok (.iaload, 1) := by decide +kernel
theorem dL_act_20 : decode cL_act 20 = .ok (.istore 9, 2) := by decide +kernel
theorem dL_act_22 : decode cL_act 22 = .ok (.bipush 7, 2) := by decide +kernel
theorem dL_act_24 : decode cL_act 24 = .ok (.newarray .int, 2) := by decide +kernel
theorem dL_act_26 : decode cL_act 26 = .ok (.astore 10, 2) := by decide +kernel
theorem dL_act_28 : decode cL_act 28 = .ok (.aload 10, 2) := by decide +kernel
theorem dL_act_30 : decode cL_act 30 = .ok (.iconst 0, 1) := by decide +kernel
theorem dL_act_31 : decode cL_act 31 = .ok (.iconst 0, 1) := by decide +kernel
theorem dL_act_32 : decode cL_act 32 = .ok (.iload_n 2, 1) := by decide +kernel
theorem dL_act_33 : decode cL_act 33 = .ok (.invokestatic 75, 3) := by decide +kernel
theorem dL_act_36 : decode cL_act 36 = .ok (.iastore, 1) := by decide +kernel
theorem dL_act_37 : decode cL_act 37 = .ok (.aload 10, 2) := by decide +kernel
theorem dL_act_39 : decode cL_act 39 = .ok (.iconst 1, 1) := by decide +kernel
theorem dL_act_40 : decode cL_act 40 = .ok (.bipush 20, 2) := by decide +kernel
theorem dL_act_42 : decode cL_act 42 = .ok (.iconst 1, 1) := by decide +kernel
theorem dL_act_43 : decode cL_act 43 = .ok (.iload_n 3, 1) := by decide +kernel
theorem dL_act_44 : decode cL_act 44 = .ok (.invokestatic 75, 3) := by decide +kernel
theorem dL_act_47 : decode cL_act 47 = .ok (.sipush 900, 3) := by decide +kernel
theorem dL_act_50 : decode cL_act 50 = .ok (.irem, 1) := by decide +kernel
theorem dL_act_51 : decode cL_act 51 = .ok (.iadd, 1) := by decide +kernel
theorem dL_act_52 : decode cL_act 52 = .ok (.iastore, 1) := by decide +kernel
theorem dL_act_53 : decode cL_act 53 = .ok (.aload 10, 2) := by decide +kernel
theorem dL_act_55 : decode cL_act 55 = .ok (.iconst 2, 1) := by decide +kernel
theorem dL_act_56 : decode cL_act 56 = .ok (.bipush 20, 2) := by decide +kernel
theorem dL_act_58 : decode cL_act 58 = .ok (.iconst 2, 1) := by decide +kernel
theorem dL_act_59 : decode cL_act 59 = .ok (.iload_n 2, 1) := by decide +kernel
theorem dL_act_60 : decode cL_act 60 = .ok (.iconst 3, 1) := by decide +kernel
theorem dL_act_61 : decode cL_act 61 = .ok (.ishr, 1) := by decide +kernel
theorem dL_act_62 : decode cL_act 62 = .ok (.invokestatic 75, 3) := by decide +kernel
theorem dL_act_65 : decode cL_act 65 = .ok (.sipush 900, 3) := by decide +kernel
theorem dL_act_68 : decode cL_act 68 = .ok (.irem, 1) := by decide +kernel
theorem dL_act_69 : decode cL_act 69 = .ok (.iadd, 1) := by decide +kernel
theorem dL_act_70 : decode cL_act 70 = .ok (.iastore, 1) := by decide +kernel
theorem dL_act_71 : decode cL_act 71 = .ok (.aload 10, 2) := by decide +kernel
theorem dL_act_73 : decode cL_act 73 = .ok (.iconst 3, 1) := by decide +kernel
theorem dL_act_74 : decode cL_act 74 = .ok (.bipush 90, 2) := by decide +kernel
theorem dL_act_76 : decode cL_act 76 = .ok (.iastore, 1) := by decide +kernel
theorem dL_act_77 : decode cL_act 77 = .ok (.aload 10, 2) := by decide +kernel
theorem dL_act_79 : decode cL_act 79 = .ok (.iconst 4, 1) := by decide +kernel
theorem dL_act_80 : decode cL_act 80 = .ok (.iconst 2, 1) := by decide +kernel
theorem dL_act_81 : decode cL_act 81 = .ok (.iastore, 1) := by decide +kernel
theorem dL_act_82 : decode cL_act 82 = .ok (.aload 10, 2) := by decide +kernel
theorem dL_act_84 : decode cL_act 84 = .ok (.iconst 5, 1) := by decide +kernel
theorem dL_act_85 : decode cL_act 85 = .ok (.bipush 40, 2) := by decide +kernel
theorem dL_act_87 : decode cL_act 87 = .ok (.iastore, 1) := by decide +kernel
theorem dL_act_88 : decode cL_act 88 = .ok (.aload 10, 2) := by decide +kernel
theorem dL_act_90 : decode cL_act 90 = .ok (.bipush 6, 2) := by decide +kernel
theorem dL_act_92 : decode cL_act 92 = .ok (.iconst 2, 1) := by decide +kernel
theorem dL_act_93 : decode cL_act 93 = .ok (.iastore, 1) := by decide +kernel
theorem dL_act_94 : decode cL_act 94 = .ok (.iconst 0, 1) := by decide +kernel
theorem dL_act_95 : decode cL_act 95 = .ok (.istore 11, 2) := by decide +kernel
theorem dL_act_97 : decode cL_act 97 = .ok (.iload 11, 2) := by decide +kernel
theorem dL_act_99 : decode cL_act 99 = .ok (.bipush 7, 2) := by decide +kernel
theorem dL_act_101 : decode cL_act 101 = .ok (.if_icmp .ge 25, 3) := by decide +kernel
theorem dL_act_104 : decode cL_act 104 = .ok (.aload 4, 2) := by decide +kernel
theorem dL_act_106 : decode cL_act 106 = .ok (.bipush 7, 2) := by decide +kernel
theorem dL_act_108 : decode cL_act 108 = .ok (.iload 9, 2) := by decide +kernel
theorem dL_act_110 : decode cL_act 110 = .ok (.imul, 1) := by decide +kernel
theorem dL_act_111 : decode cL_act 111 = .ok (.iload 11, 2) := by decide +kernel
theorem dL_act_113 : decode cL_act 113 = .ok (.iadd, 1) := by decide +kernel
theorem dL_act_114 : decode cL_act 114 = .ok (.aload 10, 2) := by decide +kernel
theorem dL_act_116 : decode cL_act 116 = .ok (.iload 11, 2) := by decide +kernel
theorem dL_act_118 : decode cL_act 118 = .ok (.iaload, 1) := by decide +kernel
theorem dL_act_119 : decode cL_act 119 = .ok (.iastore, 1) := by decide +kernel
theorem dL_act_120 : decode cL_act 120 = .ok (.iinc 11 1, 3) := by decide +kernel
theorem dL_act_123 : decode cL_act 123 = .ok (.goto (-26), 3) := by decide +kernel
theorem dL_act_126 : decode cL_act 126 = .ok (.iconst 0, 1) := by decide +kernel
theorem dL_act_127 : decode cL_act 127 = .ok (.istore 11, 2) := by decide +kernel
theorem dL_act_129 : decode cL_act 129 = .ok (.iload 11, 2) := by decide +kernel
theorem dL_act_131 : decode cL_act 131 = .ok (.bipush 9, 2) := by decide +kernel
theorem dL_act_133 : decode cL_act 133 = .ok (.if_icmp .ge 32, 3) := by decide +kernel
theorem dL_act_136 : decode cL_act 136 = .ok (.aload 5, 2) := by decide +kernel
theorem dL_act_138 : decode cL_act 138 = .ok (.bipush 9, 2) := by decide +kernel
theorem dL_act_140 : decode cL_act 140 = .ok (.iload 9, 2) := by decide +kernel
theorem dL_act_142 : decode cL_act 142 = .ok (.imul, 1) := by decide +kernel
theorem dL_act_143 : decode cL_act 143 = .ok (.iload 11, 2) := by decide +kernel
theorem dL_act_145 : decode cL_act 145 = .ok (.iadd, 1) := by decide +kernel
theorem dL_act_146 : decode cL_act 146 = .ok (.iload 11, 2) := by decide +kernel
theorem dL_act_148 : decode cL_act 148 = .ok (.bipush 8, 2) := by decide +kernel
theorem dL_act_150 : decode cL_act 150 = .ok (.if_icmp .ne 7, 3) := by decide +kernel
theorem dL_act_153 : decode cL_act 153 = .ok (.iconst (-1), 1) := by decide +kernel
theorem dL_act_154 : decode cL_act 154 = .ok (.goto 4, 3) := by decide +kernel
theorem dL_act_157 : decode cL_act 157 = .ok (.iconst 0, 1) := by decide +kernel
theorem dL_act_158 : decode cL_act 158 = .ok (.iastore, 1) := by decide +kernel
theorem dL_act_159 : decode cL_act 159 = .ok (.iinc 11 1, 3) := by decide +kernel
theorem dL_act_162 : decode cL_act 162 = .ok (.goto (-33), 3) := by decide +kernel
theorem dL_act_165 : decode cL_act 165 = .ok (.aload 5, 2) := by decide +kernel
theorem dL_act_167 : decode cL_act 167 = .ok (.bipush 9, 2) := by decide +kernel
theorem dL_act_169 : decode cL_act 169 = .ok (.iload 9, 2) := by decide +kernel
theorem dL_act_171 : decode cL_act 171 = .ok (.imul, 1) := by decide +kernel
theorem dL_act_172 : decode cL_act 172 = .ok (.iload_n 3, 1) := by decide +kernel
theorem dL_act_173 : decode cL_act 173 = .ok (.iconst 4, 1) := by decide +kernel
theorem dL_act_174 : decode cL_act 174 = .ok (.ishr, 1) := by decide +kernel
theorem dL_act_175 : decode cL_act 175 = .ok (.iconst 1, 1) := by decide +kernel
theorem dL_act_176 : decode cL_act 176 = .ok (.iload 9, 2) := by decide +kernel
theorem dL_act_178 : decode cL_act 178 = .ok (.ishl, 1) := by decide +kernel
theorem dL_act_179 : decode cL_act 179 = .ok (.invokestatic 61, 3) := by decide +kernel
theorem dL_act_182 : decode cL_act 182 = .ok (.iastore, 1) := by decide +kernel
theorem dL_act_183 : decode cL_act 183 = .ok (.aload 8, 2) := by decide +kernel
theorem dL_act_185 : decode cL_act 185 = .ok (.iconst 0, 1) := by decide +kernel
theorem dL_act_186 : decode cL_act 186 = .ok (.dup2, 1) := by decide +kernel
theorem dL_act_187 : decode cL_act 187 = .ok (.iaload, 1) := by decide +kernel
theorem dL_act_188 : decode cL_act 188 = .ok (.iconst 1, 1) := by decide +kernel
theorem dL_act_189 : decode cL_act 189 = .ok (.iadd, 1) := by decide +kernel
theorem dL_act_190 : decode cL_act 190 = .ok (.iastore, 1) := by decide +kernel
theorem dL_act_191 : decode cL_act 191 = .ok (.aload_n 0, 1) := by decide +kernel
theorem dL_act_192 : decode cL_act 192 = .ok (.aload 10, 2) := by decide +kernel
theorem dL_act_194 : decode cL_act 194 = .ok (.iconst 0, 1) := by decide +kernel
theorem dL_act_195 : decode cL_act 195 = .ok (.iaload, 1) := by decide +kernel
theorem dL_act_196 : decode cL_act 196 = .ok (.aload 10, 2) := by decide +kernel
theorem dL_act_198 : decode cL_act 198 = .ok (.iconst 1, 1) := by decide +kernel
theorem dL_act_199 : decode cL_act 199 = .ok (.iaload, 1) := by decide +kernel
theorem dL_act_200 : decode cL_act 200 = .ok (.aload 10, 2) := by decide +kernel
theorem dL_act_202 : decode cL_act 202 = .ok (.iconst 2, 1) := by decide +kernel
theorem dL_act_203 : decode cL_act 203 = .ok (.iaload, 1) := by decide +kernel
theorem dL_act_204 : decode cL_act 204 = .ok (.aload 5, 2) := by decide +kernel
theorem dL_act_206 : decode cL_act 206 = .ok (.bipush 9, 2) := by decide +kernel
theorem dL_act_208 : decode cL_act 208 = .ok (.iload 9, 2) := by decide +kernel
theorem dL_act_210 : decode cL_act 210 = .ok (.imul, 1) := by decide +kernel
theorem dL_act_211 : decode cL_act 211 = .ok (.iaload, 1) := by decide +kernel
theorem dL_act_212 : decode cL_act 212 = .ok (.invokevirtual 78, 3) := by decide +kernel
theorem dL_act_215 : decode cL_act 215 = .ok (.iload 9, 2) := by decide +kernel
theorem dL_act_217 : decode cL_act 217 = .ok (.if_icmp .ne 7, 3) := by decide +kernel
theorem dL_act_220 : decode cL_act 220 = .ok (.iconst 1, 1) := by decide +kernel
theorem dL_act_221 : decode cL_act 221 = .ok (.goto 4, 3) := by decide +kernel
theorem dL_act_224 : decode cL_act 224 = .ok (.iconst 0, 1) := by decide +kernel
theorem dL_act_225 : decode cL_act 225 = .ok (.ireturn, 1) := by decide +kernel
theorem dL_act_226 : decode cL_act 226 = .ok (.iload_n 1, 1) := by decide +kernel
theorem dL_act_227 : decode cL_act 227 = .ok (.bipush 7, 2) := by decide +kernel
theorem dL_act_229 : decode cL_act 229 = .ok (.if_icmp .ge 79, 3) := by decide +kernel
theorem dL_act_232 : decode cL_act 232 = .ok (.iconst 1, 1) := by decide +kernel
theorem dL_act_233 : decode cL_act 233 = .ok (.iload_n 3, 1) := by decide +kernel
theorem dL_act_234 : decode cL_act 234 = .ok (.iload_n 2, 1) := by decide +kernel
theorem dL_act_235 : decode cL_act 235 = .ok (.iconst 3, 1) := by decide +kernel
theorem dL_act_236 : decode cL_act 236 = .ok (.invokestatic 61, 3) := by decide +kernel
theorem dL_act_239 : decode cL_act 239 = .ok (.ifCond .ne 8, 3) := by decide +kernel
theorem dL_act_242 : decode cL_act 242 = .ok (.bipush 60, 2) := by decide +kernel
theorem dL_act_244 : decode cL_act 244 = .ok (.goto 5, 3) := by decide +kernel
theorem dL_act_247 : decode cL_act 247 = .ok (.bipush 12, 2) := by decide +kernel
theorem dL_act_249 : decode cL_act 249 = .ok (.invokestatic 61, 3) := by decide +kernel
theorem dL_act_252 : decode cL_act 252 = .ok (.iadd, 1) := by decide +kernel
theorem dL_act_253 : decode cL_act 253 = .ok (.istore 9, 2) := by decide +kernel
theorem dL_act_255 : decode cL_act 255 = .ok (.aload 8, 2) := by decide +kernel
theorem dL_act_257 : decode cL_act 257 = .ok (.iconst 4, 1) := by decide +kernel
theorem dL_act_258 : decode cL_act 258 = .ok (.iconst 0, 1) := by decide +kernel
theorem dL_act_259 : decode cL_act 259 = .ok (.iastore, 1) := by decide +kernel
theorem dL_act_260 : decode cL_act 260 = .ok (.iconst 0, 1) := by decide +kernel
theorem dL_act_261 : decode cL_act 261 = .ok (.istore 10, 2) := by decide +kernel
theorem dL_act_263 : decode cL_act 263 = .ok (.iload 10, 2) := by decide +kernel
theorem dL_act_265 : decode cL_act 265 = .ok (.iload 9, 2) := by decide +kernel
theorem dL_act_267 : decode cL_act 267 = .ok (.if_icmp .ge 22, 3) := by decide +kernel
theorem dL_act_270 : decode cL_act 270 = .ok (.aload 4, 2) := by decide +kernel
theorem dL_act_272 : decode cL_act 272 = .ok (.aload 5, 2) := by decide +kernel
theorem dL_act_274 : decode cL_act 274 = .ok (.aload 6, 2) := by decide +kernel
theorem dL_act_276 : decode cL_act 276 = .ok (.aload 7, 2) := by decide +kernel
theorem dL_act_278 : decode cL_act 278 = .ok (.aload 8, 2) := by decide +kernel
theorem dL_act_280 : decode cL_act 280 = .ok (.invokestatic 57, 3) := by decide +kernel
theorem dL_act_283 : decode cL_act 283 = .ok (.iinc 10 1, 3) := by decide +kernel
theorem dL_act_286 : decode cL_act 286 = .ok (.goto (-23), 3) := by decide +kernel
theorem dL_act_289 : decode cL_act 289 = .ok (.aload_n 0, 1) := by decide +kernel
theorem dL_act_290 : decode cL_act 290 = .ok (.iload 9, 2) := by decide +kernel
theorem dL_act_292 : decode cL_act 292 = .ok (.invokevirtual 82, 3) := by decide +kernel
theorem dL_act_295 : decode cL_act 295 = .ok (.aload 8, 2) := by decide +kernel
theorem dL_act_297 : decode cL_act 297 = .ok (.iconst 4, 1) := by decide +kernel
theorem dL_act_298 : decode cL_act 298 = .ok (.iaload, 1) := by decide +kernel
theorem dL_act_299 : decode cL_act 299 = .ok (.if_icmp .ne 7, 3) := by decide +kernel
theorem dL_act_302 : decode cL_act 302 = .ok (.iconst 1, 1) := by decide +kernel
theorem dL_act_303 : decode cL_act 303 = .ok (.goto 4, 3) := by decide +kernel
theorem dL_act_306 : decode cL_act 306 = .ok (.iconst 0, 1) := by decide +kernel
theorem dL_act_307 : decode cL_act 307 = .ok (.ireturn, 1) := by decide +kernel
theorem dL_act_308 : decode cL_act 308 = .ok (.iload_n 1, 1) := by decide +kernel
theorem dL_act_309 : decode cL_act 309 = .ok (.bipush 10, 2) := by decide +kernel
theorem dL_act_311 : decode cL_act 311 = .ok (.if_icmp .ge 167, 3) := by decide +kernel
theorem dL_act_314 : decode cL_act 314 = .ok (.iload_n 1, 1) := by decide +kernel
theorem dL_act_315 : decode cL_act 315 = .ok (.bipush 9, 2) := by decide +kernel
theorem dL_act_317 : decode cL_act 317 = .ok (.if_icmp .ge 27, 3) := by decide +kernel
theorem dL_act_320 : decode cL_act 320 = .ok (.iload_n 2, 1) := by decide +kernel
theorem dL_act_321 : decode cL_act 321 = .ok (.iconst 1, 1) := by decide +kernel
theorem dL_act_322 : decode cL_act 322 = .ok (.aload 8, 2) := by decide +kernel
theorem dL_act_324 : decode cL_act 324 = .ok (.iconst 0, 1) := by decide +kernel
theorem dL_act_325 : decode cL_act 325 = .ok (.iaload, 1) := by decide +kernel
theorem dL_act_326 : decode cL_act 326 = .ok (.ishl, 1) := by decide +kernel
theorem dL_act_327 : decode cL_act 327 = .ok (.invokestatic 61, 3) := by decide +kernel
theorem dL_act_330 : decode cL_act 330 = .ok (.iload_n 3, 1) := by decide +kernel
theorem dL_act_331 : decode cL_act 331 = .ok (.iconst 1, 1) := by decide +kernel
theorem dL_act_332 : decode cL_act 332 = .ok (.aload 8, 2) := by decide +kernel
theorem dL_act_334 : decode cL_act 334 = .ok (.iconst 0, 1) := by decide +kernel
theorem dL_act_335 : decode cL_act 335 = .ok (.iaload, 1) := by decide +kernel
theorem dL_act_336 : decode cL_act 336 = .ok (.ishl, 1) := by decide +kernel
theorem dL_act_337 : decode cL_act 337 = .ok (.invokestatic 61, 3) := by decide +kernel
theorem dL_act_340 : decode cL_act 340 = .ok (.ior, 1) := by decide +kernel
theorem dL_act_341 : decode cL_act 341 = .ok (.goto 24, 3) := by decide +kernel
theorem dL_act_344 : decode cL_act 344 = .ok (.iload_n 2, 1) := by decide +kernel
theorem dL_act_345 : decode cL_act 345 = .ok (.iconst 1, 1) := by decide +kernel
theorem dL_act_346 : decode cL_act 346 = .ok (.aload 8, 2) := by decide +kernel
theorem dL_act_348 : decode cL_act 348 = .ok (.iconst 0, 1) := by decide +kernel
theorem dL_act_349 : decode cL_act 349 = .ok (.iaload, 1) := by decide +kernel
theorem dL_act_350 : decode cL_act 350 = .ok (.ishl, 1) := by decide +kernel
theorem dL_act_351 : decode cL_act 351 = .ok (.invokestatic 61, 3) := by decide +kernel
theorem dL_act_354 : decode cL_act 354 = .ok (.iload_n 3, 1) := by decide +kernel
theorem dL_act_355 : decode cL_act 355 = .ok (.iconst 1, 1) := by decide +kernel
theorem dL_act_356 : decode cL_act 356 = .ok (.aload 8, 2) := by decide +kernel
theorem dL_act_358 : decode cL_act 358 = .ok (.iconst 0, 1) := by decide +kernel
theorem dL_act_359 : decode cL_act 359 = .ok (.iaload, 1) := by decide +kernel
theorem dL_act_360 : decode cL_act 360 = .ok (.ishl, 1) := by decide +kernel
theorem dL_act_361 : decode cL_act 361 = .ok (.invokestatic 61, 3) := by decide +kernel
theorem dL_act_364 : decode cL_act 364 = .ok (.iand, 1) := by decide +kernel
theorem dL_act_365 : decode cL_act 365 = .ok (.istore 9, 2) := by decide +kernel
theorem dL_act_367 : decode cL_act 367 = .ok (.iload 9, 2) := by decide +kernel
theorem dL_act_369 : decode cL_act 369 = .ok (.iload_n 1, 1) := by decide +kernel
theorem dL_act_370 : decode cL_act 370 = .ok (.bipush 9, 2) := by decide +kernel
theorem dL_act_372 : decode cL_act 372 = .ok (.if_icmp .ne 7, 3) := by decide +kernel
theorem dL_act_375 : decode cL_act 375 = .ok (.iconst 1, 1) := by decide +kernel
theorem dL_act_376 : decode cL_act 376 = .ok (.goto 4, 3) := by decide +kernel
theorem dL_act_379 : decode cL_act 379 = .ok (.iconst 0, 1) := by decide +kernel
theorem dL_act_380 : decode cL_act 380 = .ok (.aload 5, 2) := by decide +kernel
theorem dL_act_382 : decode cL_act 382 = .ok (.aload 8, 2) := by decide +kernel
theorem dL_act_384 : decode cL_act 384 = .ok (.invokestatic 28, 3) := by decide +kernel
theorem dL_act_387 : decode cL_act 387 = .ok (.istore 10, 2) := by decide +kernel
theorem dL_act_389 : decode cL_act 389 = .ok (.iconst 0, 1) := by decide +kernel
theorem dL_act_390 : decode cL_act 390 = .ok (.istore 11, 2) := by decide +kernel
theorem dL_act_392 : decode cL_act 392 = .ok (.iload 11, 2) := by decide +kernel
theorem dL_act_394 : decode cL_act 394 = .ok (.aload 8, 2) := by decide +kernel
theorem dL_act_396 : decode cL_act 396 = .ok (.iconst 0, 1) := by decide +kernel
theorem dL_act_397 : decode cL_act 397 = .ok (.iaload, 1) := by decide +kernel
theorem dL_act_398 : decode cL_act 398 = .ok (.if_icmp .ge 41, 3) := by decide +kernel
theorem dL_act_401 : decode cL_act 401 = .ok (.iload 10, 2) := by decide +kernel
theorem dL_act_403 : decode cL_act 403 = .ok (.iload 11, 2) := by decide +kernel
theorem dL_act_405 : decode cL_act 405 = .ok (.ishr, 1) := by decide +kernel
theorem dL_act_406 : decode cL_act 406 = .ok (.iconst 1, 1) := by decide +kernel
theorem dL_act_407 : decode cL_act 407 = .ok (.iand, 1) := by decide +kernel
theorem dL_act_408 : decode cL_act 408 = .ok (.iconst 1, 1) := by decide +kernel
theorem dL_act_409 : decode cL_act 409 = .ok (.if_icmp .ne 24, 3) := by decide +kernel
theorem dL_act_412 : decode cL_act 412 = .ok (.aload 5, 2) := by decide +kernel
theorem dL_act_414 : decode cL_act 414 = .ok (.bipush 9, 2) := by decide +kernel
theorem dL_act_416 : decode cL_act 416 = .ok (.iload 11, 2) := by decide +kernel
theorem dL_act_418 : decode cL_act 418 = .ok (.imul, 1) := by decide +kernel
theorem dL_act_419 : decode cL_act 419 = .ok (.iconst 1, 1) := by decide +kernel
theorem dL_act_420 : decode cL_act 420 = .ok (.iadd, 1) := by decide +kernel
theorem dL_act_421 : decode cL_act 421 = .ok (.iload_n 1, 1) := by decide +kernel
theorem dL_act_422 : decode cL_act 422 = .ok (.bipush 9, 2) := by decide +kernel
theorem dL_act_424 : decode cL_act 424 = .ok (.if_icmp .ge 7, 3) := by decide +kernel
theorem dL_act_427 : decode cL_act 427 = .ok (.iconst 1, 1) := by decide +kernel
theorem dL_act_428 : decode cL_act 428 = .ok (.goto 4, 3) := by decide +kernel
theorem dL_act_431 : decode cL_act 431 = .ok (.iconst 0, 1) := by decide +kernel
theorem dL_act_432 : decode cL_act 432 = .ok (.iastore, 1) := by decide +kernel
theorem dL_act_433 : decode cL_act 433 = .ok (.iinc 11 1, 3) := by decide +kernel
theorem dL_act_436 : decode cL_act 436 = .ok (.goto (-44), 3) := by decide +kernel
theorem dL_act_439 : decode cL_act 439 = .ok (.iload_n 1, 1) := by decide +kernel
theorem dL_act_440 : decode cL_act 440 = .ok (.bipush 9, 2) := by decide +kernel
theorem dL_act_442 : decode cL_act 442 = .ok (.if_icmp .ge 12, 3) := by decide +kernel
theorem dL_act_445 : decode cL_act 445 = .ok (.aload_n 0, 1) := by decide +kernel
theorem dL_act_446 : decode cL_act 446 = .ok (.iload 9, 2) := by decide +kernel
theorem dL_act_448 : decode cL_act 448 = .ok (.invokevirtual 84, 3) := by decide +kernel
theorem dL_act_451 : decode cL_act 451 = .ok (.goto 9, 3) := by decide +kernel
theorem dL_act_454 : decode cL_act 454 = .ok (.aload_n 0, 1) := by decide +kernel
theorem dL_act_455 : decode cL_act 455 = .ok (.iload 9, 2) := by decide +kernel
theorem dL_act_457 : decode cL_act 457 = .ok (.invokevirtual 87, 3) := by decide +kernel
theorem dL_act_460 : decode cL_act 460 = .ok (.iconst 1, 1) := by decide +kernel
theorem dL_act_461 : decode cL_act 461 = .ok (.iconst 1, 1) := by decide +kernel
theorem dL_act_462 : decode cL_act 462 = .ok (.aload 5, 2) := by decide +kernel
theorem dL_act_464 : decode cL_act 464 = .ok (.aload 8, 2) := by decide +kernel
theorem dL_act_466 : decode cL_act 466 = .ok (.invokestatic 49, 3) := by decide +kernel
theorem dL_act_469 : decode cL_act 469 = .ok (.if_icmp .ne 7, 3) := by decide +kernel
theorem dL_act_472 : decode cL_act 472 = .ok (.iconst 1, 1) := by decide +kernel
theorem dL_act_473 : decode cL_act 473 = .ok (.goto 4, 3) := by decide +kernel
theorem dL_act_476 : decode cL_act 476 = .ok (.iconst 0, 1) := by decide +kernel
theorem dL_act_477 : decode cL_act 477 = .ok (.ireturn, 1) := by decide +kernel
theorem dL_act_478 : decode cL_act 478 = .ok (.iload_n 2, 1) := by decide +kernel
theorem dL_act_479 : decode cL_act 479 = .ok (.aload 8, 2) := by decide +kernel
theorem dL_act_481 : decode cL_act 481 = .ok (.iconst 0, 1) := by decide +kernel
theorem dL_act_482 : decode cL_act 482 = .ok (.iaload, 1) := by decide +kernel
theorem dL_act_483 : decode cL_act 483 = .ok (.invokestatic 61, 3) := by decide +kernel
theorem dL_act_486 : decode cL_act 486 = .ok (.istore 9, 2) := by decide +kernel
theorem dL_act_488 : decode cL_act 488 = .ok (.bipush 9, 2) := by decide +kernel
theorem dL_act_490 : decode cL_act 490 = .ok (.iload 9, 2) := by decide +kernel
theorem dL_act_492 : decode cL_act 492 = .ok (.imul, 1) := by decide +kernel
theorem dL_act_493 : decode cL_act 493 = .ok (.istore 10, 2) := by decide +kernel
theorem dL_act_495 : decode cL_act 495 = .ok (.iload_n 1, 1) := by decide +kernel
theorem dL_act_496 : decode cL_act 496 = .ok (.bipush 10, 2) := by decide +kernel
theorem dL_act_498 : decode cL_act 498 = .ok (.if_icmp .ne 167, 3) := by decide +kernel
theorem dL_act_501 : decode cL_act 501 = .ok (.aload 5, 2) := by decide +kernel
theorem dL_act_503 : decode cL_act 503 = .ok (.iload 10, 2) := by decide +kernel
theorem dL_act_505 : decode cL_act 505 = .ok (.iconst 1, 1) := by decide +kernel
theorem dL_act_506 : decode cL_act 506 = .ok (.iadd, 1) := by decide +kernel
theorem dL_act_507 : decode cL_act 507 = .ok (.iaload, 1) := by decide +kernel
theorem dL_act_508 : decode cL_act 508 = .ok (.ifCond .ne 5, 3) := by decide +kernel
theorem dL_act_511 : decode cL_act 511 = .ok (.iconst 1, 1) := by decide +kernel
theorem dL_act_512 : decode cL_act 512 = .ok (.ireturn, 1) := by decide +kernel
theorem dL_act_513 : decode cL_act 513 = .ok (.iconst 1, 1) := by decide +kernel
theorem dL_act_514 : decode cL_act 514 = .ok (.iload 9, 2) := by decide +kernel
theorem dL_act_516 : decode cL_act 516 = .ok (.ishl, 1) := by decide +kernel
theorem dL_act_517 : decode cL_act 517 = .ok (.iconst 1, 1) := by decide +kernel
theorem dL_act_518 : decode cL_act 518 = .ok (.aload 5, 2) := by decide +kernel
theorem dL_act_520 : decode cL_act 520 = .ok (.aload 8, 2) := by decide +kernel
theorem dL_act_522 : decode cL_act 522 = .ok (.invokestatic 28, 3) := by decide +kernel
theorem dL_act_525 : decode cL_act 525 = .ok (.istore 11, 2) := by decide +kernel
theorem dL_act_527 : decode cL_act 527 = .ok (.aload 8, 2) := by decide +kernel
theorem dL_act_529 : decode cL_act 529 = .ok (.iconst 4, 1) := by decide +kernel
theorem dL_act_530 : decode cL_act 530 = .ok (.iconst 0, 1) := by decide +kernel
theorem dL_act_531 : decode cL_act 531 = .ok (.iastore, 1) := by decide +kernel
theorem dL_act_532 : decode cL_act 532 = .ok (.iconst 0, 1) := by decide +kernel
theorem dL_act_533 : decode cL_act 533 = .ok (.istore 12, 2) := by decide +kernel
theorem dL_act_535 : decode cL_act 535 = .ok (.iload 12, 2) := by decide +kernel
theorem dL_act_537 : decode cL_act 537 = .ok (.aload 8, 2) := by decide +kernel
theorem dL_act_539 : decode cL_act 539 = .ok (.iconst 0, 1) := by decide +kernel
theorem dL_act_540 : decode cL_act 540 = .ok (.iaload, 1) := by decide +kernel
theorem dL_act_541 : decode cL_act 541 = .ok (.if_icmp .ge 105, 3) := by decide +kernel
theorem dL_act_544 : decode cL_act 544 = .ok (.bipush 9, 2) := by decide +kernel
theorem dL_act_546 : decode cL_act 546 = .ok (.iload 12, 2) := by decide +kernel
theorem dL_act_548 : decode cL_act 548 = .ok (.imul, 1) := by decide +kernel
theorem dL_act_549 : decode cL_act 549 = .ok (.istore 13, 2) := by decide +kernel
theorem dL_act_551 : decode cL_act 551 = .ok (.iload 11, 2) := by decide +kernel
theorem dL_act_553 : decode cL_act 553 = .ok (.iload 12, 2) := by decide +kernel
theorem dL_act_555 : decode cL_act 555 = .ok (.ishr, 1) := by decide +kernel
theorem dL_act_556 : decode cL_act 556 = .ok (.iconst 1, 1) := by decide +kernel
theorem dL_act_557 : decode cL_act 557 = .ok (.iand, 1) := by decide +kernel
theorem dL_act_558 : decode cL_act 558 = .ok (.ifCond .eq 82, 3) := by decide +kernel
theorem dL_act_561 : decode cL_act 561 = .ok (.aload 5, 2) := by decide +kernel
theorem dL_act_563 : decode cL_act 563 = .ok (.iload 13, 2) := by decide +kernel
theorem dL_act_565 : decode cL_act 565 = .ok (.iconst 2, 1) := by decide +kernel
theorem dL_act_566 : decode cL_act 566 = .ok (.iadd, 1) := by decide +kernel
theorem dL_act_567 : decode cL_act 567 = .ok (.iaload, 1) := by decide +kernel
theorem dL_act_568 : decode cL_act 568 = .ok (.iconst 2, 1) := by decide +kernel
theorem dL_act_569 : decode cL_act 569 = .ok (.if_icmp .eq 38, 3) := by decide +kernel
theorem dL_act_572 : decode cL_act 572 = .ok (.aload 5, 2) := by decide +kernel
theorem dL_act_574 : decode cL_act 574 = .ok (.iload 13, 2) := by decide +kernel
theorem dL_act_576 : decode cL_act 576 = .ok (.iconst 2, 1) := by decide +kernel
theorem dL_act_577 : decode cL_act 577 = .ok (.iadd, 1) := by decide +kernel
theorem dL_act_578 : decode cL_act 578 = .ok (.iaload, 1) := by decide +kernel
theorem dL_act_579 : decode cL_act 579 = .ok (.iconst 3, 1) := by decide +kernel
theorem dL_act_580 : decode cL_act 580 = .ok (.if_icmp .eq 27, 3) := by decide +kernel
theorem dL_act_583 : decode cL_act 583 = .ok (.aload 5, 2) := by decide +kernel
theorem dL_act_585 : decode cL_act 585 = .ok (.iload 13, 2) := by decide +kernel
theorem dL_act_587 : decode cL_act 587 = .ok (.iconst 2, 1) := by decide +kernel
theorem dL_act_588 : decode cL_act 588 = .ok (.iadd, 1) := by decide +kernel
theorem dL_act_589 : decode cL_act 589 = .ok (.iaload, 1) := by decide +kernel
theorem dL_act_590 : decode cL_act 590 = .ok (.iconst 5, 1) := by decide +kernel
theorem dL_act_591 : decode cL_act 591 = .ok (.if_icmp .ne 49, 3) := by decide +kernel
theorem dL_act_594 : decode cL_act 594 = .ok (.aload 5, 2) := by decide +kernel
theorem dL_act_596 : decode cL_act 596 = .ok (.iload 13, 2) := by decide +kernel
theorem dL_act_598 : decode cL_act 598 = .ok (.iconst 1, 1) := by decide +kernel
theorem dL_act_599 : decode cL_act 599 = .ok (.iadd, 1) := by decide +kernel
theorem dL_act_600 : decode cL_act 600 = .ok (.iaload, 1) := by decide +kernel
theorem dL_act_601 : decode cL_act 601 = .ok (.ifCond .ne 6, 3) := by decide +kernel
theorem dL_act_604 : decode cL_act 604 = .ok (.goto 36, 3) := by decide +kernel
theorem dL_act_607 : decode cL_act 607 = .ok (.aload 5, 2) := by decide +kernel
theorem dL_act_609 : decode cL_act 609 = .ok (.iload 13, 2) := by decide +kernel
theorem dL_act_611 : decode cL_act 611 = .ok (.bipush 7, 2) := by decide +kernel
theorem dL_act_613 : decode cL_act 613 = .ok (.iadd, 1) := by decide +kernel
theorem dL_act_614 : decode cL_act 614 = .ok (.iconst 0, 1) := by decide +kernel
theorem dL_act_615 : decode cL_act 615 = .ok (.iastore, 1) := by decide +kernel
theorem dL_act_616 : decode cL_act 616 = .ok (.aload 5, 2) := by decide +kernel
theorem dL_act_618 : decode cL_act 618 = .ok (.iload 13, 2) := by decide +kernel
theorem dL_act_620 : decode cL_act 620 = .ok (.bipush 8, 2) := by decide +kernel
theorem dL_act_622 : decode cL_act 622 = .ok (.iadd, 1) := by decide +kernel
theorem dL_act_623 : decode cL_act 623 = .ok (.iload 9, 2) := by decide +kernel
theorem dL_act_625 : decode cL_act 625 = .ok (.iastore, 1) := by decide +kernel
theorem dL_act_626 : decode cL_act 626 = .ok (.iload 12, 2) := by decide +kernel
theorem dL_act_628 : decode cL_act 628 = .ok (.iconst 4, 1) := by decide +kernel
theorem dL_act_629 : decode cL_act 629 = .ok (.aload 5, 2) := by decide +kernel
theorem dL_act_631 : decode cL_act 631 = .ok (.aload 6, 2) := by decide +kernel
theorem dL_act_633 : decode cL_act 633 = .ok (.aload 7, 2) := by decide +kernel
theorem dL_act_635 : decode cL_act 635 = .ok (.aload 8, 2) := by decide +kernel
theorem dL_act_637 : decode cL_act 637 = .ok (.invokestatic 18, 3) := by decide +kernel
theorem dL_act_640 : decode cL_act 640 = .ok (.iinc 12 1, 3) := by decide +kernel
theorem dL_act_643 : decode cL_act 643 = .ok (.goto (-108), 3) := by decide +kernel
theorem dL_act_646 : decode cL_act 646 = .ok (.aload_n 0, 1) := by decide +kernel
theorem dL_act_647 : decode cL_act 647 = .ok (.iload 9, 2) := by decide +kernel
theorem dL_act_649 : decode cL_act 649 = .ok (.invokevirtual 90, 3) := by decide +kernel
theorem dL_act_652 : decode cL_act 652 = .ok (.aload 8, 2) := by decide +kernel
theorem dL_act_654 : decode cL_act 654 = .ok (.iconst 4, 1) := by decide +kernel
theorem dL_act_655 : decode cL_act 655 = .ok (.iaload, 1) := by decide +kernel
theorem dL_act_656 : decode cL_act 656 = .ok (.if_icmp .ne 7, 3) := by decide +kernel
theorem dL_act_659 : decode cL_act 659 = .ok (.iconst 1, 1) := by decide +kernel
theorem dL_act_660 : decode cL_act 660 = .ok (.goto 4, 3) := by decide +kernel
theorem dL_act_663 : decode cL_act 663 = .ok (.iconst 0, 1) := by decide +kernel
theorem dL_act_664 : decode cL_act 664 = .ok (.ireturn, 1) := by decide +kernel
theorem dL_act_665 : decode cL_act 665 = .ok (.iload_n 1, 1) := by decide +kernel
theorem dL_act_666 : decode cL_act 666 = .ok (.bipush 11, 2) := by decide +kernel
theorem dL_act_668 : decode cL_act 668 = .ok (.if_icmp .ne 49, 3) := by decide +kernel
theorem dL_act_671 : decode cL_act 671 = .ok (.aload 5, 2) := by decide +kernel
theorem dL_act_673 : decode cL_act 673 = .ok (.iload 10, 2) := by decide +kernel
theorem dL_act_675 : decode cL_act 675 = .ok (.iconst 5, 1) := by decide +kernel
theorem dL_act_676 : decode cL_act 676 = .ok (.iadd, 1) := by decide +kernel
theorem dL_act_677 : decode cL_act 677 = .ok (.iaload, 1) := by decide +kernel
theorem dL_act_678 : decode cL_act 678 = .ok (.istore 11, 2) := by decide +kernel
theorem dL_act_680 : decode cL_act 680 = .ok (.aload 5, 2) := by decide +kernel
theorem dL_act_682 : decode cL_act 682 = .ok (.iload 10, 2) := by decide +kernel
theorem dL_act_684 : decode cL_act 684 = .ok (.iconst 5, 1) := by decide +kernel
theorem dL_act_685 : decode cL_act 685 = .ok (.iadd, 1) := by decide +kernel
theorem dL_act_686 : decode cL_act 686 = .ok (.iload_n 3, 1) := by decide +kernel
theorem dL_act_687 : decode cL_act 687 = .ok (.bipush 40, 2) := by decide +kernel
theorem dL_act_689 : decode cL_act 689 = .ok (.invokestatic 61, 3) := by decide +kernel
theorem dL_act_692 : decode cL_act 692 = .ok (.iastore, 1) := by decide +kernel
theorem dL_act_693 : decode cL_act 693 = .ok (.aload_n 0, 1) := by decide +kernel
theorem dL_act_694 : decode cL_act 694 = .ok (.iload 9, 2) := by decide +kernel
theorem dL_act_696 : decode cL_act 696 = .ok (.aload 5, 2) := by decide +kernel
theorem dL_act_698 : decode cL_act 698 = .ok (.iload 10, 2) := by decide +kernel
theorem dL_act_700 : decode cL_act 700 = .ok (.iconst 5, 1) := by decide +kernel
theorem dL_act_701 : decode cL_act 701 = .ok (.iadd, 1) := by decide +kernel
theorem dL_act_702 : decode cL_act 702 = .ok (.iaload, 1) := by decide +kernel
theorem dL_act_703 : decode cL_act 703 = .ok (.invokevirtual 93, 3) := by decide +kernel
theorem dL_act_706 : decode cL_act 706 = .ok (.iload 11, 2) := by decide +kernel
theorem dL_act_708 : decode cL_act 708 = .ok (.if_icmp .ne 7, 3) := by decide +kernel
theorem dL_act_711 : decode cL_act 711 = .ok (.iconst 1, 1) := by decide +kernel
theorem dL_act_712 : decode cL_act 712 = .ok (.goto 4, 3) := by decide +kernel
theorem dL_act_715 : decode cL_act 715 = .ok (.iconst 0, 1) := by decide +kernel
theorem dL_act_716 : decode cL_act 716 = .ok (.ireturn, 1) := by decide +kernel
theorem dL_act_717 : decode cL_act 717 = .ok (.iload_n 1, 1) := by decide +kernel
theorem dL_act_718 : decode cL_act 718 = .ok (.bipush 12, 2) := by decide +kernel
theorem dL_act_720 : decode cL_act 720 = .ok (.if_icmp .ne 48, 3) := by decide +kernel
theorem dL_act_723 : decode cL_act 723 = .ok (.aload 5, 2) := by decide +kernel
theorem dL_act_725 : decode cL_act 725 = .ok (.iload 10, 2) := by decide +kernel
theorem dL_act_727 : decode cL_act 727 = .ok (.iconst 4, 1) := by decide +kernel
theorem dL_act_728 : decode cL_act 728 = .ok (.iadd, 1) := by decide +kernel
theorem dL_act_729 : decode cL_act 729 = .ok (.iaload, 1) := by decide +kernel
theorem dL_act_730 : decode cL_act 730 = .ok (.istore 11, 2) := by decide +kernel
theorem dL_act_732 : decode cL_act 732 = .ok (.aload 5, 2) := by decide +kernel
theorem dL_act_734 : decode cL_act 734 = .ok (.iload 10, 2) := by decide +kernel
theorem dL_act_736 : decode cL_act 736 = .ok (.iconst 4, 1) := by decide +kernel
theorem dL_act_737 : decode cL_act 737 = .ok (.iadd, 1) := by decide +kernel
theorem dL_act_738 : decode cL_act 738 = .ok (.iload_n 3, 1) := by decide +kernel
theorem dL_act_739 : decode cL_act 739 = .ok (.iconst 3, 1) := by decide +kernel
theorem dL_act_740 : decode cL_act 740 = .ok (.invokestatic 61, 3) := by decide +kernel
theorem dL_act_743 : decode cL_act 743 = .ok (.iastore, 1) := by decide +kernel
theorem dL_act_744 : decode cL_act 744 = .ok (.aload_n 0, 1) := by decide +kernel
theorem dL_act_745 : decode cL_act 745 = .ok (.iload 9, 2) := by decide +kernel
theorem dL_act_747 : decode cL_act 747 = .ok (.aload 5, 2) := by decide +kernel
theorem dL_act_749 : decode cL_act 749 = .ok (.iload 10, 2) := by decide +kernel
theorem dL_act_751 : decode cL_act 751 = .ok (.iconst 4, 1) := by decide +kernel
theorem dL_act_752 : decode cL_act 752 = .ok (.iadd, 1) := by decide +kernel
theorem dL_act_753 : decode cL_act 753 = .ok (.iaload, 1) := by decide +kernel
theorem dL_act_754 : decode cL_act 754 = .ok (.invokevirtual 96, 3) := by decide +kernel
theorem dL_act_757 : decode cL_act 757 = .ok (.iload 11, 2) := by decide +kernel
theorem dL_act_759 : decode cL_act 759 = .ok (.if_icmp .ne 7, 3) := by decide +kernel
theorem dL_act_762 : decode cL_act 762 = .ok (.iconst 1, 1) := by decide +kernel
theorem dL_act_763 : decode cL_act 763 = .ok (.goto 4, 3) := by decide +kernel
theorem dL_act_766 : decode cL_act 766 = .ok (.iconst 0, 1) := by decide +kernel
theorem dL_act_767 : decode cL_act 767 = .ok (.ireturn, 1) := by decide +kernel
theorem dL_act_768 : decode cL_act 768 = .ok (.iload_n 1, 1) := by decide +kernel
theorem dL_act_769 : decode cL_act 769 = .ok (.bipush 15, 2) := by decide +kernel
theorem dL_act_771 : decode cL_act 771 = .ok (.if_icmp .ge 74, 3) := by decide +kernel
theorem dL_act_774 : decode cL_act 774 = .ok (.iload_n 3, 1) := by decide +kernel
theorem dL_act_775 : decode cL_act 775 = .ok (.bipush 7, 2) := by decide +kernel
theorem dL_act_777 : decode cL_act 777 = .ok (.ishr, 1) := by decide +kernel
theorem dL_act_778 : decode cL_act 778 = .ok (.bipush 7, 2) := by decide +kernel
theorem dL_act_780 : decode cL_act 780 = .ok (.invokestatic 61, 3) := by decide +kernel
theorem dL_act_783 : decode cL_act 783 = .ok (.istore 11, 2) := by decide +kernel
theorem dL_act_785 : decode cL_act 785 = .ok (.aload 4, 2) := by decide +kernel
theorem dL_act_787 : decode cL_act 787 = .ok (.bipush 7, 2) := by decide +kernel
theorem dL_act_789 : decode cL_act 789 = .ok (.iload 9, 2) := by decide +kernel
theorem dL_act_791 : decode cL_act 791 = .ok (.imul, 1) := by decide +kernel
theorem dL_act_792 : decode cL_act 792 = .ok (.iload 11, 2) := by decide +kernel
theorem dL_act_794 : decode cL_act 794 = .ok (.iadd, 1) := by decide +kernel
theorem dL_act_795 : decode cL_act 795 = .ok (.iaload, 1) := by decide +kernel
theorem dL_act_796 : decode cL_act 796 = .ok (.istore 12, 2) := by decide +kernel
theorem dL_act_798 : decode cL_act 798 = .ok (.aload 4, 2) := by decide +kernel
theorem dL_act_800 : decode cL_act 800 = .ok (.bipush 7, 2) := by decide +kernel
theorem dL_act_802 : decode cL_act 802 = .ok (.iload 9, 2) := by decide +kernel
theorem dL_act_804 : decode cL_act 804 = .ok (.imul, 1) := by decide +kernel
theorem dL_act_805 : decode cL_act 805 = .ok (.iload 11, 2) := by decide +kernel
theorem dL_act_807 : decode cL_act 807 = .ok (.iadd, 1) := by decide +kernel
theorem dL_act_808 : decode cL_act 808 = .ok (.iload 11, 2) := by decide +kernel
theorem dL_act_810 : decode cL_act 810 = .ok (.iload_n 3, 1) := by decide +kernel
theorem dL_act_811 : decode cL_act 811 = .ok (.invokestatic 75, 3) := by decide +kernel
theorem dL_act_814 : decode cL_act 814 = .ok (.iastore, 1) := by decide +kernel
theorem dL_act_815 : decode cL_act 815 = .ok (.aload_n 0, 1) := by decide +kernel
theorem dL_act_816 : decode cL_act 816 = .ok (.iload 9, 2) := by decide +kernel
theorem dL_act_818 : decode cL_act 818 = .ok (.iload 11, 2) := by decide +kernel
theorem dL_act_820 : decode cL_act 820 = .ok (.aload 4, 2) := by decide +kernel
theorem dL_act_822 : decode cL_act 822 = .ok (.bipush 7, 2) := by decide +kernel
theorem dL_act_824 : decode cL_act 824 = .ok (.iload 9, 2) := by decide +kernel
theorem dL_act_826 : decode cL_act 826 = .ok (.imul, 1) := by decide +kernel
theorem dL_act_827 : decode cL_act 827 = .ok (.iload 11, 2) := by decide +kernel
theorem dL_act_829 : decode cL_act 829 = .ok (.iadd, 1) := by decide +kernel
theorem dL_act_830 : decode cL_act 830 = .ok (.iaload, 1) := by decide +kernel
theorem dL_act_831 : decode cL_act 831 = .ok (.invokevirtual 99, 3) := by decide +kernel
theorem dL_act_834 : decode cL_act 834 = .ok (.iload 12, 2) := by decide +kernel
theorem dL_act_836 : decode cL_act 836 = .ok (.if_icmp .ne 7, 3) := by decide +kernel
theorem dL_act_839 : decode cL_act 839 = .ok (.iconst 1, 1) := by decide +kernel
theorem dL_act_840 : decode cL_act 840 = .ok (.goto 4, 3) := by decide +kernel
theorem dL_act_843 : decode cL_act 843 = .ok (.iconst 0, 1) := by decide +kernel
theorem dL_act_844 : decode cL_act 844 = .ok (.ireturn, 1) := by decide +kernel
theorem dL_act_845 : decode cL_act 845 = .ok (.iload_n 1, 1) := by decide +kernel
theorem dL_act_846 : decode cL_act 846 = .ok (.bipush 15, 2) := by decide +kernel
theorem dL_act_848 : decode cL_act 848 = .ok (.if_icmp .ne 39, 3) := by decide +kernel
theorem dL_act_851 : decode cL_act 851 = .ok (.aload 8, 2) := by decide +kernel
theorem dL_act_853 : decode cL_act 853 = .ok (.iconst 1, 1) := by decide +kernel
theorem dL_act_854 : decode cL_act 854 = .ok (.iaload, 1) := by decide +kernel
theorem dL_act_855 : decode cL_act 855 = .ok (.istore 11, 2) := by decide +kernel
theorem dL_act_857 : decode cL_act 857 = .ok (.aload 8, 2) := by decide +kernel
theorem dL_act_859 : decode cL_act 859 = .ok (.iconst 1, 1) := by decide +kernel
theorem dL_act_860 : decode cL_act 860 = .ok (.iload_n 3, 1) := by decide +kernel
theorem dL_act_861 : decode cL_act 861 = .ok (.sipush 501, 3) := by decide +kernel
theorem dL_act_864 : decode cL_act 864 = .ok (.invokestatic 61, 3) := by decide +kernel
theorem dL_act_867 : decode cL_act 867 = .ok (.iastore, 1) := by decide +kernel
theorem dL_act_868 : decode cL_act 868 = .ok (.aload_n 0, 1) := by decide +kernel
theorem dL_act_869 : decode cL_act 869 = .ok (.aload 8, 2) := by decide +kernel
theorem dL_act_871 : decode cL_act 871 = .ok (.iconst 1, 1) := by decide +kernel
theorem dL_act_872 : decode cL_act 872 = .ok (.iaload, 1) := by decide +kernel
theorem dL_act_873 : decode cL_act 873 = .ok (.invokevirtual 102, 3) := by decide +kernel
theorem dL_act_876 : decode cL_act 876 = .ok (.iload 11, 2) := by decide +kernel
theorem dL_act_878 : decode cL_act 878 = .ok (.if_icmp .ne 7, 3) := by decide +kernel
theorem dL_act_881 : decode cL_act 881 = .ok (.iconst 1, 1) := by decide +kernel
theorem dL_act_882 : decode cL_act 882 = .ok (.goto 4, 3) := by decide +kernel
theorem dL_act_885 : decode cL_act 885 = .ok (.iconst 0, 1) := by decide +kernel
theorem dL_act_886 : decode cL_act 886 = .ok (.ireturn, 1) := by decide +kernel
theorem dL_act_887 : decode cL_act 887 = .ok (.iload_n 1, 1) := by decide +kernel
theorem dL_act_888 : decode cL_act 888 = .ok (.bipush 16, 2) := by decide +kernel
theorem dL_act_890 : decode cL_act 890 = .ok (.if_icmp .ne 66, 3) := by decide +kernel
theorem dL_act_893 : decode cL_act 893 = .ok (.aload 5, 2) := by decide +kernel
theorem dL_act_895 : decode cL_act 895 = .ok (.iload 10, 2) := by decide +kernel
theorem dL_act_897 : decode cL_act 897 = .ok (.iconst 2, 1) := by decide +kernel
theorem dL_act_898 : decode cL_act 898 = .ok (.iadd, 1) := by decide +kernel
theorem dL_act_899 : decode cL_act 899 = .ok (.iaload, 1) := by decide +kernel
theorem dL_act_900 : decode cL_act 900 = .ok (.ifCond .eq 14, 3) := by decide +kernel
theorem dL_act_903 : decode cL_act 903 = .ok (.aload 5, 2) := by decide +kernel
theorem dL_act_905 : decode cL_act 905 = .ok (.iload 10, 2) := by decide +kernel
theorem dL_act_907 : decode cL_act 907 = .ok (.iconst 2, 1) := by decide +kernel
theorem dL_act_908 : decode cL_act 908 = .ok (.iadd, 1) := by decide +kernel
theorem dL_act_909 : decode cL_act 909 = .ok (.iaload, 1) := by decide +kernel
theorem dL_act_910 : decode cL_act 910 = .ok (.iconst 5, 1) := by decide +kernel
theorem dL_act_911 : decode cL_act 911 = .ok (.if_icmp .ne 45, 3) := by decide +kernel
theorem dL_act_914 : decode cL_act 914 = .ok (.aload 5, 2) := by decide +kernel
theorem dL_act_916 : decode cL_act 916 = .ok (.iload 10, 2) := by decide +kernel
theorem dL_act_918 : decode cL_act 918 = .ok (.iaload, 1) := by decide +kernel
theorem dL_act_919 : decode cL_act 919 = .ok (.istore 11, 2) := by decide +kernel
theorem dL_act_921 : decode cL_act 921 = .ok (.aload 5, 2) := by decide +kernel
theorem dL_act_923 : decode cL_act 923 = .ok (.iload 10, 2) := by decide +kernel
theorem dL_act_925 : decode cL_act 925 = .ok (.iload_n 3, 1) := by decide +kernel
theorem dL_act_926 : decode cL_act 926 = .ok (.iconst 1, 1) := by decide +kernel
theorem dL_act_927 : decode cL_act 927 = .ok (.iload 9, 2) := by decide +kernel
theorem dL_act_929 : decode cL_act 929 = .ok (.ishl, 1) := by decide +kernel
theorem dL_act_930 : decode cL_act 930 = .ok (.invokestatic 61, 3) := by decide +kernel
theorem dL_act_933 : decode cL_act 933 = .ok (.iastore, 1) := by decide +kernel
theorem dL_act_934 : decode cL_act 934 = .ok (.aload_n 0, 1) := by decide +kernel
theorem dL_act_935 : decode cL_act 935 = .ok (.iload 9, 2) := by decide +kernel
theorem dL_act_937 : decode cL_act 937 = .ok (.aload 5, 2) := by decide +kernel
theorem dL_act_939 : decode cL_act 939 = .ok (.iload 10, 2) := by decide +kernel
theorem dL_act_941 : decode cL_act 941 = .ok (.iaload, 1) := by decide +kernel
theorem dL_act_942 : decode cL_act 942 = .ok (.invokevirtual 105, 3) := by decide +kernel
theorem dL_act_945 : decode cL_act 945 = .ok (.iload 11, 2) := by decide +kernel
theorem dL_act_947 : decode cL_act 947 = .ok (.if_icmp .ne 7, 3) := by decide +kernel
theorem dL_act_950 : decode cL_act 950 = .ok (.iconst 1, 1) := by decide +kernel
theorem dL_act_951 : decode cL_act 951 = .ok (.goto 4, 3) := by decide +kernel
theorem dL_act_954 : decode cL_act 954 = .ok (.iconst 0, 1) := by decide +kernel
theorem dL_act_955 : decode cL_act 955 = .ok (.ireturn, 1) := by decide +kernel
theorem dL_act_956 : decode cL_act 956 = .ok (.iload_n 1, 1) := by decide +kernel
theorem dL_act_957 : decode cL_act 957 = .ok (.bipush 17, 2) := by decide +kernel
theorem dL_act_959 : decode cL_act 959 = .ok (.if_icmp .ge 5, 3) := by decide +kernel
theorem dL_act_962 : decode cL_act 962 = .ok (.iconst 1, 1) := by decide +kernel
theorem dL_act_963 : decode cL_act 963 = .ok (.ireturn, 1) := by decide +kernel
theorem dL_act_964 : decode cL_act 964 = .ok (.iconst 0, 1) := by decide +kernel
theorem dL_act_965 : decode cL_act 965 = .ok (.istore 11, 2) := by decide +kernel
theorem dL_act_967 : decode cL_act 967 = .ok (.aload 8, 2) := by decide +kernel
theorem dL_act_969 : decode cL_act 969 = .ok (.iconst 3, 1) := by decide +kernel
theorem dL_act_970 : decode cL_act 970 = .ok (.iaload, 1) := by decide +kernel
theorem dL_act_971 : decode cL_act 971 = .ok (.istore 12, 2) := by decide +kernel
theorem dL_act_973 : decode cL_act 973 = .ok (.iconst 0, 1) := by decide +kernel
theorem dL_act_974 : decode cL_act 974 = .ok (.istore 13, 2) := by decide +kernel
theorem dL_act_976 : decode cL_act 976 = .ok (.iload 13, 2) := by decide +kernel
theorem dL_act_978 : decode cL_act 978 = .ok (.iload 12, 2) := by decide +kernel
theorem dL_act_980 : decode cL_act 980 = .ok (.if_icmp .ge 64, 3) := by decide +kernel
theorem dL_act_983 : decode cL_act 983 = .ok (.aload 7, 2) := by decide +kernel
theorem dL_act_985 : decode cL_act 985 = .ok (.iconst 4, 1) := by decide +kernel
theorem dL_act_986 : decode cL_act 986 = .ok (.iload 13, 2) := by decide +kernel
theorem dL_act_988 : decode cL_act 988 = .ok (.imul, 1) := by decide +kernel
theorem dL_act_989 : decode cL_act 989 = .ok (.iconst 1, 1) := by decide +kernel
theorem dL_act_990 : decode cL_act 990 = .ok (.iadd, 1) := by decide +kernel
theorem dL_act_991 : decode cL_act 991 = .ok (.iaload, 1) := by decide +kernel
theorem dL_act_992 : decode cL_act 992 = .ok (.iload 9, 2) := by decide +kernel
theorem dL_act_994 : decode cL_act 994 = .ok (.if_icmp .ne 6, 3) := by decide +kernel
theorem dL_act_997 : decode cL_act 997 = .ok (.goto 41, 3) := by decide +kernel
theorem dL_act_1000 : decode cL_act 1000 = .ok (.iconst 0, 1) := by decide +kernel
theorem dL_act_1001 : decode cL_act 1001 = .ok (.istore 14, 2) := by decide +kernel
theorem dL_act_1003 : decode cL_act 1003 = .ok (.iload 14, 2) := by decide +kernel
theorem dL_act_1005 : decode cL_act 1005 = .ok (.iconst 4, 1) := by decide +kernel
theorem dL_act_1006 : decode cL_act 1006 = .ok (.if_icmp .ge 29, 3) := by decide +kernel
theorem dL_act_1009 : decode cL_act 1009 = .ok (.aload 7, 2) := by decide +kernel
theorem dL_act_1011 : decode cL_act 1011 = .ok (.iconst 4, 1) := by decide +kernel
theorem dL_act_1012 : decode cL_act 1012 = .ok (.iload 11, 2) := by decide +kernel
theorem dL_act_1014 : decode cL_act 1014 = .ok (.imul, 1) := by decide +kernel
theorem dL_act_1015 : decode cL_act 1015 = .ok (.iload 14, 2) := by decide +kernel
theorem dL_act_1017 : decode cL_act 1017 = .ok (.iadd, 1) := by decide +kernel
theorem dL_act_1018 : decode cL_act 1018 = .ok (.aload 7, 2) := by decide +kernel
theorem dL_act_1020 : decode cL_act 1020 = .ok (.iconst 4, 1) := by decide +kernel
theorem dL_act_1021 : decode cL_act 1021 = .ok (.iload 13, 2) := by decide +kernel
theorem dL_act_1023 : decode cL_act 1023 = .ok (.imul, 1) := by decide +kernel
theorem dL_act_1024 : decode cL_act 1024 = .ok (.iload 14, 2) := by decide +kernel
theorem dL_act_1026 : decode cL_act 1026 = .ok (.iadd, 1) := by decide +kernel
theorem dL_act_1027 : decode cL_act 1027 = .ok (.iaload, 1) := by decide +kernel
theorem dL_act_1028 : decode cL_act 1028 = .ok (.iastore, 1) := by decide +kernel
theorem dL_act_1029 : decode cL_act 1029 = .ok (.iinc 14 1, 3) := by decide +kernel
theorem dL_act_1032 : decode cL_act 1032 = .ok (.goto (-29), 3) := by decide +kernel
theorem dL_act_1035 : decode cL_act 1035 = .ok (.iinc 11 1, 3) := by decide +kernel
theorem dL_act_1038 : decode cL_act 1038 = .ok (.iinc 13 1, 3) := by decide +kernel
theorem dL_act_1041 : decode cL_act 1041 = .ok (.goto (-65), 3) := by decide +kernel
theorem dL_act_1044 : decode cL_act 1044 = .ok (.aload 8, 2) := by decide +kernel
theorem dL_act_1046 : decode cL_act 1046 = .ok (.iconst 3, 1) := by decide +kernel
theorem dL_act_1047 : decode cL_act 1047 = .ok (.iload 11, 2) := by decide +kernel
theorem dL_act_1049 : decode cL_act 1049 = .ok (.iastore, 1) := by decide +kernel
theorem dL_act_1050 : decode cL_act 1050 = .ok (.aload_n 0, 1) := by decide +kernel
theorem dL_act_1051 : decode cL_act 1051 = .ok (.iload 9, 2) := by decide +kernel
theorem dL_act_1053 : decode cL_act 1053 = .ok (.invokevirtual 108, 3) := by decide +kernel
theorem dL_act_1056 : decode cL_act 1056 = .ok (.iload 12, 2) := by decide +kernel
theorem dL_act_1058 : decode cL_act 1058 = .ok (.iload 11, 2) := by decide +kernel
theorem dL_act_1060 : decode cL_act 1060 = .ok (.isub, 1) := by decide +kernel
theorem dL_act_1061 : decode cL_act 1061 = .ok (.if_icmp .ne 7, 3) := by decide +kernel
theorem dL_act_1064 : decode cL_act 1064 = .ok (.iconst 1, 1) := by decide +kernel
theorem dL_act_1065 : decode cL_act 1065 = .ok (.goto 4, 3) := by decide +kernel
theorem dL_act_1068 : decode cL_act 1068 = .ok (.iconst 0, 1) := by decide +kernel
theorem dL_act_1069 : decode cL_act 1069 = .ok (.ireturn, 1) := by decide +kernel
theorem dL_law_0 : decode cL_law 0 = .ok (.new 23, 3) := by decide +kernel
theorem dL_law_3 : decode cL_law 3 = .ok (.dup, 1) := by decide +kernel
theorem dL_law_4 : decode cL_law 4 = .ok (.invokespecial 111, 3) := by decide +kernel
theorem dL_law_7 : decode cL_law 7 = .ok (.astore_n 1, 1) := by decide +kernel
theorem dL_law_8 : decode cL_law 8 = .ok (.bipush 42, 2) := by decide +kernel
theorem dL_law_10 : decode cL_law 10 = .ok (.newarray .int, 2) := by decide +kernel
theorem dL_law_12 : decode cL_law 12 = .ok (.astore_n 2, 1) := by decide +kernel
theorem dL_law_13 : decode cL_law 13 = .ok (.bipush 54, 2) := by decide +kernel
theorem dL_law_15 : decode cL_law 15 = .ok (.newarray .int, 2) := by decide +kernel
theorem dL_law_17 : decode cL_law 17 = .ok (.astore_n 3, 1) := by decide +kernel
theorem dL_law_18 : decode cL_law 18 = .ok (.bipush 24, 2) := by decide +kernel
theorem dL_law_20 : decode cL_law 20 = .ok (.newarray .int, 2) := by decide +kernel
theorem dL_law_22 : decode cL_law 22 = .ok (.astore 4, 2) := by decide +kernel
theorem dL_law_24 : decode cL_law 24 = .ok (.bipush 64, 2) := by decide +kernel
theorem dL_law_26 : decode cL_law 26 = .ok (.newarray .int, 2) := by decide +kernel
theorem dL_law_28 : decode cL_law 28 = .ok (.astore 5, 2) := by decide +kernel
theorem dL_law_30 : decode cL_law 30 = .ok (.bipush 6, 2) := by decide +kernel
theorem dL_law_32 : decode cL_law 32 = .ok (.newarray .int, 2) := by decide +kernel
theorem dL_law_34 : decode cL_law 34 = .ok (.astore 6, 2) := by decide +kernel
theorem dL_law_36 : decode cL_law 36 = .ok (.aload 6, 2) := by decide +kernel
theorem dL_law_38 : decode cL_law 38 = .ok (.iconst 1, 1) := by decide +kernel
theorem dL_law_39 : decode cL_law 39 = .ok (.bipush 100, 2) := by decide +kernel
theorem dL_law_41 : decode cL_law 41 = .ok (.iastore, 1) := by decide +kernel
theorem dL_law_42 : decode cL_law 42 = .ok (.aload_n 1, 1) := by decide +kernel
theorem dL_law_43 : decode cL_law 43 = .ok (.aload_n 2, 1) := by decide +kernel
theorem dL_law_44 : decode cL_law 44 = .ok (.aload_n 3, 1) := by decide +kernel
theorem dL_law_45 : decode cL_law 45 = .ok (.aload 4, 2) := by decide +kernel
theorem dL_law_47 : decode cL_law 47 = .ok (.aload 5, 2) := by decide +kernel
theorem dL_law_49 : decode cL_law 49 = .ok (.aload 6, 2) := by decide +kernel
theorem dL_law_51 : decode cL_law 51 = .ok (.invokestatic 112, 3) := by decide +kernel
theorem dL_law_54 : decode cL_law 54 = .ok (.ifCond .eq 12, 3) := by decide +kernel
theorem dL_law_57 : decode cL_law 57 = .ok (.aload_n 1, 1) := by decide +kernel
theorem dL_law_58 : decode cL_law 58 = .ok (.bipush 8, 2) := by decide +kernel
theorem dL_law_60 : decode cL_law 60 = .ok (.invokevirtual 46, 3) := by decide +kernel
theorem dL_law_63 : decode cL_law 63 = .ok (.ifCond .eq 5, 3) := by decide +kernel
theorem dL_law_66 : decode cL_law 66 = .ok (.iconst 0, 1) := by decide +kernel
theorem dL_law_67 : decode cL_law 67 = .ok (.ireturn, 1) := by decide +kernel
theorem dL_law_68 : decode cL_law 68 = .ok (.iconst 0, 1) := by decide +kernel
theorem dL_law_69 : decode cL_law 69 = .ok (.istore 7, 2) := by decide +kernel
theorem dL_law_71 : decode cL_law 71 = .ok (.iload 7, 2) := by decide +kernel
theorem dL_law_73 : decode cL_law 73 = .ok (.bipush 24, 2) := by decide +kernel
theorem dL_law_75 : decode cL_law 75 = .ok (.if_icmp .ge 134, 3) := by decide +kernel
theorem dL_law_78 : decode cL_law 78 = .ok (.aload_n 0, 1) := by decide +kernel
theorem dL_law_79 : decode cL_law 79 = .ok (.iconst 2, 1) := by decide +kernel
theorem dL_law_80 : decode cL_law 80 = .ok (.iload 7, 2) := by decide +kernel
theorem dL_law_82 : decode cL_law 82 = .ok (.imul, 1) := by decide +kernel
theorem dL_law_83 : decode cL_law 83 = .ok (.invokestatic 116, 3) := by decide +kernel
theorem dL_law_86 : decode cL_law 86 = .ok (.ldc 120, 2) := by decide +kernel
theorem dL_law_88 : decode cL_law 88 = .ok (.iand, 1) := by decide +kernel
theorem dL_law_89 : decode cL_law 89 = .ok (.istore 8, 2) := by decide +kernel
theorem dL_law_91 : decode cL_law 91 = .ok (.aload_n 0, 1) := by decide +kernel
theorem dL_law_92 : decode cL_law 92 = .ok (.iconst 2, 1) := by decide +kernel
theorem dL_law_93 : decode cL_law 93 = .ok (.iload 7, 2) := by decide +kernel
theorem dL_law_95 : decode cL_law 95 = .ok (.imul, 1) := by decide +kernel
theorem dL_law_96 : decode cL_law 96 = .ok (.iconst 1, 1) := by decide +kernel
theorem dL_law_97 : decode cL_law 97 = .ok (.iadd, 1) := by decide +kernel
theorem dL_law_98 : decode cL_law 98 = .ok (.invokestatic 116, 3) := by decide +kernel
theorem dL_law_101 : decode cL_law 101 = .ok (.ldc 120, 2) := by decide +kernel
theorem dL_law_103 : decode cL_law 103 = .ok (.iand, 1) := by decide +kernel
theorem dL_law_104 : decode cL_law 104 = .ok (.istore 9, 2) := by decide +kernel
theorem dL_law_106 : decode cL_law 106 = .ok (.aload_n 1, 1) := by decide +kernel
theorem dL_law_107 : decode cL_law 107 = .ok (.iload 7, 2) := by decide +kernel
theorem dL_law_109 : decode cL_law 109 = .ok (.iconst 3, 1) := by decide +kernel
theorem dL_law_110 : decode cL_law 110 = .ok (.if_icmp .ge 7, 3) := by decide +kernel
theorem dL_law_113 : decode cL_law 113 = .ok (.iconst 0, 1) := by decide +kernel
theorem dL_law_114 : decode cL_law 114 = .ok (.goto 24, 3) := by decide +kernel
theorem dL_law_117 : decode cL_law 117 = .ok (.iload 7, 2) := by decide +kernel
theorem dL_law_119 : decode cL_law 119 = .ok (.iconst 3, 1) := by decide +kernel
theorem dL_law_120 : decode cL_law 120 = .ok (.if_icmp .ne 8, 3) := by decide +kernel
theorem dL_law_123 : decode cL_law 123 = .ok (.bipush 7, 2) := by decide +kernel
theorem dL_law_125 : decode cL_law 125 = .ok (.goto 13, 3) := by decide +kernel
theorem dL_law_128 : decode cL_law 128 = .ok (.iload 8, 2) := by decide +kernel
theorem dL_law_130 : decode cL_law 130 = .ok (.bipush 13, 2) := by decide +kernel
theorem dL_law_132 : decode cL_law 132 = .ok (.ishr, 1) := by decide +kernel
theorem dL_law_133 : decode cL_law 133 = .ok (.bipush 18, 2) := by decide +kernel
theorem dL_law_135 : decode cL_law 135 = .ok (.invokestatic 61, 3) := by decide +kernel
theorem dL_law_138 : decode cL_law 138 = .ok (.iload 8, 2) := by decide +kernel
theorem dL_law_140 : decode cL_law 140 = .ok (.iload 9, 2) := by decide +kernel
theorem dL_law_142 : decode cL_law 142 = .ok (.aload_n 2, 1) := by decide +kernel
theorem dL_law_143 : decode cL_law 143 = .ok (.aload_n 3, 1) := by decide +kernel
theorem dL_law_144 : decode cL_law 144 = .ok (.aload 4, 2) := by decide +kernel
theorem dL_law_146 : decode cL_law 146 = .ok (.aload 5, 2) := by decide +kernel
theorem dL_law_148 : decode cL_law 148 = .ok (.aload 6, 2) := by decide +kernel
theorem dL_law_150 : decode cL_law 150 = .ok (.invokestatic 121, 3) := by decide +kernel
theorem dL_law_153 : decode cL_law 153 = .ok (.ifCond .eq 18, 3) := by decide +kernel
theorem dL_law_156 : decode cL_law 156 = .ok (.aload_n 1, 1) := by decide +kernel
theorem dL_law_157 : decode cL_law 157 = .ok (.aload_n 2, 1) := by decide +kernel
theorem dL_law_158 : decode cL_law 158 = .ok (.aload_n 3, 1) := by decide +kernel
theorem dL_law_159 : decode cL_law 159 = .ok (.aload 4, 2) := by decide +kernel
theorem dL_law_161 : decode cL_law 161 = .ok (.aload 5, 2) := by decide +kernel
theorem dL_law_163 : decode cL_law 163 = .ok (.aload 6, 2) := by decide +kernel
theorem dL_law_165 : decode cL_law 165 = .ok (.invokestatic 112, 3) := by decide +kernel
theorem dL_law_168 : decode cL_law 168 = .ok (.ifCond .ne 5, 3) := by decide +kernel
theorem dL_law_171 : decode cL_law 171 = .ok (.iconst 0, 1) := by decide +kernel
theorem dL_law_172 : decode cL_law 172 = .ok (.ireturn, 1) := by decide +kernel
theorem dL_law_173 : decode cL_law 173 = .ok (.iload 7, 2) := by decide +kernel
theorem dL_law_175 : decode cL_law 175 = .ok (.bipush 6, 2) := by decide +kernel
theorem dL_law_177 : decode cL_law 177 = .ok (.irem, 1) := by decide +kernel
theorem dL_law_178 : decode cL_law 178 = .ok (.iconst 5, 1) := by decide +kernel
theorem dL_law_179 : decode cL_law 179 = .ok (.if_icmp .ne 24, 3) := by decide +kernel
theorem dL_law_182 : decode cL_law 182 = .ok (.aload_n 1, 1) := by decide +kernel
theorem dL_law_183 : decode cL_law 183 = .ok (.iload 9, 2) := by decide +kernel
theorem dL_law_185 : decode cL_law 185 = .ok (.iconst 2, 1) := by decide +kernel
theorem dL_law_186 : decode cL_law 186 = .ok (.ishr, 1) := by decide +kernel
theorem dL_law_187 : decode cL_law 187 = .ok (.iload 8, 2) := by decide +kernel
theorem dL_law_189 : decode cL_law 189 = .ok (.iconst 2, 1) := by decide +kernel
theorem dL_law_190 : decode cL_law 190 = .ok (.ishr, 1) := by decide +kernel
theorem dL_law_191 : decode cL_law 191 = .ok (.aload_n 2, 1) := by decide +kernel
theorem dL_law_192 : decode cL_law 192 = .ok (.aload_n 3, 1) := by decide +kernel
theorem dL_law_193 : decode cL_law 193 = .ok (.aload 6, 2) := by decide +kernel
theorem dL_law_195 : decode cL_law 195 = .ok (.invokestatic 125, 3) := by decide +kernel
theorem dL_law_198 : decode cL_law 198 = .ok (.ifCond .ne 5, 3) := by decide +kernel
theorem dL_law_201 : decode cL_law 201 = .ok (.iconst 0, 1) := by decide +kernel
theorem dL_law_202 : decode cL_law 202 = .ok (.ireturn, 1) := by decide +kernel
theorem dL_law_203 : decode cL_law 203 = .ok (.iinc 7 1, 3) := by decide +kernel
theorem dL_law_206 : decode cL_law 206 = .ok (.goto (-135), 3) := by decide +kernel
theorem dL_law_209 : decode cL_law 209 = .ok (.aload_n 1, 1) := by decide +kernel
theorem dL_law_210 : decode cL_law 210 = .ok (.bipush 8, 2) := by decide +kernel
theorem dL_law_212 : decode cL_law 212 = .ok (.invokevirtual 46, 3) := by decide +kernel
theorem dL_law_215 : decode cL_law 215 = .ok (.ifCond .le 7, 3) := by decide +kernel
theorem dL_law_218 : decode cL_law 218 = .ok (.iconst 1, 1) := by decide +kernel
theorem dL_law_219 : decode cL_law 219 = .ok (.goto 4, 3) := by decide +kernel
theorem dL_law_222 : decode cL_law 222 = .ok (.iconst 0, 1) := by decide +kernel
theorem dL_law_223 : decode cL_law 223 = .ok (.ireturn, 1) := by decide +kernel
