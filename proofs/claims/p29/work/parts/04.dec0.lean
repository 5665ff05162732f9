theorem dX0_init_0 : decode cX0_init 0 = .ok (.aload_n 0, 1) := by decide +kernel
theorem dX0_init_1 : decode cX0_init 1 = .ok (.invokespecial 1, 3) := by decide +kernel
theorem dX0_init_4 : decode cX0_init 4 = .ok (.aload_n 0, 1) := by decide +kernel
theorem dX0_init_5 : decode cX0_init 5 = .ok (.bipush 64, 2) := by decide +kernel
theorem dX0_init_7 : decode cX0_init 7 = .ok (.newarray .int, 2) := by decide +kernel
theorem dX0_init_9 : decode cX0_init 9 = .ok (.putfield 9, 3) := by decide +kernel
theorem dX0_init_12 : decode cX0_init 12 = .ok (.return_, 1) := by decide +kernel
theorem dX0_copyFrom_0 : decode cX0_copyFrom 0 = .ok (.aload_n 0, 1) := by decide +kernel
theorem dX0_copyFrom_1 : decode cX0_copyFrom 1 = .ok (.aload_n 1, 1) := by decide +kernel
theorem dX0_copyFrom_2 : decode cX0_copyFrom 2 = .ok (.getfield 13, 3) := by decide +kernel
theorem dX0_copyFrom_5 : decode cX0_copyFrom 5 = .ok (.putfield 13, 3) := by decide +kernel
theorem dX0_copyFrom_8 : decode cX0_copyFrom 8 = .ok (.aload_n 1, 1) := by decide +kernel
theorem dX0_copyFrom_9 : decode cX0_copyFrom 9 = .ok (.getfield 9, 3) := by decide +kernel
theorem dX0_copyFrom_12 : decode cX0_copyFrom 12 = .ok (.iconst 0, 1) := by decide +kernel
theorem dX0_copyFrom_13 : decode cX0_copyFrom 13 = .ok (.aload_n 0, 1) := by decide +kernel
theorem dX0_copyFrom_14 : decode cX0_copyFrom 14 = .ok (.getfield 9, 3) := by decide +kernel
theorem dX0_copyFrom_17 : decode cX0_copyFrom 17 = .ok (.iconst 0, 1) := by decide +kernel
theorem dX0_copyFrom_18 : decode cX0_copyFrom 18 = .ok (.bipush 64, 2) := by decide +kernel
theorem dX0_copyFrom_20 : decode cX0_copyFrom 20 = .ok (.invokestatic 17, 3) := by decide +kernel
theorem dX0_copyFrom_23 : decode cX0_copyFrom 23 = .ok (.return_, 1) := by decide +kernel
theorem dX0_enter_0 : decode cX0_enter 0 = .ok (.aload_n 0, 1) := by decide +kernel
theorem dX0_enter_1 : decode cX0_enter 1 = .ok (.getfield 9, 3) := by decide +kernel
theorem dX0_enter_4 : decode cX0_enter 4 = .ok (.iconst 0, 1) := by decide +kernel
theorem dX0_enter_5 : decode cX0_enter 5 = .ok (.aload_n 0, 1) := by decide +kernel
theorem dX0_enter_6 : decode cX0_enter 6 = .ok (.getfield 9, 3) := by decide +kernel
theorem dX0_enter_9 : decode cX0_enter 9 = .ok (.iconst 4, 1) := by decide +kernel
theorem dX0_enter_10 : decode cX0_enter 10 = .ok (.bipush 60, 2) := by decide +kernel
theorem dX0_enter_12 : decode cX0_enter 12 = .ok (.invokestatic 17, 3) := by decide +kernel
theorem dX0_enter_15 : decode cX0_enter 15 = .ok (.aload_n 0, 1) := by decide +kernel
theorem dX0_enter_16 : decode cX0_enter 16 = .ok (.getfield 9, 3) := by decide +kernel
theorem dX0_enter_19 : decode cX0_enter 19 = .ok (.iconst 0, 1) := by decide +kernel
theorem dX0_enter_20 : decode cX0_enter 20 = .ok (.iload_n 1, 1) := by decide +kernel
theorem dX0_enter_21 : decode cX0_enter 21 = .ok (.iastore, 1) := by decide +kernel
theorem dX0_enter_22 : decode cX0_enter 22 = .ok (.aload_n 0, 1) := by decide +kernel
theorem dX0_enter_23 : decode cX0_enter 23 = .ok (.getfield 9, 3) := by decide +kernel
theorem dX0_enter_26 : decode cX0_enter 26 = .ok (.iconst 1, 1) := by decide +kernel
theorem dX0_enter_27 : decode cX0_enter 27 = .ok (.iload_n 2, 1) := by decide +kernel
theorem dX0_enter_28 : decode cX0_enter 28 = .ok (.iastore, 1) := by decide +kernel
theorem dX0_enter_29 : decode cX0_enter 29 = .ok (.aload_n 0, 1) := by decide +kernel
theorem dX0_enter_30 : decode cX0_enter 30 = .ok (.getfield 9, 3) := by decide +kernel
theorem dX0_enter_33 : decode cX0_enter 33 = .ok (.iconst 2, 1) := by decide +kernel
theorem dX0_enter_34 : decode cX0_enter 34 = .ok (.iload_n 3, 1) := by decide +kernel
theorem dX0_enter_35 : decode cX0_enter 35 = .ok (.iastore, 1) := by decide +kernel
theorem dX0_enter_36 : decode cX0_enter 36 = .ok (.aload_n 0, 1) := by decide +kernel
theorem dX0_enter_37 : decode cX0_enter 37 = .ok (.getfield 9, 3) := by decide +kernel
theorem dX0_enter_40 : decode cX0_enter 40 = .ok (.iconst 3, 1) := by decide +kernel
theorem dX0_enter_41 : decode cX0_enter 41 = .ok (.iload 4, 2) := by decide +kernel
theorem dX0_enter_43 : decode cX0_enter 43 = .ok (.iastore, 1) := by decide +kernel
theorem dX0_enter_44 : decode cX0_enter 44 = .ok (.aload_n 0, 1) := by decide +kernel
theorem dX0_enter_45 : decode cX0_enter 45 = .ok (.aload_n 0, 1) := by decide +kernel
theorem dX0_enter_46 : decode cX0_enter 46 = .ok (.getfield 13, 3) := by decide +kernel
theorem dX0_enter_49 : decode cX0_enter 49 = .ok (.iconst 1, 1) := by decide +kernel
theorem dX0_enter_50 : decode cX0_enter 50 = .ok (.iadd, 1) := by decide +kernel
theorem dX0_enter_51 : decode cX0_enter 51 = .ok (.bipush 16, 2) := by decide +kernel
theorem dX0_enter_53 : decode cX0_enter 53 = .ok (.invokestatic 23, 3) := by decide +kernel
theorem dX0_enter_56 : decode cX0_enter 56 = .ok (.putfield 13, 3) := by decide +kernel
theorem dX0_enter_59 : decode cX0_enter 59 = .ok (.return_, 1) := by decide +kernel
theorem dX0_numberAt_0 : decode cX0_numberAt 0 = .ok (.aload_n 0, 1) := by decide +kernel
theorem dX0_numberAt_1 : decode cX0_numberAt 1 = .ok (.getfield 9, 3) := by decide +kernel
theorem dX0_numberAt_4 : decode cX0_numberAt 4 = .ok (.iload_n 1, 1) := by decide +kernel
theorem dX0_numberAt_5 : decode cX0_numberAt 5 = .ok (.iconst 4, 1) := by decide +kernel
theorem dX0_numberAt_6 : decode cX0_numberAt 6 = .ok (.imul, 1) := by decide +kernel
theorem dX0_numberAt_7 : decode cX0_numberAt 7 = .ok (.iload_n 2, 1) := by decide +kernel
theorem dX0_numberAt_8 : decode cX0_numberAt 8 = .ok (.iadd, 1) := by decide +kernel
theorem dX0_numberAt_9 : decode cX0_numberAt 9 = .ok (.iaload, 1) := by decide +kernel
theorem dX0_numberAt_10 : decode cX0_numberAt 10 = .ok (.ireturn, 1) := by decide +kernel
theorem dX0_removeRail_0 : decode cX0_removeRail 0 = .ok (.iconst 0, 1) := by decide +kernel
theorem dX0_removeRail_1 : decode cX0_removeRail 1 = .ok (.istore_n 2, 1) := by decide +kernel
theorem dX0_removeRail_2 : decode cX0_removeRail 2 = .ok (.iconst 0, 1) := by decide +kernel
theorem dX0_removeRail_3 : decode cX0_removeRail 3 = .ok (.istore_n 3, 1) := by decide +kernel
theorem dX0_removeRail_4 : decode cX0_removeRail 4 = .ok (.iload_n 3, 1) := by decide +kernel
theorem dX0_removeRail_5 : decode cX0_removeRail 5 = .ok (.aload_n 0, 1) := by decide +kernel
theorem dX0_removeRail_6 : decode cX0_removeRail 6 = .ok (.getfield 13, 3) := by decide +kernel
theorem dX0_removeRail_9 : decode cX0_removeRail 9 = .ok (.if_icmp .ge 40, 3) := by decide +kernel
theorem dX0_removeRail_12 : decode cX0_removeRail 12 = .ok (.aload_n 0, 1) := by decide +kernel
theorem dX0_removeRail_13 : decode cX0_removeRail 13 = .ok (.iload_n 3, 1) := by decide +kernel
theorem dX0_removeRail_14 : decode cX0_removeRail 14 = .ok (.iconst 1, 1) := by decide +kernel
theorem dX0_removeRail_15 : decode cX0_removeRail 15 = .ok (.invokevirtual 29, 3) := by decide +kernel
theorem dX0_removeRail_18 : decode cX0_removeRail 18 = .ok (.iload_n 1, 1) := by decide +kernel
theorem dX0_removeRail_19 : decode cX0_removeRail 19 = .ok (.if_icmp .eq 24, 3) := by decide +kernel
theorem dX0_removeRail_22 : decode cX0_removeRail 22 = .ok (.aload_n 0, 1) := by decide +kernel
theorem dX0_removeRail_23 : decode cX0_removeRail 23 = .ok (.getfield 9, 3) := by decide +kernel
theorem dX0_removeRail_26 : decode cX0_removeRail 26 = .ok (.iload_n 3, 1) := by decide +kernel
theorem dX0_removeRail_27 : decode cX0_removeRail 27 = .ok (.iconst 4, 1) := by decide +kernel
theorem dX0_removeRail_28 : decode cX0_removeRail 28 = .ok (.imul, 1) := by decide +kernel
theorem dX0_removeRail_29 : decode cX0_removeRail 29 = .ok (.aload_n 0, 1) := by decide +kernel
theorem dX0_removeRail_30 : decode cX0_removeRail 30 = .ok (.getfield 9, 3) := by decide +kernel
theorem dX0_removeRail_33 : decode cX0_removeRail 33 = .ok (.iload_n 2, 1) := by decide +kernel
theorem dX0_removeRail_34 : decode cX0_removeRail 34 = .ok (.iconst 4, 1) := by decide +kernel
theorem dX0_removeRail_35 : decode cX0_removeRail 35 = .ok (.imul, 1) := by decide +kernel
theorem dX0_removeRail_36 : decode cX0_removeRail 36 = .ok (.iconst 4, 1) := by decide +kernel
theorem dX0_removeRail_37 : decode cX0_removeRail 37 = .ok (.invokestatic 17, 3) := by decide +kernel
theorem dX0_removeRail_40 : decode cX0_removeRail 40 = .ok (.iinc 2 1, 3) := by decide +kernel
theorem dX0_removeRail_43 : decode cX0_removeRail 43 = .ok (.iinc 3 1, 3) := by decide +kernel
theorem dX0_removeRail_46 : decode cX0_removeRail 46 = .ok (.goto (-42), 3) := by decide +kernel
theorem dX0_removeRail_49 : decode cX0_removeRail 49 = .ok (.aload_n 0, 1) := by decide +kernel
theorem dX0_removeRail_50 : decode cX0_removeRail 50 = .ok (.getfield 13, 3) := by decide +kernel
theorem dX0_removeRail_53 : decode cX0_removeRail 53 = .ok (.iload_n 2, 1) := by decide +kernel
theorem dX0_removeRail_54 : decode cX0_removeRail 54 = .ok (.isub, 1) := by decide +kernel
theorem dX0_removeRail_55 : decode cX0_removeRail 55 = .ok (.istore_n 3, 1) := by decide +kernel
theorem dX0_removeRail_56 : decode cX0_removeRail 56 = .ok (.aload_n 0, 1) := by decide +kernel
theorem dX0_removeRail_57 : decode cX0_removeRail 57 = .ok (.iload_n 2, 1) := by decide +kernel
theorem dX0_removeRail_58 : decode cX0_removeRail 58 = .ok (.putfield 13, 3) := by decide +kernel
theorem dX0_removeRail_61 : decode cX0_removeRail 61 = .ok (.iload_n 3, 1) := by decide +kernel
theorem dX0_removeRail_62 : decode cX0_removeRail 62 = .ok (.ireturn, 1) := by decide +kernel
theorem dX1_init_0 : decode cX1_init 0 = .ok (.aload_n 0, 1) := by decide +kernel
theorem dX1_init_1 : decode cX1_init 1 = .ok (.invokespecial 3, 3) := by decide +kernel
theorem dX1_init_4 : decode cX1_init 4 = .ok (.aload_n 0, 1) := by decide +kernel
theorem dX1_init_5 : decode cX1_init 5 = .ok (.bipush 100, 2) := by decide +kernel
theorem dX1_init_7 : decode cX1_init 7 = .ok (.putfield 9, 3) := by decide +kernel
theorem dX1_init_10 : decode cX1_init 10 = .ok (.aload_n 0, 1) := by decide +kernel
theorem dX1_init_11 : decode cX1_init 11 = .ok (.bipush 56, 2) := by decide +kernel
theorem dX1_init_13 : decode cX1_init 13 = .ok (.newarray .int, 2) := by decide +kernel
theorem dX1_init_15 : decode cX1_init 15 = .ok (.putfield 15, 3) := by decide +kernel
theorem dX1_init_18 : decode cX1_init 18 = .ok (.aload_n 0, 1) := by decide +kernel
theorem dX1_init_19 : decode cX1_init 19 = .ok (.bipush 8, 2) := by decide +kernel
theorem dX1_init_21 : decode cX1_init 21 = .ok (.newarray .int, 2) := by decide +kernel
theorem dX1_init_23 : decode cX1_init 23 = .ok (.putfield 19, 3) := by decide +kernel
theorem dX1_init_26 : decode cX1_init 26 = .ok (.aload_n 0, 1) := by decide +kernel
theorem dX1_init_27 : decode cX1_init 27 = .ok (.bipush 8, 2) := by decide +kernel
theorem dX1_init_29 : decode cX1_init 29 = .ok (.newarray .int, 2) := by decide +kernel
theorem dX1_init_31 : decode cX1_init 31 = .ok (.putfield 22, 3) := by decide +kernel
theorem dX1_init_34 : decode cX1_init 34 = .ok (.aload_n 0, 1) := by decide +kernel
theorem dX1_init_35 : decode cX1_init 35 = .ok (.bipush 8, 2) := by decide +kernel
theorem dX1_init_37 : decode cX1_init 37 = .ok (.newarray .int, 2) := by decide +kernel
theorem dX1_init_39 : decode cX1_init 39 = .ok (.putfield 25, 3) := by decide +kernel
theorem dX1_init_42 : decode cX1_init 42 = .ok (.aload_n 0, 1) := by decide +kernel
theorem dX1_init_43 : decode cX1_init 43 = .ok (.bipush 8, 2) := by decide +kernel
theorem dX1_init_45 : decode cX1_init 45 = .ok (.newarray .int, 2) := by decide +kernel
theorem dX1_init_47 : decode cX1_init 47 = .ok (.putfield 28, 3) := by decide +kernel
theorem dX1_init_50 : decode cX1_init 50 = .ok (.aload_n 0, 1) := by decide +kernel
theorem dX1_init_51 : decode cX1_init 51 = .ok (.bipush 8, 2) := by decide +kernel
theorem dX1_init_53 : decode cX1_init 53 = .ok (.newarray .int, 2) := by decide +kernel
theorem dX1_init_55 : decode cX1_init 55 = .ok (.putfield 31, 3) := by decide +kernel
theorem dX1_init_58 : decode cX1_init 58 = .ok (.aload_n 0, 1) := by decide +kernel
theorem dX1_init_59 : decode cX1_init 59 = .ok (.bipush 8, 2) := by decide +kernel
theorem dX1_init_61 : decode cX1_init 61 = .ok (.newarray .int, 2) := by decide +kernel
theorem dX1_init_63 : decode cX1_init 63 = .ok (.putfield 34, 3) := by decide +kernel
theorem dX1_init_66 : decode cX1_init 66 = .ok (.aload_n 0, 1) := by decide +kernel
theorem dX1_init_67 : decode cX1_init 67 = .ok (.bipush 8, 2) := by decide +kernel
theorem dX1_init_69 : decode cX1_init 69 = .ok (.newarray .int, 2) := by decide +kernel
theorem dX1_init_71 : decode cX1_init 71 = .ok (.putfield 37, 3) := by decide +kernel
theorem dX1_init_74 : decode cX1_init 74 = .ok (.aload_n 0, 1) := by decide +kernel
theorem dX1_init_75 : decode cX1_init 75 = .ok (.bipush 8, 2) := by decide +kernel
theorem dX1_init_77 : decode cX1_init 77 = .ok (.newarray .int, 2) := by decide +kernel
theorem dX1_init_79 : decode cX1_init 79 = .ok (.putfield 40, 3) := by decide +kernel
theorem dX1_init_82 : decode cX1_init 82 = .ok (.aload_n 0, 1) := by decide +kernel
theorem dX1_init_83 : decode cX1_init 83 = .ok (.bipush 32, 2) := by decide +kernel
theorem dX1_init_85 : decode cX1_init 85 = .ok (.newarray .int, 2) := by decide +kernel
theorem dX1_init_87 : decode cX1_init 87 = .ok (.putfield 43, 3) := by decide +kernel
theorem dX1_init_90 : decode cX1_init 90 = .ok (.aload_n 0, 1) := by decide +kernel
theorem dX1_init_91 : decode cX1_init 91 = .ok (.new 46, 3) := by decide +kernel
theorem dX1_init_94 : decode cX1_init 94 = .ok (.dup, 1) := by decide +kernel
theorem dX1_init_95 : decode cX1_init 95 = .ok (.invokespecial 48, 3) := by decide +kernel
theorem dX1_init_98 : decode cX1_init 98 = .ok (.putfield 49, 3) := by decide +kernel
theorem dX1_init_101 : decode cX1_init 101 = .ok (.aload_n 0, 1) := by decide +kernel
theorem dX1_init_102 : decode cX1_init 102 = .ok (.bipush 8, 2) := by decide +kernel
theorem dX1_init_104 : decode cX1_init 104 = .ok (.newarray .int, 2) := by decide +kernel
theorem dX1_init_106 : decode cX1_init 106 = .ok (.putfield 53, 3) := by decide +kernel
theorem dX1_init_109 : decode cX1_init 109 = .ok (.aload_n 0, 1) := by decide +kernel
theorem dX1_init_110 : decode cX1_init 110 = .ok (.bipush 8, 2) := by decide +kernel
theorem dX1_init_112 : decode cX1_init 112 = .ok (.newarray .int, 2) := by decide +kernel
theorem dX1_init_114 : decode cX1_init 114 = .ok (.putfield 56, 3) := by decide +kernel
theorem dX1_init_117 : decode cX1_init 117 = .ok (.aload_n 0, 1) := by decide +kernel
theorem dX1_init_118 : decode cX1_init 118 = .ok (.bipush 8, 2) := by decide +kernel
theorem dX1_init_120 : decode cX1_init 120 = .ok (.newarray .int, 2) := by decide +kernel
theorem dX1_init_122 : decode cX1_init 122 = .ok (.putfield 59, 3) := by decide +kernel
theorem dX1_init_125 : decode cX1_init 125 = .ok (.return_, 1) := by decide +kernel
theorem dX1_copyFrom_0 : decode cX1_copyFrom 0 = .ok (.aload_n 0, 1) := by decide +kernel
theorem dX1_copyFrom_1 : decode cX1_copyFrom 1 = .ok (.aload_n 1, 1) := by decide +kernel
theorem dX1_copyFrom_2 : decode cX1_copyFrom 2 = .ok (.getfield 62, 3) := by decide +kernel
theorem dX1_copyFrom_5 : decode cX1_copyFrom 5 = .ok (.putfield 62, 3) := by decide +kernel
theorem dX1_copyFrom_8 : decode cX1_copyFrom 8 = .ok (.aload_n 0, 1) := by decide +kernel
theorem dX1_copyFrom_9 : decode cX1_copyFrom 9 = .ok (.aload_n 1, 1) := by decide +kernel
theorem dX1_copyFrom_10 : decode cX1_copyFrom 10 = .ok (.getfield 65, 3) := by decide +kernel
theorem dX1_copyFrom_13 : decode cX1_copyFrom 13 = .ok (.putfield 65, 3) := by decide +kernel
theorem dX1_copyFrom_16 : decode cX1_copyFrom 16 = .ok (.aload_n 0, 1) := by decide +kernel
theorem dX1_copyFrom_17 : decode cX1_copyFrom 17 = .ok (.aload_n 1, 1) := by decide +kernel
theorem dX1_copyFrom_18 : decode cX1_copyFrom 18 = .ok (.getfield 9, 3) := by decide +kernel
theorem dX1_copyFrom_21 : decode cX1_copyFrom 21 = .ok (.putfield 9, 3) := by decide +kernel
theorem dX1_copyFrom_24 : decode cX1_copyFrom 24 = .ok (.aload_n 0, 1) := by decide +kernel
theorem dX1_copyFrom_25 : decode cX1_copyFrom 25 = .ok (.aload_n 1, 1) := by decide +kernel
theorem dX1_copyFrom_26 : decode cX1_copyFrom 26 = .ok (.getfield 68, 3) := by decide +kernel
theorem dX1_copyFrom_29 : decode cX1_copyFrom 29 = .ok (.putfield 68, 3) := by decide +kernel
theorem dX1_copyFrom_32 : decode cX1_copyFrom 32 = .ok (.aload_n 1, 1) := by decide +kernel
theorem dX1_copyFrom_33 : decode cX1_copyFrom 33 = .ok (.getfield 15, 3) := by decide +kernel
theorem dX1_copyFrom_36 : decode cX1_copyFrom 36 = .ok (.iconst 0, 1) := by decide +kernel
theorem dX1_copyFrom_37 : decode cX1_copyFrom 37 = .ok (.aload_n 0, 1) := by decide +kernel
theorem dX1_copyFrom_38 : decode cX1_copyFrom 38 = .ok (.getfield 15, 3) := by decide +kernel
theorem dX1_copyFrom_41 : decode cX1_copyFrom 41 = .ok (.iconst 0, 1) := by decide +kernel
theorem dX1_copyFrom_42 : decode cX1_copyFrom 42 = .ok (.bipush 56, 2) := by decide +kernel
theorem dX1_copyFrom_44 : decode cX1_copyFrom 44 = .ok (.invokestatic 71, 3) := by decide +kernel
theorem dX1_copyFrom_47 : decode cX1_copyFrom 47 = .ok (.aload_n 1, 1) := by decide +kernel
theorem dX1_copyFrom_48 : decode cX1_copyFrom 48 = .ok (.getfield 19, 3) := by decide +kernel
theorem dX1_copyFrom_51 : decode cX1_copyFrom 51 = .ok (.iconst 0, 1) := by decide +kernel
theorem dX1_copyFrom_52 : decode cX1_copyFrom 52 = .ok (.aload_n 0, 1) := by decide +kernel
theorem dX1_copyFrom_53 : decode cX1_copyFrom 53 = .ok (.getfield 19, 3) := by decide +kernel
theorem dX1_copyFrom_56 : decode cX1_copyFrom 56 = .ok (.iconst 0, 1) := by decide +kernel
theorem dX1_copyFrom_57 : decode cX1_copyFrom 57 = .ok (.bipush 8, 2) := by decide +kernel
theorem dX1_copyFrom_59 : decode cX1_copyFrom 59 = .ok (.invokestatic 71, 3) := by decide +kernel
theorem dX1_copyFrom_62 : decode cX1_copyFrom 62 = .ok (.aload_n 1, 1) := by decide +kernel
theorem dX1_copyFrom_63 : decode cX1_copyFrom 63 = .ok (.getfield 22, 3) := by decide +kernel
theorem dX1_copyFrom_66 : decode cX1_copyFrom 66 = .ok (.iconst 0, 1) := by decide +kernel
theorem dX1_copyFrom_67 : decode cX1_copyFrom 67 = .ok (.aload_n 0, 1) := by decide +kernel
theorem dX1_copyFrom_68 : decode cX1_copyFrom 68 = .ok (.getfield 22, 3) := by decide +kernel
theorem dX1_copyFrom_71 : decode cX1_copyFrom 71 = .ok (.iconst 0, 1) := by decide +kernel
theorem dX1_copyFrom_72 : decode cX1_copyFrom 72 = .ok (.bipush 8, 2) := by decide +kernel
theorem dX1_copyFrom_74 : decode cX1_copyFrom 74 = .ok (.invokestatic 71, 3) := by decide +kernel
theorem dX1_copyFrom_77 : decode cX1_copyFrom 77 = .ok (.aload_n 1, 1) := by decide +kernel
theorem dX1_copyFrom_78 : decode cX1_copyFrom 78 = .ok (.getfield 25, 3) := by decide +kernel
theorem dX1_copyFrom_81 : decode cX1_copyFrom 81 = .ok (.iconst 0, 1) := by decide +kernel
theorem dX1_copyFrom_82 : decode cX1_copyFrom 82 = .ok (.aload_n 0, 1) := by decide +kernel
theorem dX1_copyFrom_83 : decode cX1_copyFrom 83 = .ok (.getfield 25, 3) := by decide +kernel
theorem dX1_copyFrom_86 : decode cX1_copyFrom 86 = .ok (.iconst 0, 1) := by decide +kernel
theorem dX1_copyFrom_87 : decode cX1_copyFrom 87 = .ok (.bipush 8, 2) := by decide +kernel
theorem dX1_copyFrom_89 : decode cX1_copyFrom 89 = .ok (.invokestatic 71, 3) := by decide +kernel
theorem dX1_copyFrom_92 : decode cX1_copyFrom 92 = .ok (.aload_n 1, 1) := by decide +kernel
theorem dX1_copyFrom_93 : decode cX1_copyFrom 93 = .ok (.getfield 28, 3) := by decide +kernel
theorem dX1_copyFrom_96 : decode cX1_copyFrom 96 = .ok (.iconst 0, 1) := by decide +kernel
theorem dX1_copyFrom_97 : decode cX1_copyFrom 97 = .ok (.aload_n 0, 1) := by decide +kernel
theorem dX1_copyFrom_98 : decode cX1_copyFrom 98 = .ok (.getfield 28, 3) := by decide +kernel
theorem dX1_copyFrom_101 : decode cX1_copyFrom 101 = .ok (.iconst 0, 1) := by decide +kernel
theorem dX1_copyFrom_102 : decode cX1_copyFrom 102 = .ok (.bipush 8, 2) := by decide +kernel
theorem dX1_copyFrom_104 : decode cX1_copyFrom 104 = .ok (.invokestatic 71, 3) := by decide +kernel
theorem dX1_copyFrom_107 : decode cX1_copyFrom 107 = .ok (.aload_n 1, 1) := by decide +kernel
theorem dX1_copyFrom_108 : decode cX1_copyFrom 108 = .ok (.getfield 31, 3) := by decide +kernel
theorem dX1_copyFrom_111 : decode cX1_copyFrom 111 = .ok (.iconst 0, 1) := by decide +kernel
theorem dX1_copyFrom_112 : decode cX1_copyFrom 112 = .ok (.aload_n 0, 1) := by decide +kernel
theorem dX1_copyFrom_113 : decode cX1_copyFrom 113 = .ok (.getfield 31, 3) := by decide +kernel
theorem dX1_copyFrom_116 : decode cX1_copyFrom 116 = .ok (.iconst 0, 1) := by decide +kernel
theorem dX1_copyFrom_117 : decode cX1_copyFrom 117 = .ok (.bipush 8, 2) := by decide +kernel
theorem dX1_copyFrom_119 : decode cX1_copyFrom 119 = .ok (.invokestatic 71, 3) := by decide +kernel
theorem dX1_copyFrom_122 : decode cX1_copyFrom 122 = .ok (.aload_n 1, 1) := by decide +kernel
theorem dX1_copyFrom_123 : decode cX1_copyFrom 123 = .ok (.getfield 34, 3) := by decide +kernel
theorem dX1_copyFrom_126 : decode cX1_copyFrom 126 = .ok (.iconst 0, 1) := by decide +kernel
theorem dX1_copyFrom_127 : decode cX1_copyFrom 127 = .ok (.aload_n 0, 1) := by decide +kernel
theorem dX1_copyFrom_128 : decode cX1_copyFrom 128 = .ok (.getfield 34, 3) := by decide +kernel
theorem dX1_copyFrom_131 : decode cX1_copyFrom 131 = .ok (.iconst 0, 1) := by decide +kernel
theorem dX1_copyFrom_132 : decode cX1_copyFrom 132 = .ok (.bipush 8, 2) := by decide +kernel
theorem dX1_copyFrom_134 : decode cX1_copyFrom 134 = .ok (.invokestatic 71, 3) := by decide +kernel
theorem dX1_copyFrom_137 : decode cX1_copyFrom 137 = .ok (.aload_n 1, 1) := by decide +kernel
theorem dX1_copyFrom_138 : decode cX1_copyFrom 138 = .ok (.getfield 37, 3) := by decide +kernel
theorem dX1_copyFrom_141 : decode cX1_copyFrom 141 = .ok (.iconst 0, 1) := by decide +kernel
theorem dX1_copyFrom_142 : decode cX1_copyFrom 142 = .ok (.aload_n 0, 1) := by decide +kernel
theorem dX1_copyFrom_143 : decode cX1_copyFrom 143 = .ok (.getfield 37, 3) := by decide +kernel
theorem dX1_copyFrom_146 : decode cX1_copyFrom 146 = .ok (.iconst 0, 1) := by decide +kernel
theorem dX1_copyFrom_147 : decode cX1_copyFrom 147 = .ok (.bipush 8, 2) := by decide +kernel
theorem dX1_copyFrom_149 : decode cX1_copyFrom 149 = .ok (.invokestatic 71, 3) := by decide +kernel
theorem dX1_copyFrom_152 : decode cX1_copyFrom 152 = .ok (.aload_n 1, 1) := by decide +kernel
theorem dX1_copyFrom_153 : decode cX1_copyFrom 153 = .ok (.getfield 40, 3) := by decide +kernel
theorem dX1_copyFrom_156 : decode cX1_copyFrom 156 = .ok (.iconst 0, 1) := by decide +kernel
theorem dX1_copyFrom_157 : decode cX1_copyFrom 157 = .ok (.aload_n 0, 1) := by decide +kernel
theorem dX1_copyFrom_158 : decode cX1_copyFrom 158 = .ok (.getfield 40, 3) := by decide +kernel
theorem dX1_copyFrom_161 : decode cX1_copyFrom 161 = .ok (.iconst 0, 1) := by decide +kernel
theorem dX1_copyFrom_162 : decode cX1_copyFrom 162 = .ok (.bipush 8, 2) := by decide +kernel
theorem dX1_copyFrom_164 : decode cX1_copyFrom 164 = .ok (.invokestatic 71, 3) := by decide +kernel
theorem dX1_copyFrom_167 : decode cX1_copyFrom 167 = .ok (.aload_n 1, 1) := by decide +kernel
theorem dX1_copyFrom_168 : decode cX1_copyFrom 168 = .ok (.getfield 43, 3) := by decide +kernel
theorem dX1_copyFrom_171 : decode cX1_copyFrom 171 = .ok (.iconst 0, 1) := by decide +kernel
theorem dX1_copyFrom_172 : decode cX1_copyFrom 172 = .ok (.aload_n 0, 1) := by decide +kernel
theorem dX1_copyFrom_173 : decode cX1_copyFrom 173 = .ok (.getfield 43, 3) := by decide +kernel
theorem dX1_copyFrom_176 : decode cX1_copyFrom 176 = .ok (.iconst 0, 1) := by decide +kernel
theorem dX1_copyFrom_177 : decode cX1_copyFrom 177 = .ok (.bipush 32, 2) := by decide +kernel
theorem dX1_copyFrom_179 : decode cX1_copyFrom 179 = .ok (.invokestatic 71, 3) := by decide +kernel
theorem dX1_copyFrom_182 : decode cX1_copyFrom 182 = .ok (.aload_n 0, 1) := by decide +kernel
theorem dX1_copyFrom_183 : decode cX1_copyFrom 183 = .ok (.getfield 49, 3) := by decide +kernel
theorem dX1_copyFrom_186 : decode cX1_copyFrom 186 = .ok (.aload_n 1, 1) := by decide +kernel
theorem dX1_copyFrom_187 : decode cX1_copyFrom 187 = .ok (.getfield 49, 3) := by decide +kernel
theorem dX1_copyFrom_190 : decode cX1_copyFrom 190 = .ok (.invokevirtual 77, 3) := by decide +kernel
theorem dX1_copyFrom_193 : decode cX1_copyFrom 193 = .ok (.return_, 1) := by decide +kernel
theorem dX1_add_0 : decode cX1_add 0 = .ok (.aload_n 0, 1) := by decide +kernel
theorem dX1_add_1 : decode cX1_add 1 = .ok (.getfield 62, 3) := by decide +kernel
theorem dX1_add_4 : decode cX1_add 4 = .ok (.istore 5, 2) := by decide +kernel
theorem dX1_add_6 : decode cX1_add 6 = .ok (.iload 5, 2) := by decide +kernel
theorem dX1_add_8 : decode cX1_add 8 = .ok (.bipush 7, 2) := by decide +kernel
theorem dX1_add_10 : decode cX1_add 10 = .ok (.imul, 1) := by decide +kernel
theorem dX1_add_11 : decode cX1_add 11 = .ok (.istore 6, 2) := by decide +kernel
theorem dX1_add_13 : decode cX1_add 13 = .ok (.aload_n 0, 1) := by decide +kernel
theorem dX1_add_14 : decode cX1_add 14 = .ok (.getfield 15, 3) := by decide +kernel
theorem dX1_add_17 : decode cX1_add 17 = .ok (.iload 6, 2) := by decide +kernel
theorem dX1_add_19 : decode cX1_add 19 = .ok (.iconst 0, 1) := by decide +kernel
theorem dX1_add_20 : decode cX1_add 20 = .ok (.iadd, 1) := by decide +kernel
theorem dX1_add_21 : decode cX1_add 21 = .ok (.iload_n 1, 1) := by decide +kernel
theorem dX1_add_22 : decode cX1_add 22 = .ok (.iastore, 1) := by decide +kernel
theorem dX1_add_23 : decode cX1_add 23 = .ok (.aload_n 0, 1) := by decide +kernel
theorem dX1_add_24 : decode cX1_add 24 = .ok (.getfield 15, 3) := by decide +kernel
theorem dX1_add_27 : decode cX1_add 27 = .ok (.iload 6, 2) := by decide +kernel
theorem dX1_add_29 : decode cX1_add 29 = .ok (.iconst 1, 1) := by decide +kernel
theorem dX1_add_30 : decode cX1_add 30 = .ok (.iadd, 1) := by decide +kernel
theorem dX1_add_31 : decode cX1_add 31 = .ok (.iload_n 2, 1) := by decide +kernel
theorem dX1_add_32 : decode cX1_add 32 = .ok (.iastore, 1) := by decide +kernel
theorem dX1_add_33 : decode cX1_add 33 = .ok (.aload_n 0, 1) := by decide +kernel
theorem dX1_add_34 : decode cX1_add 34 = .ok (.getfield 15, 3) := by decide +kernel
theorem dX1_add_37 : decode cX1_add 37 = .ok (.iload 6, 2) := by decide +kernel
theorem dX1_add_39 : decode cX1_add 39 = .ok (.iconst 2, 1) := by decide +kernel
theorem dX1_add_40 : decode cX1_add 40 = .ok (.iadd, 1) := by decide +kernel
theorem dX1_add_41 : decode cX1_add 41 = .ok (.iload_n 3, 1) := by decide +kernel
theorem dX1_add_42 : decode cX1_add 42 = .ok (.iastore, 1) := by decide +kernel
theorem dX1_add_43 : decode cX1_add 43 = .ok (.aload_n 0, 1) := by decide +kernel
theorem dX1_add_44 : decode cX1_add 44 = .ok (.getfield 15, 3) := by decide +kernel
theorem dX1_add_47 : decode cX1_add 47 = .ok (.iload 6, 2) := by decide +kernel
theorem dX1_add_49 : decode cX1_add 49 = .ok (.iconst 3, 1) := by decide +kernel
theorem dX1_add_50 : decode cX1_add 50 = .ok (.iadd, 1) := by decide +kernel
theorem dX1_add_51 : decode cX1_add 51 = .ok (.bipush 90, 2) := by decide +kernel
theorem dX1_add_53 : decode cX1_add 53 = .ok (.iastore, 1) := by decide +kernel
theorem dX1_add_54 : decode cX1_add 54 = .ok (.aload_n 0, 1) := by decide +kernel
theorem dX1_add_55 : decode cX1_add 55 = .ok (.getfield 15, 3) := by decide +kernel
theorem dX1_add_58 : decode cX1_add 58 = .ok (.iload 6, 2) := by decide +kernel
theorem dX1_add_60 : decode cX1_add 60 = .ok (.iconst 4, 1) := by decide +kernel
theorem dX1_add_61 : decode cX1_add 61 = .ok (.iadd, 1) := by decide +kernel
theorem dX1_add_62 : decode cX1_add 62 = .ok (.iconst 2, 1) := by decide +kernel
theorem dX1_add_63 : decode cX1_add 63 = .ok (.iastore, 1) := by decide +kernel
theorem dX1_add_64 : decode cX1_add 64 = .ok (.aload_n 0, 1) := by decide +kernel
theorem dX1_add_65 : decode cX1_add 65 = .ok (.getfield 15, 3) := by decide +kernel
theorem dX1_add_68 : decode cX1_add 68 = .ok (.iload 6, 2) := by decide +kernel
theorem dX1_add_70 : decode cX1_add 70 = .ok (.iconst 5, 1) := by decide +kernel
theorem dX1_add_71 : decode cX1_add 71 = .ok (.iadd, 1) := by decide +kernel
theorem dX1_add_72 : decode cX1_add 72 = .ok (.bipush 40, 2) := by decide +kernel
theorem dX1_add_74 : decode cX1_add 74 = .ok (.iastore, 1) := by decide +kernel
theorem dX1_add_75 : decode cX1_add 75 = .ok (.aload_n 0, 1) := by decide +kernel
theorem dX1_add_76 : decode cX1_add 76 = .ok (.getfield 15, 3) := by decide +kernel
theorem dX1_add_79 : decode cX1_add 79 = .ok (.iload 6, 2) := by decide +kernel
theorem dX1_add_81 : decode cX1_add 81 = .ok (.bipush 6, 2) := by decide +kernel
theorem dX1_add_83 : decode cX1_add 83 = .ok (.iadd, 1) := by decide +kernel
theorem dX1_add_84 : decode cX1_add 84 = .ok (.iconst 2, 1) := by decide +kernel
theorem dX1_add_85 : decode cX1_add 85 = .ok (.iastore, 1) := by decide +kernel
theorem dX1_add_86 : decode cX1_add 86 = .ok (.aload_n 0, 1) := by decide +kernel
theorem dX1_add_87 : decode cX1_add 87 = .ok (.getfield 19, 3) := by decide +kernel
theorem dX1_add_90 : decode cX1_add 90 = .ok (.iload 5, 2) := by decide +kernel
theorem dX1_add_92 : decode cX1_add 92 = .ok (.iload 4, 2) := by decide +kernel
theorem dX1_add_94 : decode cX1_add 94 = .ok (.iastore, 1) := by decide +kernel
theorem dX1_add_95 : decode cX1_add 95 = .ok (.aload_n 0, 1) := by decide +kernel
theorem dX1_add_96 : decode cX1_add 96 = .ok (.getfield 22, 3) := by decide +kernel
theorem dX1_add_99 : decode cX1_add 99 = .ok (.iload 5, 2) := by decide +kernel
theorem dX1_add_101 : decode cX1_add 101 = .ok (.iconst 0, 1) := by decide +kernel
theorem dX1_add_102 : decode cX1_add 102 = .ok (.iastore, 1) := by decide +kernel
theorem dX1_add_103 : decode cX1_add 103 = .ok (.aload_n 0, 1) := by decide +kernel
theorem dX1_add_104 : decode cX1_add 104 = .ok (.getfield 25, 3) := by decide +kernel
theorem dX1_add_107 : decode cX1_add 107 = .ok (.iload 5, 2) := by decide +kernel
theorem dX1_add_109 : decode cX1_add 109 = .ok (.iconst 0, 1) := by decide +kernel
theorem dX1_add_110 : decode cX1_add 110 = .ok (.iastore, 1) := by decide +kernel
theorem dX1_add_111 : decode cX1_add 111 = .ok (.aload_n 0, 1) := by decide +kernel
theorem dX1_add_112 : decode cX1_add 112 = .ok (.getfield 28, 3) := by decide +kernel
theorem dX1_add_115 : decode cX1_add 115 = .ok (.iload 5, 2) := by decide +kernel
theorem dX1_add_117 : decode cX1_add 117 = .ok (.iconst 0, 1) := by decide +kernel
theorem dX1_add_118 : decode cX1_add 118 = .ok (.iastore, 1) := by decide +kernel
theorem dX1_add_119 : decode cX1_add 119 = .ok (.aload_n 0, 1) := by decide +kernel
theorem dX1_add_120 : decode cX1_add 120 = .ok (.getfield 31, 3) := by decide +kernel
theorem dX1_add_123 : decode cX1_add 123 = .ok (.iload 5, 2) := by decide +kernel
theorem dX1_add_125 : decode cX1_add 125 = .ok (.iconst 0, 1) := by decide +kernel
theorem dX1_add_126 : decode cX1_add 126 = .ok (.iastore, 1) := by decide +kernel
theorem dX1_add_127 : decode cX1_add 127 = .ok (.aload_n 0, 1) := by decide +kernel
theorem dX1_add_128 : decode cX1_add 128 = .ok (.getfield 34, 3) := by decide +kernel
theorem dX1_add_131 : decode cX1_add 131 = .ok (.iload 5, 2) := by decide +kernel
theorem dX1_add_133 : decode cX1_add 133 = .ok (.iconst 0, 1) := by decide +kernel
theorem dX1_add_134 : decode cX1_add 134 = .ok (.iastore, 1) := by decide +kernel
theorem dX1_add_135 : decode cX1_add 135 = .ok (.aload_n 0, 1) := by decide +kernel
theorem dX1_add_136 : decode cX1_add 136 = .ok (.getfield 37, 3) := by decide +kernel
theorem dX1_add_139 : decode cX1_add 139 = .ok (.iload 5, 2) := by decide +kernel
theorem dX1_add_141 : decode cX1_add 141 = .ok (.iconst 0, 1) := by decide +kernel
theorem dX1_add_142 : decode cX1_add 142 = .ok (.iastore, 1) := by decide +kernel
theorem dX1_add_143 : decode cX1_add 143 = .ok (.aload_n 0, 1) := by decide +kernel
theorem dX1_add_144 : decode cX1_add 144 = .ok (.getfield 40, 3) := by decide +kernel
theorem dX1_add_147 : decode cX1_add 147 = .ok (.iload 5, 2) := by decide +kernel
theorem dX1_add_149 : decode cX1_add 149 = .ok (.iconst (-1), 1) := by decide +kernel
theorem dX1_add_150 : decode cX1_add 150 = .ok (.iastore, 1) := by decide +kernel
theorem dX1_add_151 : decode cX1_add 151 = .ok (.iconst 0, 1) := by decide +kernel
theorem dX1_add_152 : decode cX1_add 152 = .ok (.istore 7, 2) := by decide +kernel
theorem dX1_add_154 : decode cX1_add 154 = .ok (.iload 7, 2) := by decide +kernel
theorem dX1_add_156 : decode cX1_add 156 = .ok (.iconst 4, 1) := by decide +kernel
theorem dX1_add_157 : decode cX1_add 157 = .ok (.if_icmp .ge 22, 3) := by decide +kernel
theorem dX1_add_160 : decode cX1_add 160 = .ok (.aload_n 0, 1) := by decide +kernel
theorem dX1_add_161 : decode cX1_add 161 = .ok (.getfield 43, 3) := by decide +kernel
theorem dX1_add_164 : decode cX1_add 164 = .ok (.iload 5, 2) := by decide +kernel
theorem dX1_add_166 : decode cX1_add 166 = .ok (.iconst 4, 1) := by decide +kernel
theorem dX1_add_167 : decode cX1_add 167 = .ok (.imul, 1) := by decide +kernel
theorem dX1_add_168 : decode cX1_add 168 = .ok (.iload 7, 2) := by decide +kernel
theorem dX1_add_170 : decode cX1_add 170 = .ok (.iadd, 1) := by decide +kernel
theorem dX1_add_171 : decode cX1_add 171 = .ok (.iconst 0, 1) := by decide +kernel
theorem dX1_add_172 : decode cX1_add 172 = .ok (.iastore, 1) := by decide +kernel
theorem dX1_add_173 : decode cX1_add 173 = .ok (.iinc 7 1, 3) := by decide +kernel
theorem dX1_add_176 : decode cX1_add 176 = .ok (.goto (-22), 3) := by decide +kernel
theorem dX1_add_179 : decode cX1_add 179 = .ok (.aload_n 0, 1) := by decide +kernel
theorem dX1_add_180 : decode cX1_add 180 = .ok (.dup, 1) := by decide +kernel
theorem dX1_add_181 : decode cX1_add 181 = .ok (.getfield 62, 3) := by decide +kernel
theorem dX1_add_184 : decode cX1_add 184 = .ok (.iconst 1, 1) := by decide +kernel
theorem dX1_add_185 : decode cX1_add 185 = .ok (.iadd, 1) := by decide +kernel
theorem dX1_add_186 : decode cX1_add 186 = .ok (.putfield 62, 3) := by decide +kernel
theorem dX1_add_189 : decode cX1_add 189 = .ok (.return_, 1) := by decide +kernel
theorem dX1_propertyOf_0 : decode cX1_propertyOf 0 = .ok (.aload_n 0, 1) := by decide +kernel
theorem dX1_propertyOf_1 : decode cX1_propertyOf 1 = .ok (.getfield 15, 3) := by decide +kernel
theorem dX1_propertyOf_4 : decode cX1_propertyOf 4 = .ok (.iload_n 1, 1) := by decide +kernel
theorem dX1_propertyOf_5 : decode cX1_propertyOf 5 = .ok (.bipush 7, 2) := by decide +kernel
theorem dX1_propertyOf_7 : decode cX1_propertyOf 7 = .ok (.imul, 1) := by decide +kernel
theorem dX1_propertyOf_8 : decode cX1_propertyOf 8 = .ok (.iload_n 2, 1) := by decide +kernel
theorem dX1_propertyOf_9 : decode cX1_propertyOf 9 = .ok (.iadd, 1) := by decide +kernel
theorem dX1_propertyOf_10 : decode cX1_propertyOf 10 = .ok (.iaload, 1) := by decide +kernel
theorem dX1_propertyOf_11 : decode cX1_propertyOf 11 = .ok (.ireturn, 1) := by decide +kernel
theorem dX1_isWanted_0 : decode cX1_isWanted 0 = .ok (.aload_n 0, 1) := by decide +kernel
theorem dX1_isWanted_1 : decode cX1_isWanted 1 = .ok (.getfield 68, 3) := by decide +kernel
theorem dX1_isWanted_4 : decode cX1_isWanted 4 = .ok (.iconst 1, 1) := by decide +kernel
theorem dX1_isWanted_5 : decode cX1_isWanted 5 = .ok (.iload_n 1, 1) := by decide +kernel
theorem dX1_isWanted_6 : decode cX1_isWanted 6 = .ok (.ishl, 1) := by decide +kernel
theorem dX1_isWanted_7 : decode cX1_isWanted 7 = .ok (.iand, 1) := by decide +kernel
theorem dX1_isWanted_8 : decode cX1_isWanted 8 = .ok (.ifCond .eq 7, 3) := by decide +kernel
theorem dX1_isWanted_11 : decode cX1_isWanted 11 = .ok (.iconst 1, 1) := by decide +kernel
theorem dX1_isWanted_12 : decode cX1_isWanted 12 = .ok (.goto 4, 3) := by decide +kernel
theorem dX1_isWanted_15 : decode cX1_isWanted 15 = .ok (.iconst 0, 1) := by decide +kernel
theorem dX1_isWanted_16 : decode cX1_isWanted 16 = .ok (.ireturn, 1) := by decide +kernel
theorem dX1_isDischarged_0 : decode cX1_isDischarged 0 = .ok (.aload_n 0, 1) := by decide +kernel
theorem dX1_isDischarged_1 : decode cX1_isDischarged 1 = .ok (.getfield 25, 3) := by decide +kernel
theorem dX1_isDischarged_4 : decode cX1_isDischarged 4 = .ok (.iload_n 1, 1) := by decide +kernel
theorem dX1_isDischarged_5 : decode cX1_isDischarged 5 = .ok (.iaload, 1) := by decide +kernel
theorem dX1_isDischarged_6 : decode cX1_isDischarged 6 = .ok (.aload_n 0, 1) := by decide +kernel
theorem dX1_isDischarged_7 : decode cX1_isDischarged 7 = .ok (.getfield 9, 3) := by decide +kernel
theorem dX1_isDischarged_10 : decode cX1_isDischarged 10 = .ok (.if_icmp .gt 7, 3) := by decide +kernel
theorem dX1_isDischarged_13 : decode cX1_isDischarged 13 = .ok (.iconst 1, 1) := by decide +kernel
theorem dX1_isDischarged_14 : decode cX1_isDischarged 14 = .ok (.goto 4, 3) := by decide +kernel
theorem dX1_isDischarged_17 : decode cX1_isDischarged 17 = .ok (.iconst 0, 1) := by decide +kernel
theorem dX1_isDischarged_18 : decode cX1_isDischarged 18 = .ok (.ireturn, 1) := by decide +kernel
theorem dX1_hasFlag_0 : decode cX1_hasFlag 0 = .ok (.aload_n 0, 1) := by decide +kernel
theorem dX1_hasFlag_1 : decode cX1_hasFlag 1 = .ok (.getfield 28, 3) := by decide +kernel
theorem dX1_hasFlag_4 : decode cX1_hasFlag 4 = .ok (.iload_n 1, 1) := by decide +kernel
theorem dX1_hasFlag_5 : decode cX1_hasFlag 5 = .ok (.iaload, 1) := by decide +kernel
theorem dX1_hasFlag_6 : decode cX1_hasFlag 6 = .ok (.ifCond .eq 19, 3) := by decide +kernel
theorem dX1_hasFlag_9 : decode cX1_hasFlag 9 = .ok (.aload_n 0, 1) := by decide +kernel
theorem dX1_hasFlag_10 : decode cX1_hasFlag 10 = .ok (.getfield 28, 3) := by decide +kernel
theorem dX1_hasFlag_13 : decode cX1_hasFlag 13 = .ok (.iload_n 1, 1) := by decide +kernel
theorem dX1_hasFlag_14 : decode cX1_hasFlag 14 = .ok (.iaload, 1) := by decide +kernel
theorem dX1_hasFlag_15 : decode cX1_hasFlag 15 = .ok (.iconst 2, 1) := by decide +kernel
theorem dX1_hasFlag_16 : decode cX1_hasFlag 16 = .ok (.if_icmp .ne 7, 3) := by decide +kernel
theorem dX1_hasFlag_19 : decode cX1_hasFlag 19 = .ok (.iconst 1, 1) := by decide +kernel
theorem dX1_hasFlag_20 : decode cX1_hasFlag 20 = .ok (.goto 4, 3) := by decide +kernel
theorem dX1_hasFlag_23 : decode cX1_hasFlag 23 = .ok (.iconst 0, 1) := by decide +kernel
theorem dX1_hasFlag_24 : decode cX1_hasFlag 24 = .ok (.ireturn, 1) := by decide +kernel
theorem dX1_hasFlag_25 : decode cX1_hasFlag 25 = .ok (.iload_n 1, 1) := by decide +kernel
theorem dX1_hasFlag_26 : decode cX1_hasFlag 26 = .ok (.bipush 7, 2) := by decide +kernel
theorem dX1_hasFlag_28 : decode cX1_hasFlag 28 = .ok (.imul, 1) := by decide +kernel
theorem dX1_hasFlag_29 : decode cX1_hasFlag 29 = .ok (.istore_n 2, 1) := by decide +kernel
theorem dX1_hasFlag_30 : decode cX1_hasFlag 30 = .ok (.aload_n 0, 1) := by decide +kernel
theorem dX1_hasFlag_31 : decode cX1_hasFlag 31 = .ok (.getfield 25, 3) := by decide +kernel
theorem dX1_hasFlag_34 : decode cX1_hasFlag 34 = .ok (.iload_n 1, 1) := by decide +kernel
theorem dX1_hasFlag_35 : decode cX1_hasFlag 35 = .ok (.iaload, 1) := by decide +kernel
theorem dX1_hasFlag_36 : decode cX1_hasFlag 36 = .ok (.bipush 100, 2) := by decide +kernel
theorem dX1_hasFlag_38 : decode cX1_hasFlag 38 = .ok (.imul, 1) := by decide +kernel
theorem dX1_hasFlag_39 : decode cX1_hasFlag 39 = .ok (.aload_n 0, 1) := by decide +kernel
theorem dX1_hasFlag_40 : decode cX1_hasFlag 40 = .ok (.getfield 15, 3) := by decide +kernel
theorem dX1_hasFlag_43 : decode cX1_hasFlag 43 = .ok (.iload_n 2, 1) := by decide +kernel
theorem dX1_hasFlag_44 : decode cX1_hasFlag 44 = .ok (.iconst 0, 1) := by decide +kernel
theorem dX1_hasFlag_45 : decode cX1_hasFlag 45 = .ok (.iadd, 1) := by decide +kernel
theorem dX1_hasFlag_46 : decode cX1_hasFlag 46 = .ok (.iaload, 1) := by decide +kernel
theorem dX1_hasFlag_47 : decode cX1_hasFlag 47 = .ok (.aload_n 0, 1) := by decide +kernel
theorem dX1_hasFlag_48 : decode cX1_hasFlag 48 = .ok (.getfield 15, 3) := by decide +kernel
theorem dX1_hasFlag_51 : decode cX1_hasFlag 51 = .ok (.iload_n 2, 1) := by decide +kernel
theorem dX1_hasFlag_52 : decode cX1_hasFlag 52 = .ok (.iconst 3, 1) := by decide +kernel
theorem dX1_hasFlag_53 : decode cX1_hasFlag 53 = .ok (.iadd, 1) := by decide +kernel
theorem dX1_hasFlag_54 : decode cX1_hasFlag 54 = .ok (.iaload, 1) := by decide +kernel
theorem dX1_hasFlag_55 : decode cX1_hasFlag 55 = .ok (.imul, 1) := by decide +kernel
theorem dX1_hasFlag_56 : decode cX1_hasFlag 56 = .ok (.if_icmp .lt 7, 3) := by decide +kernel
theorem dX1_hasFlag_59 : decode cX1_hasFlag 59 = .ok (.iconst 1, 1) := by decide +kernel
theorem dX1_hasFlag_60 : decode cX1_hasFlag 60 = .ok (.goto 4, 3) := by decide +kernel
theorem dX1_hasFlag_63 : decode cX1_hasFlag 63 = .ok (.iconst 0, 1) := by decide +kernel
theorem dX1_hasFlag_64 : decode cX1_hasFlag 64 = .ok (.ireturn, 1) := by decide +kernel
theorem dX1_numberOf_0 : decode cX1_numberOf 0 = .ok (.iload_n 2, 1) := by decide +kernel
theorem dX1_numberOf_1 : decode cX1_numberOf 1 = .ok (.tableswitch 167 7 18 #[63, 70, 84, 98, 105, 112, 126, 133, 140, 147, 154, 161], 63) := by decide +kernel
theorem dX1_numberOf_64 : decode cX1_numberOf 64 = .ok (.aload_n 0, 1) := by decide +kernel
theorem dX1_numberOf_65 : decode cX1_numberOf 65 = .ok (.getfield 19, 3) := by decide +kernel
theorem dX1_numberOf_68 : decode cX1_numberOf 68 = .ok (.iload_n 1, 1) := by decide +kernel
theorem dX1_numberOf_69 : decode cX1_numberOf 69 = .ok (.iaload, 1) := by decide +kernel
theorem dX1_numberOf_70 : decode cX1_numberOf 70 = .ok (.ireturn, 1) := by decide +kernel
theorem dX1_numberOf_71 : decode cX1_numberOf 71 = .ok (.aload_n 0, 1) := by decide +kernel
theorem dX1_numberOf_72 : decode cX1_numberOf 72 = .ok (.iconst 1, 1) := by decide +kernel
theorem dX1_numberOf_73 : decode cX1_numberOf 73 = .ok (.iload_n 1, 1) := by decide +kernel
theorem dX1_numberOf_74 : decode cX1_numberOf 74 = .ok (.ishl, 1) := by decide +kernel
theorem dX1_numberOf_75 : decode cX1_numberOf 75 = .ok (.invokevirtual 81, 3) := by decide +kernel
theorem dX1_numberOf_78 : decode cX1_numberOf 78 = .ok (.iconst 1, 1) := by decide +kernel
theorem dX1_numberOf_79 : decode cX1_numberOf 79 = .ok (.iload_n 1, 1) := by decide +kernel
theorem dX1_numberOf_80 : decode cX1_numberOf 80 = .ok (.ishl, 1) := by decide +kernel
theorem dX1_numberOf_81 : decode cX1_numberOf 81 = .ok (.iconst (-1), 1) := by decide +kernel
theorem dX1_numberOf_82 : decode cX1_numberOf 82 = .ok (.ixor, 1) := by decide +kernel
theorem dX1_numberOf_83 : decode cX1_numberOf 83 = .ok (.iand, 1) := by decide +kernel
theorem dX1_numberOf_84 : decode cX1_numberOf 84 = .ok (.ireturn, 1) := by decide +kernel
theorem dX1_numberOf_85 : decode cX1_numberOf 85 = .ok (.aload_n 0, 1) := by decide +kernel
theorem dX1_numberOf_86 : decode cX1_numberOf 86 = .ok (.iload_n 1, 1) := by decide +kernel
theorem dX1_numberOf_87 : decode cX1_numberOf 87 = .ok (.invokevirtual 85, 3) := by decide +kernel
theorem dX1_numberOf_90 : decode cX1_numberOf 90 = .ok (.ifCond .eq 7, 3) := by decide +kernel
theorem dX1_numberOf_93 : decode cX1_numberOf 93 = .ok (.iconst 1, 1) := by decide +kernel
theorem dX1_numberOf_94 : decode cX1_numberOf 94 = .ok (.goto 4, 3) := by decide +kernel
theorem dX1_numberOf_97 : decode cX1_numberOf 97 = .ok (.iconst 0, 1) := by decide +kernel
theorem dX1_numberOf_98 : decode cX1_numberOf 98 = .ok (.ireturn, 1) := by decide +kernel
theorem dX1_numberOf_99 : decode cX1_numberOf 99 = .ok (.aload_n 0, 1) := by decide +kernel
theorem dX1_numberOf_100 : decode cX1_numberOf 100 = .ok (.getfield 22, 3) := by decide +kernel
theorem dX1_numberOf_103 : decode cX1_numberOf 103 = .ok (.iload_n 1, 1) := by decide +kernel
theorem dX1_numberOf_104 : decode cX1_numberOf 104 = .ok (.iaload, 1) := by decide +kernel
theorem dX1_numberOf_105 : decode cX1_numberOf 105 = .ok (.ireturn, 1) := by decide +kernel
theorem dX1_numberOf_106 : decode cX1_numberOf 106 = .ok (.aload_n 0, 1) := by decide +kernel
theorem dX1_numberOf_107 : decode cX1_numberOf 107 = .ok (.getfield 25, 3) := by decide +kernel
theorem dX1_numberOf_110 : decode cX1_numberOf 110 = .ok (.iload_n 1, 1) := by decide +kernel
theorem dX1_numberOf_111 : decode cX1_numberOf 111 = .ok (.iaload, 1) := by decide +kernel
theorem dX1_numberOf_112 : decode cX1_numberOf 112 = .ok (.ireturn, 1) := by decide +kernel
theorem dX1_numberOf_113 : decode cX1_numberOf 113 = .ok (.aload_n 0, 1) := by decide +kernel
theorem dX1_numberOf_114 : decode cX1_numberOf 114 = .ok (.iload_n 1, 1) := by decide +kernel
theorem dX1_numberOf_115 : decode cX1_numberOf 115 = .ok (.invokevirtual 89, 3) := by decide +kernel
theorem dX1_numberOf_118 : decode cX1_numberOf 118 = .ok (.ifCond .eq 7, 3) := by decide +kernel
theorem dX1_numberOf_121 : decode cX1_numberOf 121 = .ok (.iconst 1, 1) := by decide +kernel
theorem dX1_numberOf_122 : decode cX1_numberOf 122 = .ok (.goto 4, 3) := by decide +kernel
theorem dX1_numberOf_125 : decode cX1_numberOf 125 = .ok (.iconst 0, 1) := by decide +kernel
theorem dX1_numberOf_126 : decode cX1_numberOf 126 = .ok (.ireturn, 1) := by decide +kernel
theorem dX1_numberOf_127 : decode cX1_numberOf 127 = .ok (.aload_n 0, 1) := by decide +kernel
theorem dX1_numberOf_128 : decode cX1_numberOf 128 = .ok (.getfield 28, 3) := by decide +kernel
theorem dX1_numberOf_131 : decode cX1_numberOf 131 = .ok (.iload_n 1, 1) := by decide +kernel
theorem dX1_numberOf_132 : decode cX1_numberOf 132 = .ok (.iaload, 1) := by decide +kernel
theorem dX1_numberOf_133 : decode cX1_numberOf 133 = .ok (.ireturn, 1) := by decide +kernel
theorem dX1_numberOf_134 : decode cX1_numberOf 134 = .ok (.aload_n 0, 1) := by decide +kernel
theorem dX1_numberOf_135 : decode cX1_numberOf 135 = .ok (.getfield 31, 3) := by decide +kernel
theorem dX1_numberOf_138 : decode cX1_numberOf 138 = .ok (.iload_n 1, 1) := by decide +kernel
theorem dX1_numberOf_139 : decode cX1_numberOf 139 = .ok (.iaload, 1) := by decide +kernel
theorem dX1_numberOf_140 : decode cX1_numberOf 140 = .ok (.ireturn, 1) := by decide +kernel
theorem dX1_numberOf_141 : decode cX1_numberOf 141 = .ok (.aload_n 0, 1) := by decide +kernel
theorem dX1_numberOf_142 : decode cX1_numberOf 142 = .ok (.getfield 34, 3) := by decide +kernel
theorem dX1_numberOf_145 : decode cX1_numberOf 145 = .ok (.iload_n 1, 1) := by decide +kernel
theorem dX1_numberOf_146 : decode cX1_numberOf 146 = .ok (.iaload, 1) := by decide +kernel
theorem dX1_numberOf_147 : decode cX1_numberOf 147 = .ok (.ireturn, 1) := by decide +kernel
theorem dX1_numberOf_148 : decode cX1_numberOf 148 = .ok (.aload_n 0, 1) := by decide +kernel
theorem dX1_numberOf_149 : decode cX1_numberOf 149 = .ok (.getfield 37, 3) := by decide +kernel
theorem dX1_numberOf_152 : decode cX1_numberOf 152 = .ok (.iload_n 1, 1) := by decide +kernel
theorem dX1_numberOf_153 : decode cX1_numberOf 153 = .ok (.iaload, 1) := by decide +kernel
theorem dX1_numberOf_154 : decode cX1_numberOf 154 = .ok (.ireturn, 1) := by decide +kernel
theorem dX1_numberOf_155 : decode cX1_numberOf 155 = .ok (.aload_n 0, 1) := by decide +kernel
theorem dX1_numberOf_156 : decode cX1_numberOf 156 = .ok (.getfield 40, 3) := by decide +kernel
theorem dX1_numberOf_159 : decode cX1_numberOf 159 = .ok (.iload_n 1, 1) := by decide +kernel
theorem dX1_numberOf_160 : decode cX1_numberOf 160 = .ok (.iaload, 1) := by decide +kernel
theorem dX1_numberOf_161 : decode cX1_numberOf 161 = .ok (.ireturn, 1) := by decide +kernel
theorem dX1_numberOf_162 : decode cX1_numberOf 162 = .ok (.aload_n 0, 1) := by decide +kernel
theorem dX1_numberOf_163 : decode cX1_numberOf 163 = .ok (.iload_n 1, 1) := by decide +kernel
theorem dX1_numberOf_164 : decode cX1_numberOf 164 = .ok (.invokevirtual 92, 3) := by decide +kernel
theorem dX1_numberOf_167 : decode cX1_numberOf 167 = .ok (.ireturn, 1) := by decide +kernel
theorem dX1_numberOf_168 : decode cX1_numberOf 168 = .ok (.aload_n 0, 1) := by decide +kernel
theorem dX1_numberOf_169 : decode cX1_numberOf 169 = .ok (.iload_n 1, 1) := by decide +kernel
theorem dX1_numberOf_170 : decode cX1_numberOf 170 = .ok (.iload_n 2, 1) := by decide +kernel
theorem dX1_numberOf_171 : decode cX1_numberOf 171 = .ok (.invokevirtual 95, 3) := by decide +kernel
theorem dX1_numberOf_174 : decode cX1_numberOf 174 = .ok (.ireturn, 1) := by decide +kernel
theorem dX1_firstBlameOf_0 : decode cX1_firstBlameOf 0 = .ok (.aload_n 0, 1) := by decide +kernel
theorem dX1_firstBlameOf_1 : decode cX1_firstBlameOf 1 = .ok (.getfield 40, 3) := by decide +kernel
theorem dX1_firstBlameOf_4 : decode cX1_firstBlameOf 4 = .ok (.iload_n 1, 1) := by decide +kernel
theorem dX1_firstBlameOf_5 : decode cX1_firstBlameOf 5 = .ok (.iaload, 1) := by decide +kernel
theorem dX1_firstBlameOf_6 : decode cX1_firstBlameOf 6 = .ok (.iconst (-1), 1) := by decide +kernel
theorem dX1_firstBlameOf_7 : decode cX1_firstBlameOf 7 = .ok (.if_icmp .ne 5, 3) := by decide +kernel
theorem dX1_firstBlameOf_10 : decode cX1_firstBlameOf 10 = .ok (.iconst (-1), 1) := by decide +kernel
theorem dX1_firstBlameOf_11 : decode cX1_firstBlameOf 11 = .ok (.ireturn, 1) := by decide +kernel
theorem dX1_firstBlameOf_12 : decode cX1_firstBlameOf 12 = .ok (.iload_n 1, 1) := by decide +kernel
theorem dX1_firstBlameOf_13 : decode cX1_firstBlameOf 13 = .ok (.istore_n 2, 1) := by decide +kernel
theorem dX1_firstBlameOf_14 : decode cX1_firstBlameOf 14 = .ok (.iconst 0, 1) := by decide +kernel
theorem dX1_firstBlameOf_15 : decode cX1_firstBlameOf 15 = .ok (.istore_n 3, 1) := by decide +kernel
theorem dX1_firstBlameOf_16 : decode cX1_firstBlameOf 16 = .ok (.iload_n 3, 1) := by decide +kernel
theorem dX1_firstBlameOf_17 : decode cX1_firstBlameOf 17 = .ok (.bipush 8, 2) := by decide +kernel
theorem dX1_firstBlameOf_19 : decode cX1_firstBlameOf 19 = .ok (.if_icmp .ge 26, 3) := by decide +kernel
theorem dX1_firstBlameOf_22 : decode cX1_firstBlameOf 22 = .ok (.aload_n 0, 1) := by decide +kernel
theorem dX1_firstBlameOf_23 : decode cX1_firstBlameOf 23 = .ok (.getfield 40, 3) := by decide +kernel
theorem dX1_firstBlameOf_26 : decode cX1_firstBlameOf 26 = .ok (.iload_n 2, 1) := by decide +kernel
theorem dX1_firstBlameOf_27 : decode cX1_firstBlameOf 27 = .ok (.iaload, 1) := by decide +kernel
theorem dX1_firstBlameOf_28 : decode cX1_firstBlameOf 28 = .ok (.iconst (-1), 1) := by decide +kernel
theorem dX1_firstBlameOf_29 : decode cX1_firstBlameOf 29 = .ok (.if_icmp .eq 16, 3) := by decide +kernel
theorem dX1_firstBlameOf_32 : decode cX1_firstBlameOf 32 = .ok (.aload_n 0, 1) := by decide +kernel
theorem dX1_firstBlameOf_33 : decode cX1_firstBlameOf 33 = .ok (.getfield 40, 3) := by decide +kernel
theorem dX1_firstBlameOf_36 : decode cX1_firstBlameOf 36 = .ok (.iload_n 2, 1) := by decide +kernel
theorem dX1_firstBlameOf_37 : decode cX1_firstBlameOf 37 = .ok (.iaload, 1) := by decide +kernel
theorem dX1_firstBlameOf_38 : decode cX1_firstBlameOf 38 = .ok (.istore_n 2, 1) := by decide +kernel
theorem dX1_firstBlameOf_39 : decode cX1_firstBlameOf 39 = .ok (.iinc 3 1, 3) := by decide +kernel
theorem dX1_firstBlameOf_42 : decode cX1_firstBlameOf 42 = .ok (.goto (-26), 3) := by decide +kernel
theorem dX1_firstBlameOf_45 : decode cX1_firstBlameOf 45 = .ok (.iload_n 2, 1) := by decide +kernel
theorem dX1_firstBlameOf_46 : decode cX1_firstBlameOf 46 = .ok (.ireturn, 1) := by decide +kernel
theorem dX1_leastPatienceOf_0 : decode cX1_leastPatienceOf 0 = .ok (.aload_n 0, 1) := by decide +kernel
theorem dX1_leastPatienceOf_1 : decode cX1_leastPatienceOf 1 = .ok (.iload_n 1, 1) := by decide +kernel
theorem dX1_leastPatienceOf_2 : decode cX1_leastPatienceOf 2 = .ok (.iconst 0, 1) := by decide +kernel
theorem dX1_leastPatienceOf_3 : decode cX1_leastPatienceOf 3 = .ok (.invokevirtual 95, 3) := by decide +kernel
theorem dX1_leastPatienceOf_6 : decode cX1_leastPatienceOf 6 = .ok (.aload_n 0, 1) := by decide +kernel
theorem dX1_leastPatienceOf_7 : decode cX1_leastPatienceOf 7 = .ok (.iload_n 1, 1) := by decide +kernel
theorem dX1_leastPatienceOf_8 : decode cX1_leastPatienceOf 8 = .ok (.iconst 3, 1) := by decide +kernel
theorem dX1_leastPatienceOf_9 : decode cX1_leastPatienceOf 9 = .ok (.invokevirtual 95, 3) := by decide +kernel
theorem dX1_leastPatienceOf_12 : decode cX1_leastPatienceOf 12 = .ok (.imul, 1) := by decide +kernel
theorem dX1_leastPatienceOf_13 : decode cX1_leastPatienceOf 13 = .ok (.istore_n 2, 1) := by decide +kernel
theorem dX1_leastPatienceOf_14 : decode cX1_leastPatienceOf 14 = .ok (.aload_n 0, 1) := by decide +kernel
theorem dX1_leastPatienceOf_15 : decode cX1_leastPatienceOf 15 = .ok (.iload_n 1, 1) := by decide +kernel
theorem dX1_leastPatienceOf_16 : decode cX1_leastPatienceOf 16 = .ok (.iconst 1, 1) := by decide +kernel
theorem dX1_leastPatienceOf_17 : decode cX1_leastPatienceOf 17 = .ok (.invokevirtual 95, 3) := by decide +kernel
theorem dX1_leastPatienceOf_20 : decode cX1_leastPatienceOf 20 = .ok (.bipush 100, 2) := by decide +kernel
theorem dX1_leastPatienceOf_22 : decode cX1_leastPatienceOf 22 = .ok (.imul, 1) := by decide +kernel
theorem dX1_leastPatienceOf_23 : decode cX1_leastPatienceOf 23 = .ok (.istore_n 3, 1) := by decide +kernel
theorem dX1_leastPatienceOf_24 : decode cX1_leastPatienceOf 24 = .ok (.getstatic 99, 3) := by decide +kernel
theorem dX1_leastPatienceOf_27 : decode cX1_leastPatienceOf 27 = .ok (.iconst 5, 1) := by decide +kernel
theorem dX1_leastPatienceOf_28 : decode cX1_leastPatienceOf 28 = .ok (.iaload, 1) := by decide +kernel
theorem dX1_leastPatienceOf_29 : decode cX1_leastPatienceOf 29 = .ok (.istore 4, 2) := by decide +kernel
theorem dX1_leastPatienceOf_31 : decode cX1_leastPatienceOf 31 = .ok (.iload 4, 2) := by decide +kernel
theorem dX1_leastPatienceOf_33 : decode cX1_leastPatienceOf 33 = .ok (.getstatic 102, 3) := by decide +kernel
theorem dX1_leastPatienceOf_36 : decode cX1_leastPatienceOf 36 = .ok (.iconst 5, 1) := by decide +kernel
theorem dX1_leastPatienceOf_37 : decode cX1_leastPatienceOf 37 = .ok (.iaload, 1) := by decide +kernel
theorem dX1_leastPatienceOf_38 : decode cX1_leastPatienceOf 38 = .ok (.if_icmp .gt 20, 3) := by decide +kernel
theorem dX1_leastPatienceOf_41 : decode cX1_leastPatienceOf 41 = .ok (.iload 4, 2) := by decide +kernel
theorem dX1_leastPatienceOf_43 : decode cX1_leastPatienceOf 43 = .ok (.iload_n 3, 1) := by decide +kernel
theorem dX1_leastPatienceOf_44 : decode cX1_leastPatienceOf 44 = .ok (.imul, 1) := by decide +kernel
theorem dX1_leastPatienceOf_45 : decode cX1_leastPatienceOf 45 = .ok (.iload_n 2, 1) := by decide +kernel
theorem dX1_leastPatienceOf_46 : decode cX1_leastPatienceOf 46 = .ok (.if_icmp .lt 6, 3) := by decide +kernel
theorem dX1_leastPatienceOf_49 : decode cX1_leastPatienceOf 49 = .ok (.iload 4, 2) := by decide +kernel
theorem dX1_leastPatienceOf_51 : decode cX1_leastPatienceOf 51 = .ok (.ireturn, 1) := by decide +kernel
theorem dX1_leastPatienceOf_52 : decode cX1_leastPatienceOf 52 = .ok (.iinc 4 1, 3) := by decide +kernel
theorem dX1_leastPatienceOf_55 : decode cX1_leastPatienceOf 55 = .ok (.goto (-24), 3) := by decide +kernel
theorem dX1_leastPatienceOf_58 : decode cX1_leastPatienceOf 58 = .ok (.iconst (-1), 1) := by decide +kernel
theorem dX1_leastPatienceOf_59 : decode cX1_leastPatienceOf 59 = .ok (.ireturn, 1) := by decide +kernel
theorem dX1_withAllNeeded_0 : decode cX1_withAllNeeded 0 = .ok (.iload_n 1, 1) := by decide +kernel
theorem dX1_withAllNeeded_1 : decode cX1_withAllNeeded 1 = .ok (.istore_n 2, 1) := by decide +kernel
theorem dX1_withAllNeeded_2 : decode cX1_withAllNeeded 2 = .ok (.aload_n 0, 1) := by decide +kernel
theorem dX1_withAllNeeded_3 : decode cX1_withAllNeeded 3 = .ok (.getfield 62, 3) := by decide +kernel
theorem dX1_withAllNeeded_6 : decode cX1_withAllNeeded 6 = .ok (.iconst 1, 1) := by decide +kernel
theorem dX1_withAllNeeded_7 : decode cX1_withAllNeeded 7 = .ok (.isub, 1) := by decide +kernel
theorem dX1_withAllNeeded_8 : decode cX1_withAllNeeded 8 = .ok (.istore_n 3, 1) := by decide +kernel
theorem dX1_withAllNeeded_9 : decode cX1_withAllNeeded 9 = .ok (.iload_n 3, 1) := by decide +kernel
theorem dX1_withAllNeeded_10 : decode cX1_withAllNeeded 10 = .ok (.ifCond .lt 26, 3) := by decide +kernel
theorem dX1_withAllNeeded_13 : decode cX1_withAllNeeded 13 = .ok (.iload_n 2, 1) := by decide +kernel
theorem dX1_withAllNeeded_14 : decode cX1_withAllNeeded 14 = .ok (.iconst 1, 1) := by decide +kernel
theorem dX1_withAllNeeded_15 : decode cX1_withAllNeeded 15 = .ok (.iload_n 3, 1) := by decide +kernel
theorem dX1_withAllNeeded_16 : decode cX1_withAllNeeded 16 = .ok (.ishl, 1) := by decide +kernel
theorem dX1_withAllNeeded_17 : decode cX1_withAllNeeded 17 = .ok (.iand, 1) := by decide +kernel
theorem dX1_withAllNeeded_18 : decode cX1_withAllNeeded 18 = .ok (.ifCond .eq 12, 3) := by decide +kernel
theorem dX1_withAllNeeded_21 : decode cX1_withAllNeeded 21 = .ok (.iload_n 2, 1) := by decide +kernel
theorem dX1_withAllNeeded_22 : decode cX1_withAllNeeded 22 = .ok (.aload_n 0, 1) := by decide +kernel
theorem dX1_withAllNeeded_23 : decode cX1_withAllNeeded 23 = .ok (.getfield 19, 3) := by decide +kernel
theorem dX1_withAllNeeded_26 : decode cX1_withAllNeeded 26 = .ok (.iload_n 3, 1) := by decide +kernel
theorem dX1_withAllNeeded_27 : decode cX1_withAllNeeded 27 = .ok (.iaload, 1) := by decide +kernel
theorem dX1_withAllNeeded_28 : decode cX1_withAllNeeded 28 = .ok (.ior, 1) := by decide +kernel
theorem dX1_withAllNeeded_29 : decode cX1_withAllNeeded 29 = .ok (.istore_n 2, 1) := by decide +kernel
theorem dX1_withAllNeeded_30 : decode cX1_withAllNeeded 30 = .ok (.iinc 3 (-1), 3) := by decide +kernel
theorem dX1_withAllNeeded_33 : decode cX1_withAllNeeded 33 = .ok (.goto (-24), 3) := by decide +kernel
theorem dX1_withAllNeeded_36 : decode cX1_withAllNeeded 36 = .ok (.iload_n 2, 1) := by decide +kernel
theorem dX1_withAllNeeded_37 : decode cX1_withAllNeeded 37 = .ok (.ireturn, 1) := by decide +kernel
theorem dX1_withFollowers_0 : decode cX1_withFollowers 0 = .ok (.iload_n 1, 1) := by decide +kernel
theorem dX1_withFollowers_1 : decode cX1_withFollowers 1 = .ok (.istore_n 2, 1) := by decide +kernel
theorem dX1_withFollowers_2 : decode cX1_withFollowers 2 = .ok (.iconst 0, 1) := by decide +kernel
theorem dX1_withFollowers_3 : decode cX1_withFollowers 3 = .ok (.istore_n 3, 1) := by decide +kernel
theorem dX1_withFollowers_4 : decode cX1_withFollowers 4 = .ok (.iload_n 3, 1) := by decide +kernel
theorem dX1_withFollowers_5 : decode cX1_withFollowers 5 = .ok (.aload_n 0, 1) := by decide +kernel
theorem dX1_withFollowers_6 : decode cX1_withFollowers 6 = .ok (.getfield 62, 3) := by decide +kernel
theorem dX1_withFollowers_9 : decode cX1_withFollowers 9 = .ok (.if_icmp .ge 26, 3) := by decide +kernel
theorem dX1_withFollowers_12 : decode cX1_withFollowers 12 = .ok (.iload_n 2, 1) := by decide +kernel
theorem dX1_withFollowers_13 : decode cX1_withFollowers 13 = .ok (.aload_n 0, 1) := by decide +kernel
theorem dX1_withFollowers_14 : decode cX1_withFollowers 14 = .ok (.getfield 19, 3) := by decide +kernel
theorem dX1_withFollowers_17 : decode cX1_withFollowers 17 = .ok (.iload_n 3, 1) := by decide +kernel
theorem dX1_withFollowers_18 : decode cX1_withFollowers 18 = .ok (.iaload, 1) := by decide +kernel
theorem dX1_withFollowers_19 : decode cX1_withFollowers 19 = .ok (.iand, 1) := by decide +kernel
theorem dX1_withFollowers_20 : decode cX1_withFollowers 20 = .ok (.ifCond .eq 9, 3) := by decide +kernel
theorem dX1_withFollowers_23 : decode cX1_withFollowers 23 = .ok (.iload_n 2, 1) := by decide +kernel
theorem dX1_withFollowers_24 : decode cX1_withFollowers 24 = .ok (.iconst 1, 1) := by decide +kernel
theorem dX1_withFollowers_25 : decode cX1_withFollowers 25 = .ok (.iload_n 3, 1) := by decide +kernel
theorem dX1_withFollowers_26 : decode cX1_withFollowers 26 = .ok (.ishl, 1) := by decide +kernel
theorem dX1_withFollowers_27 : decode cX1_withFollowers 27 = .ok (.ior, 1) := by decide +kernel
theorem dX1_withFollowers_28 : decode cX1_withFollowers 28 = .ok (.istore_n 2, 1) := by decide +kernel
theorem dX1_withFollowers_29 : decode cX1_withFollowers 29 = .ok (.iinc 3 1, 3) := by decide +kernel
theorem dX1_withFollowers_32 : decode cX1_withFollowers 32 = .ok (.goto (-28), 3) := by decide +kernel
theorem dX1_withFollowers_35 : decode cX1_withFollowers 35 = .ok (.iload_n 2, 1) := by decide +kernel
theorem dX1_withFollowers_36 : decode cX1_withFollowers 36 = .ok (.ireturn, 1) := by decide +kernel
theorem dX1_maskOf_0 : decode cX1_maskOf 0 = .ok (.iconst 0, 1) := by decide +kernel
theorem dX1_maskOf_1 : decode cX1_maskOf 1 = .ok (.istore_n 2, 1) := by decide +kernel
theorem dX1_maskOf_2 : decode cX1_maskOf 2 = .ok (.iconst 0, 1) := by decide +kernel
theorem dX1_maskOf_3 : decode cX1_maskOf 3 = .ok (.istore_n 3, 1) := by decide +kernel
theorem dX1_maskOf_4 : decode cX1_maskOf 4 = .ok (.iload_n 3, 1) := by decide +kernel
theorem dX1_maskOf_5 : decode cX1_maskOf 5 = .ok (.aload_n 0, 1) := by decide +kernel
theorem dX1_maskOf_6 : decode cX1_maskOf 6 = .ok (.getfield 62, 3) := by decide +kernel
theorem dX1_maskOf_9 : decode cX1_maskOf 9 = .ok (.if_icmp .ge 25, 3) := by decide +kernel
theorem dX1_maskOf_12 : decode cX1_maskOf 12 = .ok (.aload_n 0, 1) := by decide +kernel
theorem dX1_maskOf_13 : decode cX1_maskOf 13 = .ok (.getfield 22, 3) := by decide +kernel
theorem dX1_maskOf_16 : decode cX1_maskOf 16 = .ok (.iload_n 3, 1) := by decide +kernel
theorem dX1_maskOf_17 : decode cX1_maskOf 17 = .ok (.iaload, 1) := by decide +kernel
theorem dX1_maskOf_18 : decode cX1_maskOf 18 = .ok (.iload_n 1, 1) := by decide +kernel
theorem dX1_maskOf_19 : decode cX1_maskOf 19 = .ok (.if_icmp .ne 9, 3) := by decide +kernel
theorem dX1_maskOf_22 : decode cX1_maskOf 22 = .ok (.iload_n 2, 1) := by decide +kernel
theorem dX1_maskOf_23 : decode cX1_maskOf 23 = .ok (.iconst 1, 1) := by decide +kernel
theorem dX1_maskOf_24 : decode cX1_maskOf 24 = .ok (.iload_n 3, 1) := by decide +kernel
theorem dX1_maskOf_25 : decode cX1_maskOf 25 = .ok (.ishl, 1) := by decide +kernel
theorem dX1_maskOf_26 : decode cX1_maskOf 26 = .ok (.ior, 1) := by decide +kernel
theorem dX1_maskOf_27 : decode cX1_maskOf 27 = .ok (.istore_n 2, 1) := by decide +kernel
theorem dX1_maskOf_28 : decode cX1_maskOf 28 = .ok (.iinc 3 1, 3) := by decide +kernel
theorem dX1_maskOf_31 : decode cX1_maskOf 31 = .ok (.goto (-27), 3) := by decide +kernel
theorem dX1_maskOf_34 : decode cX1_maskOf 34 = .ok (.iload_n 2, 1) := by decide +kernel
theorem dX1_maskOf_35 : decode cX1_maskOf 35 = .ok (.ireturn, 1) := by decide +kernel
theorem dX1_sumOfVoltages_0 : decode cX1_sumOfVoltages 0 = .ok (.iconst 0, 1) := by decide +kernel
theorem dX1_sumOfVoltages_1 : decode cX1_sumOfVoltages 1 = .ok (.istore_n 1, 1) := by decide +kernel
theorem dX1_sumOfVoltages_2 : decode cX1_sumOfVoltages 2 = .ok (.iconst 0, 1) := by decide +kernel
theorem dX1_sumOfVoltages_3 : decode cX1_sumOfVoltages 3 = .ok (.istore_n 2, 1) := by decide +kernel
theorem dX1_sumOfVoltages_4 : decode cX1_sumOfVoltages 4 = .ok (.iload_n 2, 1) := by decide +kernel
theorem dX1_sumOfVoltages_5 : decode cX1_sumOfVoltages 5 = .ok (.aload_n 0, 1) := by decide +kernel
theorem dX1_sumOfVoltages_6 : decode cX1_sumOfVoltages 6 = .ok (.getfield 62, 3) := by decide +kernel
theorem dX1_sumOfVoltages_9 : decode cX1_sumOfVoltages 9 = .ok (.if_icmp .ge 18, 3) := by decide +kernel
theorem dX1_sumOfVoltages_12 : decode cX1_sumOfVoltages 12 = .ok (.iload_n 1, 1) := by decide +kernel
theorem dX1_sumOfVoltages_13 : decode cX1_sumOfVoltages 13 = .ok (.aload_n 0, 1) := by decide +kernel
theorem dX1_sumOfVoltages_14 : decode cX1_sumOfVoltages 14 = .ok (.getfield 25, 3) := by decide +kernel
theorem dX1_sumOfVoltages_17 : decode cX1_sumOfVoltages 17 = .ok (.iload_n 2, 1) := by decide +kernel
theorem dX1_sumOfVoltages_18 : decode cX1_sumOfVoltages 18 = .ok (.iaload, 1) := by decide +kernel
theorem dX1_sumOfVoltages_19 : decode cX1_sumOfVoltages 19 = .ok (.iadd, 1) := by decide +kernel
theorem dX1_sumOfVoltages_20 : decode cX1_sumOfVoltages 20 = .ok (.istore_n 1, 1) := by decide +kernel
theorem dX1_sumOfVoltages_21 : decode cX1_sumOfVoltages 21 = .ok (.iinc 2 1, 3) := by decide +kernel
theorem dX1_sumOfVoltages_24 : decode cX1_sumOfVoltages 24 = .ok (.goto (-20), 3) := by decide +kernel
theorem dX1_sumOfVoltages_27 : decode cX1_sumOfVoltages 27 = .ok (.iload_n 1, 1) := by decide +kernel
theorem dX1_sumOfVoltages_28 : decode cX1_sumOfVoltages 28 = .ok (.ireturn, 1) := by decide +kernel
theorem dX1_isAnyShorted_0 : decode cX1_isAnyShorted 0 = .ok (.iconst 0, 1) := by decide +kernel
theorem dX1_isAnyShorted_1 : decode cX1_isAnyShorted 1 = .ok (.istore_n 1, 1) := by decide +kernel
theorem dX1_isAnyShorted_2 : decode cX1_isAnyShorted 2 = .ok (.iload_n 1, 1) := by decide +kernel
theorem dX1_isAnyShorted_3 : decode cX1_isAnyShorted 3 = .ok (.aload_n 0, 1) := by decide +kernel
theorem dX1_isAnyShorted_4 : decode cX1_isAnyShorted 4 = .ok (.getfield 62, 3) := by decide +kernel
theorem dX1_isAnyShorted_7 : decode cX1_isAnyShorted 7 = .ok (.if_icmp .ge 20, 3) := by decide +kernel
theorem dX1_isAnyShorted_10 : decode cX1_isAnyShorted 10 = .ok (.aload_n 0, 1) := by decide +kernel
theorem dX1_isAnyShorted_11 : decode cX1_isAnyShorted 11 = .ok (.getfield 31, 3) := by decide +kernel
theorem dX1_isAnyShorted_14 : decode cX1_isAnyShorted 14 = .ok (.iload_n 1, 1) := by decide +kernel
theorem dX1_isAnyShorted_15 : decode cX1_isAnyShorted 15 = .ok (.iaload, 1) := by decide +kernel
theorem dX1_isAnyShorted_16 : decode cX1_isAnyShorted 16 = .ok (.ifCond .le 5, 3) := by decide +kernel
theorem dX1_isAnyShorted_19 : decode cX1_isAnyShorted 19 = .ok (.iconst 1, 1) := by decide +kernel
theorem dX1_isAnyShorted_20 : decode cX1_isAnyShorted 20 = .ok (.ireturn, 1) := by decide +kernel
theorem dX1_isAnyShorted_21 : decode cX1_isAnyShorted 21 = .ok (.iinc 1 1, 3) := by decide +kernel
theorem dX1_isAnyShorted_24 : decode cX1_isAnyShorted 24 = .ok (.goto (-22), 3) := by decide +kernel
theorem dX1_isAnyShorted_27 : decode cX1_isAnyShorted 27 = .ok (.iconst 0, 1) := by decide +kernel
theorem dX1_isAnyShorted_28 : decode cX1_isAnyShorted 28 = .ok (.ireturn, 1) := by decide +kernel
theorem dX1_isAllOff_0 : decode cX1_isAllOff 0 = .ok (.iconst 0, 1) := by decide +kernel
theorem dX1_isAllOff_1 : decode cX1_isAllOff 1 = .ok (.istore_n 1, 1) := by decide +kernel
theorem dX1_isAllOff_2 : decode cX1_isAllOff 2 = .ok (.iload_n 1, 1) := by decide +kernel
theorem dX1_isAllOff_3 : decode cX1_isAllOff 3 = .ok (.aload_n 0, 1) := by decide +kernel
theorem dX1_isAllOff_4 : decode cX1_isAllOff 4 = .ok (.getfield 62, 3) := by decide +kernel
theorem dX1_isAllOff_7 : decode cX1_isAllOff 7 = .ok (.if_icmp .ge 28, 3) := by decide +kernel
theorem dX1_isAllOff_10 : decode cX1_isAllOff 10 = .ok (.aload_n 0, 1) := by decide +kernel
theorem dX1_isAllOff_11 : decode cX1_isAllOff 11 = .ok (.getfield 22, 3) := by decide +kernel
theorem dX1_isAllOff_14 : decode cX1_isAllOff 14 = .ok (.iload_n 1, 1) := by decide +kernel
theorem dX1_isAllOff_15 : decode cX1_isAllOff 15 = .ok (.iaload, 1) := by decide +kernel
theorem dX1_isAllOff_16 : decode cX1_isAllOff 16 = .ok (.ifCond .ne 11, 3) := by decide +kernel
theorem dX1_isAllOff_19 : decode cX1_isAllOff 19 = .ok (.aload_n 0, 1) := by decide +kernel
theorem dX1_isAllOff_20 : decode cX1_isAllOff 20 = .ok (.iload_n 1, 1) := by decide +kernel
theorem dX1_isAllOff_21 : decode cX1_isAllOff 21 = .ok (.invokevirtual 105, 3) := by decide +kernel
theorem dX1_isAllOff_24 : decode cX1_isAllOff 24 = .ok (.ifCond .ne 5, 3) := by decide +kernel
theorem dX1_isAllOff_27 : decode cX1_isAllOff 27 = .ok (.iconst 0, 1) := by decide +kernel
theorem dX1_isAllOff_28 : decode cX1_isAllOff 28 = .ok (.ireturn, 1) := by decide +kernel
theorem dX1_isAllOff_29 : decode cX1_isAllOff 29 = .ok (.iinc 1 1, 3) := by decide +kernel
theorem dX1_isAllOff_32 : decode cX1_isAllOff 32 = .ok (.goto (-30), 3) := by decide +kernel
theorem dX1_isAllOff_35 : decode cX1_isAllOff 35 = .ok (.iconst 1, 1) := by decide +kernel
theorem dX1_isAllOff_36 : decode cX1_isAllOff 36 = .ok (.ireturn, 1) := by decide +kernel
theorem dX1_passTick_0 : decode cX1_passTick 0 = .ok (.aload_n 0, 1) := by decide +kernel
theorem dX1_passTick_1 : decode cX1_passTick 1 = .ok (.invokevirtual 108, 3) := by decide +kernel
theorem dX1_passTick_4 : decode cX1_passTick 4 = .ok (.aload_n 0, 1) := by decide +kernel
theorem dX1_passTick_5 : decode cX1_passTick 5 = .ok (.invokevirtual 111, 3) := by decide +kernel
theorem dX1_passTick_8 : decode cX1_passTick 8 = .ok (.iconst 0, 1) := by decide +kernel
theorem dX1_passTick_9 : decode cX1_passTick 9 = .ok (.istore_n 1, 1) := by decide +kernel
theorem dX1_passTick_10 : decode cX1_passTick 10 = .ok (.iconst 0, 1) := by decide +kernel
theorem dX1_passTick_11 : decode cX1_passTick 11 = .ok (.istore_n 2, 1) := by decide +kernel
theorem dX1_passTick_12 : decode cX1_passTick 12 = .ok (.iload_n 2, 1) := by decide +kernel
theorem dX1_passTick_13 : decode cX1_passTick 13 = .ok (.aload_n 0, 1) := by decide +kernel
theorem dX1_passTick_14 : decode cX1_passTick 14 = .ok (.getfield 62, 3) := by decide +kernel
theorem dX1_passTick_17 : decode cX1_passTick 17 = .ok (.if_icmp .ge 34, 3) := by decide +kernel
theorem dX1_passTick_20 : decode cX1_passTick 20 = .ok (.aload_n 0, 1) := by decide +kernel
theorem dX1_passTick_21 : decode cX1_passTick 21 = .ok (.iload_n 2, 1) := by decide +kernel
theorem dX1_passTick_22 : decode cX1_passTick 22 = .ok (.invokevirtual 114, 3) := by decide +kernel
theorem dX1_passTick_25 : decode cX1_passTick 25 = .ok (.istore_n 3, 1) := by decide +kernel
theorem dX1_passTick_26 : decode cX1_passTick 26 = .ok (.iload_n 3, 1) := by decide +kernel
theorem dX1_passTick_27 : decode cX1_passTick 27 = .ok (.aload_n 0, 1) := by decide +kernel
theorem dX1_passTick_28 : decode cX1_passTick 28 = .ok (.getfield 22, 3) := by decide +kernel
theorem dX1_passTick_31 : decode cX1_passTick 31 = .ok (.iload_n 2, 1) := by decide +kernel
theorem dX1_passTick_32 : decode cX1_passTick 32 = .ok (.iaload, 1) := by decide +kernel
theorem dX1_passTick_33 : decode cX1_passTick 33 = .ok (.if_icmp .eq 12, 3) := by decide +kernel
theorem dX1_passTick_36 : decode cX1_passTick 36 = .ok (.aload_n 0, 1) := by decide +kernel
theorem dX1_passTick_37 : decode cX1_passTick 37 = .ok (.iload_n 2, 1) := by decide +kernel
theorem dX1_passTick_38 : decode cX1_passTick 38 = .ok (.iload_n 3, 1) := by decide +kernel
theorem dX1_passTick_39 : decode cX1_passTick 39 = .ok (.invokevirtual 117, 3) := by decide +kernel
theorem dX1_passTick_42 : decode cX1_passTick 42 = .ok (.iinc 1 1, 3) := by decide +kernel
theorem dX1_passTick_45 : decode cX1_passTick 45 = .ok (.iinc 2 1, 3) := by decide +kernel
theorem dX1_passTick_48 : decode cX1_passTick 48 = .ok (.goto (-36), 3) := by decide +kernel
theorem dX1_passTick_51 : decode cX1_passTick 51 = .ok (.aload_n 0, 1) := by decide +kernel
theorem dX1_passTick_52 : decode cX1_passTick 52 = .ok (.invokevirtual 121, 3) := by decide +kernel
theorem dX1_passTick_55 : decode cX1_passTick 55 = .ok (.iload_n 1, 1) := by decide +kernel
theorem dX1_passTick_56 : decode cX1_passTick 56 = .ok (.ireturn, 1) := by decide +kernel
theorem dX1_rememberBefore_0 : decode cX1_rememberBefore 0 = .ok (.aload_n 0, 1) := by decide +kernel
theorem dX1_rememberBefore_1 : decode cX1_rememberBefore 1 = .ok (.getfield 22, 3) := by decide +kernel
theorem dX1_rememberBefore_4 : decode cX1_rememberBefore 4 = .ok (.iconst 0, 1) := by decide +kernel
theorem dX1_rememberBefore_5 : decode cX1_rememberBefore 5 = .ok (.aload_n 0, 1) := by decide +kernel
theorem dX1_rememberBefore_6 : decode cX1_rememberBefore 6 = .ok (.getfield 53, 3) := by decide +kernel
theorem dX1_rememberBefore_9 : decode cX1_rememberBefore 9 = .ok (.iconst 0, 1) := by decide +kernel
theorem dX1_rememberBefore_10 : decode cX1_rememberBefore 10 = .ok (.bipush 8, 2) := by decide +kernel
theorem dX1_rememberBefore_12 : decode cX1_rememberBefore 12 = .ok (.invokestatic 71, 3) := by decide +kernel
theorem dX1_rememberBefore_15 : decode cX1_rememberBefore 15 = .ok (.aload_n 0, 1) := by decide +kernel
theorem dX1_rememberBefore_16 : decode cX1_rememberBefore 16 = .ok (.getfield 25, 3) := by decide +kernel
theorem dX1_rememberBefore_19 : decode cX1_rememberBefore 19 = .ok (.iconst 0, 1) := by decide +kernel
theorem dX1_rememberBefore_20 : decode cX1_rememberBefore 20 = .ok (.aload_n 0, 1) := by decide +kernel
theorem dX1_rememberBefore_21 : decode cX1_rememberBefore 21 = .ok (.getfield 56, 3) := by decide +kernel
theorem dX1_rememberBefore_24 : decode cX1_rememberBefore 24 = .ok (.iconst 0, 1) := by decide +kernel
theorem dX1_rememberBefore_25 : decode cX1_rememberBefore 25 = .ok (.bipush 8, 2) := by decide +kernel
theorem dX1_rememberBefore_27 : decode cX1_rememberBefore 27 = .ok (.invokestatic 71, 3) := by decide +kernel
theorem dX1_rememberBefore_30 : decode cX1_rememberBefore 30 = .ok (.aload_n 0, 1) := by decide +kernel
theorem dX1_rememberBefore_31 : decode cX1_rememberBefore 31 = .ok (.getfield 34, 3) := by decide +kernel
theorem dX1_rememberBefore_34 : decode cX1_rememberBefore 34 = .ok (.iconst 0, 1) := by decide +kernel
theorem dX1_rememberBefore_35 : decode cX1_rememberBefore 35 = .ok (.aload_n 0, 1) := by decide +kernel
theorem dX1_rememberBefore_36 : decode cX1_rememberBefore 36 = .ok (.getfield 59, 3) := by decide +kernel
theorem dX1_rememberBefore_39 : decode cX1_rememberBefore 39 = .ok (.iconst 0, 1) := by decide +kernel
theorem dX1_rememberBefore_40 : decode cX1_rememberBefore 40 = .ok (.bipush 8, 2) := by decide +kernel
theorem dX1_rememberBefore_42 : decode cX1_rememberBefore 42 = .ok (.invokestatic 71, 3) := by decide +kernel
theorem dX1_rememberBefore_45 : decode cX1_rememberBefore 45 = .ok (.return_, 1) := by decide +kernel
theorem dX1_moveVoltages_0 : decode cX1_moveVoltages 0 = .ok (.iconst 0, 1) := by decide +kernel
theorem dX1_moveVoltages_1 : decode cX1_moveVoltages 1 = .ok (.istore_n 1, 1) := by decide +kernel
theorem dX1_moveVoltages_2 : decode cX1_moveVoltages 2 = .ok (.iload_n 1, 1) := by decide +kernel
theorem dX1_moveVoltages_3 : decode cX1_moveVoltages 3 = .ok (.aload_n 0, 1) := by decide +kernel
theorem dX1_moveVoltages_4 : decode cX1_moveVoltages 4 = .ok (.getfield 62, 3) := by decide +kernel
theorem dX1_moveVoltages_7 : decode cX1_moveVoltages 7 = .ok (.if_icmp .ge 120, 3) := by decide +kernel
theorem dX1_moveVoltages_10 : decode cX1_moveVoltages 10 = .ok (.aload_n 0, 1) := by decide +kernel
theorem dX1_moveVoltages_11 : decode cX1_moveVoltages 11 = .ok (.getfield 22, 3) := by decide +kernel
theorem dX1_moveVoltages_14 : decode cX1_moveVoltages 14 = .ok (.iload_n 1, 1) := by decide +kernel
theorem dX1_moveVoltages_15 : decode cX1_moveVoltages 15 = .ok (.iaload, 1) := by decide +kernel
theorem dX1_moveVoltages_16 : decode cX1_moveVoltages 16 = .ok (.iconst 2, 1) := by decide +kernel
theorem dX1_moveVoltages_17 : decode cX1_moveVoltages 17 = .ok (.if_icmp .eq 13, 3) := by decide +kernel
theorem dX1_moveVoltages_20 : decode cX1_moveVoltages 20 = .ok (.aload_n 0, 1) := by decide +kernel
theorem dX1_moveVoltages_21 : decode cX1_moveVoltages 21 = .ok (.getfield 22, 3) := by decide +kernel
theorem dX1_moveVoltages_24 : decode cX1_moveVoltages 24 = .ok (.iload_n 1, 1) := by decide +kernel
theorem dX1_moveVoltages_25 : decode cX1_moveVoltages 25 = .ok (.iaload, 1) := by decide +kernel
theorem dX1_moveVoltages_26 : decode cX1_moveVoltages 26 = .ok (.iconst 3, 1) := by decide +kernel
theorem dX1_moveVoltages_27 : decode cX1_moveVoltages 27 = .ok (.if_icmp .ne 16, 3) := by decide +kernel
theorem dX1_moveVoltages_30 : decode cX1_moveVoltages 30 = .ok (.aload_n 0, 1) := by decide +kernel
theorem dX1_moveVoltages_31 : decode cX1_moveVoltages 31 = .ok (.getfield 31, 3) := by decide +kernel
theorem dX1_moveVoltages_34 : decode cX1_moveVoltages 34 = .ok (.iload_n 1, 1) := by decide +kernel
theorem dX1_moveVoltages_35 : decode cX1_moveVoltages 35 = .ok (.iaload, 1) := by decide +kernel
theorem dX1_moveVoltages_36 : decode cX1_moveVoltages 36 = .ok (.ifCond .ne 7, 3) := by decide +kernel
theorem dX1_moveVoltages_39 : decode cX1_moveVoltages 39 = .ok (.iconst 1, 1) := by decide +kernel
theorem dX1_moveVoltages_40 : decode cX1_moveVoltages 40 = .ok (.goto 4, 3) := by decide +kernel
theorem dX1_moveVoltages_43 : decode cX1_moveVoltages 43 = .ok (.iconst 0, 1) := by decide +kernel
theorem dX1_moveVoltages_44 : decode cX1_moveVoltages 44 = .ok (.istore_n 2, 1) := by decide +kernel
theorem dX1_moveVoltages_45 : decode cX1_moveVoltages 45 = .ok (.iload_n 2, 1) := by decide +kernel
theorem dX1_moveVoltages_46 : decode cX1_moveVoltages 46 = .ok (.ifCond .eq 12, 3) := by decide +kernel
theorem dX1_moveVoltages_49 : decode cX1_moveVoltages 49 = .ok (.aload_n 0, 1) := by decide +kernel
theorem dX1_moveVoltages_50 : decode cX1_moveVoltages 50 = .ok (.iload_n 1, 1) := by decide +kernel
theorem dX1_moveVoltages_51 : decode cX1_moveVoltages 51 = .ok (.iconst 0, 1) := by decide +kernel
theorem dX1_moveVoltages_52 : decode cX1_moveVoltages 52 = .ok (.invokevirtual 95, 3) := by decide +kernel
theorem dX1_moveVoltages_55 : decode cX1_moveVoltages 55 = .ok (.goto 4, 3) := by decide +kernel
theorem dX1_moveVoltages_58 : decode cX1_moveVoltages 58 = .ok (.iconst 0, 1) := by decide +kernel
theorem dX1_moveVoltages_59 : decode cX1_moveVoltages 59 = .ok (.istore_n 3, 1) := by decide +kernel
theorem dX1_moveVoltages_60 : decode cX1_moveVoltages 60 = .ok (.aload_n 0, 1) := by decide +kernel
theorem dX1_moveVoltages_61 : decode cX1_moveVoltages 61 = .ok (.iload_n 1, 1) := by decide +kernel
theorem dX1_moveVoltages_62 : decode cX1_moveVoltages 62 = .ok (.iload_n 2, 1) := by decide +kernel
theorem dX1_moveVoltages_63 : decode cX1_moveVoltages 63 = .ok (.ifCond .eq 7, 3) := by decide +kernel
theorem dX1_moveVoltages_66 : decode cX1_moveVoltages 66 = .ok (.iconst 1, 1) := by decide +kernel
theorem dX1_moveVoltages_67 : decode cX1_moveVoltages 67 = .ok (.goto 4, 3) := by decide +kernel
theorem dX1_moveVoltages_70 : decode cX1_moveVoltages 70 = .ok (.iconst 2, 1) := by decide +kernel
theorem dX1_moveVoltages_71 : decode cX1_moveVoltages 71 = .ok (.invokevirtual 95, 3) := by decide +kernel
theorem dX1_moveVoltages_74 : decode cX1_moveVoltages 74 = .ok (.istore 4, 2) := by decide +kernel
theorem dX1_moveVoltages_76 : decode cX1_moveVoltages 76 = .ok (.aload_n 0, 1) := by decide +kernel
theorem dX1_moveVoltages_77 : decode cX1_moveVoltages 77 = .ok (.getfield 25, 3) := by decide +kernel
theorem dX1_moveVoltages_80 : decode cX1_moveVoltages 80 = .ok (.iload_n 1, 1) := by decide +kernel
theorem dX1_moveVoltages_81 : decode cX1_moveVoltages 81 = .ok (.aload_n 0, 1) := by decide +kernel
theorem dX1_moveVoltages_82 : decode cX1_moveVoltages 82 = .ok (.getfield 25, 3) := by decide +kernel
theorem dX1_moveVoltages_85 : decode cX1_moveVoltages 85 = .ok (.iload_n 1, 1) := by decide +kernel
theorem dX1_moveVoltages_86 : decode cX1_moveVoltages 86 = .ok (.iaload, 1) := by decide +kernel
theorem dX1_moveVoltages_87 : decode cX1_moveVoltages 87 = .ok (.iload_n 3, 1) := by decide +kernel
theorem dX1_moveVoltages_88 : decode cX1_moveVoltages 88 = .ok (.if_icmp .ge 19, 3) := by decide +kernel
theorem dX1_moveVoltages_91 : decode cX1_moveVoltages 91 = .ok (.iload_n 3, 1) := by decide +kernel
theorem dX1_moveVoltages_92 : decode cX1_moveVoltages 92 = .ok (.aload_n 0, 1) := by decide +kernel
theorem dX1_moveVoltages_93 : decode cX1_moveVoltages 93 = .ok (.getfield 25, 3) := by decide +kernel
theorem dX1_moveVoltages_96 : decode cX1_moveVoltages 96 = .ok (.iload_n 1, 1) := by decide +kernel
theorem dX1_moveVoltages_97 : decode cX1_moveVoltages 97 = .ok (.iaload, 1) := by decide +kernel
theorem dX1_moveVoltages_98 : decode cX1_moveVoltages 98 = .ok (.iload 4, 2) := by decide +kernel
theorem dX1_moveVoltages_100 : decode cX1_moveVoltages 100 = .ok (.iadd, 1) := by decide +kernel
theorem dX1_moveVoltages_101 : decode cX1_moveVoltages 101 = .ok (.invokestatic 124, 3) := by decide +kernel
theorem dX1_moveVoltages_104 : decode cX1_moveVoltages 104 = .ok (.goto 16, 3) := by decide +kernel
theorem dX1_moveVoltages_107 : decode cX1_moveVoltages 107 = .ok (.iload_n 3, 1) := by decide +kernel
theorem dX1_moveVoltages_108 : decode cX1_moveVoltages 108 = .ok (.aload_n 0, 1) := by decide +kernel
theorem dX1_moveVoltages_109 : decode cX1_moveVoltages 109 = .ok (.getfield 25, 3) := by decide +kernel
theorem dX1_moveVoltages_112 : decode cX1_moveVoltages 112 = .ok (.iload_n 1, 1) := by decide +kernel
theorem dX1_moveVoltages_113 : decode cX1_moveVoltages 113 = .ok (.iaload, 1) := by decide +kernel
theorem dX1_moveVoltages_114 : decode cX1_moveVoltages 114 = .ok (.iload 4, 2) := by decide +kernel
theorem dX1_moveVoltages_116 : decode cX1_moveVoltages 116 = .ok (.isub, 1) := by decide +kernel
theorem dX1_moveVoltages_117 : decode cX1_moveVoltages 117 = .ok (.invokestatic 129, 3) := by decide +kernel
theorem dX1_moveVoltages_120 : decode cX1_moveVoltages 120 = .ok (.iastore, 1) := by decide +kernel
theorem dX1_moveVoltages_121 : decode cX1_moveVoltages 121 = .ok (.iinc 1 1, 3) := by decide +kernel
theorem dX1_moveVoltages_124 : decode cX1_moveVoltages 124 = .ok (.goto (-122), 3) := by decide +kernel
theorem dX1_moveVoltages_127 : decode cX1_moveVoltages 127 = .ok (.return_, 1) := by decide +kernel
theorem dX1_nextState_0 : decode cX1_nextState 0 = .ok (.aload_n 0, 1) := by decide +kernel
theorem dX1_nextState_1 : decode cX1_nextState 1 = .ok (.getfield 22, 3) := by decide +kernel
theorem dX1_nextState_4 : decode cX1_nextState 4 = .ok (.iload_n 1, 1) := by decide +kernel
theorem dX1_nextState_5 : decode cX1_nextState 5 = .ok (.iaload, 1) := by decide +kernel
theorem dX1_nextState_6 : decode cX1_nextState 6 = .ok (.tableswitch 64 0 4 #[34, 40, 46, 52, 58], 34) := by decide +kernel
theorem dX1_nextState_40 : decode cX1_nextState 40 = .ok (.aload_n 0, 1) := by decide +kernel
theorem dX1_nextState_41 : decode cX1_nextState 41 = .ok (.iload_n 1, 1) := by decide +kernel
theorem dX1_nextState_42 : decode cX1_nextState 42 = .ok (.invokevirtual 132, 3) := by decide +kernel
theorem dX1_nextState_45 : decode cX1_nextState 45 = .ok (.ireturn, 1) := by decide +kernel
theorem dX1_nextState_46 : decode cX1_nextState 46 = .ok (.aload_n 0, 1) := by decide +kernel
theorem dX1_nextState_47 : decode cX1_nextState 47 = .ok (.iload_n 1, 1) := by decide +kernel
theorem dX1_nextState_48 : decode cX1_nextState 48 = .ok (.invokevirtual 135, 3) := by decide +kernel
theorem dX1_nextState_51 : decode cX1_nextState 51 = .ok (.ireturn, 1) := by decide +kernel
theorem dX1_nextState_52 : decode cX1_nextState 52 = .ok (.aload_n 0, 1) := by decide +kernel
theorem dX1_nextState_53 : decode cX1_nextState 53 = .ok (.iload_n 1, 1) := by decide +kernel
theorem dX1_nextState_54 : decode cX1_nextState 54 = .ok (.invokevirtual 138, 3) := by decide +kernel
theorem dX1_nextState_57 : decode cX1_nextState 57 = .ok (.ireturn, 1) := by decide +kernel
theorem dX1_nextState_58 : decode cX1_nextState 58 = .ok (.aload_n 0, 1) := by decide +kernel
theorem dX1_nextState_59 : decode cX1_nextState 59 = .ok (.iload_n 1, 1) := by decide +kernel
theorem dX1_nextState_60 : decode cX1_nextState 60 = .ok (.invokevirtual 141, 3) := by decide +kernel
theorem dX1_nextState_63 : decode cX1_nextState 63 = .ok (.ireturn, 1) := by decide +kernel
theorem dX1_nextState_64 : decode cX1_nextState 64 = .ok (.aload_n 0, 1) := by decide +kernel
theorem dX1_nextState_65 : decode cX1_nextState 65 = .ok (.iload_n 1, 1) := by decide +kernel
theorem dX1_nextState_66 : decode cX1_nextState 66 = .ok (.invokevirtual 144, 3) := by decide +kernel
theorem dX1_nextState_69 : decode cX1_nextState 69 = .ok (.ireturn, 1) := by decide +kernel
theorem dX1_nextState_70 : decode cX1_nextState 70 = .ok (.aload_n 0, 1) := by decide +kernel
theorem dX1_nextState_71 : decode cX1_nextState 71 = .ok (.iload_n 1, 1) := by decide +kernel
theorem dX1_nextState_72 : decode cX1_nextState 72 = .ok (.invokevirtual 85, 3) := by decide +kernel
theorem dX1_nextState_75 : decode cX1_nextState 75 = .ok (.ifCond .ne 15, 3) := by decide +kernel
theorem dX1_nextState_78 : decode cX1_nextState 78 = .ok (.aload_n 0, 1) := by decide +kernel
theorem dX1_nextState_79 : decode cX1_nextState 79 = .ok (.iload_n 1, 1) := by decide +kernel
theorem dX1_nextState_80 : decode cX1_nextState 80 = .ok (.invokevirtual 105, 3) := by decide +kernel
theorem dX1_nextState_83 : decode cX1_nextState 83 = .ok (.ifCond .eq 7, 3) := by decide +kernel
theorem dX1_nextState_86 : decode cX1_nextState 86 = .ok (.iconst 0, 1) := by decide +kernel
theorem dX1_nextState_87 : decode cX1_nextState 87 = .ok (.goto 4, 3) := by decide +kernel
theorem dX1_nextState_90 : decode cX1_nextState 90 = .ok (.iconst 5, 1) := by decide +kernel
theorem dX1_nextState_91 : decode cX1_nextState 91 = .ok (.ireturn, 1) := by decide +kernel
theorem dX1_afterOff_0 : decode cX1_afterOff 0 = .ok (.aload_n 0, 1) := by decide +kernel
theorem dX1_afterOff_1 : decode cX1_afterOff 1 = .ok (.iload_n 1, 1) := by decide +kernel
theorem dX1_afterOff_2 : decode cX1_afterOff 2 = .ok (.invokevirtual 85, 3) := by decide +kernel
theorem dX1_afterOff_5 : decode cX1_afterOff 5 = .ok (.ifCond .ne 5, 3) := by decide +kernel
theorem dX1_afterOff_8 : decode cX1_afterOff 8 = .ok (.iconst 0, 1) := by decide +kernel
theorem dX1_afterOff_9 : decode cX1_afterOff 9 = .ok (.ireturn, 1) := by decide +kernel
theorem dX1_afterOff_10 : decode cX1_afterOff 10 = .ok (.aload_n 0, 1) := by decide +kernel
theorem dX1_afterOff_11 : decode cX1_afterOff 11 = .ok (.getfield 34, 3) := by decide +kernel
theorem dX1_afterOff_14 : decode cX1_afterOff 14 = .ok (.iload_n 1, 1) := by decide +kernel
theorem dX1_afterOff_15 : decode cX1_afterOff 15 = .ok (.iconst 0, 1) := by decide +kernel
theorem dX1_afterOff_16 : decode cX1_afterOff 16 = .ok (.iastore, 1) := by decide +kernel
theorem dX1_afterOff_17 : decode cX1_afterOff 17 = .ok (.aload_n 0, 1) := by decide +kernel
theorem dX1_afterOff_18 : decode cX1_afterOff 18 = .ok (.getfield 37, 3) := by decide +kernel
theorem dX1_afterOff_21 : decode cX1_afterOff 21 = .ok (.iload_n 1, 1) := by decide +kernel
theorem dX1_afterOff_22 : decode cX1_afterOff 22 = .ok (.iconst 0, 1) := by decide +kernel
theorem dX1_afterOff_23 : decode cX1_afterOff 23 = .ok (.iastore, 1) := by decide +kernel
theorem dX1_afterOff_24 : decode cX1_afterOff 24 = .ok (.iconst 1, 1) := by decide +kernel
theorem dX1_afterOff_25 : decode cX1_afterOff 25 = .ok (.ireturn, 1) := by decide +kernel
theorem dX1_afterWaiting_0 : decode cX1_afterWaiting 0 = .ok (.aload_n 0, 1) := by decide +kernel
theorem dX1_afterWaiting_1 : decode cX1_afterWaiting 1 = .ok (.iload_n 1, 1) := by decide +kernel
theorem dX1_afterWaiting_2 : decode cX1_afterWaiting 2 = .ok (.invokevirtual 85, 3) := by decide +kernel
theorem dX1_afterWaiting_5 : decode cX1_afterWaiting 5 = .ok (.ifCond .ne 5, 3) := by decide +kernel
theorem dX1_afterWaiting_8 : decode cX1_afterWaiting 8 = .ok (.iconst 0, 1) := by decide +kernel
theorem dX1_afterWaiting_9 : decode cX1_afterWaiting 9 = .ok (.ireturn, 1) := by decide +kernel
theorem dX1_afterWaiting_10 : decode cX1_afterWaiting 10 = .ok (.aload_n 0, 1) := by decide +kernel
theorem dX1_afterWaiting_11 : decode cX1_afterWaiting 11 = .ok (.iload_n 1, 1) := by decide +kernel
theorem dX1_afterWaiting_12 : decode cX1_afterWaiting 12 = .ok (.invokevirtual 105, 3) := by decide +kernel
theorem dX1_afterWaiting_15 : decode cX1_afterWaiting 15 = .ok (.ifCond .eq 12, 3) := by decide +kernel
theorem dX1_afterWaiting_18 : decode cX1_afterWaiting 18 = .ok (.aload_n 0, 1) := by decide +kernel
theorem dX1_afterWaiting_19 : decode cX1_afterWaiting 19 = .ok (.iload_n 1, 1) := by decide +kernel
theorem dX1_afterWaiting_20 : decode cX1_afterWaiting 20 = .ok (.invokevirtual 147, 3) := by decide +kernel
theorem dX1_afterWaiting_23 : decode cX1_afterWaiting 23 = .ok (.iconst (-1), 1) := by decide +kernel
theorem dX1_afterWaiting_24 : decode cX1_afterWaiting 24 = .ok (.if_icmp .eq 12, 3) := by decide +kernel
theorem dX1_afterWaiting_27 : decode cX1_afterWaiting 27 = .ok (.aload_n 0, 1) := by decide +kernel
theorem dX1_afterWaiting_28 : decode cX1_afterWaiting 28 = .ok (.getfield 34, 3) := by decide +kernel
theorem dX1_afterWaiting_31 : decode cX1_afterWaiting 31 = .ok (.iload_n 1, 1) := by decide +kernel
theorem dX1_afterWaiting_32 : decode cX1_afterWaiting 32 = .ok (.iconst 0, 1) := by decide +kernel
theorem dX1_afterWaiting_33 : decode cX1_afterWaiting 33 = .ok (.iastore, 1) := by decide +kernel
theorem dX1_afterWaiting_34 : decode cX1_afterWaiting 34 = .ok (.iconst 1, 1) := by decide +kernel
theorem dX1_afterWaiting_35 : decode cX1_afterWaiting 35 = .ok (.ireturn, 1) := by decide +kernel
theorem dX1_afterWaiting_36 : decode cX1_afterWaiting 36 = .ok (.aload_n 0, 1) := by decide +kernel
theorem dX1_afterWaiting_37 : decode cX1_afterWaiting 37 = .ok (.getfield 34, 3) := by decide +kernel
theorem dX1_afterWaiting_40 : decode cX1_afterWaiting 40 = .ok (.iload_n 1, 1) := by decide +kernel
theorem dX1_afterWaiting_41 : decode cX1_afterWaiting 41 = .ok (.dup2, 1) := by decide +kernel
theorem dX1_afterWaiting_42 : decode cX1_afterWaiting 42 = .ok (.iaload, 1) := by decide +kernel
theorem dX1_afterWaiting_43 : decode cX1_afterWaiting 43 = .ok (.iconst 1, 1) := by decide +kernel
theorem dX1_afterWaiting_44 : decode cX1_afterWaiting 44 = .ok (.iadd, 1) := by decide +kernel
theorem dX1_afterWaiting_45 : decode cX1_afterWaiting 45 = .ok (.iastore, 1) := by decide +kernel
theorem dX1_afterWaiting_46 : decode cX1_afterWaiting 46 = .ok (.aload_n 0, 1) := by decide +kernel
theorem dX1_afterWaiting_47 : decode cX1_afterWaiting 47 = .ok (.getfield 34, 3) := by decide +kernel
theorem dX1_afterWaiting_50 : decode cX1_afterWaiting 50 = .ok (.iload_n 1, 1) := by decide +kernel
theorem dX1_afterWaiting_51 : decode cX1_afterWaiting 51 = .ok (.iaload, 1) := by decide +kernel
theorem dX1_afterWaiting_52 : decode cX1_afterWaiting 52 = .ok (.aload_n 0, 1) := by decide +kernel
theorem dX1_afterWaiting_53 : decode cX1_afterWaiting 53 = .ok (.iload_n 1, 1) := by decide +kernel
theorem dX1_afterWaiting_54 : decode cX1_afterWaiting 54 = .ok (.iconst 4, 1) := by decide +kernel
theorem dX1_afterWaiting_55 : decode cX1_afterWaiting 55 = .ok (.invokevirtual 95, 3) := by decide +kernel
theorem dX1_afterWaiting_58 : decode cX1_afterWaiting 58 = .ok (.if_icmp .gt 5, 3) := by decide +kernel
theorem dX1_afterWaiting_61 : decode cX1_afterWaiting 61 = .ok (.iconst 1, 1) := by decide +kernel
theorem dX1_afterWaiting_62 : decode cX1_afterWaiting 62 = .ok (.ireturn, 1) := by decide +kernel
theorem dX1_afterWaiting_63 : decode cX1_afterWaiting 63 = .ok (.aload_n 0, 1) := by decide +kernel
theorem dX1_afterWaiting_64 : decode cX1_afterWaiting 64 = .ok (.getfield 34, 3) := by decide +kernel
theorem dX1_afterWaiting_67 : decode cX1_afterWaiting 67 = .ok (.iload_n 1, 1) := by decide +kernel
theorem dX1_afterWaiting_68 : decode cX1_afterWaiting 68 = .ok (.iconst 0, 1) := by decide +kernel
theorem dX1_afterWaiting_69 : decode cX1_afterWaiting 69 = .ok (.iastore, 1) := by decide +kernel
theorem dX1_afterWaiting_70 : decode cX1_afterWaiting 70 = .ok (.iconst 2, 1) := by decide +kernel
theorem dX1_afterWaiting_71 : decode cX1_afterWaiting 71 = .ok (.ireturn, 1) := by decide +kernel
theorem dX1_afterRising_0 : decode cX1_afterRising 0 = .ok (.aload_n 0, 1) := by decide +kernel
theorem dX1_afterRising_1 : decode cX1_afterRising 1 = .ok (.iload_n 1, 1) := by decide +kernel
theorem dX1_afterRising_2 : decode cX1_afterRising 2 = .ok (.invokevirtual 85, 3) := by decide +kernel
theorem dX1_afterRising_5 : decode cX1_afterRising 5 = .ok (.ifCond .ne 12, 3) := by decide +kernel
theorem dX1_afterRising_8 : decode cX1_afterRising 8 = .ok (.aload_n 0, 1) := by decide +kernel
theorem dX1_afterRising_9 : decode cX1_afterRising 9 = .ok (.getfield 40, 3) := by decide +kernel
theorem dX1_afterRising_12 : decode cX1_afterRising 12 = .ok (.iload_n 1, 1) := by decide +kernel
theorem dX1_afterRising_13 : decode cX1_afterRising 13 = .ok (.iconst (-1), 1) := by decide +kernel
theorem dX1_afterRising_14 : decode cX1_afterRising 14 = .ok (.iastore, 1) := by decide +kernel
theorem dX1_afterRising_15 : decode cX1_afterRising 15 = .ok (.iconst 4, 1) := by decide +kernel
theorem dX1_afterRising_16 : decode cX1_afterRising 16 = .ok (.ireturn, 1) := by decide +kernel
theorem dX1_afterRising_17 : decode cX1_afterRising 17 = .ok (.aload_n 0, 1) := by decide +kernel
theorem dX1_afterRising_18 : decode cX1_afterRising 18 = .ok (.iload_n 1, 1) := by decide +kernel
theorem dX1_afterRising_19 : decode cX1_afterRising 19 = .ok (.invokevirtual 147, 3) := by decide +kernel
theorem dX1_afterRising_22 : decode cX1_afterRising 22 = .ok (.istore_n 2, 1) := by decide +kernel
theorem dX1_afterRising_23 : decode cX1_afterRising 23 = .ok (.iload_n 2, 1) := by decide +kernel
theorem dX1_afterRising_24 : decode cX1_afterRising 24 = .ok (.iconst (-1), 1) := by decide +kernel
theorem dX1_afterRising_25 : decode cX1_afterRising 25 = .ok (.if_icmp .eq 12, 3) := by decide +kernel
theorem dX1_afterRising_28 : decode cX1_afterRising 28 = .ok (.aload_n 0, 1) := by decide +kernel
theorem dX1_afterRising_29 : decode cX1_afterRising 29 = .ok (.getfield 40, 3) := by decide +kernel
theorem dX1_afterRising_32 : decode cX1_afterRising 32 = .ok (.iload_n 1, 1) := by decide +kernel
theorem dX1_afterRising_33 : decode cX1_afterRising 33 = .ok (.iload_n 2, 1) := by decide +kernel
theorem dX1_afterRising_34 : decode cX1_afterRising 34 = .ok (.iastore, 1) := by decide +kernel
theorem dX1_afterRising_35 : decode cX1_afterRising 35 = .ok (.iconst 4, 1) := by decide +kernel
theorem dX1_afterRising_36 : decode cX1_afterRising 36 = .ok (.ireturn, 1) := by decide +kernel
theorem dX1_afterRising_37 : decode cX1_afterRising 37 = .ok (.aload_n 0, 1) := by decide +kernel
theorem dX1_afterRising_38 : decode cX1_afterRising 38 = .ok (.iload_n 1, 1) := by decide +kernel
theorem dX1_afterRising_39 : decode cX1_afterRising 39 = .ok (.invokevirtual 89, 3) := by decide +kernel
theorem dX1_afterRising_42 : decode cX1_afterRising 42 = .ok (.ifCond .eq 12, 3) := by decide +kernel
theorem dX1_afterRising_45 : decode cX1_afterRising 45 = .ok (.aload_n 0, 1) := by decide +kernel
theorem dX1_afterRising_46 : decode cX1_afterRising 46 = .ok (.getfield 40, 3) := by decide +kernel
theorem dX1_afterRising_49 : decode cX1_afterRising 49 = .ok (.iload_n 1, 1) := by decide +kernel
theorem dX1_afterRising_50 : decode cX1_afterRising 50 = .ok (.iconst (-1), 1) := by decide +kernel
theorem dX1_afterRising_51 : decode cX1_afterRising 51 = .ok (.iastore, 1) := by decide +kernel
theorem dX1_afterRising_52 : decode cX1_afterRising 52 = .ok (.iconst 3, 1) := by decide +kernel
theorem dX1_afterRising_53 : decode cX1_afterRising 53 = .ok (.ireturn, 1) := by decide +kernel
theorem dX1_afterRising_54 : decode cX1_afterRising 54 = .ok (.aload_n 0, 1) := by decide +kernel
theorem dX1_afterRising_55 : decode cX1_afterRising 55 = .ok (.getfield 34, 3) := by decide +kernel
theorem dX1_afterRising_58 : decode cX1_afterRising 58 = .ok (.iload_n 1, 1) := by decide +kernel
theorem dX1_afterRising_59 : decode cX1_afterRising 59 = .ok (.dup2, 1) := by decide +kernel
theorem dX1_afterRising_60 : decode cX1_afterRising 60 = .ok (.iaload, 1) := by decide +kernel
theorem dX1_afterRising_61 : decode cX1_afterRising 61 = .ok (.iconst 1, 1) := by decide +kernel
theorem dX1_afterRising_62 : decode cX1_afterRising 62 = .ok (.iadd, 1) := by decide +kernel
theorem dX1_afterRising_63 : decode cX1_afterRising 63 = .ok (.iastore, 1) := by decide +kernel
theorem dX1_afterRising_64 : decode cX1_afterRising 64 = .ok (.aload_n 0, 1) := by decide +kernel
theorem dX1_afterRising_65 : decode cX1_afterRising 65 = .ok (.getfield 34, 3) := by decide +kernel
theorem dX1_afterRising_68 : decode cX1_afterRising 68 = .ok (.iload_n 1, 1) := by decide +kernel
theorem dX1_afterRising_69 : decode cX1_afterRising 69 = .ok (.iaload, 1) := by decide +kernel
theorem dX1_afterRising_70 : decode cX1_afterRising 70 = .ok (.aload_n 0, 1) := by decide +kernel
theorem dX1_afterRising_71 : decode cX1_afterRising 71 = .ok (.iload_n 1, 1) := by decide +kernel
theorem dX1_afterRising_72 : decode cX1_afterRising 72 = .ok (.iconst 5, 1) := by decide +kernel
theorem dX1_afterRising_73 : decode cX1_afterRising 73 = .ok (.invokevirtual 95, 3) := by decide +kernel
theorem dX1_afterRising_76 : decode cX1_afterRising 76 = .ok (.if_icmp .lt 11, 3) := by decide +kernel
theorem dX1_afterRising_79 : decode cX1_afterRising 79 = .ok (.aload_n 0, 1) := by decide +kernel
theorem dX1_afterRising_80 : decode cX1_afterRising 80 = .ok (.iload_n 1, 1) := by decide +kernel
theorem dX1_afterRising_81 : decode cX1_afterRising 81 = .ok (.invokevirtual 150, 3) := by decide +kernel
theorem dX1_afterRising_84 : decode cX1_afterRising 84 = .ok (.goto 4, 3) := by decide +kernel
theorem dX1_afterRising_87 : decode cX1_afterRising 87 = .ok (.iconst 2, 1) := by decide +kernel
theorem dX1_afterRising_88 : decode cX1_afterRising 88 = .ok (.ireturn, 1) := by decide +kernel
theorem dX1_afterGood_0 : decode cX1_afterGood 0 = .ok (.aload_n 0, 1) := by decide +kernel
theorem dX1_afterGood_1 : decode cX1_afterGood 1 = .ok (.iload_n 1, 1) := by decide +kernel
theorem dX1_afterGood_2 : decode cX1_afterGood 2 = .ok (.invokevirtual 147, 3) := by decide +kernel
theorem dX1_afterGood_5 : decode cX1_afterGood 5 = .ok (.istore_n 2, 1) := by decide +kernel
theorem dX1_afterGood_6 : decode cX1_afterGood 6 = .ok (.iload_n 2, 1) := by decide +kernel
theorem dX1_afterGood_7 : decode cX1_afterGood 7 = .ok (.iconst (-1), 1) := by decide +kernel
theorem dX1_afterGood_8 : decode cX1_afterGood 8 = .ok (.if_icmp .eq 12, 3) := by decide +kernel
theorem dX1_afterGood_11 : decode cX1_afterGood 11 = .ok (.aload_n 0, 1) := by decide +kernel
theorem dX1_afterGood_12 : decode cX1_afterGood 12 = .ok (.getfield 40, 3) := by decide +kernel
theorem dX1_afterGood_15 : decode cX1_afterGood 15 = .ok (.iload_n 1, 1) := by decide +kernel
theorem dX1_afterGood_16 : decode cX1_afterGood 16 = .ok (.iload_n 2, 1) := by decide +kernel
theorem dX1_afterGood_17 : decode cX1_afterGood 17 = .ok (.iastore, 1) := by decide +kernel
theorem dX1_afterGood_18 : decode cX1_afterGood 18 = .ok (.iconst 4, 1) := by decide +kernel
theorem dX1_afterGood_19 : decode cX1_afterGood 19 = .ok (.ireturn, 1) := by decide +kernel
theorem dX1_afterGood_20 : decode cX1_afterGood 20 = .ok (.aload_n 0, 1) := by decide +kernel
theorem dX1_afterGood_21 : decode cX1_afterGood 21 = .ok (.iload_n 1, 1) := by decide +kernel
theorem dX1_afterGood_22 : decode cX1_afterGood 22 = .ok (.invokevirtual 89, 3) := by decide +kernel
theorem dX1_afterGood_25 : decode cX1_afterGood 25 = .ok (.ifCond .ne 9, 3) := by decide +kernel
theorem dX1_afterGood_28 : decode cX1_afterGood 28 = .ok (.aload_n 0, 1) := by decide +kernel
theorem dX1_afterGood_29 : decode cX1_afterGood 29 = .ok (.iload_n 1, 1) := by decide +kernel
theorem dX1_afterGood_30 : decode cX1_afterGood 30 = .ok (.invokevirtual 150, 3) := by decide +kernel
theorem dX1_afterGood_33 : decode cX1_afterGood 33 = .ok (.ireturn, 1) := by decide +kernel
theorem dX1_afterGood_34 : decode cX1_afterGood 34 = .ok (.aload_n 0, 1) := by decide +kernel
theorem dX1_afterGood_35 : decode cX1_afterGood 35 = .ok (.iload_n 1, 1) := by decide +kernel
theorem dX1_afterGood_36 : decode cX1_afterGood 36 = .ok (.invokevirtual 85, 3) := by decide +kernel
theorem dX1_afterGood_39 : decode cX1_afterGood 39 = .ok (.ifCond .ne 20, 3) := by decide +kernel
theorem dX1_afterGood_42 : decode cX1_afterGood 42 = .ok (.aload_n 0, 1) := by decide +kernel
theorem dX1_afterGood_43 : decode cX1_afterGood 43 = .ok (.iload_n 1, 1) := by decide +kernel
theorem dX1_afterGood_44 : decode cX1_afterGood 44 = .ok (.invokevirtual 153, 3) := by decide +kernel
theorem dX1_afterGood_47 : decode cX1_afterGood 47 = .ok (.ifCond .eq 12, 3) := by decide +kernel
theorem dX1_afterGood_50 : decode cX1_afterGood 50 = .ok (.aload_n 0, 1) := by decide +kernel
theorem dX1_afterGood_51 : decode cX1_afterGood 51 = .ok (.getfield 40, 3) := by decide +kernel
theorem dX1_afterGood_54 : decode cX1_afterGood 54 = .ok (.iload_n 1, 1) := by decide +kernel
theorem dX1_afterGood_55 : decode cX1_afterGood 55 = .ok (.iconst (-1), 1) := by decide +kernel
theorem dX1_afterGood_56 : decode cX1_afterGood 56 = .ok (.iastore, 1) := by decide +kernel
theorem dX1_afterGood_57 : decode cX1_afterGood 57 = .ok (.iconst 4, 1) := by decide +kernel
theorem dX1_afterGood_58 : decode cX1_afterGood 58 = .ok (.ireturn, 1) := by decide +kernel
theorem dX1_afterGood_59 : decode cX1_afterGood 59 = .ok (.iconst 3, 1) := by decide +kernel
theorem dX1_afterGood_60 : decode cX1_afterGood 60 = .ok (.ireturn, 1) := by decide +kernel
theorem dX1_afterFalling_0 : decode cX1_afterFalling 0 = .ok (.aload_n 0, 1) := by decide +kernel
theorem dX1_afterFalling_1 : decode cX1_afterFalling 1 = .ok (.iload_n 1, 1) := by decide +kernel
theorem dX1_afterFalling_2 : decode cX1_afterFalling 2 = .ok (.invokevirtual 105, 3) := by decide +kernel
theorem dX1_afterFalling_5 : decode cX1_afterFalling 5 = .ok (.ifCond .ne 5, 3) := by decide +kernel
theorem dX1_afterFalling_8 : decode cX1_afterFalling 8 = .ok (.iconst 4, 1) := by decide +kernel
theorem dX1_afterFalling_9 : decode cX1_afterFalling 9 = .ok (.ireturn, 1) := by decide +kernel
theorem dX1_afterFalling_10 : decode cX1_afterFalling 10 = .ok (.aload_n 0, 1) := by decide +kernel
theorem dX1_afterFalling_11 : decode cX1_afterFalling 11 = .ok (.iload_n 1, 1) := by decide +kernel
theorem dX1_afterFalling_12 : decode cX1_afterFalling 12 = .ok (.invokevirtual 85, 3) := by decide +kernel
theorem dX1_afterFalling_15 : decode cX1_afterFalling 15 = .ok (.ifCond .ne 5, 3) := by decide +kernel
theorem dX1_afterFalling_18 : decode cX1_afterFalling 18 = .ok (.iconst 0, 1) := by decide +kernel
theorem dX1_afterFalling_19 : decode cX1_afterFalling 19 = .ok (.ireturn, 1) := by decide +kernel
theorem dX1_afterFalling_20 : decode cX1_afterFalling 20 = .ok (.aload_n 0, 1) := by decide +kernel
theorem dX1_afterFalling_21 : decode cX1_afterFalling 21 = .ok (.getfield 34, 3) := by decide +kernel
theorem dX1_afterFalling_24 : decode cX1_afterFalling 24 = .ok (.iload_n 1, 1) := by decide +kernel
theorem dX1_afterFalling_25 : decode cX1_afterFalling 25 = .ok (.iconst 0, 1) := by decide +kernel
theorem dX1_afterFalling_26 : decode cX1_afterFalling 26 = .ok (.iastore, 1) := by decide +kernel
theorem dX1_afterFalling_27 : decode cX1_afterFalling 27 = .ok (.iconst 1, 1) := by decide +kernel
theorem dX1_afterFalling_28 : decode cX1_afterFalling 28 = .ok (.ireturn, 1) := by decide +kernel
theorem dX1_afterFailure_0 : decode cX1_afterFailure 0 = .ok (.aload_n 0, 1) := by decide +kernel
theorem dX1_afterFailure_1 : decode cX1_afterFailure 1 = .ok (.getfield 40, 3) := by decide +kernel
theorem dX1_afterFailure_4 : decode cX1_afterFailure 4 = .ok (.iload_n 1, 1) := by decide +kernel
theorem dX1_afterFailure_5 : decode cX1_afterFailure 5 = .ok (.iload_n 1, 1) := by decide +kernel
theorem dX1_afterFailure_6 : decode cX1_afterFailure 6 = .ok (.iastore, 1) := by decide +kernel
theorem dX1_afterFailure_7 : decode cX1_afterFailure 7 = .ok (.aload_n 0, 1) := by decide +kernel
theorem dX1_afterFailure_8 : decode cX1_afterFailure 8 = .ok (.getfield 37, 3) := by decide +kernel
theorem dX1_afterFailure_11 : decode cX1_afterFailure 11 = .ok (.iload_n 1, 1) := by decide +kernel
theorem dX1_afterFailure_12 : decode cX1_afterFailure 12 = .ok (.dup2, 1) := by decide +kernel
theorem dX1_afterFailure_13 : decode cX1_afterFailure 13 = .ok (.iaload, 1) := by decide +kernel
theorem dX1_afterFailure_14 : decode cX1_afterFailure 14 = .ok (.iconst 1, 1) := by decide +kernel
theorem dX1_afterFailure_15 : decode cX1_afterFailure 15 = .ok (.iadd, 1) := by decide +kernel
theorem dX1_afterFailure_16 : decode cX1_afterFailure 16 = .ok (.iastore, 1) := by decide +kernel
theorem dX1_afterFailure_17 : decode cX1_afterFailure 17 = .ok (.aload_n 0, 1) := by decide +kernel
theorem dX1_afterFailure_18 : decode cX1_afterFailure 18 = .ok (.getfield 43, 3) := by decide +kernel
theorem dX1_afterFailure_21 : decode cX1_afterFailure 21 = .ok (.iload_n 1, 1) := by decide +kernel
theorem dX1_afterFailure_22 : decode cX1_afterFailure 22 = .ok (.iconst 4, 1) := by decide +kernel
theorem dX1_afterFailure_23 : decode cX1_afterFailure 23 = .ok (.imul, 1) := by decide +kernel
theorem dX1_afterFailure_24 : decode cX1_afterFailure 24 = .ok (.iconst 2, 1) := by decide +kernel
theorem dX1_afterFailure_25 : decode cX1_afterFailure 25 = .ok (.iadd, 1) := by decide +kernel
theorem dX1_afterFailure_26 : decode cX1_afterFailure 26 = .ok (.dup2, 1) := by decide +kernel
theorem dX1_afterFailure_27 : decode cX1_afterFailure 27 = .ok (.iaload, 1) := by decide +kernel
theorem dX1_afterFailure_28 : decode cX1_afterFailure 28 = .ok (.iconst 1, 1) := by decide +kernel
theorem dX1_afterFailure_29 : decode cX1_afterFailure 29 = .ok (.iadd, 1) := by decide +kernel
theorem dX1_afterFailure_30 : decode cX1_afterFailure 30 = .ok (.iastore, 1) := by decide +kernel
theorem dX1_afterFailure_31 : decode cX1_afterFailure 31 = .ok (.aload_n 0, 1) := by decide +kernel
theorem dX1_afterFailure_32 : decode cX1_afterFailure 32 = .ok (.getfield 37, 3) := by decide +kernel
theorem dX1_afterFailure_35 : decode cX1_afterFailure 35 = .ok (.iload_n 1, 1) := by decide +kernel
theorem dX1_afterFailure_36 : decode cX1_afterFailure 36 = .ok (.iaload, 1) := by decide +kernel
theorem dX1_afterFailure_37 : decode cX1_afterFailure 37 = .ok (.aload_n 0, 1) := by decide +kernel
theorem dX1_afterFailure_38 : decode cX1_afterFailure 38 = .ok (.iload_n 1, 1) := by decide +kernel
theorem dX1_afterFailure_39 : decode cX1_afterFailure 39 = .ok (.bipush 6, 2) := by decide +kernel
theorem dX1_afterFailure_41 : decode cX1_afterFailure 41 = .ok (.invokevirtual 95, 3) := by decide +kernel
theorem dX1_afterFailure_44 : decode cX1_afterFailure 44 = .ok (.if_icmp .lt 7, 3) := by decide +kernel
theorem dX1_afterFailure_47 : decode cX1_afterFailure 47 = .ok (.iconst 5, 1) := by decide +kernel
theorem dX1_afterFailure_48 : decode cX1_afterFailure 48 = .ok (.goto 4, 3) := by decide +kernel
theorem dX1_afterFailure_51 : decode cX1_afterFailure 51 = .ok (.iconst 4, 1) := by decide +kernel
theorem dX1_afterFailure_52 : decode cX1_afterFailure 52 = .ok (.ireturn, 1) := by decide +kernel
theorem dX1_lowestBadNeed_0 : decode cX1_lowestBadNeed 0 = .ok (.iconst 0, 1) := by decide +kernel
theorem dX1_lowestBadNeed_1 : decode cX1_lowestBadNeed 1 = .ok (.istore_n 2, 1) := by decide +kernel
theorem dX1_lowestBadNeed_2 : decode cX1_lowestBadNeed 2 = .ok (.iload_n 2, 1) := by decide +kernel
theorem dX1_lowestBadNeed_3 : decode cX1_lowestBadNeed 3 = .ok (.iload_n 1, 1) := by decide +kernel
theorem dX1_lowestBadNeed_4 : decode cX1_lowestBadNeed 4 = .ok (.if_icmp .ge 52, 3) := by decide +kernel
theorem dX1_lowestBadNeed_7 : decode cX1_lowestBadNeed 7 = .ok (.aload_n 0, 1) := by decide +kernel
theorem dX1_lowestBadNeed_8 : decode cX1_lowestBadNeed 8 = .ok (.getfield 19, 3) := by decide +kernel
theorem dX1_lowestBadNeed_11 : decode cX1_lowestBadNeed 11 = .ok (.iload_n 1, 1) := by decide +kernel
theorem dX1_lowestBadNeed_12 : decode cX1_lowestBadNeed 12 = .ok (.iaload, 1) := by decide +kernel
theorem dX1_lowestBadNeed_13 : decode cX1_lowestBadNeed 13 = .ok (.iconst 1, 1) := by decide +kernel
theorem dX1_lowestBadNeed_14 : decode cX1_lowestBadNeed 14 = .ok (.iload_n 2, 1) := by decide +kernel
theorem dX1_lowestBadNeed_15 : decode cX1_lowestBadNeed 15 = .ok (.ishl, 1) := by decide +kernel
theorem dX1_lowestBadNeed_16 : decode cX1_lowestBadNeed 16 = .ok (.iand, 1) := by decide +kernel
theorem dX1_lowestBadNeed_17 : decode cX1_lowestBadNeed 17 = .ok (.ifCond .eq 7, 3) := by decide +kernel
theorem dX1_lowestBadNeed_20 : decode cX1_lowestBadNeed 20 = .ok (.iconst 1, 1) := by decide +kernel
theorem dX1_lowestBadNeed_21 : decode cX1_lowestBadNeed 21 = .ok (.goto 4, 3) := by decide +kernel
theorem dX1_lowestBadNeed_24 : decode cX1_lowestBadNeed 24 = .ok (.iconst 0, 1) := by decide +kernel
theorem dX1_lowestBadNeed_25 : decode cX1_lowestBadNeed 25 = .ok (.istore_n 3, 1) := by decide +kernel
theorem dX1_lowestBadNeed_26 : decode cX1_lowestBadNeed 26 = .ok (.iload_n 3, 1) := by decide +kernel
theorem dX1_lowestBadNeed_27 : decode cX1_lowestBadNeed 27 = .ok (.ifCond .eq 23, 3) := by decide +kernel
theorem dX1_lowestBadNeed_30 : decode cX1_lowestBadNeed 30 = .ok (.aload_n 0, 1) := by decide +kernel
theorem dX1_lowestBadNeed_31 : decode cX1_lowestBadNeed 31 = .ok (.getfield 53, 3) := by decide +kernel
theorem dX1_lowestBadNeed_34 : decode cX1_lowestBadNeed 34 = .ok (.iload_n 2, 1) := by decide +kernel
theorem dX1_lowestBadNeed_35 : decode cX1_lowestBadNeed 35 = .ok (.iaload, 1) := by decide +kernel
theorem dX1_lowestBadNeed_36 : decode cX1_lowestBadNeed 36 = .ok (.iconst 3, 1) := by decide +kernel
theorem dX1_lowestBadNeed_37 : decode cX1_lowestBadNeed 37 = .ok (.if_icmp .ne 11, 3) := by decide +kernel
theorem dX1_lowestBadNeed_40 : decode cX1_lowestBadNeed 40 = .ok (.aload_n 0, 1) := by decide +kernel
theorem dX1_lowestBadNeed_41 : decode cX1_lowestBadNeed 41 = .ok (.iload_n 2, 1) := by decide +kernel
theorem dX1_lowestBadNeed_42 : decode cX1_lowestBadNeed 42 = .ok (.invokevirtual 89, 3) := by decide +kernel
theorem dX1_lowestBadNeed_45 : decode cX1_lowestBadNeed 45 = .ok (.ifCond .ne 5, 3) := by decide +kernel
theorem dX1_lowestBadNeed_48 : decode cX1_lowestBadNeed 48 = .ok (.iload_n 2, 1) := by decide +kernel
theorem dX1_lowestBadNeed_49 : decode cX1_lowestBadNeed 49 = .ok (.ireturn, 1) := by decide +kernel
theorem dX1_lowestBadNeed_50 : decode cX1_lowestBadNeed 50 = .ok (.iinc 2 1, 3) := by decide +kernel
theorem dX1_lowestBadNeed_53 : decode cX1_lowestBadNeed 53 = .ok (.goto (-51), 3) := by decide +kernel
theorem dX1_lowestBadNeed_56 : decode cX1_lowestBadNeed 56 = .ok (.iconst (-1), 1) := by decide +kernel
theorem dX1_lowestBadNeed_57 : decode cX1_lowestBadNeed 57 = .ok (.ireturn, 1) := by decide +kernel
theorem dX1_areUsersAtRest_0 : decode cX1_areUsersAtRest 0 = .ok (.iload_n 1, 1) := by decide +kernel
theorem dX1_areUsersAtRest_1 : decode cX1_areUsersAtRest 1 = .ok (.iconst 1, 1) := by decide +kernel
theorem dX1_areUsersAtRest_2 : decode cX1_areUsersAtRest 2 = .ok (.iadd, 1) := by decide +kernel
theorem dX1_areUsersAtRest_3 : decode cX1_areUsersAtRest 3 = .ok (.istore_n 2, 1) := by decide +kernel
theorem dX1_areUsersAtRest_4 : decode cX1_areUsersAtRest 4 = .ok (.iload_n 2, 1) := by decide +kernel
theorem dX1_areUsersAtRest_5 : decode cX1_areUsersAtRest 5 = .ok (.aload_n 0, 1) := by decide +kernel
theorem dX1_areUsersAtRest_6 : decode cX1_areUsersAtRest 6 = .ok (.getfield 62, 3) := by decide +kernel
theorem dX1_areUsersAtRest_9 : decode cX1_areUsersAtRest 9 = .ok (.if_icmp .ge 73, 3) := by decide +kernel
theorem dX1_areUsersAtRest_12 : decode cX1_areUsersAtRest 12 = .ok (.aload_n 0, 1) := by decide +kernel
theorem dX1_areUsersAtRest_13 : decode cX1_areUsersAtRest 13 = .ok (.getfield 19, 3) := by decide +kernel
theorem dX1_areUsersAtRest_16 : decode cX1_areUsersAtRest 16 = .ok (.iload_n 2, 1) := by decide +kernel
theorem dX1_areUsersAtRest_17 : decode cX1_areUsersAtRest 17 = .ok (.iaload, 1) := by decide +kernel
theorem dX1_areUsersAtRest_18 : decode cX1_areUsersAtRest 18 = .ok (.iconst 1, 1) := by decide +kernel
theorem dX1_areUsersAtRest_19 : decode cX1_areUsersAtRest 19 = .ok (.iload_n 1, 1) := by decide +kernel
theorem dX1_areUsersAtRest_20 : decode cX1_areUsersAtRest 20 = .ok (.ishl, 1) := by decide +kernel
theorem dX1_areUsersAtRest_21 : decode cX1_areUsersAtRest 21 = .ok (.iand, 1) := by decide +kernel
theorem dX1_areUsersAtRest_22 : decode cX1_areUsersAtRest 22 = .ok (.ifCond .eq 7, 3) := by decide +kernel
theorem dX1_areUsersAtRest_25 : decode cX1_areUsersAtRest 25 = .ok (.iconst 1, 1) := by decide +kernel
theorem dX1_areUsersAtRest_26 : decode cX1_areUsersAtRest 26 = .ok (.goto 4, 3) := by decide +kernel
theorem dX1_areUsersAtRest_29 : decode cX1_areUsersAtRest 29 = .ok (.iconst 0, 1) := by decide +kernel
theorem dX1_areUsersAtRest_30 : decode cX1_areUsersAtRest 30 = .ok (.istore_n 3, 1) := by decide +kernel
theorem dX1_areUsersAtRest_31 : decode cX1_areUsersAtRest 31 = .ok (.aload_n 0, 1) := by decide +kernel
theorem dX1_areUsersAtRest_32 : decode cX1_areUsersAtRest 32 = .ok (.getfield 53, 3) := by decide +kernel
theorem dX1_areUsersAtRest_35 : decode cX1_areUsersAtRest 35 = .ok (.iload_n 2, 1) := by decide +kernel
theorem dX1_areUsersAtRest_36 : decode cX1_areUsersAtRest 36 = .ok (.iaload, 1) := by decide +kernel
theorem dX1_areUsersAtRest_37 : decode cX1_areUsersAtRest 37 = .ok (.ifCond .eq 13, 3) := by decide +kernel
theorem dX1_areUsersAtRest_40 : decode cX1_areUsersAtRest 40 = .ok (.aload_n 0, 1) := by decide +kernel
theorem dX1_areUsersAtRest_41 : decode cX1_areUsersAtRest 41 = .ok (.getfield 53, 3) := by decide +kernel
theorem dX1_areUsersAtRest_44 : decode cX1_areUsersAtRest 44 = .ok (.iload_n 2, 1) := by decide +kernel
theorem dX1_areUsersAtRest_45 : decode cX1_areUsersAtRest 45 = .ok (.iaload, 1) := by decide +kernel
theorem dX1_areUsersAtRest_46 : decode cX1_areUsersAtRest 46 = .ok (.iconst 5, 1) := by decide +kernel
theorem dX1_areUsersAtRest_47 : decode cX1_areUsersAtRest 47 = .ok (.if_icmp .ne 7, 3) := by decide +kernel
theorem dX1_areUsersAtRest_50 : decode cX1_areUsersAtRest 50 = .ok (.iconst 1, 1) := by decide +kernel
theorem dX1_areUsersAtRest_51 : decode cX1_areUsersAtRest 51 = .ok (.goto 4, 3) := by decide +kernel
theorem dX1_areUsersAtRest_54 : decode cX1_areUsersAtRest 54 = .ok (.iconst 0, 1) := by decide +kernel
theorem dX1_areUsersAtRest_55 : decode cX1_areUsersAtRest 55 = .ok (.istore 4, 2) := by decide +kernel
theorem dX1_areUsersAtRest_57 : decode cX1_areUsersAtRest 57 = .ok (.iload_n 3, 1) := by decide +kernel
theorem dX1_areUsersAtRest_58 : decode cX1_areUsersAtRest 58 = .ok (.ifCond .eq 18, 3) := by decide +kernel
theorem dX1_areUsersAtRest_61 : decode cX1_areUsersAtRest 61 = .ok (.iload 4, 2) := by decide +kernel
theorem dX1_areUsersAtRest_63 : decode cX1_areUsersAtRest 63 = .ok (.ifCond .eq 11, 3) := by decide +kernel
theorem dX1_areUsersAtRest_66 : decode cX1_areUsersAtRest 66 = .ok (.aload_n 0, 1) := by decide +kernel
theorem dX1_areUsersAtRest_67 : decode cX1_areUsersAtRest 67 = .ok (.iload_n 2, 1) := by decide +kernel
theorem dX1_areUsersAtRest_68 : decode cX1_areUsersAtRest 68 = .ok (.invokevirtual 105, 3) := by decide +kernel
theorem dX1_areUsersAtRest_71 : decode cX1_areUsersAtRest 71 = .ok (.ifCond .ne 5, 3) := by decide +kernel
theorem dX1_areUsersAtRest_74 : decode cX1_areUsersAtRest 74 = .ok (.iconst 0, 1) := by decide +kernel
theorem dX1_areUsersAtRest_75 : decode cX1_areUsersAtRest 75 = .ok (.ireturn, 1) := by decide +kernel
theorem dX1_areUsersAtRest_76 : decode cX1_areUsersAtRest 76 = .ok (.iinc 2 1, 3) := by decide +kernel
theorem dX1_areUsersAtRest_79 : decode cX1_areUsersAtRest 79 = .ok (.goto (-75), 3) := by decide +kernel
theorem dX1_areUsersAtRest_82 : decode cX1_areUsersAtRest 82 = .ok (.iconst 1, 1) := by decide +kernel
theorem dX1_areUsersAtRest_83 : decode cX1_areUsersAtRest 83 = .ok (.ireturn, 1) := by decide +kernel
theorem dX1_become_0 : decode cX1_become 0 = .ok (.aload_n 0, 1) := by decide +kernel
theorem dX1_become_1 : decode cX1_become 1 = .ok (.getfield 22, 3) := by decide +kernel
theorem dX1_become_4 : decode cX1_become 4 = .ok (.iload_n 1, 1) := by decide +kernel
theorem dX1_become_5 : decode cX1_become 5 = .ok (.iload_n 2, 1) := by decide +kernel
theorem dX1_become_6 : decode cX1_become 6 = .ok (.iastore, 1) := by decide +kernel
theorem dX1_become_7 : decode cX1_become 7 = .ok (.iload_n 2, 1) := by decide +kernel
theorem dX1_become_8 : decode cX1_become 8 = .ok (.iconst 2, 1) := by decide +kernel
theorem dX1_become_9 : decode cX1_become 9 = .ok (.if_icmp .ne 17, 3) := by decide +kernel
theorem dX1_become_12 : decode cX1_become 12 = .ok (.aload_n 0, 1) := by decide +kernel
theorem dX1_become_13 : decode cX1_become 13 = .ok (.getfield 43, 3) := by decide +kernel
theorem dX1_become_16 : decode cX1_become 16 = .ok (.iload_n 1, 1) := by decide +kernel
theorem dX1_become_17 : decode cX1_become 17 = .ok (.iconst 4, 1) := by decide +kernel
theorem dX1_become_18 : decode cX1_become 18 = .ok (.imul, 1) := by decide +kernel
theorem dX1_become_19 : decode cX1_become 19 = .ok (.iconst 0, 1) := by decide +kernel
theorem dX1_become_20 : decode cX1_become 20 = .ok (.iadd, 1) := by decide +kernel
theorem dX1_become_21 : decode cX1_become 21 = .ok (.dup2, 1) := by decide +kernel
theorem dX1_become_22 : decode cX1_become 22 = .ok (.iaload, 1) := by decide +kernel
theorem dX1_become_23 : decode cX1_become 23 = .ok (.iconst 1, 1) := by decide +kernel
theorem dX1_become_24 : decode cX1_become 24 = .ok (.iadd, 1) := by decide +kernel
theorem dX1_become_25 : decode cX1_become 25 = .ok (.iastore, 1) := by decide +kernel
theorem dX1_become_26 : decode cX1_become 26 = .ok (.iload_n 2, 1) := by decide +kernel
theorem dX1_become_27 : decode cX1_become 27 = .ok (.iconst 3, 1) := by decide +kernel
theorem dX1_become_28 : decode cX1_become 28 = .ok (.if_icmp .ne 17, 3) := by decide +kernel
theorem dX1_become_31 : decode cX1_become 31 = .ok (.aload_n 0, 1) := by decide +kernel
theorem dX1_become_32 : decode cX1_become 32 = .ok (.getfield 43, 3) := by decide +kernel
theorem dX1_become_35 : decode cX1_become 35 = .ok (.iload_n 1, 1) := by decide +kernel
theorem dX1_become_36 : decode cX1_become 36 = .ok (.iconst 4, 1) := by decide +kernel
theorem dX1_become_37 : decode cX1_become 37 = .ok (.imul, 1) := by decide +kernel
theorem dX1_become_38 : decode cX1_become 38 = .ok (.iconst 1, 1) := by decide +kernel
theorem dX1_become_39 : decode cX1_become 39 = .ok (.iadd, 1) := by decide +kernel
theorem dX1_become_40 : decode cX1_become 40 = .ok (.dup2, 1) := by decide +kernel
theorem dX1_become_41 : decode cX1_become 41 = .ok (.iaload, 1) := by decide +kernel
theorem dX1_become_42 : decode cX1_become 42 = .ok (.iconst 1, 1) := by decide +kernel
theorem dX1_become_43 : decode cX1_become 43 = .ok (.iadd, 1) := by decide +kernel
theorem dX1_become_44 : decode cX1_become 44 = .ok (.iastore, 1) := by decide +kernel
theorem dX1_become_45 : decode cX1_become 45 = .ok (.aload_n 0, 1) := by decide +kernel
theorem dX1_become_46 : decode cX1_become 46 = .ok (.getfield 49, 3) := by decide +kernel
theorem dX1_become_49 : decode cX1_become 49 = .ok (.aload_n 0, 1) := by decide +kernel
theorem dX1_become_50 : decode cX1_become 50 = .ok (.getfield 65, 3) := by decide +kernel
theorem dX1_become_53 : decode cX1_become 53 = .ok (.iload_n 1, 1) := by decide +kernel
theorem dX1_become_54 : decode cX1_become 54 = .ok (.iload_n 2, 1) := by decide +kernel
theorem dX1_become_55 : decode cX1_become 55 = .ok (.aload_n 0, 1) := by decide +kernel
theorem dX1_become_56 : decode cX1_become 56 = .ok (.getfield 40, 3) := by decide +kernel
theorem dX1_become_59 : decode cX1_become 59 = .ok (.iload_n 1, 1) := by decide +kernel
theorem dX1_become_60 : decode cX1_become 60 = .ok (.iaload, 1) := by decide +kernel
theorem dX1_become_61 : decode cX1_become 61 = .ok (.invokevirtual 156, 3) := by decide +kernel
theorem dX1_become_64 : decode cX1_become 64 = .ok (.return_, 1) := by decide +kernel
theorem dX1_endTick_0 : decode cX1_endTick 0 = .ok (.iconst 0, 1) := by decide +kernel
theorem dX1_endTick_1 : decode cX1_endTick 1 = .ok (.istore_n 1, 1) := by decide +kernel
theorem dX1_endTick_2 : decode cX1_endTick 2 = .ok (.iload_n 1, 1) := by decide +kernel
theorem dX1_endTick_3 : decode cX1_endTick 3 = .ok (.aload_n 0, 1) := by decide +kernel
theorem dX1_endTick_4 : decode cX1_endTick 4 = .ok (.getfield 62, 3) := by decide +kernel
theorem dX1_endTick_7 : decode cX1_endTick 7 = .ok (.if_icmp .ge 52, 3) := by decide +kernel
theorem dX1_endTick_10 : decode cX1_endTick 10 = .ok (.aload_n 0, 1) := by decide +kernel
theorem dX1_endTick_11 : decode cX1_endTick 11 = .ok (.getfield 31, 3) := by decide +kernel
theorem dX1_endTick_14 : decode cX1_endTick 14 = .ok (.iload_n 1, 1) := by decide +kernel
theorem dX1_endTick_15 : decode cX1_endTick 15 = .ok (.iaload, 1) := by decide +kernel
theorem dX1_endTick_16 : decode cX1_endTick 16 = .ok (.ifCond .le 13, 3) := by decide +kernel
theorem dX1_endTick_19 : decode cX1_endTick 19 = .ok (.aload_n 0, 1) := by decide +kernel
theorem dX1_endTick_20 : decode cX1_endTick 20 = .ok (.getfield 31, 3) := by decide +kernel
theorem dX1_endTick_23 : decode cX1_endTick 23 = .ok (.iload_n 1, 1) := by decide +kernel
theorem dX1_endTick_24 : decode cX1_endTick 24 = .ok (.dup2, 1) := by decide +kernel
theorem dX1_endTick_25 : decode cX1_endTick 25 = .ok (.iaload, 1) := by decide +kernel
theorem dX1_endTick_26 : decode cX1_endTick 26 = .ok (.iconst 1, 1) := by decide +kernel
theorem dX1_endTick_27 : decode cX1_endTick 27 = .ok (.isub, 1) := by decide +kernel
theorem dX1_endTick_28 : decode cX1_endTick 28 = .ok (.iastore, 1) := by decide +kernel
theorem dX1_endTick_29 : decode cX1_endTick 29 = .ok (.aload_n 0, 1) := by decide +kernel
theorem dX1_endTick_30 : decode cX1_endTick 30 = .ok (.getfield 22, 3) := by decide +kernel
theorem dX1_endTick_33 : decode cX1_endTick 33 = .ok (.iload_n 1, 1) := by decide +kernel
theorem dX1_endTick_34 : decode cX1_endTick 34 = .ok (.iaload, 1) := by decide +kernel
theorem dX1_endTick_35 : decode cX1_endTick 35 = .ok (.iconst 3, 1) := by decide +kernel
theorem dX1_endTick_36 : decode cX1_endTick 36 = .ok (.if_icmp .ne 17, 3) := by decide +kernel
theorem dX1_endTick_39 : decode cX1_endTick 39 = .ok (.aload_n 0, 1) := by decide +kernel
theorem dX1_endTick_40 : decode cX1_endTick 40 = .ok (.getfield 43, 3) := by decide +kernel
theorem dX1_endTick_43 : decode cX1_endTick 43 = .ok (.iload_n 1, 1) := by decide +kernel
theorem dX1_endTick_44 : decode cX1_endTick 44 = .ok (.iconst 4, 1) := by decide +kernel
theorem dX1_endTick_45 : decode cX1_endTick 45 = .ok (.imul, 1) := by decide +kernel
theorem dX1_endTick_46 : decode cX1_endTick 46 = .ok (.iconst 3, 1) := by decide +kernel
theorem dX1_endTick_47 : decode cX1_endTick 47 = .ok (.iadd, 1) := by decide +kernel
theorem dX1_endTick_48 : decode cX1_endTick 48 = .ok (.dup2, 1) := by decide +kernel
theorem dX1_endTick_49 : decode cX1_endTick 49 = .ok (.iaload, 1) := by decide +kernel
theorem dX1_endTick_50 : decode cX1_endTick 50 = .ok (.iconst 1, 1) := by decide +kernel
theorem dX1_endTick_51 : decode cX1_endTick 51 = .ok (.iadd, 1) := by decide +kernel
theorem dX1_endTick_52 : decode cX1_endTick 52 = .ok (.iastore, 1) := by decide +kernel
theorem dX1_endTick_53 : decode cX1_endTick 53 = .ok (.iinc 1 1, 3) := by decide +kernel
theorem dX1_endTick_56 : decode cX1_endTick 56 = .ok (.goto (-54), 3) := by decide +kernel
theorem dX1_endTick_59 : decode cX1_endTick 59 = .ok (.aload_n 0, 1) := by decide +kernel
theorem dX1_endTick_60 : decode cX1_endTick 60 = .ok (.dup, 1) := by decide +kernel
theorem dX1_endTick_61 : decode cX1_endTick 61 = .ok (.getfield 65, 3) := by decide +kernel
theorem dX1_endTick_64 : decode cX1_endTick 64 = .ok (.iconst 1, 1) := by decide +kernel
theorem dX1_endTick_65 : decode cX1_endTick 65 = .ok (.iadd, 1) := by decide +kernel
theorem dX1_endTick_66 : decode cX1_endTick 66 = .ok (.putfield 65, 3) := by decide +kernel
theorem dX1_endTick_69 : decode cX1_endTick 69 = .ok (.return_, 1) := by decide +kernel
theorem dX1_wasStill_0 : decode cX1_wasStill 0 = .ok (.iconst 0, 1) := by decide +kernel
theorem dX1_wasStill_1 : decode cX1_wasStill 1 = .ok (.istore_n 1, 1) := by decide +kernel
theorem dX1_wasStill_2 : decode cX1_wasStill 2 = .ok (.iload_n 1, 1) := by decide +kernel
theorem dX1_wasStill_3 : decode cX1_wasStill 3 = .ok (.aload_n 0, 1) := by decide +kernel
theorem dX1_wasStill_4 : decode cX1_wasStill 4 = .ok (.getfield 62, 3) := by decide +kernel
theorem dX1_wasStill_7 : decode cX1_wasStill 7 = .ok (.if_icmp .ge 56, 3) := by decide +kernel
theorem dX1_wasStill_10 : decode cX1_wasStill 10 = .ok (.aload_n 0, 1) := by decide +kernel
theorem dX1_wasStill_11 : decode cX1_wasStill 11 = .ok (.getfield 22, 3) := by decide +kernel
theorem dX1_wasStill_14 : decode cX1_wasStill 14 = .ok (.iload_n 1, 1) := by decide +kernel
theorem dX1_wasStill_15 : decode cX1_wasStill 15 = .ok (.iaload, 1) := by decide +kernel
theorem dX1_wasStill_16 : decode cX1_wasStill 16 = .ok (.aload_n 0, 1) := by decide +kernel
theorem dX1_wasStill_17 : decode cX1_wasStill 17 = .ok (.getfield 53, 3) := by decide +kernel
theorem dX1_wasStill_20 : decode cX1_wasStill 20 = .ok (.iload_n 1, 1) := by decide +kernel
theorem dX1_wasStill_21 : decode cX1_wasStill 21 = .ok (.iaload, 1) := by decide +kernel
theorem dX1_wasStill_22 : decode cX1_wasStill 22 = .ok (.if_icmp .ne 33, 3) := by decide +kernel
theorem dX1_wasStill_25 : decode cX1_wasStill 25 = .ok (.aload_n 0, 1) := by decide +kernel
theorem dX1_wasStill_26 : decode cX1_wasStill 26 = .ok (.getfield 25, 3) := by decide +kernel
theorem dX1_wasStill_29 : decode cX1_wasStill 29 = .ok (.iload_n 1, 1) := by decide +kernel
theorem dX1_wasStill_30 : decode cX1_wasStill 30 = .ok (.iaload, 1) := by decide +kernel
theorem dX1_wasStill_31 : decode cX1_wasStill 31 = .ok (.aload_n 0, 1) := by decide +kernel
theorem dX1_wasStill_32 : decode cX1_wasStill 32 = .ok (.getfield 56, 3) := by decide +kernel
theorem dX1_wasStill_35 : decode cX1_wasStill 35 = .ok (.iload_n 1, 1) := by decide +kernel
theorem dX1_wasStill_36 : decode cX1_wasStill 36 = .ok (.iaload, 1) := by decide +kernel
theorem dX1_wasStill_37 : decode cX1_wasStill 37 = .ok (.if_icmp .ne 18, 3) := by decide +kernel
theorem dX1_wasStill_40 : decode cX1_wasStill 40 = .ok (.aload_n 0, 1) := by decide +kernel
theorem dX1_wasStill_41 : decode cX1_wasStill 41 = .ok (.getfield 34, 3) := by decide +kernel
theorem dX1_wasStill_44 : decode cX1_wasStill 44 = .ok (.iload_n 1, 1) := by decide +kernel
theorem dX1_wasStill_45 : decode cX1_wasStill 45 = .ok (.iaload, 1) := by decide +kernel
theorem dX1_wasStill_46 : decode cX1_wasStill 46 = .ok (.aload_n 0, 1) := by decide +kernel
theorem dX1_wasStill_47 : decode cX1_wasStill 47 = .ok (.getfield 59, 3) := by decide +kernel
theorem dX1_wasStill_50 : decode cX1_wasStill 50 = .ok (.iload_n 1, 1) := by decide +kernel
theorem dX1_wasStill_51 : decode cX1_wasStill 51 = .ok (.iaload, 1) := by decide +kernel
theorem dX1_wasStill_52 : decode cX1_wasStill 52 = .ok (.if_icmp .eq 5, 3) := by decide +kernel
theorem dX1_wasStill_55 : decode cX1_wasStill 55 = .ok (.iconst 0, 1) := by decide +kernel
theorem dX1_wasStill_56 : decode cX1_wasStill 56 = .ok (.ireturn, 1) := by decide +kernel
theorem dX1_wasStill_57 : decode cX1_wasStill 57 = .ok (.iinc 1 1, 3) := by decide +kernel
theorem dX1_wasStill_60 : decode cX1_wasStill 60 = .ok (.goto (-58), 3) := by decide +kernel
theorem dX1_wasStill_63 : decode cX1_wasStill 63 = .ok (.iconst 1, 1) := by decide +kernel
theorem dX1_wasStill_64 : decode cX1_wasStill 64 = .ok (.ireturn, 1) := by decide +kernel
theorem dX1_justDropped_0 : decode cX1_justDropped 0 = .ok (.iconst 0, 1) := by decide +kernel
theorem dX1_justDropped_1 : decode cX1_justDropped 1 = .ok (.istore_n 1, 1) := by decide +kernel
theorem dX1_justDropped_2 : decode cX1_justDropped 2 = .ok (.iconst 0, 1) := by decide +kernel
theorem dX1_justDropped_3 : decode cX1_justDropped 3 = .ok (.istore_n 2, 1) := by decide +kernel
theorem dX1_justDropped_4 : decode cX1_justDropped 4 = .ok (.iload_n 2, 1) := by decide +kernel
theorem dX1_justDropped_5 : decode cX1_justDropped 5 = .ok (.aload_n 0, 1) := by decide +kernel
theorem dX1_justDropped_6 : decode cX1_justDropped 6 = .ok (.getfield 62, 3) := by decide +kernel
theorem dX1_justDropped_9 : decode cX1_justDropped 9 = .ok (.if_icmp .ge 60, 3) := by decide +kernel
theorem dX1_justDropped_12 : decode cX1_justDropped 12 = .ok (.aload_n 0, 1) := by decide +kernel
theorem dX1_justDropped_13 : decode cX1_justDropped 13 = .ok (.getfield 22, 3) := by decide +kernel
theorem dX1_justDropped_16 : decode cX1_justDropped 16 = .ok (.iload_n 2, 1) := by decide +kernel
theorem dX1_justDropped_17 : decode cX1_justDropped 17 = .ok (.iaload, 1) := by decide +kernel
theorem dX1_justDropped_18 : decode cX1_justDropped 18 = .ok (.iconst 4, 1) := by decide +kernel
theorem dX1_justDropped_19 : decode cX1_justDropped 19 = .ok (.if_icmp .eq 13, 3) := by decide +kernel
theorem dX1_justDropped_22 : decode cX1_justDropped 22 = .ok (.aload_n 0, 1) := by decide +kernel
theorem dX1_justDropped_23 : decode cX1_justDropped 23 = .ok (.getfield 22, 3) := by decide +kernel
theorem dX1_justDropped_26 : decode cX1_justDropped 26 = .ok (.iload_n 2, 1) := by decide +kernel
theorem dX1_justDropped_27 : decode cX1_justDropped 27 = .ok (.iaload, 1) := by decide +kernel
theorem dX1_justDropped_28 : decode cX1_justDropped 28 = .ok (.iconst 5, 1) := by decide +kernel
theorem dX1_justDropped_29 : decode cX1_justDropped 29 = .ok (.if_icmp .ne 7, 3) := by decide +kernel
theorem dX1_justDropped_32 : decode cX1_justDropped 32 = .ok (.iconst 1, 1) := by decide +kernel
theorem dX1_justDropped_33 : decode cX1_justDropped 33 = .ok (.goto 4, 3) := by decide +kernel
theorem dX1_justDropped_36 : decode cX1_justDropped 36 = .ok (.iconst 0, 1) := by decide +kernel
theorem dX1_justDropped_37 : decode cX1_justDropped 37 = .ok (.istore_n 3, 1) := by decide +kernel
theorem dX1_justDropped_38 : decode cX1_justDropped 38 = .ok (.iload_n 3, 1) := by decide +kernel
theorem dX1_justDropped_39 : decode cX1_justDropped 39 = .ok (.ifCond .eq 24, 3) := by decide +kernel
theorem dX1_justDropped_42 : decode cX1_justDropped 42 = .ok (.aload_n 0, 1) := by decide +kernel
theorem dX1_justDropped_43 : decode cX1_justDropped 43 = .ok (.getfield 22, 3) := by decide +kernel
theorem dX1_justDropped_46 : decode cX1_justDropped 46 = .ok (.iload_n 2, 1) := by decide +kernel
theorem dX1_justDropped_47 : decode cX1_justDropped 47 = .ok (.iaload, 1) := by decide +kernel
theorem dX1_justDropped_48 : decode cX1_justDropped 48 = .ok (.aload_n 0, 1) := by decide +kernel
theorem dX1_justDropped_49 : decode cX1_justDropped 49 = .ok (.getfield 53, 3) := by decide +kernel
theorem dX1_justDropped_52 : decode cX1_justDropped 52 = .ok (.iload_n 2, 1) := by decide +kernel
theorem dX1_justDropped_53 : decode cX1_justDropped 53 = .ok (.iaload, 1) := by decide +kernel
theorem dX1_justDropped_54 : decode cX1_justDropped 54 = .ok (.if_icmp .eq 9, 3) := by decide +kernel
theorem dX1_justDropped_57 : decode cX1_justDropped 57 = .ok (.iload_n 1, 1) := by decide +kernel
theorem dX1_justDropped_58 : decode cX1_justDropped 58 = .ok (.iconst 1, 1) := by decide +kernel
theorem dX1_justDropped_59 : decode cX1_justDropped 59 = .ok (.iload_n 2, 1) := by decide +kernel
theorem dX1_justDropped_60 : decode cX1_justDropped 60 = .ok (.ishl, 1) := by decide +kernel
theorem dX1_justDropped_61 : decode cX1_justDropped 61 = .ok (.ior, 1) := by decide +kernel
theorem dX1_justDropped_62 : decode cX1_justDropped 62 = .ok (.istore_n 1, 1) := by decide +kernel
theorem dX1_justDropped_63 : decode cX1_justDropped 63 = .ok (.iinc 2 1, 3) := by decide +kernel
theorem dX1_justDropped_66 : decode cX1_justDropped 66 = .ok (.goto (-62), 3) := by decide +kernel
theorem dX1_justDropped_69 : decode cX1_justDropped 69 = .ok (.iload_n 1, 1) := by decide +kernel
theorem dX1_justDropped_70 : decode cX1_justDropped 70 = .ok (.ireturn, 1) := by decide +kernel
theorem dX1_dropForRestart_0 : decode cX1_dropForRestart 0 = .ok (.aload_n 0, 1) := by decide +kernel
theorem dX1_dropForRestart_1 : decode cX1_dropForRestart 1 = .ok (.iconst 1, 1) := by decide +kernel
theorem dX1_dropForRestart_2 : decode cX1_dropForRestart 2 = .ok (.iload_n 1, 1) := by decide +kernel
theorem dX1_dropForRestart_3 : decode cX1_dropForRestart 3 = .ok (.ishl, 1) := by decide +kernel
theorem dX1_dropForRestart_4 : decode cX1_dropForRestart 4 = .ok (.invokevirtual 81, 3) := by decide +kernel
theorem dX1_dropForRestart_7 : decode cX1_dropForRestart 7 = .ok (.istore_n 2, 1) := by decide +kernel
theorem dX1_dropForRestart_8 : decode cX1_dropForRestart 8 = .ok (.iconst 0, 1) := by decide +kernel
theorem dX1_dropForRestart_9 : decode cX1_dropForRestart 9 = .ok (.istore_n 3, 1) := by decide +kernel
theorem dX1_dropForRestart_10 : decode cX1_dropForRestart 10 = .ok (.iload_n 1, 1) := by decide +kernel
theorem dX1_dropForRestart_11 : decode cX1_dropForRestart 11 = .ok (.istore 4, 2) := by decide +kernel
theorem dX1_dropForRestart_13 : decode cX1_dropForRestart 13 = .ok (.iload 4, 2) := by decide +kernel
theorem dX1_dropForRestart_15 : decode cX1_dropForRestart 15 = .ok (.aload_n 0, 1) := by decide +kernel
theorem dX1_dropForRestart_16 : decode cX1_dropForRestart 16 = .ok (.getfield 62, 3) := by decide +kernel
theorem dX1_dropForRestart_19 : decode cX1_dropForRestart 19 = .ok (.if_icmp .ge 53, 3) := by decide +kernel
theorem dX1_dropForRestart_22 : decode cX1_dropForRestart 22 = .ok (.iload_n 2, 1) := by decide +kernel
theorem dX1_dropForRestart_23 : decode cX1_dropForRestart 23 = .ok (.iconst 1, 1) := by decide +kernel
theorem dX1_dropForRestart_24 : decode cX1_dropForRestart 24 = .ok (.iload 4, 2) := by decide +kernel
theorem dX1_dropForRestart_26 : decode cX1_dropForRestart 26 = .ok (.ishl, 1) := by decide +kernel
theorem dX1_dropForRestart_27 : decode cX1_dropForRestart 27 = .ok (.iand, 1) := by decide +kernel
theorem dX1_dropForRestart_28 : decode cX1_dropForRestart 28 = .ok (.ifCond .eq 38, 3) := by decide +kernel
theorem dX1_dropForRestart_31 : decode cX1_dropForRestart 31 = .ok (.aload_n 0, 1) := by decide +kernel
theorem dX1_dropForRestart_32 : decode cX1_dropForRestart 32 = .ok (.iload 4, 2) := by decide +kernel
theorem dX1_dropForRestart_34 : decode cX1_dropForRestart 34 = .ok (.invokevirtual 160, 3) := by decide +kernel
theorem dX1_dropForRestart_37 : decode cX1_dropForRestart 37 = .ok (.ifCond .eq 29, 3) := by decide +kernel
theorem dX1_dropForRestart_40 : decode cX1_dropForRestart 40 = .ok (.aload_n 0, 1) := by decide +kernel
theorem dX1_dropForRestart_41 : decode cX1_dropForRestart 41 = .ok (.getfield 40, 3) := by decide +kernel
theorem dX1_dropForRestart_44 : decode cX1_dropForRestart 44 = .ok (.iload 4, 2) := by decide +kernel
theorem dX1_dropForRestart_46 : decode cX1_dropForRestart 46 = .ok (.iload_n 1, 1) := by decide +kernel
theorem dX1_dropForRestart_47 : decode cX1_dropForRestart 47 = .ok (.iastore, 1) := by decide +kernel
theorem dX1_dropForRestart_48 : decode cX1_dropForRestart 48 = .ok (.aload_n 0, 1) := by decide +kernel
theorem dX1_dropForRestart_49 : decode cX1_dropForRestart 49 = .ok (.getfield 37, 3) := by decide +kernel
theorem dX1_dropForRestart_52 : decode cX1_dropForRestart 52 = .ok (.iload 4, 2) := by decide +kernel
theorem dX1_dropForRestart_54 : decode cX1_dropForRestart 54 = .ok (.iconst 0, 1) := by decide +kernel
theorem dX1_dropForRestart_55 : decode cX1_dropForRestart 55 = .ok (.iastore, 1) := by decide +kernel
theorem dX1_dropForRestart_56 : decode cX1_dropForRestart 56 = .ok (.aload_n 0, 1) := by decide +kernel
theorem dX1_dropForRestart_57 : decode cX1_dropForRestart 57 = .ok (.iload 4, 2) := by decide +kernel
theorem dX1_dropForRestart_59 : decode cX1_dropForRestart 59 = .ok (.iconst 4, 1) := by decide +kernel
theorem dX1_dropForRestart_60 : decode cX1_dropForRestart 60 = .ok (.invokevirtual 117, 3) := by decide +kernel
theorem dX1_dropForRestart_63 : decode cX1_dropForRestart 63 = .ok (.iinc 3 1, 3) := by decide +kernel
theorem dX1_dropForRestart_66 : decode cX1_dropForRestart 66 = .ok (.iinc 4 1, 3) := by decide +kernel
theorem dX1_dropForRestart_69 : decode cX1_dropForRestart 69 = .ok (.goto (-56), 3) := by decide +kernel
theorem dX1_dropForRestart_72 : decode cX1_dropForRestart 72 = .ok (.iload_n 3, 1) := by decide +kernel
theorem dX1_dropForRestart_73 : decode cX1_dropForRestart 73 = .ok (.ireturn, 1) := by decide +kernel
theorem dX1_isToDrop_0 : decode cX1_isToDrop 0 = .ok (.aload_n 0, 1) := by decide +kernel
theorem dX1_isToDrop_1 : decode cX1_isToDrop 1 = .ok (.getfield 22, 3) := by decide +kernel
theorem dX1_isToDrop_4 : decode cX1_isToDrop 4 = .ok (.iload_n 1, 1) := by decide +kernel
theorem dX1_isToDrop_5 : decode cX1_isToDrop 5 = .ok (.iaload, 1) := by decide +kernel
theorem dX1_isToDrop_6 : decode cX1_isToDrop 6 = .ok (.iconst 2, 1) := by decide +kernel
theorem dX1_isToDrop_7 : decode cX1_isToDrop 7 = .ok (.if_icmp .eq 31, 3) := by decide +kernel
theorem dX1_isToDrop_10 : decode cX1_isToDrop 10 = .ok (.aload_n 0, 1) := by decide +kernel
theorem dX1_isToDrop_11 : decode cX1_isToDrop 11 = .ok (.getfield 22, 3) := by decide +kernel
theorem dX1_isToDrop_14 : decode cX1_isToDrop 14 = .ok (.iload_n 1, 1) := by decide +kernel
theorem dX1_isToDrop_15 : decode cX1_isToDrop 15 = .ok (.iaload, 1) := by decide +kernel
theorem dX1_isToDrop_16 : decode cX1_isToDrop 16 = .ok (.iconst 3, 1) := by decide +kernel
theorem dX1_isToDrop_17 : decode cX1_isToDrop 17 = .ok (.if_icmp .eq 21, 3) := by decide +kernel
theorem dX1_isToDrop_20 : decode cX1_isToDrop 20 = .ok (.aload_n 0, 1) := by decide +kernel
theorem dX1_isToDrop_21 : decode cX1_isToDrop 21 = .ok (.getfield 22, 3) := by decide +kernel
theorem dX1_isToDrop_24 : decode cX1_isToDrop 24 = .ok (.iload_n 1, 1) := by decide +kernel
theorem dX1_isToDrop_25 : decode cX1_isToDrop 25 = .ok (.iaload, 1) := by decide +kernel
theorem dX1_isToDrop_26 : decode cX1_isToDrop 26 = .ok (.iconst 5, 1) := by decide +kernel
theorem dX1_isToDrop_27 : decode cX1_isToDrop 27 = .ok (.if_icmp .ne 15, 3) := by decide +kernel
theorem dX1_isToDrop_30 : decode cX1_isToDrop 30 = .ok (.aload_n 0, 1) := by decide +kernel
theorem dX1_isToDrop_31 : decode cX1_isToDrop 31 = .ok (.iload_n 1, 1) := by decide +kernel
theorem dX1_isToDrop_32 : decode cX1_isToDrop 32 = .ok (.invokevirtual 85, 3) := by decide +kernel
theorem dX1_isToDrop_35 : decode cX1_isToDrop 35 = .ok (.ifCond .eq 7, 3) := by decide +kernel
theorem dX1_isToDrop_38 : decode cX1_isToDrop 38 = .ok (.iconst 1, 1) := by decide +kernel
theorem dX1_isToDrop_39 : decode cX1_isToDrop 39 = .ok (.goto 4, 3) := by decide +kernel
theorem dX1_isToDrop_42 : decode cX1_isToDrop 42 = .ok (.iconst 0, 1) := by decide +kernel
theorem dX1_isToDrop_43 : decode cX1_isToDrop 43 = .ok (.ireturn, 1) := by decide +kernel
theorem dX2_init_0 : decode cX2_init 0 = .ok (.aload_n 0, 1) := by decide +kernel
theorem dX2_init_1 : decode cX2_init 1 = .ok (.invokespecial 3, 3) := by decide +kernel
theorem dX2_init_4 : decode cX2_init 4 = .ok (.aload_n 0, 1) := by decide +kernel
theorem dX2_init_5 : decode cX2_init 5 = .ok (.iconst 3, 1) := by decide +kernel
theorem dX2_init_6 : decode cX2_init 6 = .ok (.newarray .int, 2) := by decide +kernel
theorem dX2_init_8 : decode cX2_init 8 = .ok (.putfield 11, 3) := by decide +kernel
theorem dX2_init_11 : decode cX2_init 11 = .ok (.return_, 1) := by decide +kernel
theorem dX3_init_0 : decode cX3_init 0 = .ok (.aload_n 0, 1) := by decide +kernel
theorem dX3_init_1 : decode cX3_init 1 = .ok (.invokespecial 1, 3) := by decide +kernel
theorem dX3_init_4 : decode cX3_init 4 = .ok (.aload_n 0, 1) := by decide +kernel
theorem dX3_init_5 : decode cX3_init 5 = .ok (.new 7, 3) := by decide +kernel
theorem dX3_init_8 : decode cX3_init 8 = .ok (.dup, 1) := by decide +kernel
theorem dX3_init_9 : decode cX3_init 9 = .ok (.invokespecial 9, 3) := by decide +kernel
theorem dX3_init_12 : decode cX3_init 12 = .ok (.putfield 10, 3) := by decide +kernel
theorem dX3_init_15 : decode cX3_init 15 = .ok (.aload_n 0, 1) := by decide +kernel
theorem dX3_init_16 : decode cX3_init 16 = .ok (.new 7, 3) := by decide +kernel
theorem dX3_init_19 : decode cX3_init 19 = .ok (.dup, 1) := by decide +kernel
theorem dX3_init_20 : decode cX3_init 20 = .ok (.invokespecial 9, 3) := by decide +kernel
theorem dX3_init_23 : decode cX3_init 23 = .ok (.putfield 16, 3) := by decide +kernel
theorem dX3_init_26 : decode cX3_init 26 = .ok (.aload_n 0, 1) := by decide +kernel
theorem dX3_init_27 : decode cX3_init 27 = .ok (.bipush 6, 2) := by decide +kernel
theorem dX3_init_29 : decode cX3_init 29 = .ok (.anewarray 7, 3) := by decide +kernel
theorem dX3_init_32 : decode cX3_init 32 = .ok (.putfield 19, 3) := by decide +kernel
theorem dX3_init_35 : decode cX3_init 35 = .ok (.aload_n 0, 1) := by decide +kernel
theorem dX3_init_36 : decode cX3_init 36 = .ok (.bipush 60, 2) := by decide +kernel
theorem dX3_init_38 : decode cX3_init 38 = .ok (.newarray .int, 2) := by decide +kernel
theorem dX3_init_40 : decode cX3_init 40 = .ok (.putfield 23, 3) := by decide +kernel
theorem dX3_init_43 : decode cX3_init 43 = .ok (.aload_n 0, 1) := by decide +kernel
theorem dX3_init_44 : decode cX3_init 44 = .ok (.new 27, 3) := by decide +kernel
theorem dX3_init_47 : decode cX3_init 47 = .ok (.dup, 1) := by decide +kernel
theorem dX3_init_48 : decode cX3_init 48 = .ok (.invokespecial 29, 3) := by decide +kernel
theorem dX3_init_51 : decode cX3_init 51 = .ok (.putfield 30, 3) := by decide +kernel
theorem dX3_init_54 : decode cX3_init 54 = .ok (.iconst 0, 1) := by decide +kernel
theorem dX3_init_55 : decode cX3_init 55 = .ok (.istore_n 1, 1) := by decide +kernel
theorem dX3_init_56 : decode cX3_init 56 = .ok (.iload_n 1, 1) := by decide +kernel
theorem dX3_init_57 : decode cX3_init 57 = .ok (.bipush 6, 2) := by decide +kernel
theorem dX3_init_59 : decode cX3_init 59 = .ok (.if_icmp .ge 22, 3) := by decide +kernel
theorem dX3_init_62 : decode cX3_init 62 = .ok (.aload_n 0, 1) := by decide +kernel
theorem dX3_init_63 : decode cX3_init 63 = .ok (.getfield 19, 3) := by decide +kernel
theorem dX3_init_66 : decode cX3_init 66 = .ok (.iload_n 1, 1) := by decide +kernel
theorem dX3_init_67 : decode cX3_init 67 = .ok (.new 7, 3) := by decide +kernel
theorem dX3_init_70 : decode cX3_init 70 = .ok (.dup, 1) := by decide +kernel
theorem dX3_init_71 : decode cX3_init 71 = .ok (.invokespecial 9, 3) := by decide +kernel
theorem dX3_init_74 : decode cX3_init 74 = .ok (.aastore, 1) := by decide +kernel
theorem dX3_init_75 : decode cX3_init 75 = .ok (.iinc 1 1, 3) := by decide +kernel
theorem dX3_init_78 : decode cX3_init 78 = .ok (.goto (-22), 3) := by decide +kernel
theorem dX3_init_81 : decode cX3_init 81 = .ok (.return_, 1) := by decide +kernel
theorem dX3_addRail_0 : decode cX3_addRail 0 = .ok (.iconst 0, 1) := by decide +kernel
theorem dX3_addRail_1 : decode cX3_addRail 1 = .ok (.iload_n 1, 1) := by decide +kernel
theorem dX3_addRail_2 : decode cX3_addRail 2 = .ok (.invokestatic 34, 3) := by decide +kernel
theorem dX3_addRail_5 : decode cX3_addRail 5 = .ok (.ifCond .eq 19, 3) := by decide +kernel
theorem dX3_addRail_8 : decode cX3_addRail 8 = .ok (.iconst 1, 1) := by decide +kernel
theorem dX3_addRail_9 : decode cX3_addRail 9 = .ok (.iload_n 2, 1) := by decide +kernel
theorem dX3_addRail_10 : decode cX3_addRail 10 = .ok (.invokestatic 34, 3) := by decide +kernel
theorem dX3_addRail_13 : decode cX3_addRail 13 = .ok (.ifCond .eq 11, 3) := by decide +kernel
theorem dX3_addRail_16 : decode cX3_addRail 16 = .ok (.iconst 2, 1) := by decide +kernel
theorem dX3_addRail_17 : decode cX3_addRail 17 = .ok (.iload_n 3, 1) := by decide +kernel
theorem dX3_addRail_18 : decode cX3_addRail 18 = .ok (.invokestatic 34, 3) := by decide +kernel
theorem dX3_addRail_21 : decode cX3_addRail 21 = .ok (.ifCond .ne 13, 3) := by decide +kernel
theorem dX3_addRail_24 : decode cX3_addRail 24 = .ok (.new 38, 3) := by decide +kernel
theorem dX3_addRail_27 : decode cX3_addRail 27 = .ok (.dup, 1) := by decide +kernel
theorem dX3_addRail_28 : decode cX3_addRail 28 = .ok (.ldc 40, 2) := by decide +kernel
theorem dX3_addRail_30 : decode cX3_addRail 30 = .ok (.invokespecial 42, 3) := by decide +kernel
theorem dX3_addRail_33 : decode cX3_addRail 33 = .ok (.athrow, 1) := by decide +kernel
theorem dX3_addRail_34 : decode cX3_addRail 34 = .ok (.aload_n 0, 1) := by decide +kernel
theorem dX3_addRail_35 : decode cX3_addRail 35 = .ok (.iload 4, 2) := by decide +kernel
theorem dX3_addRail_37 : decode cX3_addRail 37 = .ok (.invokevirtual 45, 3) := by decide +kernel
theorem dX3_addRail_40 : decode cX3_addRail 40 = .ok (.ifCond .ne 13, 3) := by decide +kernel
theorem dX3_addRail_43 : decode cX3_addRail 43 = .ok (.new 38, 3) := by decide +kernel
theorem dX3_addRail_46 : decode cX3_addRail 46 = .ok (.dup, 1) := by decide +kernel
theorem dX3_addRail_47 : decode cX3_addRail 47 = .ok (.ldc 49, 2) := by decide +kernel
theorem dX3_addRail_49 : decode cX3_addRail 49 = .ok (.invokespecial 42, 3) := by decide +kernel
theorem dX3_addRail_52 : decode cX3_addRail 52 = .ok (.athrow, 1) := by decide +kernel
theorem dX3_addRail_53 : decode cX3_addRail 53 = .ok (.aload_n 0, 1) := by decide +kernel
theorem dX3_addRail_54 : decode cX3_addRail 54 = .ok (.getfield 10, 3) := by decide +kernel
theorem dX3_addRail_57 : decode cX3_addRail 57 = .ok (.getfield 51, 3) := by decide +kernel
theorem dX3_addRail_60 : decode cX3_addRail 60 = .ok (.bipush 8, 2) := by decide +kernel
theorem dX3_addRail_62 : decode cX3_addRail 62 = .ok (.if_icmp .lt 13, 3) := by decide +kernel
theorem dX3_addRail_65 : decode cX3_addRail 65 = .ok (.new 55, 3) := by decide +kernel
theorem dX3_addRail_68 : decode cX3_addRail 68 = .ok (.dup, 1) := by decide +kernel
theorem dX3_addRail_69 : decode cX3_addRail 69 = .ok (.ldc 57, 2) := by decide +kernel
theorem dX3_addRail_71 : decode cX3_addRail 71 = .ok (.invokespecial 59, 3) := by decide +kernel
theorem dX3_addRail_74 : decode cX3_addRail 74 = .ok (.athrow, 1) := by decide +kernel
theorem dX3_addRail_75 : decode cX3_addRail 75 = .ok (.aload_n 0, 1) := by decide +kernel
theorem dX3_addRail_76 : decode cX3_addRail 76 = .ok (.invokevirtual 60, 3) := by decide +kernel
theorem dX3_addRail_79 : decode cX3_addRail 79 = .ok (.aload_n 0, 1) := by decide +kernel
theorem dX3_addRail_80 : decode cX3_addRail 80 = .ok (.getfield 10, 3) := by decide +kernel
theorem dX3_addRail_83 : decode cX3_addRail 83 = .ok (.iload_n 1, 1) := by decide +kernel
theorem dX3_addRail_84 : decode cX3_addRail 84 = .ok (.iload_n 2, 1) := by decide +kernel
theorem dX3_addRail_85 : decode cX3_addRail 85 = .ok (.iload_n 3, 1) := by decide +kernel
theorem dX3_addRail_86 : decode cX3_addRail 86 = .ok (.iload 4, 2) := by decide +kernel
theorem dX3_addRail_88 : decode cX3_addRail 88 = .ok (.invokevirtual 63, 3) := by decide +kernel
theorem dX3_addRail_91 : decode cX3_addRail 91 = .ok (.aload_n 0, 1) := by decide +kernel
theorem dX3_addRail_92 : decode cX3_addRail 92 = .ok (.getfield 10, 3) := by decide +kernel
theorem dX3_addRail_95 : decode cX3_addRail 95 = .ok (.getfield 51, 3) := by decide +kernel
theorem dX3_addRail_98 : decode cX3_addRail 98 = .ok (.iconst 1, 1) := by decide +kernel
theorem dX3_addRail_99 : decode cX3_addRail 99 = .ok (.isub, 1) := by decide +kernel
theorem dX3_addRail_100 : decode cX3_addRail 100 = .ok (.ireturn, 1) := by decide +kernel
theorem dX3_set_0 : decode cX3_set 0 = .ok (.aload_n 0, 1) := by decide +kernel
theorem dX3_set_1 : decode cX3_set 1 = .ok (.iload_n 1, 1) := by decide +kernel
theorem dX3_set_2 : decode cX3_set 2 = .ok (.invokevirtual 67, 3) := by decide +kernel
theorem dX3_set_5 : decode cX3_set 5 = .ok (.ifCond .eq 13, 3) := by decide +kernel
theorem dX3_set_8 : decode cX3_set 8 = .ok (.iload_n 2, 1) := by decide +kernel
theorem dX3_set_9 : decode cX3_set 9 = .ok (.ifCond .lt 9, 3) := by decide +kernel
theorem dX3_set_12 : decode cX3_set 12 = .ok (.iload_n 2, 1) := by decide +kernel
theorem dX3_set_13 : decode cX3_set 13 = .ok (.bipush 7, 2) := by decide +kernel
theorem dX3_set_15 : decode cX3_set 15 = .ok (.if_icmp .lt 13, 3) := by decide +kernel
theorem dX3_set_18 : decode cX3_set 18 = .ok (.new 70, 3) := by decide +kernel
theorem dX3_set_21 : decode cX3_set 21 = .ok (.dup, 1) := by decide +kernel
theorem dX3_set_22 : decode cX3_set 22 = .ok (.ldc 72, 2) := by decide +kernel
theorem dX3_set_24 : decode cX3_set 24 = .ok (.invokespecial 74, 3) := by decide +kernel
