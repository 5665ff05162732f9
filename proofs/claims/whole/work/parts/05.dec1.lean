theorem dX3_set_28 : decode cX3_set 28 = .ok (.iload_n 2, 1) := by decide +kernel
theorem dX3_set_29 : decode cX3_set 29 = .ok (.iload_n 3, 1) := by decide +kernel
theorem dX3_set_30 : decode cX3_set 30 = .ok (.invokestatic 34, 3) := by decide +kernel
theorem dX3_set_33 : decode cX3_set 33 = .ok (.ifCond .ne 13, 3) := by decide +kernel
theorem dX3_set_36 : decode cX3_set 36 = .ok (.new 38, 3) := by decide +kernel
theorem dX3_set_39 : decode cX3_set 39 = .ok (.dup, 1) := by decide +kernel
theorem dX3_set_40 : decode cX3_set 40 = .ok (.ldc 75, 2) := by decide +kernel
theorem dX3_set_42 : decode cX3_set 42 = .ok (.invokespecial 42, 3) := by decide +kernel
theorem dX3_set_45 : decode cX3_set 45 = .ok (.athrow, 1) := by decide +kernel
theorem dX3_set_46 : decode cX3_set 46 = .ok (.aload_n 0, 1) := by decide +kernel
theorem dX3_set_47 : decode cX3_set 47 = .ok (.invokevirtual 60, 3) := by decide +kernel
theorem dX3_set_50 : decode cX3_set 50 = .ok (.aload_n 0, 1) := by decide +kernel
theorem dX3_set_51 : decode cX3_set 51 = .ok (.getfield 10, 3) := by decide +kernel
theorem dX3_set_54 : decode cX3_set 54 = .ok (.iload_n 1, 1) := by decide +kernel
theorem dX3_set_55 : decode cX3_set 55 = .ok (.iload_n 2, 1) := by decide +kernel
theorem dX3_set_56 : decode cX3_set 56 = .ok (.invokevirtual 77, 3) := by decide +kernel
theorem dX3_set_59 : decode cX3_set 59 = .ok (.istore 4, 2) := by decide +kernel
theorem dX3_set_61 : decode cX3_set 61 = .ok (.aload_n 0, 1) := by decide +kernel
theorem dX3_set_62 : decode cX3_set 62 = .ok (.getfield 10, 3) := by decide +kernel
theorem dX3_set_65 : decode cX3_set 65 = .ok (.getfield 81, 3) := by decide +kernel
theorem dX3_set_68 : decode cX3_set 68 = .ok (.iload_n 1, 1) := by decide +kernel
theorem dX3_set_69 : decode cX3_set 69 = .ok (.bipush 7, 2) := by decide +kernel
theorem dX3_set_71 : decode cX3_set 71 = .ok (.imul, 1) := by decide +kernel
theorem dX3_set_72 : decode cX3_set 72 = .ok (.iload_n 2, 1) := by decide +kernel
theorem dX3_set_73 : decode cX3_set 73 = .ok (.iadd, 1) := by decide +kernel
theorem dX3_set_74 : decode cX3_set 74 = .ok (.iload_n 3, 1) := by decide +kernel
theorem dX3_set_75 : decode cX3_set 75 = .ok (.iastore, 1) := by decide +kernel
theorem dX3_set_76 : decode cX3_set 76 = .ok (.iload 4, 2) := by decide +kernel
theorem dX3_set_78 : decode cX3_set 78 = .ok (.ireturn, 1) := by decide +kernel
theorem dX3_setNeeds_0 : decode cX3_setNeeds 0 = .ok (.aload_n 0, 1) := by decide +kernel
theorem dX3_setNeeds_1 : decode cX3_setNeeds 1 = .ok (.iload_n 1, 1) := by decide +kernel
theorem dX3_setNeeds_2 : decode cX3_setNeeds 2 = .ok (.invokevirtual 67, 3) := by decide +kernel
theorem dX3_setNeeds_5 : decode cX3_setNeeds 5 = .ok (.ifCond .ne 13, 3) := by decide +kernel
theorem dX3_setNeeds_8 : decode cX3_setNeeds 8 = .ok (.new 70, 3) := by decide +kernel
theorem dX3_setNeeds_11 : decode cX3_setNeeds 11 = .ok (.dup, 1) := by decide +kernel
theorem dX3_setNeeds_12 : decode cX3_setNeeds 12 = .ok (.ldc 84, 2) := by decide +kernel
theorem dX3_setNeeds_14 : decode cX3_setNeeds 14 = .ok (.invokespecial 74, 3) := by decide +kernel
theorem dX3_setNeeds_17 : decode cX3_setNeeds 17 = .ok (.athrow, 1) := by decide +kernel
theorem dX3_setNeeds_18 : decode cX3_setNeeds 18 = .ok (.iload_n 1, 1) := by decide +kernel
theorem dX3_setNeeds_19 : decode cX3_setNeeds 19 = .ok (.iload_n 2, 1) := by decide +kernel
theorem dX3_setNeeds_20 : decode cX3_setNeeds 20 = .ok (.invokestatic 86, 3) := by decide +kernel
theorem dX3_setNeeds_23 : decode cX3_setNeeds 23 = .ok (.ifCond .ne 13, 3) := by decide +kernel
theorem dX3_setNeeds_26 : decode cX3_setNeeds 26 = .ok (.new 38, 3) := by decide +kernel
theorem dX3_setNeeds_29 : decode cX3_setNeeds 29 = .ok (.dup, 1) := by decide +kernel
theorem dX3_setNeeds_30 : decode cX3_setNeeds 30 = .ok (.ldc 89, 2) := by decide +kernel
theorem dX3_setNeeds_32 : decode cX3_setNeeds 32 = .ok (.invokespecial 42, 3) := by decide +kernel
theorem dX3_setNeeds_35 : decode cX3_setNeeds 35 = .ok (.athrow, 1) := by decide +kernel
theorem dX3_setNeeds_36 : decode cX3_setNeeds 36 = .ok (.aload_n 0, 1) := by decide +kernel
theorem dX3_setNeeds_37 : decode cX3_setNeeds 37 = .ok (.getfield 10, 3) := by decide +kernel
theorem dX3_setNeeds_40 : decode cX3_setNeeds 40 = .ok (.getfield 91, 3) := by decide +kernel
theorem dX3_setNeeds_43 : decode cX3_setNeeds 43 = .ok (.iload_n 1, 1) := by decide +kernel
theorem dX3_setNeeds_44 : decode cX3_setNeeds 44 = .ok (.iaload, 1) := by decide +kernel
theorem dX3_setNeeds_45 : decode cX3_setNeeds 45 = .ok (.ifCond .eq 26, 3) := by decide +kernel
theorem dX3_setNeeds_48 : decode cX3_setNeeds 48 = .ok (.aload_n 0, 1) := by decide +kernel
theorem dX3_setNeeds_49 : decode cX3_setNeeds 49 = .ok (.getfield 10, 3) := by decide +kernel
theorem dX3_setNeeds_52 : decode cX3_setNeeds 52 = .ok (.getfield 91, 3) := by decide +kernel
theorem dX3_setNeeds_55 : decode cX3_setNeeds 55 = .ok (.iload_n 1, 1) := by decide +kernel
theorem dX3_setNeeds_56 : decode cX3_setNeeds 56 = .ok (.iaload, 1) := by decide +kernel
theorem dX3_setNeeds_57 : decode cX3_setNeeds 57 = .ok (.iconst 5, 1) := by decide +kernel
theorem dX3_setNeeds_58 : decode cX3_setNeeds 58 = .ok (.if_icmp .eq 13, 3) := by decide +kernel
theorem dX3_setNeeds_61 : decode cX3_setNeeds 61 = .ok (.new 55, 3) := by decide +kernel
theorem dX3_setNeeds_64 : decode cX3_setNeeds 64 = .ok (.dup, 1) := by decide +kernel
theorem dX3_setNeeds_65 : decode cX3_setNeeds 65 = .ok (.ldc 94, 2) := by decide +kernel
theorem dX3_setNeeds_67 : decode cX3_setNeeds 67 = .ok (.invokespecial 59, 3) := by decide +kernel
theorem dX3_setNeeds_70 : decode cX3_setNeeds 70 = .ok (.athrow, 1) := by decide +kernel
theorem dX3_setNeeds_71 : decode cX3_setNeeds 71 = .ok (.aload_n 0, 1) := by decide +kernel
theorem dX3_setNeeds_72 : decode cX3_setNeeds 72 = .ok (.invokevirtual 60, 3) := by decide +kernel
theorem dX3_setNeeds_75 : decode cX3_setNeeds 75 = .ok (.aload_n 0, 1) := by decide +kernel
theorem dX3_setNeeds_76 : decode cX3_setNeeds 76 = .ok (.getfield 10, 3) := by decide +kernel
theorem dX3_setNeeds_79 : decode cX3_setNeeds 79 = .ok (.getfield 96, 3) := by decide +kernel
theorem dX3_setNeeds_82 : decode cX3_setNeeds 82 = .ok (.iload_n 1, 1) := by decide +kernel
theorem dX3_setNeeds_83 : decode cX3_setNeeds 83 = .ok (.iaload, 1) := by decide +kernel
theorem dX3_setNeeds_84 : decode cX3_setNeeds 84 = .ok (.istore_n 3, 1) := by decide +kernel
theorem dX3_setNeeds_85 : decode cX3_setNeeds 85 = .ok (.aload_n 0, 1) := by decide +kernel
theorem dX3_setNeeds_86 : decode cX3_setNeeds 86 = .ok (.getfield 10, 3) := by decide +kernel
theorem dX3_setNeeds_89 : decode cX3_setNeeds 89 = .ok (.getfield 96, 3) := by decide +kernel
theorem dX3_setNeeds_92 : decode cX3_setNeeds 92 = .ok (.iload_n 1, 1) := by decide +kernel
theorem dX3_setNeeds_93 : decode cX3_setNeeds 93 = .ok (.iload_n 2, 1) := by decide +kernel
theorem dX3_setNeeds_94 : decode cX3_setNeeds 94 = .ok (.iastore, 1) := by decide +kernel
theorem dX3_setNeeds_95 : decode cX3_setNeeds 95 = .ok (.iload_n 3, 1) := by decide +kernel
theorem dX3_setNeeds_96 : decode cX3_setNeeds 96 = .ok (.ireturn, 1) := by decide +kernel
theorem dX3_setResidue_0 : decode cX3_setResidue 0 = .ok (.iload_n 1, 1) := by decide +kernel
theorem dX3_setResidue_1 : decode cX3_setResidue 1 = .ok (.ifCond .lt 10, 3) := by decide +kernel
theorem dX3_setResidue_4 : decode cX3_setResidue 4 = .ok (.iload_n 1, 1) := by decide +kernel
theorem dX3_setResidue_5 : decode cX3_setResidue 5 = .ok (.sipush 500, 3) := by decide +kernel
theorem dX3_setResidue_8 : decode cX3_setResidue 8 = .ok (.if_icmp .le 13, 3) := by decide +kernel
theorem dX3_setResidue_11 : decode cX3_setResidue 11 = .ok (.new 38, 3) := by decide +kernel
theorem dX3_setResidue_14 : decode cX3_setResidue 14 = .ok (.dup, 1) := by decide +kernel
theorem dX3_setResidue_15 : decode cX3_setResidue 15 = .ok (.ldc 99, 2) := by decide +kernel
theorem dX3_setResidue_17 : decode cX3_setResidue 17 = .ok (.invokespecial 42, 3) := by decide +kernel
theorem dX3_setResidue_20 : decode cX3_setResidue 20 = .ok (.athrow, 1) := by decide +kernel
theorem dX3_setResidue_21 : decode cX3_setResidue 21 = .ok (.aload_n 0, 1) := by decide +kernel
theorem dX3_setResidue_22 : decode cX3_setResidue 22 = .ok (.invokevirtual 60, 3) := by decide +kernel
theorem dX3_setResidue_25 : decode cX3_setResidue 25 = .ok (.aload_n 0, 1) := by decide +kernel
theorem dX3_setResidue_26 : decode cX3_setResidue 26 = .ok (.getfield 10, 3) := by decide +kernel
theorem dX3_setResidue_29 : decode cX3_setResidue 29 = .ok (.getfield 101, 3) := by decide +kernel
theorem dX3_setResidue_32 : decode cX3_setResidue 32 = .ok (.istore_n 2, 1) := by decide +kernel
theorem dX3_setResidue_33 : decode cX3_setResidue 33 = .ok (.aload_n 0, 1) := by decide +kernel
theorem dX3_setResidue_34 : decode cX3_setResidue 34 = .ok (.getfield 10, 3) := by decide +kernel
theorem dX3_setResidue_37 : decode cX3_setResidue 37 = .ok (.iload_n 1, 1) := by decide +kernel
theorem dX3_setResidue_38 : decode cX3_setResidue 38 = .ok (.putfield 101, 3) := by decide +kernel
theorem dX3_setResidue_41 : decode cX3_setResidue 41 = .ok (.iload_n 2, 1) := by decide +kernel
theorem dX3_setResidue_42 : decode cX3_setResidue 42 = .ok (.ireturn, 1) := by decide +kernel
theorem dX3_on_0 : decode cX3_on 0 = .ok (.aload_n 0, 1) := by decide +kernel
theorem dX3_on_1 : decode cX3_on 1 = .ok (.iload_n 1, 1) := by decide +kernel
theorem dX3_on_2 : decode cX3_on 2 = .ok (.invokevirtual 45, 3) := by decide +kernel
theorem dX3_on_5 : decode cX3_on 5 = .ok (.ifCond .ne 13, 3) := by decide +kernel
theorem dX3_on_8 : decode cX3_on 8 = .ok (.new 38, 3) := by decide +kernel
theorem dX3_on_11 : decode cX3_on 11 = .ok (.dup, 1) := by decide +kernel
theorem dX3_on_12 : decode cX3_on 12 = .ok (.ldc 104, 2) := by decide +kernel
theorem dX3_on_14 : decode cX3_on 14 = .ok (.invokespecial 42, 3) := by decide +kernel
theorem dX3_on_17 : decode cX3_on 17 = .ok (.athrow, 1) := by decide +kernel
theorem dX3_on_18 : decode cX3_on 18 = .ok (.aload_n 0, 1) := by decide +kernel
theorem dX3_on_19 : decode cX3_on 19 = .ok (.invokevirtual 60, 3) := by decide +kernel
theorem dX3_on_22 : decode cX3_on 22 = .ok (.aload_n 0, 1) := by decide +kernel
theorem dX3_on_23 : decode cX3_on 23 = .ok (.getfield 10, 3) := by decide +kernel
theorem dX3_on_26 : decode cX3_on 26 = .ok (.dup, 1) := by decide +kernel
theorem dX3_on_27 : decode cX3_on 27 = .ok (.getfield 106, 3) := by decide +kernel
theorem dX3_on_30 : decode cX3_on 30 = .ok (.aload_n 0, 1) := by decide +kernel
theorem dX3_on_31 : decode cX3_on 31 = .ok (.getfield 10, 3) := by decide +kernel
theorem dX3_on_34 : decode cX3_on 34 = .ok (.iload_n 1, 1) := by decide +kernel
theorem dX3_on_35 : decode cX3_on 35 = .ok (.invokevirtual 109, 3) := by decide +kernel
theorem dX3_on_38 : decode cX3_on 38 = .ok (.ior, 1) := by decide +kernel
theorem dX3_on_39 : decode cX3_on 39 = .ok (.putfield 106, 3) := by decide +kernel
theorem dX3_on_42 : decode cX3_on 42 = .ok (.aload_n 0, 1) := by decide +kernel
theorem dX3_on_43 : decode cX3_on 43 = .ok (.getfield 10, 3) := by decide +kernel
theorem dX3_on_46 : decode cX3_on 46 = .ok (.getfield 106, 3) := by decide +kernel
theorem dX3_on_49 : decode cX3_on 49 = .ok (.ireturn, 1) := by decide +kernel
theorem dX3_off_0 : decode cX3_off 0 = .ok (.aload_n 0, 1) := by decide +kernel
theorem dX3_off_1 : decode cX3_off 1 = .ok (.iload_n 1, 1) := by decide +kernel
theorem dX3_off_2 : decode cX3_off 2 = .ok (.invokevirtual 45, 3) := by decide +kernel
theorem dX3_off_5 : decode cX3_off 5 = .ok (.ifCond .ne 13, 3) := by decide +kernel
theorem dX3_off_8 : decode cX3_off 8 = .ok (.new 38, 3) := by decide +kernel
theorem dX3_off_11 : decode cX3_off 11 = .ok (.dup, 1) := by decide +kernel
theorem dX3_off_12 : decode cX3_off 12 = .ok (.ldc 104, 2) := by decide +kernel
theorem dX3_off_14 : decode cX3_off 14 = .ok (.invokespecial 42, 3) := by decide +kernel
theorem dX3_off_17 : decode cX3_off 17 = .ok (.athrow, 1) := by decide +kernel
theorem dX3_off_18 : decode cX3_off 18 = .ok (.aload_n 0, 1) := by decide +kernel
theorem dX3_off_19 : decode cX3_off 19 = .ok (.invokevirtual 60, 3) := by decide +kernel
theorem dX3_off_22 : decode cX3_off 22 = .ok (.aload_n 0, 1) := by decide +kernel
theorem dX3_off_23 : decode cX3_off 23 = .ok (.getfield 10, 3) := by decide +kernel
theorem dX3_off_26 : decode cX3_off 26 = .ok (.dup, 1) := by decide +kernel
theorem dX3_off_27 : decode cX3_off 27 = .ok (.getfield 106, 3) := by decide +kernel
theorem dX3_off_30 : decode cX3_off 30 = .ok (.aload_n 0, 1) := by decide +kernel
theorem dX3_off_31 : decode cX3_off 31 = .ok (.getfield 10, 3) := by decide +kernel
theorem dX3_off_34 : decode cX3_off 34 = .ok (.iload_n 1, 1) := by decide +kernel
theorem dX3_off_35 : decode cX3_off 35 = .ok (.invokevirtual 113, 3) := by decide +kernel
theorem dX3_off_38 : decode cX3_off 38 = .ok (.iconst (-1), 1) := by decide +kernel
theorem dX3_off_39 : decode cX3_off 39 = .ok (.ixor, 1) := by decide +kernel
theorem dX3_off_40 : decode cX3_off 40 = .ok (.iand, 1) := by decide +kernel
theorem dX3_off_41 : decode cX3_off 41 = .ok (.putfield 106, 3) := by decide +kernel
theorem dX3_off_44 : decode cX3_off 44 = .ok (.aload_n 0, 1) := by decide +kernel
theorem dX3_off_45 : decode cX3_off 45 = .ok (.getfield 10, 3) := by decide +kernel
theorem dX3_off_48 : decode cX3_off 48 = .ok (.getfield 106, 3) := by decide +kernel
theorem dX3_off_51 : decode cX3_off 51 = .ok (.ireturn, 1) := by decide +kernel
theorem dX3_restart_0 : decode cX3_restart 0 = .ok (.aload_n 0, 1) := by decide +kernel
theorem dX3_restart_1 : decode cX3_restart 1 = .ok (.iload_n 1, 1) := by decide +kernel
theorem dX3_restart_2 : decode cX3_restart 2 = .ok (.invokevirtual 67, 3) := by decide +kernel
theorem dX3_restart_5 : decode cX3_restart 5 = .ok (.ifCond .ne 13, 3) := by decide +kernel
theorem dX3_restart_8 : decode cX3_restart 8 = .ok (.new 70, 3) := by decide +kernel
theorem dX3_restart_11 : decode cX3_restart 11 = .ok (.dup, 1) := by decide +kernel
theorem dX3_restart_12 : decode cX3_restart 12 = .ok (.ldc 84, 2) := by decide +kernel
theorem dX3_restart_14 : decode cX3_restart 14 = .ok (.invokespecial 74, 3) := by decide +kernel
theorem dX3_restart_17 : decode cX3_restart 17 = .ok (.athrow, 1) := by decide +kernel
theorem dX3_restart_18 : decode cX3_restart 18 = .ok (.aload_n 0, 1) := by decide +kernel
theorem dX3_restart_19 : decode cX3_restart 19 = .ok (.getfield 10, 3) := by decide +kernel
theorem dX3_restart_22 : decode cX3_restart 22 = .ok (.iload_n 1, 1) := by decide +kernel
theorem dX3_restart_23 : decode cX3_restart 23 = .ok (.invokevirtual 116, 3) := by decide +kernel
theorem dX3_restart_26 : decode cX3_restart 26 = .ok (.ifCond .ne 13, 3) := by decide +kernel
theorem dX3_restart_29 : decode cX3_restart 29 = .ok (.new 55, 3) := by decide +kernel
theorem dX3_restart_32 : decode cX3_restart 32 = .ok (.dup, 1) := by decide +kernel
theorem dX3_restart_33 : decode cX3_restart 33 = .ok (.ldc 119, 2) := by decide +kernel
theorem dX3_restart_35 : decode cX3_restart 35 = .ok (.invokespecial 59, 3) := by decide +kernel
theorem dX3_restart_38 : decode cX3_restart 38 = .ok (.athrow, 1) := by decide +kernel
theorem dX3_restart_39 : decode cX3_restart 39 = .ok (.aload_n 0, 1) := by decide +kernel
theorem dX3_restart_40 : decode cX3_restart 40 = .ok (.invokevirtual 60, 3) := by decide +kernel
theorem dX3_restart_43 : decode cX3_restart 43 = .ok (.aload_n 0, 1) := by decide +kernel
theorem dX3_restart_44 : decode cX3_restart 44 = .ok (.getfield 10, 3) := by decide +kernel
theorem dX3_restart_47 : decode cX3_restart 47 = .ok (.iload_n 1, 1) := by decide +kernel
theorem dX3_restart_48 : decode cX3_restart 48 = .ok (.invokevirtual 121, 3) := by decide +kernel
theorem dX3_restart_51 : decode cX3_restart 51 = .ok (.ireturn, 1) := by decide +kernel
theorem dX3_shortCircuit_0 : decode cX3_shortCircuit 0 = .ok (.aload_n 0, 1) := by decide +kernel
theorem dX3_shortCircuit_1 : decode cX3_shortCircuit 1 = .ok (.iload_n 1, 1) := by decide +kernel
theorem dX3_shortCircuit_2 : decode cX3_shortCircuit 2 = .ok (.invokevirtual 67, 3) := by decide +kernel
theorem dX3_shortCircuit_5 : decode cX3_shortCircuit 5 = .ok (.ifCond .ne 13, 3) := by decide +kernel
theorem dX3_shortCircuit_8 : decode cX3_shortCircuit 8 = .ok (.new 70, 3) := by decide +kernel
theorem dX3_shortCircuit_11 : decode cX3_shortCircuit 11 = .ok (.dup, 1) := by decide +kernel
theorem dX3_shortCircuit_12 : decode cX3_shortCircuit 12 = .ok (.ldc 84, 2) := by decide +kernel
theorem dX3_shortCircuit_14 : decode cX3_shortCircuit 14 = .ok (.invokespecial 74, 3) := by decide +kernel
theorem dX3_shortCircuit_17 : decode cX3_shortCircuit 17 = .ok (.athrow, 1) := by decide +kernel
theorem dX3_shortCircuit_18 : decode cX3_shortCircuit 18 = .ok (.iload_n 2, 1) := by decide +kernel
theorem dX3_shortCircuit_19 : decode cX3_shortCircuit 19 = .ok (.ifCond .lt 10, 3) := by decide +kernel
theorem dX3_shortCircuit_22 : decode cX3_shortCircuit 22 = .ok (.iload_n 2, 1) := by decide +kernel
theorem dX3_shortCircuit_23 : decode cX3_shortCircuit 23 = .ok (.sipush 500, 3) := by decide +kernel
theorem dX3_shortCircuit_26 : decode cX3_shortCircuit 26 = .ok (.if_icmp .le 13, 3) := by decide +kernel
theorem dX3_shortCircuit_29 : decode cX3_shortCircuit 29 = .ok (.new 38, 3) := by decide +kernel
theorem dX3_shortCircuit_32 : decode cX3_shortCircuit 32 = .ok (.dup, 1) := by decide +kernel
theorem dX3_shortCircuit_33 : decode cX3_shortCircuit 33 = .ok (.ldc 124, 2) := by decide +kernel
theorem dX3_shortCircuit_35 : decode cX3_shortCircuit 35 = .ok (.invokespecial 42, 3) := by decide +kernel
theorem dX3_shortCircuit_38 : decode cX3_shortCircuit 38 = .ok (.athrow, 1) := by decide +kernel
theorem dX3_shortCircuit_39 : decode cX3_shortCircuit 39 = .ok (.aload_n 0, 1) := by decide +kernel
theorem dX3_shortCircuit_40 : decode cX3_shortCircuit 40 = .ok (.invokevirtual 60, 3) := by decide +kernel
theorem dX3_shortCircuit_43 : decode cX3_shortCircuit 43 = .ok (.aload_n 0, 1) := by decide +kernel
theorem dX3_shortCircuit_44 : decode cX3_shortCircuit 44 = .ok (.getfield 10, 3) := by decide +kernel
theorem dX3_shortCircuit_47 : decode cX3_shortCircuit 47 = .ok (.getfield 126, 3) := by decide +kernel
theorem dX3_shortCircuit_50 : decode cX3_shortCircuit 50 = .ok (.iload_n 1, 1) := by decide +kernel
theorem dX3_shortCircuit_51 : decode cX3_shortCircuit 51 = .ok (.iaload, 1) := by decide +kernel
theorem dX3_shortCircuit_52 : decode cX3_shortCircuit 52 = .ok (.istore_n 3, 1) := by decide +kernel
theorem dX3_shortCircuit_53 : decode cX3_shortCircuit 53 = .ok (.aload_n 0, 1) := by decide +kernel
theorem dX3_shortCircuit_54 : decode cX3_shortCircuit 54 = .ok (.getfield 10, 3) := by decide +kernel
theorem dX3_shortCircuit_57 : decode cX3_shortCircuit 57 = .ok (.getfield 126, 3) := by decide +kernel
theorem dX3_shortCircuit_60 : decode cX3_shortCircuit 60 = .ok (.iload_n 1, 1) := by decide +kernel
theorem dX3_shortCircuit_61 : decode cX3_shortCircuit 61 = .ok (.iload_n 2, 1) := by decide +kernel
theorem dX3_shortCircuit_62 : decode cX3_shortCircuit 62 = .ok (.iastore, 1) := by decide +kernel
theorem dX3_shortCircuit_63 : decode cX3_shortCircuit 63 = .ok (.iload_n 3, 1) := by decide +kernel
theorem dX3_shortCircuit_64 : decode cX3_shortCircuit 64 = .ok (.ireturn, 1) := by decide +kernel
theorem dX3_stick_0 : decode cX3_stick 0 = .ok (.aload_n 0, 1) := by decide +kernel
theorem dX3_stick_1 : decode cX3_stick 1 = .ok (.iload_n 1, 1) := by decide +kernel
theorem dX3_stick_2 : decode cX3_stick 2 = .ok (.invokevirtual 67, 3) := by decide +kernel
theorem dX3_stick_5 : decode cX3_stick 5 = .ok (.ifCond .ne 13, 3) := by decide +kernel
theorem dX3_stick_8 : decode cX3_stick 8 = .ok (.new 70, 3) := by decide +kernel
theorem dX3_stick_11 : decode cX3_stick 11 = .ok (.dup, 1) := by decide +kernel
theorem dX3_stick_12 : decode cX3_stick 12 = .ok (.ldc 84, 2) := by decide +kernel
theorem dX3_stick_14 : decode cX3_stick 14 = .ok (.invokespecial 74, 3) := by decide +kernel
theorem dX3_stick_17 : decode cX3_stick 17 = .ok (.athrow, 1) := by decide +kernel
theorem dX3_stick_18 : decode cX3_stick 18 = .ok (.iload_n 2, 1) := by decide +kernel
theorem dX3_stick_19 : decode cX3_stick 19 = .ok (.ifCond .lt 8, 3) := by decide +kernel
theorem dX3_stick_22 : decode cX3_stick 22 = .ok (.iload_n 2, 1) := by decide +kernel
theorem dX3_stick_23 : decode cX3_stick 23 = .ok (.iconst 2, 1) := by decide +kernel
theorem dX3_stick_24 : decode cX3_stick 24 = .ok (.if_icmp .le 13, 3) := by decide +kernel
theorem dX3_stick_27 : decode cX3_stick 27 = .ok (.new 38, 3) := by decide +kernel
theorem dX3_stick_30 : decode cX3_stick 30 = .ok (.dup, 1) := by decide +kernel
theorem dX3_stick_31 : decode cX3_stick 31 = .ok (.ldc 129, 2) := by decide +kernel
theorem dX3_stick_33 : decode cX3_stick 33 = .ok (.invokespecial 42, 3) := by decide +kernel
theorem dX3_stick_36 : decode cX3_stick 36 = .ok (.athrow, 1) := by decide +kernel
theorem dX3_stick_37 : decode cX3_stick 37 = .ok (.aload_n 0, 1) := by decide +kernel
theorem dX3_stick_38 : decode cX3_stick 38 = .ok (.invokevirtual 60, 3) := by decide +kernel
theorem dX3_stick_41 : decode cX3_stick 41 = .ok (.aload_n 0, 1) := by decide +kernel
theorem dX3_stick_42 : decode cX3_stick 42 = .ok (.getfield 10, 3) := by decide +kernel
theorem dX3_stick_45 : decode cX3_stick 45 = .ok (.getfield 131, 3) := by decide +kernel
theorem dX3_stick_48 : decode cX3_stick 48 = .ok (.iload_n 1, 1) := by decide +kernel
theorem dX3_stick_49 : decode cX3_stick 49 = .ok (.iaload, 1) := by decide +kernel
theorem dX3_stick_50 : decode cX3_stick 50 = .ok (.istore_n 3, 1) := by decide +kernel
theorem dX3_stick_51 : decode cX3_stick 51 = .ok (.aload_n 0, 1) := by decide +kernel
theorem dX3_stick_52 : decode cX3_stick 52 = .ok (.getfield 10, 3) := by decide +kernel
theorem dX3_stick_55 : decode cX3_stick 55 = .ok (.getfield 131, 3) := by decide +kernel
theorem dX3_stick_58 : decode cX3_stick 58 = .ok (.iload_n 1, 1) := by decide +kernel
theorem dX3_stick_59 : decode cX3_stick 59 = .ok (.iload_n 2, 1) := by decide +kernel
theorem dX3_stick_60 : decode cX3_stick 60 = .ok (.iastore, 1) := by decide +kernel
theorem dX3_stick_61 : decode cX3_stick 61 = .ok (.iload_n 3, 1) := by decide +kernel
theorem dX3_stick_62 : decode cX3_stick 62 = .ok (.ireturn, 1) := by decide +kernel
theorem dX3_tick_0 : decode cX3_tick 0 = .ok (.iload_n 1, 1) := by decide +kernel
theorem dX3_tick_1 : decode cX3_tick 1 = .ok (.iconst 1, 1) := by decide +kernel
theorem dX3_tick_2 : decode cX3_tick 2 = .ok (.if_icmp .lt 10, 3) := by decide +kernel
theorem dX3_tick_5 : decode cX3_tick 5 = .ok (.iload_n 1, 1) := by decide +kernel
theorem dX3_tick_6 : decode cX3_tick 6 = .ok (.sipush 200, 3) := by decide +kernel
theorem dX3_tick_9 : decode cX3_tick 9 = .ok (.if_icmp .le 13, 3) := by decide +kernel
theorem dX3_tick_12 : decode cX3_tick 12 = .ok (.new 38, 3) := by decide +kernel
theorem dX3_tick_15 : decode cX3_tick 15 = .ok (.dup, 1) := by decide +kernel
theorem dX3_tick_16 : decode cX3_tick 16 = .ok (.ldc 124, 2) := by decide +kernel
theorem dX3_tick_18 : decode cX3_tick 18 = .ok (.invokespecial 42, 3) := by decide +kernel
theorem dX3_tick_21 : decode cX3_tick 21 = .ok (.athrow, 1) := by decide +kernel
theorem dX3_tick_22 : decode cX3_tick 22 = .ok (.aload_n 0, 1) := by decide +kernel
theorem dX3_tick_23 : decode cX3_tick 23 = .ok (.getfield 10, 3) := by decide +kernel
theorem dX3_tick_26 : decode cX3_tick 26 = .ok (.getfield 134, 3) := by decide +kernel
theorem dX3_tick_29 : decode cX3_tick 29 = .ok (.iload_n 1, 1) := by decide +kernel
theorem dX3_tick_30 : decode cX3_tick 30 = .ok (.iadd, 1) := by decide +kernel
theorem dX3_tick_31 : decode cX3_tick 31 = .ok (.sipush 20000, 3) := by decide +kernel
theorem dX3_tick_34 : decode cX3_tick 34 = .ok (.if_icmp .le 13, 3) := by decide +kernel
theorem dX3_tick_37 : decode cX3_tick 37 = .ok (.new 55, 3) := by decide +kernel
theorem dX3_tick_40 : decode cX3_tick 40 = .ok (.dup, 1) := by decide +kernel
theorem dX3_tick_41 : decode cX3_tick 41 = .ok (.ldc 137, 2) := by decide +kernel
theorem dX3_tick_43 : decode cX3_tick 43 = .ok (.invokespecial 59, 3) := by decide +kernel
theorem dX3_tick_46 : decode cX3_tick 46 = .ok (.athrow, 1) := by decide +kernel
theorem dX3_tick_47 : decode cX3_tick 47 = .ok (.aload_n 0, 1) := by decide +kernel
theorem dX3_tick_48 : decode cX3_tick 48 = .ok (.invokevirtual 60, 3) := by decide +kernel
theorem dX3_tick_51 : decode cX3_tick 51 = .ok (.iconst 0, 1) := by decide +kernel
theorem dX3_tick_52 : decode cX3_tick 52 = .ok (.istore_n 2, 1) := by decide +kernel
theorem dX3_tick_53 : decode cX3_tick 53 = .ok (.iconst 0, 1) := by decide +kernel
theorem dX3_tick_54 : decode cX3_tick 54 = .ok (.istore_n 3, 1) := by decide +kernel
theorem dX3_tick_55 : decode cX3_tick 55 = .ok (.iload_n 3, 1) := by decide +kernel
theorem dX3_tick_56 : decode cX3_tick 56 = .ok (.iload_n 1, 1) := by decide +kernel
theorem dX3_tick_57 : decode cX3_tick 57 = .ok (.if_icmp .ge 19, 3) := by decide +kernel
theorem dX3_tick_60 : decode cX3_tick 60 = .ok (.iload_n 2, 1) := by decide +kernel
theorem dX3_tick_61 : decode cX3_tick 61 = .ok (.aload_n 0, 1) := by decide +kernel
theorem dX3_tick_62 : decode cX3_tick 62 = .ok (.getfield 10, 3) := by decide +kernel
theorem dX3_tick_65 : decode cX3_tick 65 = .ok (.invokevirtual 139, 3) := by decide +kernel
theorem dX3_tick_68 : decode cX3_tick 68 = .ok (.iadd, 1) := by decide +kernel
theorem dX3_tick_69 : decode cX3_tick 69 = .ok (.istore_n 2, 1) := by decide +kernel
theorem dX3_tick_70 : decode cX3_tick 70 = .ok (.iinc 3 1, 3) := by decide +kernel
theorem dX3_tick_73 : decode cX3_tick 73 = .ok (.goto (-18), 3) := by decide +kernel
theorem dX3_tick_76 : decode cX3_tick 76 = .ok (.iload_n 2, 1) := by decide +kernel
theorem dX3_tick_77 : decode cX3_tick 77 = .ok (.ireturn, 1) := by decide +kernel
theorem dX3_append_0 : decode cX3_append 0 = .ok (.iload_n 1, 1) := by decide +kernel
theorem dX3_append_1 : decode cX3_append 1 = .ok (.bipush 33, 2) := by decide +kernel
theorem dX3_append_3 : decode cX3_append 3 = .ok (.if_icmp .lt 9, 3) := by decide +kernel
theorem dX3_append_6 : decode cX3_append 6 = .ok (.iload_n 1, 1) := by decide +kernel
theorem dX3_append_7 : decode cX3_append 7 = .ok (.bipush 126, 2) := by decide +kernel
theorem dX3_append_9 : decode cX3_append 9 = .ok (.if_icmp .le 13, 3) := by decide +kernel
theorem dX3_append_12 : decode cX3_append 12 = .ok (.new 38, 3) := by decide +kernel
theorem dX3_append_15 : decode cX3_append 15 = .ok (.dup, 1) := by decide +kernel
theorem dX3_append_16 : decode cX3_append 16 = .ok (.ldc 143, 2) := by decide +kernel
theorem dX3_append_18 : decode cX3_append 18 = .ok (.invokespecial 42, 3) := by decide +kernel
theorem dX3_append_21 : decode cX3_append 21 = .ok (.athrow, 1) := by decide +kernel
theorem dX3_append_22 : decode cX3_append 22 = .ok (.aload_n 0, 1) := by decide +kernel
theorem dX3_append_23 : decode cX3_append 23 = .ok (.getfield 145, 3) := by decide +kernel
theorem dX3_append_26 : decode cX3_append 26 = .ok (.bipush 60, 2) := by decide +kernel
theorem dX3_append_28 : decode cX3_append 28 = .ok (.if_icmp .lt 13, 3) := by decide +kernel
theorem dX3_append_31 : decode cX3_append 31 = .ok (.new 55, 3) := by decide +kernel
theorem dX3_append_34 : decode cX3_append 34 = .ok (.dup, 1) := by decide +kernel
theorem dX3_append_35 : decode cX3_append 35 = .ok (.ldc 148, 2) := by decide +kernel
theorem dX3_append_37 : decode cX3_append 37 = .ok (.invokespecial 59, 3) := by decide +kernel
theorem dX3_append_40 : decode cX3_append 40 = .ok (.athrow, 1) := by decide +kernel
theorem dX3_append_41 : decode cX3_append 41 = .ok (.aload_n 0, 1) := by decide +kernel
theorem dX3_append_42 : decode cX3_append 42 = .ok (.getfield 23, 3) := by decide +kernel
theorem dX3_append_45 : decode cX3_append 45 = .ok (.aload_n 0, 1) := by decide +kernel
theorem dX3_append_46 : decode cX3_append 46 = .ok (.getfield 145, 3) := by decide +kernel
theorem dX3_append_49 : decode cX3_append 49 = .ok (.iload_n 1, 1) := by decide +kernel
theorem dX3_append_50 : decode cX3_append 50 = .ok (.iastore, 1) := by decide +kernel
theorem dX3_append_51 : decode cX3_append 51 = .ok (.aload_n 0, 1) := by decide +kernel
theorem dX3_append_52 : decode cX3_append 52 = .ok (.dup, 1) := by decide +kernel
theorem dX3_append_53 : decode cX3_append 53 = .ok (.getfield 145, 3) := by decide +kernel
theorem dX3_append_56 : decode cX3_append 56 = .ok (.iconst 1, 1) := by decide +kernel
theorem dX3_append_57 : decode cX3_append 57 = .ok (.iadd, 1) := by decide +kernel
theorem dX3_append_58 : decode cX3_append 58 = .ok (.putfield 145, 3) := by decide +kernel
theorem dX3_append_61 : decode cX3_append 61 = .ok (.aload_n 0, 1) := by decide +kernel
theorem dX3_append_62 : decode cX3_append 62 = .ok (.getfield 145, 3) := by decide +kernel
theorem dX3_append_65 : decode cX3_append 65 = .ok (.ireturn, 1) := by decide +kernel
theorem dX3_clearBuffer_0 : decode cX3_clearBuffer 0 = .ok (.aload_n 0, 1) := by decide +kernel
theorem dX3_clearBuffer_1 : decode cX3_clearBuffer 1 = .ok (.getfield 145, 3) := by decide +kernel
theorem dX3_clearBuffer_4 : decode cX3_clearBuffer 4 = .ok (.istore_n 1, 1) := by decide +kernel
theorem dX3_clearBuffer_5 : decode cX3_clearBuffer 5 = .ok (.aload_n 0, 1) := by decide +kernel
theorem dX3_clearBuffer_6 : decode cX3_clearBuffer 6 = .ok (.iconst 0, 1) := by decide +kernel
theorem dX3_clearBuffer_7 : decode cX3_clearBuffer 7 = .ok (.putfield 145, 3) := by decide +kernel
theorem dX3_clearBuffer_10 : decode cX3_clearBuffer 10 = .ok (.iload_n 1, 1) := by decide +kernel
theorem dX3_clearBuffer_11 : decode cX3_clearBuffer 11 = .ok (.ireturn, 1) := by decide +kernel
theorem dX3_firstError_0 : decode cX3_firstError 0 = .ok (.aload_n 0, 1) := by decide +kernel
theorem dX3_firstError_1 : decode cX3_firstError 1 = .ok (.invokevirtual 150, 3) := by decide +kernel
theorem dX3_firstError_4 : decode cX3_firstError 4 = .ok (.ireturn, 1) := by decide +kernel
theorem dX3_load_0 : decode cX3_load 0 = .ok (.aload_n 0, 1) := by decide +kernel
theorem dX3_load_1 : decode cX3_load 1 = .ok (.invokevirtual 150, 3) := by decide +kernel
theorem dX3_load_4 : decode cX3_load 4 = .ok (.aload_n 0, 1) := by decide +kernel
theorem dX3_load_5 : decode cX3_load 5 = .ok (.getfield 145, 3) := by decide +kernel
theorem dX3_load_8 : decode cX3_load 8 = .ok (.if_icmp .lt 13, 3) := by decide +kernel
theorem dX3_load_11 : decode cX3_load 11 = .ok (.aload_n 0, 1) := by decide +kernel
theorem dX3_load_12 : decode cX3_load 12 = .ok (.getfield 30, 3) := by decide +kernel
theorem dX3_load_15 : decode cX3_load 15 = .ok (.invokevirtual 153, 3) := by decide +kernel
theorem dX3_load_18 : decode cX3_load 18 = .ok (.ifCond .ne 13, 3) := by decide +kernel
theorem dX3_load_21 : decode cX3_load 21 = .ok (.new 38, 3) := by decide +kernel
theorem dX3_load_24 : decode cX3_load 24 = .ok (.dup, 1) := by decide +kernel
theorem dX3_load_25 : decode cX3_load 25 = .ok (.ldc 157, 2) := by decide +kernel
theorem dX3_load_27 : decode cX3_load 27 = .ok (.invokespecial 42, 3) := by decide +kernel
theorem dX3_load_30 : decode cX3_load 30 = .ok (.athrow, 1) := by decide +kernel
theorem dX3_load_31 : decode cX3_load 31 = .ok (.aload_n 0, 1) := by decide +kernel
theorem dX3_load_32 : decode cX3_load 32 = .ok (.invokevirtual 159, 3) := by decide +kernel
theorem dX3_load_35 : decode cX3_load 35 = .ok (.ifCond .ne 13, 3) := by decide +kernel
theorem dX3_load_38 : decode cX3_load 38 = .ok (.new 55, 3) := by decide +kernel
theorem dX3_load_41 : decode cX3_load 41 = .ok (.dup, 1) := by decide +kernel
theorem dX3_load_42 : decode cX3_load 42 = .ok (.ldc 162, 2) := by decide +kernel
theorem dX3_load_44 : decode cX3_load 44 = .ok (.invokespecial 59, 3) := by decide +kernel
theorem dX3_load_47 : decode cX3_load 47 = .ok (.athrow, 1) := by decide +kernel
theorem dX3_load_48 : decode cX3_load 48 = .ok (.aload_n 0, 1) := by decide +kernel
theorem dX3_load_49 : decode cX3_load 49 = .ok (.invokevirtual 60, 3) := by decide +kernel
theorem dX3_load_52 : decode cX3_load 52 = .ok (.aload_n 0, 1) := by decide +kernel
theorem dX3_load_53 : decode cX3_load 53 = .ok (.getfield 10, 3) := by decide +kernel
theorem dX3_load_56 : decode cX3_load 56 = .ok (.aload_n 0, 1) := by decide +kernel
theorem dX3_load_57 : decode cX3_load 57 = .ok (.getfield 16, 3) := by decide +kernel
theorem dX3_load_60 : decode cX3_load 60 = .ok (.invokevirtual 164, 3) := by decide +kernel
theorem dX3_load_63 : decode cX3_load 63 = .ok (.aload_n 0, 1) := by decide +kernel
theorem dX3_load_64 : decode cX3_load 64 = .ok (.iconst 0, 1) := by decide +kernel
theorem dX3_load_65 : decode cX3_load 65 = .ok (.putfield 145, 3) := by decide +kernel
theorem dX3_load_68 : decode cX3_load 68 = .ok (.aload_n 0, 1) := by decide +kernel
theorem dX3_load_69 : decode cX3_load 69 = .ok (.getfield 10, 3) := by decide +kernel
theorem dX3_load_72 : decode cX3_load 72 = .ok (.getfield 51, 3) := by decide +kernel
theorem dX3_load_75 : decode cX3_load 75 = .ok (.ireturn, 1) := by decide +kernel
theorem dX3_undo_0 : decode cX3_undo 0 = .ok (.aload_n 0, 1) := by decide +kernel
theorem dX3_undo_1 : decode cX3_undo 1 = .ok (.getfield 168, 3) := by decide +kernel
theorem dX3_undo_4 : decode cX3_undo 4 = .ok (.ifCond .gt 13, 3) := by decide +kernel
theorem dX3_undo_7 : decode cX3_undo 7 = .ok (.new 55, 3) := by decide +kernel
theorem dX3_undo_10 : decode cX3_undo 10 = .ok (.dup, 1) := by decide +kernel
theorem dX3_undo_11 : decode cX3_undo 11 = .ok (.ldc 171, 2) := by decide +kernel
theorem dX3_undo_13 : decode cX3_undo 13 = .ok (.invokespecial 59, 3) := by decide +kernel
theorem dX3_undo_16 : decode cX3_undo 16 = .ok (.athrow, 1) := by decide +kernel
theorem dX3_undo_17 : decode cX3_undo 17 = .ok (.aload_n 0, 1) := by decide +kernel
theorem dX3_undo_18 : decode cX3_undo 18 = .ok (.dup, 1) := by decide +kernel
theorem dX3_undo_19 : decode cX3_undo 19 = .ok (.getfield 168, 3) := by decide +kernel
theorem dX3_undo_22 : decode cX3_undo 22 = .ok (.iconst 1, 1) := by decide +kernel
theorem dX3_undo_23 : decode cX3_undo 23 = .ok (.isub, 1) := by decide +kernel
theorem dX3_undo_24 : decode cX3_undo 24 = .ok (.putfield 168, 3) := by decide +kernel
theorem dX3_undo_27 : decode cX3_undo 27 = .ok (.aload_n 0, 1) := by decide +kernel
theorem dX3_undo_28 : decode cX3_undo 28 = .ok (.getfield 10, 3) := by decide +kernel
theorem dX3_undo_31 : decode cX3_undo 31 = .ok (.aload_n 0, 1) := by decide +kernel
theorem dX3_undo_32 : decode cX3_undo 32 = .ok (.getfield 19, 3) := by decide +kernel
theorem dX3_undo_35 : decode cX3_undo 35 = .ok (.aload_n 0, 1) := by decide +kernel
theorem dX3_undo_36 : decode cX3_undo 36 = .ok (.getfield 168, 3) := by decide +kernel
theorem dX3_undo_39 : decode cX3_undo 39 = .ok (.aaload, 1) := by decide +kernel
theorem dX3_undo_40 : decode cX3_undo 40 = .ok (.invokevirtual 164, 3) := by decide +kernel
theorem dX3_undo_43 : decode cX3_undo 43 = .ok (.aload_n 0, 1) := by decide +kernel
theorem dX3_undo_44 : decode cX3_undo 44 = .ok (.getfield 168, 3) := by decide +kernel
theorem dX3_undo_47 : decode cX3_undo 47 = .ok (.ireturn, 1) := by decide +kernel
theorem dX3_rail_0 : decode cX3_rail 0 = .ok (.aload_n 0, 1) := by decide +kernel
theorem dX3_rail_1 : decode cX3_rail 1 = .ok (.iload_n 1, 1) := by decide +kernel
theorem dX3_rail_2 : decode cX3_rail 2 = .ok (.invokevirtual 67, 3) := by decide +kernel
theorem dX3_rail_5 : decode cX3_rail 5 = .ok (.ifCond .ne 13, 3) := by decide +kernel
theorem dX3_rail_8 : decode cX3_rail 8 = .ok (.new 70, 3) := by decide +kernel
theorem dX3_rail_11 : decode cX3_rail 11 = .ok (.dup, 1) := by decide +kernel
theorem dX3_rail_12 : decode cX3_rail 12 = .ok (.ldc 84, 2) := by decide +kernel
theorem dX3_rail_14 : decode cX3_rail 14 = .ok (.invokespecial 74, 3) := by decide +kernel
theorem dX3_rail_17 : decode cX3_rail 17 = .ok (.athrow, 1) := by decide +kernel
theorem dX3_rail_18 : decode cX3_rail 18 = .ok (.iload_n 2, 1) := by decide +kernel
theorem dX3_rail_19 : decode cX3_rail 19 = .ok (.ifCond .lt 9, 3) := by decide +kernel
theorem dX3_rail_22 : decode cX3_rail 22 = .ok (.iload_n 2, 1) := by decide +kernel
theorem dX3_rail_23 : decode cX3_rail 23 = .ok (.bipush 19, 2) := by decide +kernel
theorem dX3_rail_25 : decode cX3_rail 25 = .ok (.if_icmp .lt 13, 3) := by decide +kernel
theorem dX3_rail_28 : decode cX3_rail 28 = .ok (.new 38, 3) := by decide +kernel
theorem dX3_rail_31 : decode cX3_rail 31 = .ok (.dup, 1) := by decide +kernel
theorem dX3_rail_32 : decode cX3_rail 32 = .ok (.ldc 173, 2) := by decide +kernel
theorem dX3_rail_34 : decode cX3_rail 34 = .ok (.invokespecial 42, 3) := by decide +kernel
theorem dX3_rail_37 : decode cX3_rail 37 = .ok (.athrow, 1) := by decide +kernel
theorem dX3_rail_38 : decode cX3_rail 38 = .ok (.aload_n 0, 1) := by decide +kernel
theorem dX3_rail_39 : decode cX3_rail 39 = .ok (.getfield 10, 3) := by decide +kernel
theorem dX3_rail_42 : decode cX3_rail 42 = .ok (.iload_n 1, 1) := by decide +kernel
theorem dX3_rail_43 : decode cX3_rail 43 = .ok (.iload_n 2, 1) := by decide +kernel
theorem dX3_rail_44 : decode cX3_rail 44 = .ok (.invokevirtual 175, 3) := by decide +kernel
theorem dX3_rail_47 : decode cX3_rail 47 = .ok (.ireturn, 1) := by decide +kernel
theorem dX3_account_0 : decode cX3_account 0 = .ok (.aload_n 0, 1) := by decide +kernel
theorem dX3_account_1 : decode cX3_account 1 = .ok (.iload_n 1, 1) := by decide +kernel
theorem dX3_account_2 : decode cX3_account 2 = .ok (.invokevirtual 67, 3) := by decide +kernel
theorem dX3_account_5 : decode cX3_account 5 = .ok (.ifCond .ne 13, 3) := by decide +kernel
theorem dX3_account_8 : decode cX3_account 8 = .ok (.new 70, 3) := by decide +kernel
theorem dX3_account_11 : decode cX3_account 11 = .ok (.dup, 1) := by decide +kernel
theorem dX3_account_12 : decode cX3_account 12 = .ok (.ldc 84, 2) := by decide +kernel
theorem dX3_account_14 : decode cX3_account 14 = .ok (.invokespecial 74, 3) := by decide +kernel
theorem dX3_account_17 : decode cX3_account 17 = .ok (.athrow, 1) := by decide +kernel
theorem dX3_account_18 : decode cX3_account 18 = .ok (.iload_n 2, 1) := by decide +kernel
theorem dX3_account_19 : decode cX3_account 19 = .ok (.ifCond .lt 8, 3) := by decide +kernel
theorem dX3_account_22 : decode cX3_account 22 = .ok (.iload_n 2, 1) := by decide +kernel
theorem dX3_account_23 : decode cX3_account 23 = .ok (.iconst 4, 1) := by decide +kernel
theorem dX3_account_24 : decode cX3_account 24 = .ok (.if_icmp .lt 13, 3) := by decide +kernel
theorem dX3_account_27 : decode cX3_account 27 = .ok (.new 38, 3) := by decide +kernel
theorem dX3_account_30 : decode cX3_account 30 = .ok (.dup, 1) := by decide +kernel
theorem dX3_account_31 : decode cX3_account 31 = .ok (.ldc 178, 2) := by decide +kernel
theorem dX3_account_33 : decode cX3_account 33 = .ok (.invokespecial 42, 3) := by decide +kernel
theorem dX3_account_36 : decode cX3_account 36 = .ok (.athrow, 1) := by decide +kernel
theorem dX3_account_37 : decode cX3_account 37 = .ok (.aload_n 0, 1) := by decide +kernel
theorem dX3_account_38 : decode cX3_account 38 = .ok (.getfield 10, 3) := by decide +kernel
theorem dX3_account_41 : decode cX3_account 41 = .ok (.getfield 180, 3) := by decide +kernel
theorem dX3_account_44 : decode cX3_account 44 = .ok (.iload_n 1, 1) := by decide +kernel
theorem dX3_account_45 : decode cX3_account 45 = .ok (.iconst 4, 1) := by decide +kernel
theorem dX3_account_46 : decode cX3_account 46 = .ok (.imul, 1) := by decide +kernel
theorem dX3_account_47 : decode cX3_account 47 = .ok (.iload_n 2, 1) := by decide +kernel
theorem dX3_account_48 : decode cX3_account 48 = .ok (.iadd, 1) := by decide +kernel
theorem dX3_account_49 : decode cX3_account 49 = .ok (.iaload, 1) := by decide +kernel
theorem dX3_account_50 : decode cX3_account 50 = .ok (.ireturn, 1) := by decide +kernel
theorem dX3_entry_0 : decode cX3_entry 0 = .ok (.iload_n 1, 1) := by decide +kernel
theorem dX3_entry_1 : decode cX3_entry 1 = .ok (.ifCond .lt 18, 3) := by decide +kernel
theorem dX3_entry_4 : decode cX3_entry 4 = .ok (.iload_n 1, 1) := by decide +kernel
theorem dX3_entry_5 : decode cX3_entry 5 = .ok (.bipush 16, 2) := by decide +kernel
theorem dX3_entry_7 : decode cX3_entry 7 = .ok (.if_icmp .ge 12, 3) := by decide +kernel
theorem dX3_entry_10 : decode cX3_entry 10 = .ok (.iload_n 2, 1) := by decide +kernel
theorem dX3_entry_11 : decode cX3_entry 11 = .ok (.ifCond .lt 8, 3) := by decide +kernel
theorem dX3_entry_14 : decode cX3_entry 14 = .ok (.iload_n 2, 1) := by decide +kernel
theorem dX3_entry_15 : decode cX3_entry 15 = .ok (.iconst 4, 1) := by decide +kernel
theorem dX3_entry_16 : decode cX3_entry 16 = .ok (.if_icmp .lt 13, 3) := by decide +kernel
theorem dX3_entry_19 : decode cX3_entry 19 = .ok (.new 38, 3) := by decide +kernel
theorem dX3_entry_22 : decode cX3_entry 22 = .ok (.dup, 1) := by decide +kernel
theorem dX3_entry_23 : decode cX3_entry 23 = .ok (.ldc 185, 2) := by decide +kernel
theorem dX3_entry_25 : decode cX3_entry 25 = .ok (.invokespecial 42, 3) := by decide +kernel
theorem dX3_entry_28 : decode cX3_entry 28 = .ok (.athrow, 1) := by decide +kernel
theorem dX3_entry_29 : decode cX3_entry 29 = .ok (.iload_n 1, 1) := by decide +kernel
theorem dX3_entry_30 : decode cX3_entry 30 = .ok (.aload_n 0, 1) := by decide +kernel
theorem dX3_entry_31 : decode cX3_entry 31 = .ok (.getfield 10, 3) := by decide +kernel
theorem dX3_entry_34 : decode cX3_entry 34 = .ok (.getfield 187, 3) := by decide +kernel
theorem dX3_entry_37 : decode cX3_entry 37 = .ok (.getfield 191, 3) := by decide +kernel
theorem dX3_entry_40 : decode cX3_entry 40 = .ok (.if_icmp .ge 18, 3) := by decide +kernel
theorem dX3_entry_43 : decode cX3_entry 43 = .ok (.aload_n 0, 1) := by decide +kernel
theorem dX3_entry_44 : decode cX3_entry 44 = .ok (.getfield 10, 3) := by decide +kernel
theorem dX3_entry_47 : decode cX3_entry 47 = .ok (.getfield 187, 3) := by decide +kernel
theorem dX3_entry_50 : decode cX3_entry 50 = .ok (.iload_n 1, 1) := by decide +kernel
theorem dX3_entry_51 : decode cX3_entry 51 = .ok (.iload_n 2, 1) := by decide +kernel
theorem dX3_entry_52 : decode cX3_entry 52 = .ok (.invokevirtual 194, 3) := by decide +kernel
theorem dX3_entry_55 : decode cX3_entry 55 = .ok (.goto 4, 3) := by decide +kernel
theorem dX3_entry_58 : decode cX3_entry 58 = .ok (.iconst (-1), 1) := by decide +kernel
theorem dX3_entry_59 : decode cX3_entry 59 = .ok (.ireturn, 1) := by decide +kernel
theorem dX3_forget_0 : decode cX3_forget 0 = .ok (.aload_n 0, 1) := by decide +kernel
theorem dX3_forget_1 : decode cX3_forget 1 = .ok (.iload_n 1, 1) := by decide +kernel
theorem dX3_forget_2 : decode cX3_forget 2 = .ok (.invokevirtual 67, 3) := by decide +kernel
theorem dX3_forget_5 : decode cX3_forget 5 = .ok (.ifCond .ne 13, 3) := by decide +kernel
theorem dX3_forget_8 : decode cX3_forget 8 = .ok (.new 70, 3) := by decide +kernel
theorem dX3_forget_11 : decode cX3_forget 11 = .ok (.dup, 1) := by decide +kernel
theorem dX3_forget_12 : decode cX3_forget 12 = .ok (.ldc 84, 2) := by decide +kernel
theorem dX3_forget_14 : decode cX3_forget 14 = .ok (.invokespecial 74, 3) := by decide +kernel
theorem dX3_forget_17 : decode cX3_forget 17 = .ok (.athrow, 1) := by decide +kernel
theorem dX3_forget_18 : decode cX3_forget 18 = .ok (.aload_n 0, 1) := by decide +kernel
theorem dX3_forget_19 : decode cX3_forget 19 = .ok (.invokevirtual 60, 3) := by decide +kernel
theorem dX3_forget_22 : decode cX3_forget 22 = .ok (.aload_n 0, 1) := by decide +kernel
theorem dX3_forget_23 : decode cX3_forget 23 = .ok (.getfield 10, 3) := by decide +kernel
theorem dX3_forget_26 : decode cX3_forget 26 = .ok (.getfield 187, 3) := by decide +kernel
theorem dX3_forget_29 : decode cX3_forget 29 = .ok (.iload_n 1, 1) := by decide +kernel
theorem dX3_forget_30 : decode cX3_forget 30 = .ok (.invokevirtual 197, 3) := by decide +kernel
theorem dX3_forget_33 : decode cX3_forget 33 = .ok (.ireturn, 1) := by decide +kernel
theorem dX3_count_0 : decode cX3_count 0 = .ok (.iload_n 1, 1) := by decide +kernel
theorem dX3_count_1 : decode cX3_count 1 = .ok (.ifCond .lt 9, 3) := by decide +kernel
theorem dX3_count_4 : decode cX3_count 4 = .ok (.iload_n 1, 1) := by decide +kernel
theorem dX3_count_5 : decode cX3_count 5 = .ok (.bipush 10, 2) := by decide +kernel
theorem dX3_count_7 : decode cX3_count 7 = .ok (.if_icmp .lt 13, 3) := by decide +kernel
theorem dX3_count_10 : decode cX3_count 10 = .ok (.new 38, 3) := by decide +kernel
theorem dX3_count_13 : decode cX3_count 13 = .ok (.dup, 1) := by decide +kernel
theorem dX3_count_14 : decode cX3_count 14 = .ok (.ldc 200, 2) := by decide +kernel
theorem dX3_count_16 : decode cX3_count 16 = .ok (.invokespecial 42, 3) := by decide +kernel
theorem dX3_count_19 : decode cX3_count 19 = .ok (.athrow, 1) := by decide +kernel
theorem dX3_count_20 : decode cX3_count 20 = .ok (.aload_n 0, 1) := by decide +kernel
theorem dX3_count_21 : decode cX3_count 21 = .ok (.iload_n 1, 1) := by decide +kernel
theorem dX3_count_22 : decode cX3_count 22 = .ok (.invokevirtual 202, 3) := by decide +kernel
theorem dX3_count_25 : decode cX3_count 25 = .ok (.ireturn, 1) := by decide +kernel
theorem dX3_allGoodIn_0 : decode cX3_allGoodIn 0 = .ok (.aload_n 0, 1) := by decide +kernel
theorem dX3_allGoodIn_1 : decode cX3_allGoodIn 1 = .ok (.getfield 16, 3) := by decide +kernel
theorem dX3_allGoodIn_4 : decode cX3_allGoodIn 4 = .ok (.aload_n 0, 1) := by decide +kernel
theorem dX3_allGoodIn_5 : decode cX3_allGoodIn 5 = .ok (.getfield 10, 3) := by decide +kernel
theorem dX3_allGoodIn_8 : decode cX3_allGoodIn 8 = .ok (.invokevirtual 164, 3) := by decide +kernel
theorem dX3_allGoodIn_11 : decode cX3_allGoodIn 11 = .ok (.iconst 0, 1) := by decide +kernel
theorem dX3_allGoodIn_12 : decode cX3_allGoodIn 12 = .ok (.istore_n 1, 1) := by decide +kernel
theorem dX3_allGoodIn_13 : decode cX3_allGoodIn 13 = .ok (.iload_n 1, 1) := by decide +kernel
theorem dX3_allGoodIn_14 : decode cX3_allGoodIn 14 = .ok (.sipush 1000, 3) := by decide +kernel
theorem dX3_allGoodIn_17 : decode cX3_allGoodIn 17 = .ok (.if_icmp .gt 72, 3) := by decide +kernel
theorem dX3_allGoodIn_20 : decode cX3_allGoodIn 20 = .ok (.aload_n 0, 1) := by decide +kernel
theorem dX3_allGoodIn_21 : decode cX3_allGoodIn 21 = .ok (.getfield 16, 3) := by decide +kernel
theorem dX3_allGoodIn_24 : decode cX3_allGoodIn 24 = .ok (.getfield 106, 3) := by decide +kernel
theorem dX3_allGoodIn_27 : decode cX3_allGoodIn 27 = .ok (.aload_n 0, 1) := by decide +kernel
theorem dX3_allGoodIn_28 : decode cX3_allGoodIn 28 = .ok (.getfield 16, 3) := by decide +kernel
theorem dX3_allGoodIn_31 : decode cX3_allGoodIn 31 = .ok (.iconst 3, 1) := by decide +kernel
theorem dX3_allGoodIn_32 : decode cX3_allGoodIn 32 = .ok (.invokevirtual 205, 3) := by decide +kernel
theorem dX3_allGoodIn_35 : decode cX3_allGoodIn 35 = .ok (.iconst (-1), 1) := by decide +kernel
theorem dX3_allGoodIn_36 : decode cX3_allGoodIn 36 = .ok (.ixor, 1) := by decide +kernel
theorem dX3_allGoodIn_37 : decode cX3_allGoodIn 37 = .ok (.iand, 1) := by decide +kernel
theorem dX3_allGoodIn_38 : decode cX3_allGoodIn 38 = .ok (.ifCond .ne 5, 3) := by decide +kernel
theorem dX3_allGoodIn_41 : decode cX3_allGoodIn 41 = .ok (.iload_n 1, 1) := by decide +kernel
theorem dX3_allGoodIn_42 : decode cX3_allGoodIn 42 = .ok (.ireturn, 1) := by decide +kernel
theorem dX3_allGoodIn_43 : decode cX3_allGoodIn 43 = .ok (.aload_n 0, 1) := by decide +kernel
theorem dX3_allGoodIn_44 : decode cX3_allGoodIn 44 = .ok (.getfield 16, 3) := by decide +kernel
theorem dX3_allGoodIn_47 : decode cX3_allGoodIn 47 = .ok (.invokevirtual 208, 3) := by decide +kernel
theorem dX3_allGoodIn_50 : decode cX3_allGoodIn 50 = .ok (.ifCond .ne 7, 3) := by decide +kernel
theorem dX3_allGoodIn_53 : decode cX3_allGoodIn 53 = .ok (.iconst 1, 1) := by decide +kernel
theorem dX3_allGoodIn_54 : decode cX3_allGoodIn 54 = .ok (.goto 4, 3) := by decide +kernel
theorem dX3_allGoodIn_57 : decode cX3_allGoodIn 57 = .ok (.iconst 0, 1) := by decide +kernel
theorem dX3_allGoodIn_58 : decode cX3_allGoodIn 58 = .ok (.istore_n 2, 1) := by decide +kernel
theorem dX3_allGoodIn_59 : decode cX3_allGoodIn 59 = .ok (.aload_n 0, 1) := by decide +kernel
theorem dX3_allGoodIn_60 : decode cX3_allGoodIn 60 = .ok (.getfield 16, 3) := by decide +kernel
theorem dX3_allGoodIn_63 : decode cX3_allGoodIn 63 = .ok (.invokevirtual 139, 3) := by decide +kernel
theorem dX3_allGoodIn_66 : decode cX3_allGoodIn 66 = .ok (.pop, 1) := by decide +kernel
theorem dX3_allGoodIn_67 : decode cX3_allGoodIn 67 = .ok (.iload_n 2, 1) := by decide +kernel
theorem dX3_allGoodIn_68 : decode cX3_allGoodIn 68 = .ok (.ifCond .eq 15, 3) := by decide +kernel
theorem dX3_allGoodIn_71 : decode cX3_allGoodIn 71 = .ok (.aload_n 0, 1) := by decide +kernel
theorem dX3_allGoodIn_72 : decode cX3_allGoodIn 72 = .ok (.getfield 16, 3) := by decide +kernel
theorem dX3_allGoodIn_75 : decode cX3_allGoodIn 75 = .ok (.invokevirtual 211, 3) := by decide +kernel
theorem dX3_allGoodIn_78 : decode cX3_allGoodIn 78 = .ok (.ifCond .eq 5, 3) := by decide +kernel
theorem dX3_allGoodIn_81 : decode cX3_allGoodIn 81 = .ok (.iconst (-1), 1) := by decide +kernel
theorem dX3_allGoodIn_82 : decode cX3_allGoodIn 82 = .ok (.ireturn, 1) := by decide +kernel
theorem dX3_allGoodIn_83 : decode cX3_allGoodIn 83 = .ok (.iinc 1 1, 3) := by decide +kernel
theorem dX3_allGoodIn_86 : decode cX3_allGoodIn 86 = .ok (.goto (-73), 3) := by decide +kernel
theorem dX3_allGoodIn_89 : decode cX3_allGoodIn 89 = .ok (.iconst (-1), 1) := by decide +kernel
theorem dX3_allGoodIn_90 : decode cX3_allGoodIn 90 = .ok (.ireturn, 1) := by decide +kernel
theorem dX3_allOffIn_0 : decode cX3_allOffIn 0 = .ok (.aload_n 0, 1) := by decide +kernel
theorem dX3_allOffIn_1 : decode cX3_allOffIn 1 = .ok (.getfield 16, 3) := by decide +kernel
theorem dX3_allOffIn_4 : decode cX3_allOffIn 4 = .ok (.aload_n 0, 1) := by decide +kernel
theorem dX3_allOffIn_5 : decode cX3_allOffIn 5 = .ok (.getfield 10, 3) := by decide +kernel
theorem dX3_allOffIn_8 : decode cX3_allOffIn 8 = .ok (.invokevirtual 164, 3) := by decide +kernel
theorem dX3_allOffIn_11 : decode cX3_allOffIn 11 = .ok (.aload_n 0, 1) := by decide +kernel
theorem dX3_allOffIn_12 : decode cX3_allOffIn 12 = .ok (.getfield 16, 3) := by decide +kernel
theorem dX3_allOffIn_15 : decode cX3_allOffIn 15 = .ok (.iconst 0, 1) := by decide +kernel
theorem dX3_allOffIn_16 : decode cX3_allOffIn 16 = .ok (.putfield 106, 3) := by decide +kernel
theorem dX3_allOffIn_19 : decode cX3_allOffIn 19 = .ok (.iconst 0, 1) := by decide +kernel
theorem dX3_allOffIn_20 : decode cX3_allOffIn 20 = .ok (.istore_n 1, 1) := by decide +kernel
theorem dX3_allOffIn_21 : decode cX3_allOffIn 21 = .ok (.iload_n 1, 1) := by decide +kernel
theorem dX3_allOffIn_22 : decode cX3_allOffIn 22 = .ok (.sipush 1000, 3) := by decide +kernel
theorem dX3_allOffIn_25 : decode cX3_allOffIn 25 = .ok (.if_icmp .gt 29, 3) := by decide +kernel
theorem dX3_allOffIn_28 : decode cX3_allOffIn 28 = .ok (.aload_n 0, 1) := by decide +kernel
theorem dX3_allOffIn_29 : decode cX3_allOffIn 29 = .ok (.getfield 16, 3) := by decide +kernel
theorem dX3_allOffIn_32 : decode cX3_allOffIn 32 = .ok (.invokevirtual 214, 3) := by decide +kernel
theorem dX3_allOffIn_35 : decode cX3_allOffIn 35 = .ok (.ifCond .eq 5, 3) := by decide +kernel
theorem dX3_allOffIn_38 : decode cX3_allOffIn 38 = .ok (.iload_n 1, 1) := by decide +kernel
theorem dX3_allOffIn_39 : decode cX3_allOffIn 39 = .ok (.ireturn, 1) := by decide +kernel
theorem dX3_allOffIn_40 : decode cX3_allOffIn 40 = .ok (.aload_n 0, 1) := by decide +kernel
theorem dX3_allOffIn_41 : decode cX3_allOffIn 41 = .ok (.getfield 16, 3) := by decide +kernel
theorem dX3_allOffIn_44 : decode cX3_allOffIn 44 = .ok (.invokevirtual 139, 3) := by decide +kernel
theorem dX3_allOffIn_47 : decode cX3_allOffIn 47 = .ok (.pop, 1) := by decide +kernel
theorem dX3_allOffIn_48 : decode cX3_allOffIn 48 = .ok (.iinc 1 1, 3) := by decide +kernel
theorem dX3_allOffIn_51 : decode cX3_allOffIn 51 = .ok (.goto (-30), 3) := by decide +kernel
theorem dX3_allOffIn_54 : decode cX3_allOffIn 54 = .ok (.iconst (-1), 1) := by decide +kernel
theorem dX3_allOffIn_55 : decode cX3_allOffIn 55 = .ok (.ireturn, 1) := by decide +kernel
theorem dX3_ifShort_0 : decode cX3_ifShort 0 = .ok (.aload_n 0, 1) := by decide +kernel
theorem dX3_ifShort_1 : decode cX3_ifShort 1 = .ok (.iload_n 1, 1) := by decide +kernel
theorem dX3_ifShort_2 : decode cX3_ifShort 2 = .ok (.invokevirtual 67, 3) := by decide +kernel
theorem dX3_ifShort_5 : decode cX3_ifShort 5 = .ok (.ifCond .ne 13, 3) := by decide +kernel
theorem dX3_ifShort_8 : decode cX3_ifShort 8 = .ok (.new 70, 3) := by decide +kernel
theorem dX3_ifShort_11 : decode cX3_ifShort 11 = .ok (.dup, 1) := by decide +kernel
theorem dX3_ifShort_12 : decode cX3_ifShort 12 = .ok (.ldc 84, 2) := by decide +kernel
theorem dX3_ifShort_14 : decode cX3_ifShort 14 = .ok (.invokespecial 74, 3) := by decide +kernel
theorem dX3_ifShort_17 : decode cX3_ifShort 17 = .ok (.athrow, 1) := by decide +kernel
theorem dX3_ifShort_18 : decode cX3_ifShort 18 = .ok (.iload_n 2, 1) := by decide +kernel
theorem dX3_ifShort_19 : decode cX3_ifShort 19 = .ok (.iconst 1, 1) := by decide +kernel
theorem dX3_ifShort_20 : decode cX3_ifShort 20 = .ok (.if_icmp .lt 19, 3) := by decide +kernel
theorem dX3_ifShort_23 : decode cX3_ifShort 23 = .ok (.iload_n 2, 1) := by decide +kernel
theorem dX3_ifShort_24 : decode cX3_ifShort 24 = .ok (.sipush 500, 3) := by decide +kernel
theorem dX3_ifShort_27 : decode cX3_ifShort 27 = .ok (.if_icmp .gt 12, 3) := by decide +kernel
theorem dX3_ifShort_30 : decode cX3_ifShort 30 = .ok (.iload_n 3, 1) := by decide +kernel
theorem dX3_ifShort_31 : decode cX3_ifShort 31 = .ok (.ifCond .lt 8, 3) := by decide +kernel
theorem dX3_ifShort_34 : decode cX3_ifShort 34 = .ok (.iload_n 3, 1) := by decide +kernel
theorem dX3_ifShort_35 : decode cX3_ifShort 35 = .ok (.iconst 2, 1) := by decide +kernel
theorem dX3_ifShort_36 : decode cX3_ifShort 36 = .ok (.if_icmp .le 13, 3) := by decide +kernel
theorem dX3_ifShort_39 : decode cX3_ifShort 39 = .ok (.new 38, 3) := by decide +kernel
theorem dX3_ifShort_42 : decode cX3_ifShort 42 = .ok (.dup, 1) := by decide +kernel
theorem dX3_ifShort_43 : decode cX3_ifShort 43 = .ok (.ldc 217, 2) := by decide +kernel
theorem dX3_ifShort_45 : decode cX3_ifShort 45 = .ok (.invokespecial 42, 3) := by decide +kernel
theorem dX3_ifShort_48 : decode cX3_ifShort 48 = .ok (.athrow, 1) := by decide +kernel
theorem dX3_ifShort_49 : decode cX3_ifShort 49 = .ok (.aload_n 0, 1) := by decide +kernel
theorem dX3_ifShort_50 : decode cX3_ifShort 50 = .ok (.getfield 16, 3) := by decide +kernel
theorem dX3_ifShort_53 : decode cX3_ifShort 53 = .ok (.aload_n 0, 1) := by decide +kernel
theorem dX3_ifShort_54 : decode cX3_ifShort 54 = .ok (.getfield 10, 3) := by decide +kernel
theorem dX3_ifShort_57 : decode cX3_ifShort 57 = .ok (.invokevirtual 164, 3) := by decide +kernel
theorem dX3_ifShort_60 : decode cX3_ifShort 60 = .ok (.aload_n 0, 1) := by decide +kernel
theorem dX3_ifShort_61 : decode cX3_ifShort 61 = .ok (.getfield 16, 3) := by decide +kernel
theorem dX3_ifShort_64 : decode cX3_ifShort 64 = .ok (.getfield 126, 3) := by decide +kernel
theorem dX3_ifShort_67 : decode cX3_ifShort 67 = .ok (.iload_n 1, 1) := by decide +kernel
theorem dX3_ifShort_68 : decode cX3_ifShort 68 = .ok (.iload_n 2, 1) := by decide +kernel
theorem dX3_ifShort_69 : decode cX3_ifShort 69 = .ok (.iastore, 1) := by decide +kernel
theorem dX3_ifShort_70 : decode cX3_ifShort 70 = .ok (.iconst 0, 1) := by decide +kernel
theorem dX3_ifShort_71 : decode cX3_ifShort 71 = .ok (.istore 4, 2) := by decide +kernel
theorem dX3_ifShort_73 : decode cX3_ifShort 73 = .ok (.iconst 0, 1) := by decide +kernel
theorem dX3_ifShort_74 : decode cX3_ifShort 74 = .ok (.istore 5, 2) := by decide +kernel
theorem dX3_ifShort_76 : decode cX3_ifShort 76 = .ok (.iload 5, 2) := by decide +kernel
theorem dX3_ifShort_78 : decode cX3_ifShort 78 = .ok (.bipush 100, 2) := by decide +kernel
theorem dX3_ifShort_80 : decode cX3_ifShort 80 = .ok (.if_icmp .ge 29, 3) := by decide +kernel
theorem dX3_ifShort_83 : decode cX3_ifShort 83 = .ok (.aload_n 0, 1) := by decide +kernel
theorem dX3_ifShort_84 : decode cX3_ifShort 84 = .ok (.getfield 16, 3) := by decide +kernel
theorem dX3_ifShort_87 : decode cX3_ifShort 87 = .ok (.invokevirtual 139, 3) := by decide +kernel
theorem dX3_ifShort_90 : decode cX3_ifShort 90 = .ok (.pop, 1) := by decide +kernel
theorem dX3_ifShort_91 : decode cX3_ifShort 91 = .ok (.iload 4, 2) := by decide +kernel
theorem dX3_ifShort_93 : decode cX3_ifShort 93 = .ok (.aload_n 0, 1) := by decide +kernel
theorem dX3_ifShort_94 : decode cX3_ifShort 94 = .ok (.getfield 16, 3) := by decide +kernel
theorem dX3_ifShort_97 : decode cX3_ifShort 97 = .ok (.invokevirtual 219, 3) := by decide +kernel
theorem dX3_ifShort_100 : decode cX3_ifShort 100 = .ok (.ior, 1) := by decide +kernel
theorem dX3_ifShort_101 : decode cX3_ifShort 101 = .ok (.istore 4, 2) := by decide +kernel
theorem dX3_ifShort_103 : decode cX3_ifShort 103 = .ok (.iinc 5 1, 3) := by decide +kernel
theorem dX3_ifShort_106 : decode cX3_ifShort 106 = .ok (.goto (-30), 3) := by decide +kernel
theorem dX3_ifShort_109 : decode cX3_ifShort 109 = .ok (.iload_n 3, 1) := by decide +kernel
theorem dX3_ifShort_110 : decode cX3_ifShort 110 = .ok (.ifCond .ne 6, 3) := by decide +kernel
theorem dX3_ifShort_113 : decode cX3_ifShort 113 = .ok (.iload 4, 2) := by decide +kernel
theorem dX3_ifShort_115 : decode cX3_ifShort 115 = .ok (.ireturn, 1) := by decide +kernel
theorem dX3_ifShort_116 : decode cX3_ifShort 116 = .ok (.aload_n 0, 1) := by decide +kernel
theorem dX3_ifShort_117 : decode cX3_ifShort 117 = .ok (.getfield 16, 3) := by decide +kernel
theorem dX3_ifShort_120 : decode cX3_ifShort 120 = .ok (.iload_n 3, 1) := by decide +kernel
theorem dX3_ifShort_121 : decode cX3_ifShort 121 = .ok (.iconst 1, 1) := by decide +kernel
theorem dX3_ifShort_122 : decode cX3_ifShort 122 = .ok (.if_icmp .ne 7, 3) := by decide +kernel
theorem dX3_ifShort_125 : decode cX3_ifShort 125 = .ok (.iconst 3, 1) := by decide +kernel
theorem dX3_ifShort_126 : decode cX3_ifShort 126 = .ok (.goto 4, 3) := by decide +kernel
theorem dX3_ifShort_129 : decode cX3_ifShort 129 = .ok (.iconst 5, 1) := by decide +kernel
theorem dX3_ifShort_130 : decode cX3_ifShort 130 = .ok (.invokevirtual 205, 3) := by decide +kernel
theorem dX3_ifShort_133 : decode cX3_ifShort 133 = .ok (.ireturn, 1) := by decide +kernel
theorem dX3_leastPatience_0 : decode cX3_leastPatience 0 = .ok (.aload_n 0, 1) := by decide +kernel
theorem dX3_leastPatience_1 : decode cX3_leastPatience 1 = .ok (.iload_n 1, 1) := by decide +kernel
theorem dX3_leastPatience_2 : decode cX3_leastPatience 2 = .ok (.invokevirtual 67, 3) := by decide +kernel
theorem dX3_leastPatience_5 : decode cX3_leastPatience 5 = .ok (.ifCond .ne 13, 3) := by decide +kernel
theorem dX3_leastPatience_8 : decode cX3_leastPatience 8 = .ok (.new 70, 3) := by decide +kernel
theorem dX3_leastPatience_11 : decode cX3_leastPatience 11 = .ok (.dup, 1) := by decide +kernel
theorem dX3_leastPatience_12 : decode cX3_leastPatience 12 = .ok (.ldc 84, 2) := by decide +kernel
theorem dX3_leastPatience_14 : decode cX3_leastPatience 14 = .ok (.invokespecial 74, 3) := by decide +kernel
theorem dX3_leastPatience_17 : decode cX3_leastPatience 17 = .ok (.athrow, 1) := by decide +kernel
theorem dX3_leastPatience_18 : decode cX3_leastPatience 18 = .ok (.aload_n 0, 1) := by decide +kernel
theorem dX3_leastPatience_19 : decode cX3_leastPatience 19 = .ok (.getfield 10, 3) := by decide +kernel
theorem dX3_leastPatience_22 : decode cX3_leastPatience 22 = .ok (.iload_n 1, 1) := by decide +kernel
theorem dX3_leastPatience_23 : decode cX3_leastPatience 23 = .ok (.invokevirtual 222, 3) := by decide +kernel
theorem dX3_leastPatience_26 : decode cX3_leastPatience 26 = .ok (.ireturn, 1) := by decide +kernel
theorem dX3_goodShare_0 : decode cX3_goodShare 0 = .ok (.aload_n 0, 1) := by decide +kernel
theorem dX3_goodShare_1 : decode cX3_goodShare 1 = .ok (.getfield 10, 3) := by decide +kernel
theorem dX3_goodShare_4 : decode cX3_goodShare 4 = .ok (.getfield 134, 3) := by decide +kernel
theorem dX3_goodShare_7 : decode cX3_goodShare 7 = .ok (.aload_n 0, 1) := by decide +kernel
theorem dX3_goodShare_8 : decode cX3_goodShare 8 = .ok (.getfield 10, 3) := by decide +kernel
theorem dX3_goodShare_11 : decode cX3_goodShare 11 = .ok (.getfield 51, 3) := by decide +kernel
theorem dX3_goodShare_14 : decode cX3_goodShare 14 = .ok (.imul, 1) := by decide +kernel
theorem dX3_goodShare_15 : decode cX3_goodShare 15 = .ok (.istore_n 1, 1) := by decide +kernel
theorem dX3_goodShare_16 : decode cX3_goodShare 16 = .ok (.iload_n 1, 1) := by decide +kernel
theorem dX3_goodShare_17 : decode cX3_goodShare 17 = .ok (.ifCond .ne 5, 3) := by decide +kernel
theorem dX3_goodShare_20 : decode cX3_goodShare 20 = .ok (.dconst 0, 1) := by decide +kernel
theorem dX3_goodShare_21 : decode cX3_goodShare 21 = .ok (.dreturn, 1) := by decide +kernel
theorem dX3_goodShare_22 : decode cX3_goodShare 22 = .ok (.iconst 0, 1) := by decide +kernel
theorem dX3_goodShare_23 : decode cX3_goodShare 23 = .ok (.istore_n 2, 1) := by decide +kernel
theorem dX3_goodShare_24 : decode cX3_goodShare 24 = .ok (.iconst 0, 1) := by decide +kernel
theorem dX3_goodShare_25 : decode cX3_goodShare 25 = .ok (.istore_n 3, 1) := by decide +kernel
theorem dX3_goodShare_26 : decode cX3_goodShare 26 = .ok (.iload_n 3, 1) := by decide +kernel
theorem dX3_goodShare_27 : decode cX3_goodShare 27 = .ok (.aload_n 0, 1) := by decide +kernel
theorem dX3_goodShare_28 : decode cX3_goodShare 28 = .ok (.getfield 10, 3) := by decide +kernel
theorem dX3_goodShare_31 : decode cX3_goodShare 31 = .ok (.getfield 51, 3) := by decide +kernel
theorem dX3_goodShare_34 : decode cX3_goodShare 34 = .ok (.if_icmp .ge 25, 3) := by decide +kernel
theorem dX3_goodShare_37 : decode cX3_goodShare 37 = .ok (.iload_n 2, 1) := by decide +kernel
theorem dX3_goodShare_38 : decode cX3_goodShare 38 = .ok (.aload_n 0, 1) := by decide +kernel
theorem dX3_goodShare_39 : decode cX3_goodShare 39 = .ok (.getfield 10, 3) := by decide +kernel
theorem dX3_goodShare_42 : decode cX3_goodShare 42 = .ok (.getfield 180, 3) := by decide +kernel
theorem dX3_goodShare_45 : decode cX3_goodShare 45 = .ok (.iload_n 3, 1) := by decide +kernel
theorem dX3_goodShare_46 : decode cX3_goodShare 46 = .ok (.iconst 4, 1) := by decide +kernel
theorem dX3_goodShare_47 : decode cX3_goodShare 47 = .ok (.imul, 1) := by decide +kernel
theorem dX3_goodShare_48 : decode cX3_goodShare 48 = .ok (.iconst 3, 1) := by decide +kernel
theorem dX3_goodShare_49 : decode cX3_goodShare 49 = .ok (.iadd, 1) := by decide +kernel
theorem dX3_goodShare_50 : decode cX3_goodShare 50 = .ok (.iaload, 1) := by decide +kernel
theorem dX3_goodShare_51 : decode cX3_goodShare 51 = .ok (.iadd, 1) := by decide +kernel
theorem dX3_goodShare_52 : decode cX3_goodShare 52 = .ok (.istore_n 2, 1) := by decide +kernel
theorem dX3_goodShare_53 : decode cX3_goodShare 53 = .ok (.iinc 3 1, 3) := by decide +kernel
theorem dX3_goodShare_56 : decode cX3_goodShare 56 = .ok (.goto (-30), 3) := by decide +kernel
theorem dX3_goodShare_59 : decode cX3_goodShare 59 = .ok (.iload_n 2, 1) := by decide +kernel
theorem dX3_goodShare_60 : decode cX3_goodShare 60 = .ok (.i2d, 1) := by decide +kernel
theorem dX3_goodShare_61 : decode cX3_goodShare 61 = .ok (.iload_n 1, 1) := by decide +kernel
theorem dX3_goodShare_62 : decode cX3_goodShare 62 = .ok (.i2d, 1) := by decide +kernel
theorem dX3_goodShare_63 : decode cX3_goodShare 63 = .ok (.ddiv, 1) := by decide +kernel
theorem dX3_goodShare_64 : decode cX3_goodShare 64 = .ok (.dreturn, 1) := by decide +kernel
theorem dX3_digest_0 : decode cX3_digest 0 = .ok (.ldc2_w 225, 3) := by decide +kernel
theorem dX3_digest_3 : decode cX3_digest 3 = .ok (.lstore_n 1, 1) := by decide +kernel
theorem dX3_digest_4 : decode cX3_digest 4 = .ok (.iconst 0, 1) := by decide +kernel
theorem dX3_digest_5 : decode cX3_digest 5 = .ok (.istore_n 3, 1) := by decide +kernel
theorem dX3_digest_6 : decode cX3_digest 6 = .ok (.iload_n 3, 1) := by decide +kernel
theorem dX3_digest_7 : decode cX3_digest 7 = .ok (.bipush 10, 2) := by decide +kernel
theorem dX3_digest_9 : decode cX3_digest 9 = .ok (.if_icmp .ge 22, 3) := by decide +kernel
theorem dX3_digest_12 : decode cX3_digest 12 = .ok (.ldc2_w 227, 3) := by decide +kernel
theorem dX3_digest_15 : decode cX3_digest 15 = .ok (.lload_n 1, 1) := by decide +kernel
theorem dX3_digest_16 : decode cX3_digest 16 = .ok (.lmul, 1) := by decide +kernel
theorem dX3_digest_17 : decode cX3_digest 17 = .ok (.aload_n 0, 1) := by decide +kernel
theorem dX3_digest_18 : decode cX3_digest 18 = .ok (.iload_n 3, 1) := by decide +kernel
theorem dX3_digest_19 : decode cX3_digest 19 = .ok (.invokevirtual 202, 3) := by decide +kernel
theorem dX3_digest_22 : decode cX3_digest 22 = .ok (.i2l, 1) := by decide +kernel
theorem dX3_digest_23 : decode cX3_digest 23 = .ok (.ladd, 1) := by decide +kernel
theorem dX3_digest_24 : decode cX3_digest 24 = .ok (.lstore_n 1, 1) := by decide +kernel
theorem dX3_digest_25 : decode cX3_digest 25 = .ok (.iinc 3 1, 3) := by decide +kernel
theorem dX3_digest_28 : decode cX3_digest 28 = .ok (.goto (-22), 3) := by decide +kernel
theorem dX3_digest_31 : decode cX3_digest 31 = .ok (.iconst 0, 1) := by decide +kernel
theorem dX3_digest_32 : decode cX3_digest 32 = .ok (.istore_n 3, 1) := by decide +kernel
theorem dX3_digest_33 : decode cX3_digest 33 = .ok (.iload_n 3, 1) := by decide +kernel
theorem dX3_digest_34 : decode cX3_digest 34 = .ok (.aload_n 0, 1) := by decide +kernel
theorem dX3_digest_35 : decode cX3_digest 35 = .ok (.getfield 10, 3) := by decide +kernel
theorem dX3_digest_38 : decode cX3_digest 38 = .ok (.getfield 51, 3) := by decide +kernel
theorem dX3_digest_41 : decode cX3_digest 41 = .ok (.if_icmp .ge 16, 3) := by decide +kernel
theorem dX3_digest_44 : decode cX3_digest 44 = .ok (.aload_n 0, 1) := by decide +kernel
theorem dX3_digest_45 : decode cX3_digest 45 = .ok (.lload_n 1, 1) := by decide +kernel
theorem dX3_digest_46 : decode cX3_digest 46 = .ok (.iload_n 3, 1) := by decide +kernel
theorem dX3_digest_47 : decode cX3_digest 47 = .ok (.invokevirtual 229, 3) := by decide +kernel
theorem dX3_digest_50 : decode cX3_digest 50 = .ok (.lstore_n 1, 1) := by decide +kernel
theorem dX3_digest_51 : decode cX3_digest 51 = .ok (.iinc 3 1, 3) := by decide +kernel
theorem dX3_digest_54 : decode cX3_digest 54 = .ok (.goto (-21), 3) := by decide +kernel
theorem dX3_digest_57 : decode cX3_digest 57 = .ok (.aload_n 0, 1) := by decide +kernel
theorem dX3_digest_58 : decode cX3_digest 58 = .ok (.lload_n 1, 1) := by decide +kernel
theorem dX3_digest_59 : decode cX3_digest 59 = .ok (.invokevirtual 233, 3) := by decide +kernel
theorem dX3_digest_62 : decode cX3_digest 62 = .ok (.lstore_n 1, 1) := by decide +kernel
theorem dX3_digest_63 : decode cX3_digest 63 = .ok (.ldc2_w 227, 3) := by decide +kernel
theorem dX3_digest_66 : decode cX3_digest 66 = .ok (.lload_n 1, 1) := by decide +kernel
theorem dX3_digest_67 : decode cX3_digest 67 = .ok (.lmul, 1) := by decide +kernel
theorem dX3_digest_68 : decode cX3_digest 68 = .ok (.aload_n 0, 1) := by decide +kernel
theorem dX3_digest_69 : decode cX3_digest 69 = .ok (.invokevirtual 237, 3) := by decide +kernel
theorem dX3_digest_72 : decode cX3_digest 72 = .ok (.i2l, 1) := by decide +kernel
theorem dX3_digest_73 : decode cX3_digest 73 = .ok (.ladd, 1) := by decide +kernel
theorem dX3_digest_74 : decode cX3_digest 74 = .ok (.lstore_n 1, 1) := by decide +kernel
theorem dX3_digest_75 : decode cX3_digest 75 = .ok (.ldc2_w 227, 3) := by decide +kernel
theorem dX3_digest_78 : decode cX3_digest 78 = .ok (.lload_n 1, 1) := by decide +kernel
theorem dX3_digest_79 : decode cX3_digest 79 = .ok (.lmul, 1) := by decide +kernel
theorem dX3_digest_80 : decode cX3_digest 80 = .ok (.aload_n 0, 1) := by decide +kernel
theorem dX3_digest_81 : decode cX3_digest 81 = .ok (.invokevirtual 240, 3) := by decide +kernel
theorem dX3_digest_84 : decode cX3_digest 84 = .ok (.i2l, 1) := by decide +kernel
theorem dX3_digest_85 : decode cX3_digest 85 = .ok (.ladd, 1) := by decide +kernel
theorem dX3_digest_86 : decode cX3_digest 86 = .ok (.lstore_n 1, 1) := by decide +kernel
theorem dX3_digest_87 : decode cX3_digest 87 = .ok (.ldc2_w 227, 3) := by decide +kernel
theorem dX3_digest_90 : decode cX3_digest 90 = .ok (.lload_n 1, 1) := by decide +kernel
theorem dX3_digest_91 : decode cX3_digest 91 = .ok (.lmul, 1) := by decide +kernel
theorem dX3_digest_92 : decode cX3_digest 92 = .ok (.aload_n 0, 1) := by decide +kernel
theorem dX3_digest_93 : decode cX3_digest 93 = .ok (.invokevirtual 243, 3) := by decide +kernel
theorem dX3_digest_96 : decode cX3_digest 96 = .ok (.invokestatic 247, 3) := by decide +kernel
theorem dX3_digest_99 : decode cX3_digest 99 = .ok (.ladd, 1) := by decide +kernel
theorem dX3_digest_100 : decode cX3_digest 100 = .ok (.lstore_n 1, 1) := by decide +kernel
theorem dX3_digest_101 : decode cX3_digest 101 = .ok (.aload_n 0, 1) := by decide +kernel
theorem dX3_digest_102 : decode cX3_digest 102 = .ok (.lload_n 1, 1) := by decide +kernel
theorem dX3_digest_103 : decode cX3_digest 103 = .ok (.invokevirtual 251, 3) := by decide +kernel
theorem dX3_digest_106 : decode cX3_digest 106 = .ok (.lreturn, 1) := by decide +kernel
theorem dX3_isRail_0 : decode cX3_isRail 0 = .ok (.iload_n 1, 1) := by decide +kernel
theorem dX3_isRail_1 : decode cX3_isRail 1 = .ok (.ifCond .lt 18, 3) := by decide +kernel
theorem dX3_isRail_4 : decode cX3_isRail 4 = .ok (.iload_n 1, 1) := by decide +kernel
theorem dX3_isRail_5 : decode cX3_isRail 5 = .ok (.aload_n 0, 1) := by decide +kernel
theorem dX3_isRail_6 : decode cX3_isRail 6 = .ok (.getfield 10, 3) := by decide +kernel
theorem dX3_isRail_9 : decode cX3_isRail 9 = .ok (.getfield 51, 3) := by decide +kernel
theorem dX3_isRail_12 : decode cX3_isRail 12 = .ok (.if_icmp .ge 7, 3) := by decide +kernel
theorem dX3_isRail_15 : decode cX3_isRail 15 = .ok (.iconst 1, 1) := by decide +kernel
theorem dX3_isRail_16 : decode cX3_isRail 16 = .ok (.goto 4, 3) := by decide +kernel
theorem dX3_isRail_19 : decode cX3_isRail 19 = .ok (.iconst 0, 1) := by decide +kernel
theorem dX3_isRail_20 : decode cX3_isRail 20 = .ok (.ireturn, 1) := by decide +kernel
theorem dX3_areRails_0 : decode cX3_areRails 0 = .ok (.aload_n 0, 1) := by decide +kernel
theorem dX3_areRails_1 : decode cX3_areRails 1 = .ok (.getfield 10, 3) := by decide +kernel
theorem dX3_areRails_4 : decode cX3_areRails 4 = .ok (.getfield 51, 3) := by decide +kernel
theorem dX3_areRails_7 : decode cX3_areRails 7 = .ok (.iload_n 1, 1) := by decide +kernel
theorem dX3_areRails_8 : decode cX3_areRails 8 = .ok (.invokestatic 86, 3) := by decide +kernel
theorem dX3_areRails_11 : decode cX3_areRails 11 = .ok (.ireturn, 1) := by decide +kernel
theorem dX3_areBelow_0 : decode cX3_areBelow 0 = .ok (.iload_n 1, 1) := by decide +kernel
theorem dX3_areBelow_1 : decode cX3_areBelow 1 = .ok (.iconst 1, 1) := by decide +kernel
theorem dX3_areBelow_2 : decode cX3_areBelow 2 = .ok (.iload_n 0, 1) := by decide +kernel
theorem dX3_areBelow_3 : decode cX3_areBelow 3 = .ok (.ishl, 1) := by decide +kernel
theorem dX3_areBelow_4 : decode cX3_areBelow 4 = .ok (.iconst 1, 1) := by decide +kernel
theorem dX3_areBelow_5 : decode cX3_areBelow 5 = .ok (.isub, 1) := by decide +kernel
theorem dX3_areBelow_6 : decode cX3_areBelow 6 = .ok (.iconst (-1), 1) := by decide +kernel
theorem dX3_areBelow_7 : decode cX3_areBelow 7 = .ok (.ixor, 1) := by decide +kernel
theorem dX3_areBelow_8 : decode cX3_areBelow 8 = .ok (.iand, 1) := by decide +kernel
theorem dX3_areBelow_9 : decode cX3_areBelow 9 = .ok (.ifCond .ne 7, 3) := by decide +kernel
theorem dX3_areBelow_12 : decode cX3_areBelow 12 = .ok (.iconst 1, 1) := by decide +kernel
theorem dX3_areBelow_13 : decode cX3_areBelow 13 = .ok (.goto 4, 3) := by decide +kernel
theorem dX3_areBelow_16 : decode cX3_areBelow 16 = .ok (.iconst 0, 1) := by decide +kernel
theorem dX3_areBelow_17 : decode cX3_areBelow 17 = .ok (.ireturn, 1) := by decide +kernel
theorem dX3_isInRange_0 : decode cX3_isInRange 0 = .ok (.iload_n 1, 1) := by decide +kernel
theorem dX3_isInRange_1 : decode cX3_isInRange 1 = .ok (.getstatic 254, 3) := by decide +kernel
theorem dX3_isInRange_4 : decode cX3_isInRange 4 = .ok (.iload_n 0, 1) := by decide +kernel
theorem dX3_isInRange_5 : decode cX3_isInRange 5 = .ok (.iaload, 1) := by decide +kernel
theorem dX3_isInRange_6 : decode cX3_isInRange 6 = .ok (.if_icmp .lt 16, 3) := by decide +kernel
theorem dX3_isInRange_9 : decode cX3_isInRange 9 = .ok (.iload_n 1, 1) := by decide +kernel
theorem dX3_isInRange_10 : decode cX3_isInRange 10 = .ok (.getstatic 257, 3) := by decide +kernel
theorem dX3_isInRange_13 : decode cX3_isInRange 13 = .ok (.iload_n 0, 1) := by decide +kernel
theorem dX3_isInRange_14 : decode cX3_isInRange 14 = .ok (.iaload, 1) := by decide +kernel
theorem dX3_isInRange_15 : decode cX3_isInRange 15 = .ok (.if_icmp .gt 7, 3) := by decide +kernel
theorem dX3_isInRange_18 : decode cX3_isInRange 18 = .ok (.iconst 1, 1) := by decide +kernel
theorem dX3_isInRange_19 : decode cX3_isInRange 19 = .ok (.goto 4, 3) := by decide +kernel
theorem dX3_isInRange_22 : decode cX3_isInRange 22 = .ok (.iconst 0, 1) := by decide +kernel
theorem dX3_isInRange_23 : decode cX3_isInRange 23 = .ok (.ireturn, 1) := by decide +kernel
theorem dX3_save_0 : decode cX3_save 0 = .ok (.aload_n 0, 1) := by decide +kernel
theorem dX3_save_1 : decode cX3_save 1 = .ok (.getfield 168, 3) := by decide +kernel
theorem dX3_save_4 : decode cX3_save 4 = .ok (.bipush 6, 2) := by decide +kernel
theorem dX3_save_6 : decode cX3_save 6 = .ok (.if_icmp .lt 7, 3) := by decide +kernel
theorem dX3_save_9 : decode cX3_save 9 = .ok (.aload_n 0, 1) := by decide +kernel
theorem dX3_save_10 : decode cX3_save 10 = .ok (.invokevirtual 260, 3) := by decide +kernel
theorem dX3_save_13 : decode cX3_save 13 = .ok (.aload_n 0, 1) := by decide +kernel
theorem dX3_save_14 : decode cX3_save 14 = .ok (.getfield 19, 3) := by decide +kernel
theorem dX3_save_17 : decode cX3_save 17 = .ok (.aload_n 0, 1) := by decide +kernel
theorem dX3_save_18 : decode cX3_save 18 = .ok (.getfield 168, 3) := by decide +kernel
theorem dX3_save_21 : decode cX3_save 21 = .ok (.aaload, 1) := by decide +kernel
theorem dX3_save_22 : decode cX3_save 22 = .ok (.aload_n 0, 1) := by decide +kernel
theorem dX3_save_23 : decode cX3_save 23 = .ok (.getfield 10, 3) := by decide +kernel
theorem dX3_save_26 : decode cX3_save 26 = .ok (.invokevirtual 164, 3) := by decide +kernel
theorem dX3_save_29 : decode cX3_save 29 = .ok (.aload_n 0, 1) := by decide +kernel
theorem dX3_save_30 : decode cX3_save 30 = .ok (.dup, 1) := by decide +kernel
theorem dX3_save_31 : decode cX3_save 31 = .ok (.getfield 168, 3) := by decide +kernel
theorem dX3_save_34 : decode cX3_save 34 = .ok (.iconst 1, 1) := by decide +kernel
theorem dX3_save_35 : decode cX3_save 35 = .ok (.iadd, 1) := by decide +kernel
theorem dX3_save_36 : decode cX3_save 36 = .ok (.putfield 168, 3) := by decide +kernel
theorem dX3_save_39 : decode cX3_save 39 = .ok (.return_, 1) := by decide +kernel
theorem dX3_dropOldestSaved_0 : decode cX3_dropOldestSaved 0 = .ok (.aload_n 0, 1) := by decide +kernel
theorem dX3_dropOldestSaved_1 : decode cX3_dropOldestSaved 1 = .ok (.getfield 19, 3) := by decide +kernel
theorem dX3_dropOldestSaved_4 : decode cX3_dropOldestSaved 4 = .ok (.iconst 0, 1) := by decide +kernel
theorem dX3_dropOldestSaved_5 : decode cX3_dropOldestSaved 5 = .ok (.aaload, 1) := by decide +kernel
theorem dX3_dropOldestSaved_6 : decode cX3_dropOldestSaved 6 = .ok (.astore_n 1, 1) := by decide +kernel
theorem dX3_dropOldestSaved_7 : decode cX3_dropOldestSaved 7 = .ok (.iconst 1, 1) := by decide +kernel
theorem dX3_dropOldestSaved_8 : decode cX3_dropOldestSaved 8 = .ok (.istore_n 2, 1) := by decide +kernel
theorem dX3_dropOldestSaved_9 : decode cX3_dropOldestSaved 9 = .ok (.iload_n 2, 1) := by decide +kernel
theorem dX3_dropOldestSaved_10 : decode cX3_dropOldestSaved 10 = .ok (.bipush 6, 2) := by decide +kernel
theorem dX3_dropOldestSaved_12 : decode cX3_dropOldestSaved 12 = .ok (.if_icmp .ge 23, 3) := by decide +kernel
theorem dX3_dropOldestSaved_15 : decode cX3_dropOldestSaved 15 = .ok (.aload_n 0, 1) := by decide +kernel
theorem dX3_dropOldestSaved_16 : decode cX3_dropOldestSaved 16 = .ok (.getfield 19, 3) := by decide +kernel
theorem dX3_dropOldestSaved_19 : decode cX3_dropOldestSaved 19 = .ok (.iload_n 2, 1) := by decide +kernel
theorem dX3_dropOldestSaved_20 : decode cX3_dropOldestSaved 20 = .ok (.iconst 1, 1) := by decide +kernel
theorem dX3_dropOldestSaved_21 : decode cX3_dropOldestSaved 21 = .ok (.isub, 1) := by decide +kernel
theorem dX3_dropOldestSaved_22 : decode cX3_dropOldestSaved 22 = .ok (.aload_n 0, 1) := by decide +kernel
theorem dX3_dropOldestSaved_23 : decode cX3_dropOldestSaved 23 = .ok (.getfield 19, 3) := by decide +kernel
theorem dX3_dropOldestSaved_26 : decode cX3_dropOldestSaved 26 = .ok (.iload_n 2, 1) := by decide +kernel
theorem dX3_dropOldestSaved_27 : decode cX3_dropOldestSaved 27 = .ok (.aaload, 1) := by decide +kernel
theorem dX3_dropOldestSaved_28 : decode cX3_dropOldestSaved 28 = .ok (.aastore, 1) := by decide +kernel
theorem dX3_dropOldestSaved_29 : decode cX3_dropOldestSaved 29 = .ok (.iinc 2 1, 3) := by decide +kernel
theorem dX3_dropOldestSaved_32 : decode cX3_dropOldestSaved 32 = .ok (.goto (-23), 3) := by decide +kernel
theorem dX3_dropOldestSaved_35 : decode cX3_dropOldestSaved 35 = .ok (.aload_n 0, 1) := by decide +kernel
theorem dX3_dropOldestSaved_36 : decode cX3_dropOldestSaved 36 = .ok (.getfield 19, 3) := by decide +kernel
theorem dX3_dropOldestSaved_39 : decode cX3_dropOldestSaved 39 = .ok (.iconst 5, 1) := by decide +kernel
theorem dX3_dropOldestSaved_40 : decode cX3_dropOldestSaved 40 = .ok (.aload_n 1, 1) := by decide +kernel
theorem dX3_dropOldestSaved_41 : decode cX3_dropOldestSaved 41 = .ok (.aastore, 1) := by decide +kernel
theorem dX3_dropOldestSaved_42 : decode cX3_dropOldestSaved 42 = .ok (.aload_n 0, 1) := by decide +kernel
theorem dX3_dropOldestSaved_43 : decode cX3_dropOldestSaved 43 = .ok (.iconst 5, 1) := by decide +kernel
theorem dX3_dropOldestSaved_44 : decode cX3_dropOldestSaved 44 = .ok (.putfield 168, 3) := by decide +kernel
theorem dX3_dropOldestSaved_47 : decode cX3_dropOldestSaved 47 = .ok (.return_, 1) := by decide +kernel
theorem dX3_readBuffer_0 : decode cX3_readBuffer 0 = .ok (.aload_n 0, 1) := by decide +kernel
theorem dX3_readBuffer_1 : decode cX3_readBuffer 1 = .ok (.getfield 30, 3) := by decide +kernel
theorem dX3_readBuffer_4 : decode cX3_readBuffer 4 = .ok (.invokevirtual 263, 3) := by decide +kernel
theorem dX3_readBuffer_7 : decode cX3_readBuffer 7 = .ok (.iconst 0, 1) := by decide +kernel
theorem dX3_readBuffer_8 : decode cX3_readBuffer 8 = .ok (.istore_n 1, 1) := by decide +kernel
theorem dX3_readBuffer_9 : decode cX3_readBuffer 9 = .ok (.iload_n 1, 1) := by decide +kernel
theorem dX3_readBuffer_10 : decode cX3_readBuffer 10 = .ok (.aload_n 0, 1) := by decide +kernel
theorem dX3_readBuffer_11 : decode cX3_readBuffer 11 = .ok (.getfield 145, 3) := by decide +kernel
theorem dX3_readBuffer_14 : decode cX3_readBuffer 14 = .ok (.if_icmp .ge 27, 3) := by decide +kernel
theorem dX3_readBuffer_17 : decode cX3_readBuffer 17 = .ok (.aload_n 0, 1) := by decide +kernel
theorem dX3_readBuffer_18 : decode cX3_readBuffer 18 = .ok (.getfield 30, 3) := by decide +kernel
theorem dX3_readBuffer_21 : decode cX3_readBuffer 21 = .ok (.aload_n 0, 1) := by decide +kernel
theorem dX3_readBuffer_22 : decode cX3_readBuffer 22 = .ok (.getfield 23, 3) := by decide +kernel
theorem dX3_readBuffer_25 : decode cX3_readBuffer 25 = .ok (.iload_n 1, 1) := by decide +kernel
theorem dX3_readBuffer_26 : decode cX3_readBuffer 26 = .ok (.iaload, 1) := by decide +kernel
theorem dX3_readBuffer_27 : decode cX3_readBuffer 27 = .ok (.invokevirtual 266, 3) := by decide +kernel
theorem dX3_readBuffer_30 : decode cX3_readBuffer 30 = .ok (.ifCond .ne 5, 3) := by decide +kernel
theorem dX3_readBuffer_33 : decode cX3_readBuffer 33 = .ok (.iload_n 1, 1) := by decide +kernel
theorem dX3_readBuffer_34 : decode cX3_readBuffer 34 = .ok (.ireturn, 1) := by decide +kernel
theorem dX3_readBuffer_35 : decode cX3_readBuffer 35 = .ok (.iinc 1 1, 3) := by decide +kernel
theorem dX3_readBuffer_38 : decode cX3_readBuffer 38 = .ok (.goto (-29), 3) := by decide +kernel
theorem dX3_readBuffer_41 : decode cX3_readBuffer 41 = .ok (.aload_n 0, 1) := by decide +kernel
theorem dX3_readBuffer_42 : decode cX3_readBuffer 42 = .ok (.getfield 145, 3) := by decide +kernel
theorem dX3_readBuffer_45 : decode cX3_readBuffer 45 = .ok (.ireturn, 1) := by decide +kernel
theorem dX3_addTextToFuture_0 : decode cX3_addTextToFuture 0 = .ok (.aload_n 0, 1) := by decide +kernel
theorem dX3_addTextToFuture_1 : decode cX3_addTextToFuture 1 = .ok (.getfield 16, 3) := by decide +kernel
theorem dX3_addTextToFuture_4 : decode cX3_addTextToFuture 4 = .ok (.aload_n 0, 1) := by decide +kernel
theorem dX3_addTextToFuture_5 : decode cX3_addTextToFuture 5 = .ok (.getfield 10, 3) := by decide +kernel
theorem dX3_addTextToFuture_8 : decode cX3_addTextToFuture 8 = .ok (.invokevirtual 164, 3) := by decide +kernel
theorem dX3_addTextToFuture_11 : decode cX3_addTextToFuture 11 = .ok (.aload_n 0, 1) := by decide +kernel
theorem dX3_addTextToFuture_12 : decode cX3_addTextToFuture 12 = .ok (.getfield 30, 3) := by decide +kernel
theorem dX3_addTextToFuture_15 : decode cX3_addTextToFuture 15 = .ok (.invokevirtual 263, 3) := by decide +kernel
theorem dX3_addTextToFuture_18 : decode cX3_addTextToFuture 18 = .ok (.iconst 0, 1) := by decide +kernel
theorem dX3_addTextToFuture_19 : decode cX3_addTextToFuture 19 = .ok (.istore_n 1, 1) := by decide +kernel
theorem dX3_addTextToFuture_20 : decode cX3_addTextToFuture 20 = .ok (.iload_n 1, 1) := by decide +kernel
theorem dX3_addTextToFuture_21 : decode cX3_addTextToFuture 21 = .ok (.aload_n 0, 1) := by decide +kernel
theorem dX3_addTextToFuture_22 : decode cX3_addTextToFuture 22 = .ok (.getfield 145, 3) := by decide +kernel
theorem dX3_addTextToFuture_25 : decode cX3_addTextToFuture 25 = .ok (.if_icmp .ge 43, 3) := by decide +kernel
theorem dX3_addTextToFuture_28 : decode cX3_addTextToFuture 28 = .ok (.aload_n 0, 1) := by decide +kernel
theorem dX3_addTextToFuture_29 : decode cX3_addTextToFuture 29 = .ok (.getfield 23, 3) := by decide +kernel
theorem dX3_addTextToFuture_32 : decode cX3_addTextToFuture 32 = .ok (.iload_n 1, 1) := by decide +kernel
theorem dX3_addTextToFuture_33 : decode cX3_addTextToFuture 33 = .ok (.iaload, 1) := by decide +kernel
theorem dX3_addTextToFuture_34 : decode cX3_addTextToFuture 34 = .ok (.bipush 59, 2) := by decide +kernel
theorem dX3_addTextToFuture_36 : decode cX3_addTextToFuture 36 = .ok (.if_icmp .ne 12, 3) := by decide +kernel
theorem dX3_addTextToFuture_39 : decode cX3_addTextToFuture 39 = .ok (.aload_n 0, 1) := by decide +kernel
theorem dX3_addTextToFuture_40 : decode cX3_addTextToFuture 40 = .ok (.invokevirtual 269, 3) := by decide +kernel
theorem dX3_addTextToFuture_43 : decode cX3_addTextToFuture 43 = .ok (.ifCond .ne 5, 3) := by decide +kernel
theorem dX3_addTextToFuture_46 : decode cX3_addTextToFuture 46 = .ok (.iconst 0, 1) := by decide +kernel
theorem dX3_addTextToFuture_47 : decode cX3_addTextToFuture 47 = .ok (.ireturn, 1) := by decide +kernel
theorem dX3_addTextToFuture_48 : decode cX3_addTextToFuture 48 = .ok (.aload_n 0, 1) := by decide +kernel
theorem dX3_addTextToFuture_49 : decode cX3_addTextToFuture 49 = .ok (.getfield 30, 3) := by decide +kernel
theorem dX3_addTextToFuture_52 : decode cX3_addTextToFuture 52 = .ok (.aload_n 0, 1) := by decide +kernel
theorem dX3_addTextToFuture_53 : decode cX3_addTextToFuture 53 = .ok (.getfield 23, 3) := by decide +kernel
theorem dX3_addTextToFuture_56 : decode cX3_addTextToFuture 56 = .ok (.iload_n 1, 1) := by decide +kernel
theorem dX3_addTextToFuture_57 : decode cX3_addTextToFuture 57 = .ok (.iaload, 1) := by decide +kernel
theorem dX3_addTextToFuture_58 : decode cX3_addTextToFuture 58 = .ok (.invokevirtual 266, 3) := by decide +kernel
theorem dX3_addTextToFuture_61 : decode cX3_addTextToFuture 61 = .ok (.pop, 1) := by decide +kernel
theorem dX3_addTextToFuture_62 : decode cX3_addTextToFuture 62 = .ok (.iinc 1 1, 3) := by decide +kernel
theorem dX3_addTextToFuture_65 : decode cX3_addTextToFuture 65 = .ok (.goto (-45), 3) := by decide +kernel
theorem dX3_addTextToFuture_68 : decode cX3_addTextToFuture 68 = .ok (.aload_n 0, 1) := by decide +kernel
theorem dX3_addTextToFuture_69 : decode cX3_addTextToFuture 69 = .ok (.invokevirtual 269, 3) := by decide +kernel
theorem dX3_addTextToFuture_72 : decode cX3_addTextToFuture 72 = .ok (.ireturn, 1) := by decide +kernel
theorem dX3_addReadRailToFuture_0 : decode cX3_addReadRailToFuture 0 = .ok (.aload_n 0, 1) := by decide +kernel
theorem dX3_addReadRailToFuture_1 : decode cX3_addReadRailToFuture 1 = .ok (.getfield 16, 3) := by decide +kernel
theorem dX3_addReadRailToFuture_4 : decode cX3_addReadRailToFuture 4 = .ok (.getfield 51, 3) := by decide +kernel
theorem dX3_addReadRailToFuture_7 : decode cX3_addReadRailToFuture 7 = .ok (.bipush 8, 2) := by decide +kernel
theorem dX3_addReadRailToFuture_9 : decode cX3_addReadRailToFuture 9 = .ok (.if_icmp .ge 23, 3) := by decide +kernel
theorem dX3_addReadRailToFuture_12 : decode cX3_addReadRailToFuture 12 = .ok (.aload_n 0, 1) := by decide +kernel
theorem dX3_addReadRailToFuture_13 : decode cX3_addReadRailToFuture 13 = .ok (.getfield 16, 3) := by decide +kernel
theorem dX3_addReadRailToFuture_16 : decode cX3_addReadRailToFuture 16 = .ok (.getfield 51, 3) := by decide +kernel
theorem dX3_addReadRailToFuture_19 : decode cX3_addReadRailToFuture 19 = .ok (.aload_n 0, 1) := by decide +kernel
theorem dX3_addReadRailToFuture_20 : decode cX3_addReadRailToFuture 20 = .ok (.getfield 30, 3) := by decide +kernel
theorem dX3_addReadRailToFuture_23 : decode cX3_addReadRailToFuture 23 = .ok (.getfield 272, 3) := by decide +kernel
theorem dX3_addReadRailToFuture_26 : decode cX3_addReadRailToFuture 26 = .ok (.invokestatic 86, 3) := by decide +kernel
theorem dX3_addReadRailToFuture_29 : decode cX3_addReadRailToFuture 29 = .ok (.ifCond .ne 5, 3) := by decide +kernel
theorem dX3_addReadRailToFuture_32 : decode cX3_addReadRailToFuture 32 = .ok (.iconst 0, 1) := by decide +kernel
theorem dX3_addReadRailToFuture_33 : decode cX3_addReadRailToFuture 33 = .ok (.ireturn, 1) := by decide +kernel
theorem dX3_addReadRailToFuture_34 : decode cX3_addReadRailToFuture 34 = .ok (.aload_n 0, 1) := by decide +kernel
theorem dX3_addReadRailToFuture_35 : decode cX3_addReadRailToFuture 35 = .ok (.getfield 16, 3) := by decide +kernel
theorem dX3_addReadRailToFuture_38 : decode cX3_addReadRailToFuture 38 = .ok (.aload_n 0, 1) := by decide +kernel
theorem dX3_addReadRailToFuture_39 : decode cX3_addReadRailToFuture 39 = .ok (.getfield 30, 3) := by decide +kernel
theorem dX3_addReadRailToFuture_42 : decode cX3_addReadRailToFuture 42 = .ok (.getfield 274, 3) := by decide +kernel
theorem dX3_addReadRailToFuture_45 : decode cX3_addReadRailToFuture 45 = .ok (.iconst 0, 1) := by decide +kernel
theorem dX3_addReadRailToFuture_46 : decode cX3_addReadRailToFuture 46 = .ok (.iaload, 1) := by decide +kernel
theorem dX3_addReadRailToFuture_47 : decode cX3_addReadRailToFuture 47 = .ok (.aload_n 0, 1) := by decide +kernel
theorem dX3_addReadRailToFuture_48 : decode cX3_addReadRailToFuture 48 = .ok (.getfield 30, 3) := by decide +kernel
theorem dX3_addReadRailToFuture_51 : decode cX3_addReadRailToFuture 51 = .ok (.getfield 274, 3) := by decide +kernel
theorem dX3_addReadRailToFuture_54 : decode cX3_addReadRailToFuture 54 = .ok (.iconst 1, 1) := by decide +kernel
theorem dX3_addReadRailToFuture_55 : decode cX3_addReadRailToFuture 55 = .ok (.iaload, 1) := by decide +kernel
theorem dX3_addReadRailToFuture_56 : decode cX3_addReadRailToFuture 56 = .ok (.aload_n 0, 1) := by decide +kernel
theorem dX3_addReadRailToFuture_57 : decode cX3_addReadRailToFuture 57 = .ok (.getfield 30, 3) := by decide +kernel
theorem dX3_addReadRailToFuture_60 : decode cX3_addReadRailToFuture 60 = .ok (.getfield 274, 3) := by decide +kernel
theorem dX3_addReadRailToFuture_63 : decode cX3_addReadRailToFuture 63 = .ok (.iconst 2, 1) := by decide +kernel
theorem dX3_addReadRailToFuture_64 : decode cX3_addReadRailToFuture 64 = .ok (.iaload, 1) := by decide +kernel
theorem dX3_addReadRailToFuture_65 : decode cX3_addReadRailToFuture 65 = .ok (.aload_n 0, 1) := by decide +kernel
theorem dX3_addReadRailToFuture_66 : decode cX3_addReadRailToFuture 66 = .ok (.getfield 30, 3) := by decide +kernel
theorem dX3_addReadRailToFuture_69 : decode cX3_addReadRailToFuture 69 = .ok (.getfield 272, 3) := by decide +kernel
theorem dX3_addReadRailToFuture_72 : decode cX3_addReadRailToFuture 72 = .ok (.invokevirtual 63, 3) := by decide +kernel
theorem dX3_addReadRailToFuture_75 : decode cX3_addReadRailToFuture 75 = .ok (.iconst 1, 1) := by decide +kernel
theorem dX3_addReadRailToFuture_76 : decode cX3_addReadRailToFuture 76 = .ok (.ireturn, 1) := by decide +kernel
theorem dX3_countOf_0 : decode cX3_countOf 0 = .ok (.iload_n 1, 1) := by decide +kernel
theorem dX3_countOf_1 : decode cX3_countOf 1 = .ok (.tableswitch 125 0 8 #[51, 59, 67, 75, 83, 92, 101, 112, 120], 51) := by decide +kernel
theorem dX3_countOf_52 : decode cX3_countOf 52 = .ok (.aload_n 0, 1) := by decide +kernel
theorem dX3_countOf_53 : decode cX3_countOf 53 = .ok (.getfield 10, 3) := by decide +kernel
theorem dX3_countOf_56 : decode cX3_countOf 56 = .ok (.getfield 51, 3) := by decide +kernel
theorem dX3_countOf_59 : decode cX3_countOf 59 = .ok (.ireturn, 1) := by decide +kernel
theorem dX3_countOf_60 : decode cX3_countOf 60 = .ok (.aload_n 0, 1) := by decide +kernel
theorem dX3_countOf_61 : decode cX3_countOf 61 = .ok (.getfield 10, 3) := by decide +kernel
theorem dX3_countOf_64 : decode cX3_countOf 64 = .ok (.getfield 134, 3) := by decide +kernel
theorem dX3_countOf_67 : decode cX3_countOf 67 = .ok (.ireturn, 1) := by decide +kernel
theorem dX3_countOf_68 : decode cX3_countOf 68 = .ok (.aload_n 0, 1) := by decide +kernel
theorem dX3_countOf_69 : decode cX3_countOf 69 = .ok (.getfield 10, 3) := by decide +kernel
theorem dX3_countOf_72 : decode cX3_countOf 72 = .ok (.getfield 101, 3) := by decide +kernel
theorem dX3_countOf_75 : decode cX3_countOf 75 = .ok (.ireturn, 1) := by decide +kernel
theorem dX3_countOf_76 : decode cX3_countOf 76 = .ok (.aload_n 0, 1) := by decide +kernel
theorem dX3_countOf_77 : decode cX3_countOf 77 = .ok (.getfield 10, 3) := by decide +kernel
theorem dX3_countOf_80 : decode cX3_countOf 80 = .ok (.getfield 106, 3) := by decide +kernel
theorem dX3_countOf_83 : decode cX3_countOf 83 = .ok (.ireturn, 1) := by decide +kernel
theorem dX3_countOf_84 : decode cX3_countOf 84 = .ok (.aload_n 0, 1) := by decide +kernel
theorem dX3_countOf_85 : decode cX3_countOf 85 = .ok (.getfield 10, 3) := by decide +kernel
theorem dX3_countOf_88 : decode cX3_countOf 88 = .ok (.iconst 3, 1) := by decide +kernel
theorem dX3_countOf_89 : decode cX3_countOf 89 = .ok (.invokevirtual 205, 3) := by decide +kernel
theorem dX3_countOf_92 : decode cX3_countOf 92 = .ok (.ireturn, 1) := by decide +kernel
theorem dX3_countOf_93 : decode cX3_countOf 93 = .ok (.aload_n 0, 1) := by decide +kernel
theorem dX3_countOf_94 : decode cX3_countOf 94 = .ok (.getfield 10, 3) := by decide +kernel
theorem dX3_countOf_97 : decode cX3_countOf 97 = .ok (.iconst 5, 1) := by decide +kernel
theorem dX3_countOf_98 : decode cX3_countOf 98 = .ok (.invokevirtual 205, 3) := by decide +kernel
theorem dX3_countOf_101 : decode cX3_countOf 101 = .ok (.ireturn, 1) := by decide +kernel
theorem dX3_countOf_102 : decode cX3_countOf 102 = .ok (.aload_n 0, 1) := by decide +kernel
theorem dX3_countOf_103 : decode cX3_countOf 103 = .ok (.getfield 10, 3) := by decide +kernel
theorem dX3_countOf_106 : decode cX3_countOf 106 = .ok (.getfield 187, 3) := by decide +kernel
theorem dX3_countOf_109 : decode cX3_countOf 109 = .ok (.getfield 191, 3) := by decide +kernel
theorem dX3_countOf_112 : decode cX3_countOf 112 = .ok (.ireturn, 1) := by decide +kernel
theorem dX3_countOf_113 : decode cX3_countOf 113 = .ok (.aload_n 0, 1) := by decide +kernel
theorem dX3_countOf_114 : decode cX3_countOf 114 = .ok (.getfield 10, 3) := by decide +kernel
theorem dX3_countOf_117 : decode cX3_countOf 117 = .ok (.invokevirtual 277, 3) := by decide +kernel
theorem dX3_countOf_120 : decode cX3_countOf 120 = .ok (.ireturn, 1) := by decide +kernel
theorem dX3_countOf_121 : decode cX3_countOf 121 = .ok (.aload_n 0, 1) := by decide +kernel
theorem dX3_countOf_122 : decode cX3_countOf 122 = .ok (.getfield 168, 3) := by decide +kernel
theorem dX3_countOf_125 : decode cX3_countOf 125 = .ok (.ireturn, 1) := by decide +kernel
theorem dX3_countOf_126 : decode cX3_countOf 126 = .ok (.aload_n 0, 1) := by decide +kernel
theorem dX3_countOf_127 : decode cX3_countOf 127 = .ok (.getfield 16, 3) := by decide +kernel
theorem dX3_countOf_130 : decode cX3_countOf 130 = .ok (.aload_n 0, 1) := by decide +kernel
theorem dX3_countOf_131 : decode cX3_countOf 131 = .ok (.getfield 10, 3) := by decide +kernel
theorem dX3_countOf_134 : decode cX3_countOf 134 = .ok (.invokevirtual 164, 3) := by decide +kernel
theorem dX3_countOf_137 : decode cX3_countOf 137 = .ok (.aload_n 0, 1) := by decide +kernel
theorem dX3_countOf_138 : decode cX3_countOf 138 = .ok (.getfield 16, 3) := by decide +kernel
theorem dX3_countOf_141 : decode cX3_countOf 141 = .ok (.invokevirtual 139, 3) := by decide +kernel
theorem dX3_countOf_144 : decode cX3_countOf 144 = .ok (.pop, 1) := by decide +kernel
theorem dX3_countOf_145 : decode cX3_countOf 145 = .ok (.aload_n 0, 1) := by decide +kernel
theorem dX3_countOf_146 : decode cX3_countOf 146 = .ok (.getfield 16, 3) := by decide +kernel
theorem dX3_countOf_149 : decode cX3_countOf 149 = .ok (.invokevirtual 211, 3) := by decide +kernel
theorem dX3_countOf_152 : decode cX3_countOf 152 = .ok (.ifCond .eq 7, 3) := by decide +kernel
theorem dX3_countOf_155 : decode cX3_countOf 155 = .ok (.iconst 1, 1) := by decide +kernel
theorem dX3_countOf_156 : decode cX3_countOf 156 = .ok (.goto 4, 3) := by decide +kernel
theorem dX3_countOf_159 : decode cX3_countOf 159 = .ok (.iconst 0, 1) := by decide +kernel
theorem dX3_countOf_160 : decode cX3_countOf 160 = .ok (.ireturn, 1) := by decide +kernel
theorem dX3_hashOfRail_0 : decode cX3_hashOfRail 0 = .ok (.lload_n 1, 1) := by decide +kernel
theorem dX3_hashOfRail_1 : decode cX3_hashOfRail 1 = .ok (.lstore 4, 2) := by decide +kernel
theorem dX3_hashOfRail_3 : decode cX3_hashOfRail 3 = .ok (.iconst 0, 1) := by decide +kernel
theorem dX3_hashOfRail_4 : decode cX3_hashOfRail 4 = .ok (.istore 6, 2) := by decide +kernel
theorem dX3_hashOfRail_6 : decode cX3_hashOfRail 6 = .ok (.iload 6, 2) := by decide +kernel
theorem dX3_hashOfRail_8 : decode cX3_hashOfRail 8 = .ok (.bipush 19, 2) := by decide +kernel
theorem dX3_hashOfRail_10 : decode cX3_hashOfRail 10 = .ok (.if_icmp .ge 29, 3) := by decide +kernel
theorem dX3_hashOfRail_13 : decode cX3_hashOfRail 13 = .ok (.ldc2_w 227, 3) := by decide +kernel
theorem dX3_hashOfRail_16 : decode cX3_hashOfRail 16 = .ok (.lload 4, 2) := by decide +kernel
theorem dX3_hashOfRail_18 : decode cX3_hashOfRail 18 = .ok (.lmul, 1) := by decide +kernel
theorem dX3_hashOfRail_19 : decode cX3_hashOfRail 19 = .ok (.aload_n 0, 1) := by decide +kernel
theorem dX3_hashOfRail_20 : decode cX3_hashOfRail 20 = .ok (.getfield 10, 3) := by decide +kernel
theorem dX3_hashOfRail_23 : decode cX3_hashOfRail 23 = .ok (.iload_n 3, 1) := by decide +kernel
theorem dX3_hashOfRail_24 : decode cX3_hashOfRail 24 = .ok (.iload 6, 2) := by decide +kernel
theorem dX3_hashOfRail_26 : decode cX3_hashOfRail 26 = .ok (.invokevirtual 175, 3) := by decide +kernel
theorem dX3_hashOfRail_29 : decode cX3_hashOfRail 29 = .ok (.i2l, 1) := by decide +kernel
theorem dX3_hashOfRail_30 : decode cX3_hashOfRail 30 = .ok (.ladd, 1) := by decide +kernel
theorem dX3_hashOfRail_31 : decode cX3_hashOfRail 31 = .ok (.lstore 4, 2) := by decide +kernel
theorem dX3_hashOfRail_33 : decode cX3_hashOfRail 33 = .ok (.iinc 6 1, 3) := by decide +kernel
theorem dX3_hashOfRail_36 : decode cX3_hashOfRail 36 = .ok (.goto (-30), 3) := by decide +kernel
theorem dX3_hashOfRail_39 : decode cX3_hashOfRail 39 = .ok (.iconst 0, 1) := by decide +kernel
theorem dX3_hashOfRail_40 : decode cX3_hashOfRail 40 = .ok (.istore 6, 2) := by decide +kernel
theorem dX3_hashOfRail_42 : decode cX3_hashOfRail 42 = .ok (.iload 6, 2) := by decide +kernel
theorem dX3_hashOfRail_44 : decode cX3_hashOfRail 44 = .ok (.iconst 4, 1) := by decide +kernel
theorem dX3_hashOfRail_45 : decode cX3_hashOfRail 45 = .ok (.if_icmp .ge 33, 3) := by decide +kernel
theorem dX3_hashOfRail_48 : decode cX3_hashOfRail 48 = .ok (.ldc2_w 227, 3) := by decide +kernel
theorem dX3_hashOfRail_51 : decode cX3_hashOfRail 51 = .ok (.lload 4, 2) := by decide +kernel
theorem dX3_hashOfRail_53 : decode cX3_hashOfRail 53 = .ok (.lmul, 1) := by decide +kernel
theorem dX3_hashOfRail_54 : decode cX3_hashOfRail 54 = .ok (.aload_n 0, 1) := by decide +kernel
theorem dX3_hashOfRail_55 : decode cX3_hashOfRail 55 = .ok (.getfield 10, 3) := by decide +kernel
theorem dX3_hashOfRail_58 : decode cX3_hashOfRail 58 = .ok (.getfield 180, 3) := by decide +kernel
theorem dX3_hashOfRail_61 : decode cX3_hashOfRail 61 = .ok (.iload_n 3, 1) := by decide +kernel
theorem dX3_hashOfRail_62 : decode cX3_hashOfRail 62 = .ok (.iconst 4, 1) := by decide +kernel
theorem dX3_hashOfRail_63 : decode cX3_hashOfRail 63 = .ok (.imul, 1) := by decide +kernel
theorem dX3_hashOfRail_64 : decode cX3_hashOfRail 64 = .ok (.iload 6, 2) := by decide +kernel
theorem dX3_hashOfRail_66 : decode cX3_hashOfRail 66 = .ok (.iadd, 1) := by decide +kernel
theorem dX3_hashOfRail_67 : decode cX3_hashOfRail 67 = .ok (.iaload, 1) := by decide +kernel
theorem dX3_hashOfRail_68 : decode cX3_hashOfRail 68 = .ok (.i2l, 1) := by decide +kernel
theorem dX3_hashOfRail_69 : decode cX3_hashOfRail 69 = .ok (.ladd, 1) := by decide +kernel
theorem dX3_hashOfRail_70 : decode cX3_hashOfRail 70 = .ok (.lstore 4, 2) := by decide +kernel
theorem dX3_hashOfRail_72 : decode cX3_hashOfRail 72 = .ok (.iinc 6 1, 3) := by decide +kernel
theorem dX3_hashOfRail_75 : decode cX3_hashOfRail 75 = .ok (.goto (-33), 3) := by decide +kernel
theorem dX3_hashOfRail_78 : decode cX3_hashOfRail 78 = .ok (.ldc2_w 227, 3) := by decide +kernel
theorem dX3_hashOfRail_81 : decode cX3_hashOfRail 81 = .ok (.lload 4, 2) := by decide +kernel
theorem dX3_hashOfRail_83 : decode cX3_hashOfRail 83 = .ok (.lmul, 1) := by decide +kernel
theorem dX3_hashOfRail_84 : decode cX3_hashOfRail 84 = .ok (.aload_n 0, 1) := by decide +kernel
theorem dX3_hashOfRail_85 : decode cX3_hashOfRail 85 = .ok (.getfield 10, 3) := by decide +kernel
theorem dX3_hashOfRail_88 : decode cX3_hashOfRail 88 = .ok (.iload_n 3, 1) := by decide +kernel
theorem dX3_hashOfRail_89 : decode cX3_hashOfRail 89 = .ok (.invokevirtual 222, 3) := by decide +kernel
theorem dX3_hashOfRail_92 : decode cX3_hashOfRail 92 = .ok (.i2l, 1) := by decide +kernel
theorem dX3_hashOfRail_93 : decode cX3_hashOfRail 93 = .ok (.ladd, 1) := by decide +kernel
theorem dX3_hashOfRail_94 : decode cX3_hashOfRail 94 = .ok (.lreturn, 1) := by decide +kernel
theorem dX3_hashOfLog_0 : decode cX3_hashOfLog 0 = .ok (.lload_n 1, 1) := by decide +kernel
theorem dX3_hashOfLog_1 : decode cX3_hashOfLog 1 = .ok (.lstore_n 3, 1) := by decide +kernel
theorem dX3_hashOfLog_2 : decode cX3_hashOfLog 2 = .ok (.iconst 0, 1) := by decide +kernel
theorem dX3_hashOfLog_3 : decode cX3_hashOfLog 3 = .ok (.istore 5, 2) := by decide +kernel
theorem dX3_hashOfLog_5 : decode cX3_hashOfLog 5 = .ok (.iload 5, 2) := by decide +kernel
theorem dX3_hashOfLog_7 : decode cX3_hashOfLog 7 = .ok (.aload_n 0, 1) := by decide +kernel
theorem dX3_hashOfLog_8 : decode cX3_hashOfLog 8 = .ok (.getfield 10, 3) := by decide +kernel
theorem dX3_hashOfLog_11 : decode cX3_hashOfLog 11 = .ok (.getfield 187, 3) := by decide +kernel
theorem dX3_hashOfLog_14 : decode cX3_hashOfLog 14 = .ok (.getfield 191, 3) := by decide +kernel
theorem dX3_hashOfLog_17 : decode cX3_hashOfLog 17 = .ok (.if_icmp .ge 46, 3) := by decide +kernel
theorem dX3_hashOfLog_20 : decode cX3_hashOfLog 20 = .ok (.iconst 0, 1) := by decide +kernel
theorem dX3_hashOfLog_21 : decode cX3_hashOfLog 21 = .ok (.istore 6, 2) := by decide +kernel
theorem dX3_hashOfLog_23 : decode cX3_hashOfLog 23 = .ok (.iload 6, 2) := by decide +kernel
theorem dX3_hashOfLog_25 : decode cX3_hashOfLog 25 = .ok (.iconst 4, 1) := by decide +kernel
theorem dX3_hashOfLog_26 : decode cX3_hashOfLog 26 = .ok (.if_icmp .ge 31, 3) := by decide +kernel
theorem dX3_hashOfLog_29 : decode cX3_hashOfLog 29 = .ok (.ldc2_w 227, 3) := by decide +kernel
theorem dX3_hashOfLog_32 : decode cX3_hashOfLog 32 = .ok (.lload_n 3, 1) := by decide +kernel
theorem dX3_hashOfLog_33 : decode cX3_hashOfLog 33 = .ok (.lmul, 1) := by decide +kernel
theorem dX3_hashOfLog_34 : decode cX3_hashOfLog 34 = .ok (.aload_n 0, 1) := by decide +kernel
theorem dX3_hashOfLog_35 : decode cX3_hashOfLog 35 = .ok (.getfield 10, 3) := by decide +kernel
theorem dX3_hashOfLog_38 : decode cX3_hashOfLog 38 = .ok (.getfield 187, 3) := by decide +kernel
theorem dX3_hashOfLog_41 : decode cX3_hashOfLog 41 = .ok (.iload 5, 2) := by decide +kernel
theorem dX3_hashOfLog_43 : decode cX3_hashOfLog 43 = .ok (.iload 6, 2) := by decide +kernel
theorem dX3_hashOfLog_45 : decode cX3_hashOfLog 45 = .ok (.invokevirtual 194, 3) := by decide +kernel
theorem dX3_hashOfLog_48 : decode cX3_hashOfLog 48 = .ok (.i2l, 1) := by decide +kernel
theorem dX3_hashOfLog_49 : decode cX3_hashOfLog 49 = .ok (.ladd, 1) := by decide +kernel
theorem dX3_hashOfLog_50 : decode cX3_hashOfLog 50 = .ok (.lstore_n 3, 1) := by decide +kernel
theorem dX3_hashOfLog_51 : decode cX3_hashOfLog 51 = .ok (.iinc 6 1, 3) := by decide +kernel
theorem dX3_hashOfLog_54 : decode cX3_hashOfLog 54 = .ok (.goto (-31), 3) := by decide +kernel
theorem dX3_hashOfLog_57 : decode cX3_hashOfLog 57 = .ok (.iinc 5 1, 3) := by decide +kernel
theorem dX3_hashOfLog_60 : decode cX3_hashOfLog 60 = .ok (.goto (-55), 3) := by decide +kernel
theorem dX3_hashOfLog_63 : decode cX3_hashOfLog 63 = .ok (.lload_n 3, 1) := by decide +kernel
theorem dX3_hashOfLog_64 : decode cX3_hashOfLog 64 = .ok (.lreturn, 1) := by decide +kernel
theorem dX3_hashOfBuffer_0 : decode cX3_hashOfBuffer 0 = .ok (.ldc2_w 227, 3) := by decide +kernel
theorem dX3_hashOfBuffer_3 : decode cX3_hashOfBuffer 3 = .ok (.lload_n 1, 1) := by decide +kernel
theorem dX3_hashOfBuffer_4 : decode cX3_hashOfBuffer 4 = .ok (.lmul, 1) := by decide +kernel
theorem dX3_hashOfBuffer_5 : decode cX3_hashOfBuffer 5 = .ok (.aload_n 0, 1) := by decide +kernel
theorem dX3_hashOfBuffer_6 : decode cX3_hashOfBuffer 6 = .ok (.getfield 145, 3) := by decide +kernel
theorem dX3_hashOfBuffer_9 : decode cX3_hashOfBuffer 9 = .ok (.i2l, 1) := by decide +kernel
theorem dX3_hashOfBuffer_10 : decode cX3_hashOfBuffer 10 = .ok (.ladd, 1) := by decide +kernel
theorem dX3_hashOfBuffer_11 : decode cX3_hashOfBuffer 11 = .ok (.lstore_n 3, 1) := by decide +kernel
theorem dX3_hashOfBuffer_12 : decode cX3_hashOfBuffer 12 = .ok (.iconst 0, 1) := by decide +kernel
theorem dX3_hashOfBuffer_13 : decode cX3_hashOfBuffer 13 = .ok (.istore 5, 2) := by decide +kernel
theorem dX3_hashOfBuffer_15 : decode cX3_hashOfBuffer 15 = .ok (.iload 5, 2) := by decide +kernel
theorem dX3_hashOfBuffer_17 : decode cX3_hashOfBuffer 17 = .ok (.aload_n 0, 1) := by decide +kernel
theorem dX3_hashOfBuffer_18 : decode cX3_hashOfBuffer 18 = .ok (.getfield 145, 3) := by decide +kernel
theorem dX3_hashOfBuffer_21 : decode cX3_hashOfBuffer 21 = .ok (.if_icmp .ge 24, 3) := by decide +kernel
theorem dX3_hashOfBuffer_24 : decode cX3_hashOfBuffer 24 = .ok (.ldc2_w 227, 3) := by decide +kernel
theorem dX3_hashOfBuffer_27 : decode cX3_hashOfBuffer 27 = .ok (.lload_n 3, 1) := by decide +kernel
theorem dX3_hashOfBuffer_28 : decode cX3_hashOfBuffer 28 = .ok (.lmul, 1) := by decide +kernel
theorem dX3_hashOfBuffer_29 : decode cX3_hashOfBuffer 29 = .ok (.aload_n 0, 1) := by decide +kernel
theorem dX3_hashOfBuffer_30 : decode cX3_hashOfBuffer 30 = .ok (.getfield 23, 3) := by decide +kernel
theorem dX3_hashOfBuffer_33 : decode cX3_hashOfBuffer 33 = .ok (.iload 5, 2) := by decide +kernel
theorem dX3_hashOfBuffer_35 : decode cX3_hashOfBuffer 35 = .ok (.iaload, 1) := by decide +kernel
theorem dX3_hashOfBuffer_36 : decode cX3_hashOfBuffer 36 = .ok (.i2l, 1) := by decide +kernel
theorem dX3_hashOfBuffer_37 : decode cX3_hashOfBuffer 37 = .ok (.ladd, 1) := by decide +kernel
theorem dX3_hashOfBuffer_38 : decode cX3_hashOfBuffer 38 = .ok (.lstore_n 3, 1) := by decide +kernel
theorem dX3_hashOfBuffer_39 : decode cX3_hashOfBuffer 39 = .ok (.iinc 5 1, 3) := by decide +kernel
theorem dX3_hashOfBuffer_42 : decode cX3_hashOfBuffer 42 = .ok (.goto (-27), 3) := by decide +kernel
theorem dX3_hashOfBuffer_45 : decode cX3_hashOfBuffer 45 = .ok (.lload_n 3, 1) := by decide +kernel
theorem dX3_hashOfBuffer_46 : decode cX3_hashOfBuffer 46 = .ok (.lreturn, 1) := by decide +kernel
theorem dX3_bitsOfShare_0 : decode cX3_bitsOfShare 0 = .ok (.dload_n 0, 1) := by decide +kernel
theorem dX3_bitsOfShare_1 : decode cX3_bitsOfShare 1 = .ok (.dconst 0, 1) := by decide +kernel
theorem dX3_bitsOfShare_2 : decode cX3_bitsOfShare 2 = .ok (.dcmp .g, 1) := by decide +kernel
theorem dX3_bitsOfShare_3 : decode cX3_bitsOfShare 3 = .ok (.ifCond .gt 5, 3) := by decide +kernel
theorem dX3_bitsOfShare_6 : decode cX3_bitsOfShare 6 = .ok (.lconst 0, 1) := by decide +kernel
theorem dX3_bitsOfShare_7 : decode cX3_bitsOfShare 7 = .ok (.lreturn, 1) := by decide +kernel
theorem dX3_bitsOfShare_8 : decode cX3_bitsOfShare 8 = .ok (.dload_n 0, 1) := by decide +kernel
theorem dX3_bitsOfShare_9 : decode cX3_bitsOfShare 9 = .ok (.dstore_n 2, 1) := by decide +kernel
theorem dX3_bitsOfShare_10 : decode cX3_bitsOfShare 10 = .ok (.ldc2_w 280, 3) := by decide +kernel
theorem dX3_bitsOfShare_13 : decode cX3_bitsOfShare 13 = .ok (.lstore 4, 2) := by decide +kernel
theorem dX3_bitsOfShare_15 : decode cX3_bitsOfShare 15 = .ok (.iconst 0, 1) := by decide +kernel
theorem dX3_bitsOfShare_16 : decode cX3_bitsOfShare 16 = .ok (.istore 6, 2) := by decide +kernel
theorem dX3_bitsOfShare_18 : decode cX3_bitsOfShare 18 = .ok (.iload 6, 2) := by decide +kernel
theorem dX3_bitsOfShare_20 : decode cX3_bitsOfShare 20 = .ok (.sipush 1022, 3) := by decide +kernel
theorem dX3_bitsOfShare_23 : decode cX3_bitsOfShare 23 = .ok (.if_icmp .ge 27, 3) := by decide +kernel
theorem dX3_bitsOfShare_26 : decode cX3_bitsOfShare 26 = .ok (.dload_n 2, 1) := by decide +kernel
theorem dX3_bitsOfShare_27 : decode cX3_bitsOfShare 27 = .ok (.dconst 1, 1) := by decide +kernel
theorem dX3_bitsOfShare_28 : decode cX3_bitsOfShare 28 = .ok (.dcmp .g, 1) := by decide +kernel
theorem dX3_bitsOfShare_29 : decode cX3_bitsOfShare 29 = .ok (.ifCond .ge 21, 3) := by decide +kernel
theorem dX3_bitsOfShare_32 : decode cX3_bitsOfShare 32 = .ok (.dload_n 2, 1) := by decide +kernel
theorem dX3_bitsOfShare_33 : decode cX3_bitsOfShare 33 = .ok (.ldc2_w 282, 3) := by decide +kernel
theorem dX3_bitsOfShare_36 : decode cX3_bitsOfShare 36 = .ok (.dmul, 1) := by decide +kernel
theorem dX3_bitsOfShare_37 : decode cX3_bitsOfShare 37 = .ok (.dstore_n 2, 1) := by decide +kernel
theorem dX3_bitsOfShare_38 : decode cX3_bitsOfShare 38 = .ok (.lload 4, 2) := by decide +kernel
theorem dX3_bitsOfShare_40 : decode cX3_bitsOfShare 40 = .ok (.lconst 1, 1) := by decide +kernel
theorem dX3_bitsOfShare_41 : decode cX3_bitsOfShare 41 = .ok (.lsub, 1) := by decide +kernel
theorem dX3_bitsOfShare_42 : decode cX3_bitsOfShare 42 = .ok (.lstore 4, 2) := by decide +kernel
theorem dX3_bitsOfShare_44 : decode cX3_bitsOfShare 44 = .ok (.iinc 6 1, 3) := by decide +kernel
theorem dX3_bitsOfShare_47 : decode cX3_bitsOfShare 47 = .ok (.goto (-29), 3) := by decide +kernel
theorem dX3_bitsOfShare_50 : decode cX3_bitsOfShare 50 = .ok (.dload_n 2, 1) := by decide +kernel
theorem dX3_bitsOfShare_51 : decode cX3_bitsOfShare 51 = .ok (.dconst 1, 1) := by decide +kernel
theorem dX3_bitsOfShare_52 : decode cX3_bitsOfShare 52 = .ok (.dsub, 1) := by decide +kernel
theorem dX3_bitsOfShare_53 : decode cX3_bitsOfShare 53 = .ok (.ldc2_w 284, 3) := by decide +kernel
theorem dX3_bitsOfShare_56 : decode cX3_bitsOfShare 56 = .ok (.dmul, 1) := by decide +kernel
theorem dX3_bitsOfShare_57 : decode cX3_bitsOfShare 57 = .ok (.d2l, 1) := by decide +kernel
theorem dX3_bitsOfShare_58 : decode cX3_bitsOfShare 58 = .ok (.lstore 6, 2) := by decide +kernel
theorem dX3_bitsOfShare_60 : decode cX3_bitsOfShare 60 = .ok (.lload 4, 2) := by decide +kernel
theorem dX3_bitsOfShare_62 : decode cX3_bitsOfShare 62 = .ok (.bipush 52, 2) := by decide +kernel
theorem dX3_bitsOfShare_64 : decode cX3_bitsOfShare 64 = .ok (.lshl, 1) := by decide +kernel
theorem dX3_bitsOfShare_65 : decode cX3_bitsOfShare 65 = .ok (.lload 6, 2) := by decide +kernel
theorem dX3_bitsOfShare_67 : decode cX3_bitsOfShare 67 = .ok (.ladd, 1) := by decide +kernel
theorem dX3_bitsOfShare_68 : decode cX3_bitsOfShare 68 = .ok (.lreturn, 1) := by decide +kernel
theorem dX4_init_0 : decode cX4_init 0 = .ok (.aload_n 0, 1) := by decide +kernel
theorem dX4_init_1 : decode cX4_init 1 = .ok (.invokespecial 1, 3) := by decide +kernel
theorem dX4_init_4 : decode cX4_init 4 = .ok (.aload_n 0, 1) := by decide +kernel
theorem dX4_init_5 : decode cX4_init 5 = .ok (.sipush 228, 3) := by decide +kernel
theorem dX4_init_8 : decode cX4_init 8 = .ok (.newarray .int, 2) := by decide +kernel
theorem dX4_init_10 : decode cX4_init 10 = .ok (.putfield 7, 3) := by decide +kernel
theorem dX4_init_13 : decode cX4_init 13 = .ok (.aload_n 0, 1) := by decide +kernel
theorem dX4_init_14 : decode cX4_init 14 = .ok (.sipush 1368, 3) := by decide +kernel
theorem dX4_init_17 : decode cX4_init 17 = .ok (.newarray .int, 2) := by decide +kernel
theorem dX4_init_19 : decode cX4_init 19 = .ok (.putfield 13, 3) := by decide +kernel
theorem dX4_init_22 : decode cX4_init 22 = .ok (.aload_n 0, 1) := by decide +kernel
theorem dX4_init_23 : decode cX4_init 23 = .ok (.bipush 60, 2) := by decide +kernel
theorem dX4_init_25 : decode cX4_init 25 = .ok (.newarray .int, 2) := by decide +kernel
theorem dX4_init_27 : decode cX4_init 27 = .ok (.putfield 16, 3) := by decide +kernel
theorem dX4_init_30 : decode cX4_init 30 = .ok (.aload_n 0, 1) := by decide +kernel
theorem dX4_init_31 : decode cX4_init 31 = .ok (.bipush 8, 2) := by decide +kernel
theorem dX4_init_33 : decode cX4_init 33 = .ok (.newarray .int, 2) := by decide +kernel
theorem dX4_init_35 : decode cX4_init 35 = .ok (.putfield 19, 3) := by decide +kernel
theorem dX4_init_38 : decode cX4_init 38 = .ok (.aload_n 0, 1) := by decide +kernel
theorem dX4_init_39 : decode cX4_init 39 = .ok (.sipush 228, 3) := by decide +kernel
theorem dX4_init_42 : decode cX4_init 42 = .ok (.newarray .int, 2) := by decide +kernel
theorem dX4_init_44 : decode cX4_init 44 = .ok (.putfield 22, 3) := by decide +kernel
theorem dX4_init_47 : decode cX4_init 47 = .ok (.aload_n 0, 1) := by decide +kernel
theorem dX4_init_48 : decode cX4_init 48 = .ok (.bipush 64, 2) := by decide +kernel
theorem dX4_init_50 : decode cX4_init 50 = .ok (.newarray .int, 2) := by decide +kernel
theorem dX4_init_52 : decode cX4_init 52 = .ok (.putfield 25, 3) := by decide +kernel
theorem dX4_init_55 : decode cX4_init 55 = .ok (.aload_n 0, 1) := by decide +kernel
theorem dX4_init_56 : decode cX4_init 56 = .ok (.getfield 7, 3) := by decide +kernel
theorem dX4_init_59 : decode cX4_init 59 = .ok (.iconst 1, 1) := by decide +kernel
theorem dX4_init_60 : decode cX4_init 60 = .ok (.bipush 100, 2) := by decide +kernel
theorem dX4_init_62 : decode cX4_init 62 = .ok (.iastore, 1) := by decide +kernel
theorem dX4_init_63 : decode cX4_init 63 = .ok (.return_, 1) := by decide +kernel
theorem dX4_thrown_0 : decode cX4_thrown 0 = .ok (.aload_n 0, 1) := by decide +kernel
theorem dX4_thrown_1 : decode cX4_thrown 1 = .ok (.getfield 28, 3) := by decide +kernel
theorem dX4_thrown_4 : decode cX4_thrown 4 = .ok (.ireturn, 1) := by decide +kernel
theorem dX4_within_0 : decode cX4_within 0 = .ok (.iload_n 0, 1) := by decide +kernel
theorem dX4_within_1 : decode cX4_within 1 = .ok (.iload_n 1, 1) := by decide +kernel
theorem dX4_within_2 : decode cX4_within 2 = .ok (.if_icmp .lt 12, 3) := by decide +kernel
theorem dX4_within_5 : decode cX4_within 5 = .ok (.iload_n 0, 1) := by decide +kernel
theorem dX4_within_6 : decode cX4_within 6 = .ok (.iload_n 2, 1) := by decide +kernel
theorem dX4_within_7 : decode cX4_within 7 = .ok (.if_icmp .gt 7, 3) := by decide +kernel
theorem dX4_within_10 : decode cX4_within 10 = .ok (.iconst 1, 1) := by decide +kernel
theorem dX4_within_11 : decode cX4_within 11 = .ok (.goto 4, 3) := by decide +kernel
theorem dX4_within_14 : decode cX4_within 14 = .ok (.iconst 0, 1) := by decide +kernel
theorem dX4_within_15 : decode cX4_within 15 = .ok (.ireturn, 1) := by decide +kernel
theorem dX4_of_0 : decode cX4_of 0 = .ok (.aload_n 0, 1) := by decide +kernel
theorem dX4_of_1 : decode cX4_of 1 = .ok (.getfield 7, 3) := by decide +kernel
theorem dX4_of_4 : decode cX4_of 4 = .ok (.bipush 68, 2) := by decide +kernel
theorem dX4_of_6 : decode cX4_of 6 = .ok (.bipush 20, 2) := by decide +kernel
theorem dX4_of_8 : decode cX4_of 8 = .ok (.iload_n 1, 1) := by decide +kernel
theorem dX4_of_9 : decode cX4_of 9 = .ok (.imul, 1) := by decide +kernel
theorem dX4_of_10 : decode cX4_of 10 = .ok (.iadd, 1) := by decide +kernel
theorem dX4_of_11 : decode cX4_of 11 = .ok (.iload_n 2, 1) := by decide +kernel
theorem dX4_of_12 : decode cX4_of 12 = .ok (.iadd, 1) := by decide +kernel
theorem dX4_of_13 : decode cX4_of 13 = .ok (.iaload, 1) := by decide +kernel
theorem dX4_of_14 : decode cX4_of 14 = .ok (.ireturn, 1) := by decide +kernel
theorem dX4_lay_0 : decode cX4_lay 0 = .ok (.aload_n 0, 1) := by decide +kernel
theorem dX4_lay_1 : decode cX4_lay 1 = .ok (.getfield 7, 3) := by decide +kernel
theorem dX4_lay_4 : decode cX4_lay 4 = .ok (.bipush 68, 2) := by decide +kernel
theorem dX4_lay_6 : decode cX4_lay 6 = .ok (.bipush 20, 2) := by decide +kernel
theorem dX4_lay_8 : decode cX4_lay 8 = .ok (.iload_n 1, 1) := by decide +kernel
theorem dX4_lay_9 : decode cX4_lay 9 = .ok (.imul, 1) := by decide +kernel
theorem dX4_lay_10 : decode cX4_lay 10 = .ok (.iadd, 1) := by decide +kernel
theorem dX4_lay_11 : decode cX4_lay 11 = .ok (.iload_n 2, 1) := by decide +kernel
theorem dX4_lay_12 : decode cX4_lay 12 = .ok (.iadd, 1) := by decide +kernel
theorem dX4_lay_13 : decode cX4_lay 13 = .ok (.iload_n 3, 1) := by decide +kernel
theorem dX4_lay_14 : decode cX4_lay 14 = .ok (.iastore, 1) := by decide +kernel
theorem dX4_lay_15 : decode cX4_lay 15 = .ok (.return_, 1) := by decide +kernel
theorem dX4_add_0 : decode cX4_add 0 = .ok (.aload_n 0, 1) := by decide +kernel
theorem dX4_add_1 : decode cX4_add 1 = .ok (.getfield 7, 3) := by decide +kernel
theorem dX4_add_4 : decode cX4_add 4 = .ok (.bipush 68, 2) := by decide +kernel
theorem dX4_add_6 : decode cX4_add 6 = .ok (.bipush 20, 2) := by decide +kernel
theorem dX4_add_8 : decode cX4_add 8 = .ok (.iload_n 1, 1) := by decide +kernel
theorem dX4_add_9 : decode cX4_add 9 = .ok (.imul, 1) := by decide +kernel
theorem dX4_add_10 : decode cX4_add 10 = .ok (.iadd, 1) := by decide +kernel
theorem dX4_add_11 : decode cX4_add 11 = .ok (.iload_n 2, 1) := by decide +kernel
theorem dX4_add_12 : decode cX4_add 12 = .ok (.iadd, 1) := by decide +kernel
theorem dX4_add_13 : decode cX4_add 13 = .ok (.dup2, 1) := by decide +kernel
theorem dX4_add_14 : decode cX4_add 14 = .ok (.iaload, 1) := by decide +kernel
theorem dX4_add_15 : decode cX4_add 15 = .ok (.iconst 1, 1) := by decide +kernel
theorem dX4_add_16 : decode cX4_add 16 = .ok (.iadd, 1) := by decide +kernel
theorem dX4_add_17 : decode cX4_add 17 = .ok (.iastore, 1) := by decide +kernel
theorem dX4_add_18 : decode cX4_add 18 = .ok (.return_, 1) := by decide +kernel
theorem dX4_isRail_0 : decode cX4_isRail 0 = .ok (.iload_n 1, 1) := by decide +kernel
theorem dX4_isRail_1 : decode cX4_isRail 1 = .ok (.iconst 0, 1) := by decide +kernel
theorem dX4_isRail_2 : decode cX4_isRail 2 = .ok (.aload_n 0, 1) := by decide +kernel
theorem dX4_isRail_3 : decode cX4_isRail 3 = .ok (.getfield 7, 3) := by decide +kernel
theorem dX4_isRail_6 : decode cX4_isRail 6 = .ok (.iconst 0, 1) := by decide +kernel
theorem dX4_isRail_7 : decode cX4_isRail 7 = .ok (.iaload, 1) := by decide +kernel
theorem dX4_isRail_8 : decode cX4_isRail 8 = .ok (.iconst 1, 1) := by decide +kernel
theorem dX4_isRail_9 : decode cX4_isRail 9 = .ok (.isub, 1) := by decide +kernel
theorem dX4_isRail_10 : decode cX4_isRail 10 = .ok (.invokestatic 32, 3) := by decide +kernel
theorem dX4_isRail_13 : decode cX4_isRail 13 = .ok (.ireturn, 1) := by decide +kernel
theorem dX4_has_0 : decode cX4_has 0 = .ok (.iload_n 0, 1) := by decide +kernel
theorem dX4_has_1 : decode cX4_has 1 = .ok (.iload_n 1, 1) := by decide +kernel
theorem dX4_has_2 : decode cX4_has 2 = .ok (.ishr, 1) := by decide +kernel
theorem dX4_has_3 : decode cX4_has 3 = .ok (.iconst 1, 1) := by decide +kernel
theorem dX4_has_4 : decode cX4_has 4 = .ok (.iand, 1) := by decide +kernel
theorem dX4_has_5 : decode cX4_has 5 = .ok (.iconst 1, 1) := by decide +kernel
theorem dX4_has_6 : decode cX4_has 6 = .ok (.if_icmp .ne 7, 3) := by decide +kernel
theorem dX4_has_9 : decode cX4_has 9 = .ok (.iconst 1, 1) := by decide +kernel
theorem dX4_has_10 : decode cX4_has 10 = .ok (.goto 4, 3) := by decide +kernel
theorem dX4_has_13 : decode cX4_has 13 = .ok (.iconst 0, 1) := by decide +kernel
theorem dX4_has_14 : decode cX4_has 14 = .ok (.ireturn, 1) := by decide +kernel
theorem dX4_allRails_0 : decode cX4_allRails 0 = .ok (.iconst 1, 1) := by decide +kernel
theorem dX4_allRails_1 : decode cX4_allRails 1 = .ok (.aload_n 0, 1) := by decide +kernel
theorem dX4_allRails_2 : decode cX4_allRails 2 = .ok (.getfield 7, 3) := by decide +kernel
theorem dX4_allRails_5 : decode cX4_allRails 5 = .ok (.iconst 0, 1) := by decide +kernel
theorem dX4_allRails_6 : decode cX4_allRails 6 = .ok (.iaload, 1) := by decide +kernel
theorem dX4_allRails_7 : decode cX4_allRails 7 = .ok (.ishl, 1) := by decide +kernel
theorem dX4_allRails_8 : decode cX4_allRails 8 = .ok (.iconst 1, 1) := by decide +kernel
theorem dX4_allRails_9 : decode cX4_allRails 9 = .ok (.isub, 1) := by decide +kernel
theorem dX4_allRails_10 : decode cX4_allRails 10 = .ok (.ireturn, 1) := by decide +kernel
theorem dX4_isMask_0 : decode cX4_isMask 0 = .ok (.iload_n 1, 1) := by decide +kernel
theorem dX4_isMask_1 : decode cX4_isMask 1 = .ok (.ifCond .lt 14, 3) := by decide +kernel
theorem dX4_isMask_4 : decode cX4_isMask 4 = .ok (.iload_n 1, 1) := by decide +kernel
theorem dX4_isMask_5 : decode cX4_isMask 5 = .ok (.iconst 1, 1) := by decide +kernel
theorem dX4_isMask_6 : decode cX4_isMask 6 = .ok (.iload_n 2, 1) := by decide +kernel
theorem dX4_isMask_7 : decode cX4_isMask 7 = .ok (.ishl, 1) := by decide +kernel
theorem dX4_isMask_8 : decode cX4_isMask 8 = .ok (.if_icmp .ge 7, 3) := by decide +kernel
theorem dX4_isMask_11 : decode cX4_isMask 11 = .ok (.iconst 1, 1) := by decide +kernel
theorem dX4_isMask_12 : decode cX4_isMask 12 = .ok (.goto 4, 3) := by decide +kernel
theorem dX4_isMask_15 : decode cX4_isMask 15 = .ok (.iconst 0, 1) := by decide +kernel
theorem dX4_isMask_16 : decode cX4_isMask 16 = .ok (.ireturn, 1) := by decide +kernel
theorem dX4_isDischarged_0 : decode cX4_isDischarged 0 = .ok (.aload_n 0, 1) := by decide +kernel
theorem dX4_isDischarged_1 : decode cX4_isDischarged 1 = .ok (.iload_n 1, 1) := by decide +kernel
theorem dX4_isDischarged_2 : decode cX4_isDischarged 2 = .ok (.bipush 10, 2) := by decide +kernel
theorem dX4_isDischarged_4 : decode cX4_isDischarged 4 = .ok (.invokevirtual 36, 3) := by decide +kernel
theorem dX4_isDischarged_7 : decode cX4_isDischarged 7 = .ok (.aload_n 0, 1) := by decide +kernel
theorem dX4_isDischarged_8 : decode cX4_isDischarged 8 = .ok (.getfield 7, 3) := by decide +kernel
theorem dX4_isDischarged_11 : decode cX4_isDischarged 11 = .ok (.iconst 1, 1) := by decide +kernel
theorem dX4_isDischarged_12 : decode cX4_isDischarged 12 = .ok (.iaload, 1) := by decide +kernel
theorem dX4_isDischarged_13 : decode cX4_isDischarged 13 = .ok (.if_icmp .gt 7, 3) := by decide +kernel
theorem dX4_isDischarged_16 : decode cX4_isDischarged 16 = .ok (.iconst 1, 1) := by decide +kernel
theorem dX4_isDischarged_17 : decode cX4_isDischarged 17 = .ok (.goto 4, 3) := by decide +kernel
theorem dX4_isDischarged_20 : decode cX4_isDischarged 20 = .ok (.iconst 0, 1) := by decide +kernel
theorem dX4_isDischarged_21 : decode cX4_isDischarged 21 = .ok (.ireturn, 1) := by decide +kernel
theorem dX4_isFlag_0 : decode cX4_isFlag 0 = .ok (.aload_n 0, 1) := by decide +kernel
theorem dX4_isFlag_1 : decode cX4_isFlag 1 = .ok (.iload_n 1, 1) := by decide +kernel
theorem dX4_isFlag_2 : decode cX4_isFlag 2 = .ok (.bipush 10, 2) := by decide +kernel
theorem dX4_isFlag_4 : decode cX4_isFlag 4 = .ok (.invokevirtual 36, 3) := by decide +kernel
theorem dX4_isFlag_7 : decode cX4_isFlag 7 = .ok (.bipush 100, 2) := by decide +kernel
theorem dX4_isFlag_9 : decode cX4_isFlag 9 = .ok (.imul, 1) := by decide +kernel
theorem dX4_isFlag_10 : decode cX4_isFlag 10 = .ok (.aload_n 0, 1) := by decide +kernel
theorem dX4_isFlag_11 : decode cX4_isFlag 11 = .ok (.iload_n 1, 1) := by decide +kernel
theorem dX4_isFlag_12 : decode cX4_isFlag 12 = .ok (.iconst 0, 1) := by decide +kernel
theorem dX4_isFlag_13 : decode cX4_isFlag 13 = .ok (.invokevirtual 36, 3) := by decide +kernel
theorem dX4_isFlag_16 : decode cX4_isFlag 16 = .ok (.aload_n 0, 1) := by decide +kernel
theorem dX4_isFlag_17 : decode cX4_isFlag 17 = .ok (.iload_n 1, 1) := by decide +kernel
theorem dX4_isFlag_18 : decode cX4_isFlag 18 = .ok (.iconst 3, 1) := by decide +kernel
theorem dX4_isFlag_19 : decode cX4_isFlag 19 = .ok (.invokevirtual 36, 3) := by decide +kernel
theorem dX4_isFlag_22 : decode cX4_isFlag 22 = .ok (.imul, 1) := by decide +kernel
theorem dX4_isFlag_23 : decode cX4_isFlag 23 = .ok (.if_icmp .lt 7, 3) := by decide +kernel
theorem dX4_isFlag_26 : decode cX4_isFlag 26 = .ok (.iconst 1, 1) := by decide +kernel
theorem dX4_isFlag_27 : decode cX4_isFlag 27 = .ok (.goto 4, 3) := by decide +kernel
theorem dX4_isFlag_30 : decode cX4_isFlag 30 = .ok (.iconst 0, 1) := by decide +kernel
theorem dX4_isFlag_31 : decode cX4_isFlag 31 = .ok (.istore_n 2, 1) := by decide +kernel
theorem dX4_isFlag_32 : decode cX4_isFlag 32 = .ok (.aload_n 0, 1) := by decide +kernel
theorem dX4_isFlag_33 : decode cX4_isFlag 33 = .ok (.iload_n 1, 1) := by decide +kernel
theorem dX4_isFlag_34 : decode cX4_isFlag 34 = .ok (.bipush 11, 2) := by decide +kernel
theorem dX4_isFlag_36 : decode cX4_isFlag 36 = .ok (.invokevirtual 36, 3) := by decide +kernel
theorem dX4_isFlag_39 : decode cX4_isFlag 39 = .ok (.ifCond .ne 7, 3) := by decide +kernel
theorem dX4_isFlag_42 : decode cX4_isFlag 42 = .ok (.iload_n 2, 1) := by decide +kernel
theorem dX4_isFlag_43 : decode cX4_isFlag 43 = .ok (.goto 19, 3) := by decide +kernel
theorem dX4_isFlag_46 : decode cX4_isFlag 46 = .ok (.aload_n 0, 1) := by decide +kernel
theorem dX4_isFlag_47 : decode cX4_isFlag 47 = .ok (.iload_n 1, 1) := by decide +kernel
theorem dX4_isFlag_48 : decode cX4_isFlag 48 = .ok (.bipush 11, 2) := by decide +kernel
theorem dX4_isFlag_50 : decode cX4_isFlag 50 = .ok (.invokevirtual 36, 3) := by decide +kernel
theorem dX4_isFlag_53 : decode cX4_isFlag 53 = .ok (.iconst 2, 1) := by decide +kernel
theorem dX4_isFlag_54 : decode cX4_isFlag 54 = .ok (.if_icmp .ne 7, 3) := by decide +kernel
theorem dX4_isFlag_57 : decode cX4_isFlag 57 = .ok (.iconst 1, 1) := by decide +kernel
theorem dX4_isFlag_58 : decode cX4_isFlag 58 = .ok (.goto 4, 3) := by decide +kernel
theorem dX4_isFlag_61 : decode cX4_isFlag 61 = .ok (.iconst 0, 1) := by decide +kernel
theorem dX4_isFlag_62 : decode cX4_isFlag 62 = .ok (.ireturn, 1) := by decide +kernel
theorem dX4_followers_0 : decode cX4_followers 0 = .ok (.iconst 1, 1) := by decide +kernel
theorem dX4_followers_1 : decode cX4_followers 1 = .ok (.iload_n 1, 1) := by decide +kernel
theorem dX4_followers_2 : decode cX4_followers 2 = .ok (.ishl, 1) := by decide +kernel
theorem dX4_followers_3 : decode cX4_followers 3 = .ok (.istore_n 2, 1) := by decide +kernel
theorem dX4_followers_4 : decode cX4_followers 4 = .ok (.iload_n 1, 1) := by decide +kernel
theorem dX4_followers_5 : decode cX4_followers 5 = .ok (.iconst 1, 1) := by decide +kernel
theorem dX4_followers_6 : decode cX4_followers 6 = .ok (.iadd, 1) := by decide +kernel
theorem dX4_followers_7 : decode cX4_followers 7 = .ok (.istore_n 3, 1) := by decide +kernel
theorem dX4_followers_8 : decode cX4_followers 8 = .ok (.iload_n 3, 1) := by decide +kernel
theorem dX4_followers_9 : decode cX4_followers 9 = .ok (.aload_n 0, 1) := by decide +kernel
theorem dX4_followers_10 : decode cX4_followers 10 = .ok (.getfield 7, 3) := by decide +kernel
theorem dX4_followers_13 : decode cX4_followers 13 = .ok (.iconst 0, 1) := by decide +kernel
theorem dX4_followers_14 : decode cX4_followers 14 = .ok (.iaload, 1) := by decide +kernel
theorem dX4_followers_15 : decode cX4_followers 15 = .ok (.if_icmp .ge 31, 3) := by decide +kernel
theorem dX4_followers_18 : decode cX4_followers 18 = .ok (.iload_n 2, 1) := by decide +kernel
theorem dX4_followers_19 : decode cX4_followers 19 = .ok (.aload_n 0, 1) := by decide +kernel
theorem dX4_followers_20 : decode cX4_followers 20 = .ok (.iload_n 3, 1) := by decide +kernel
theorem dX4_followers_21 : decode cX4_followers 21 = .ok (.bipush 7, 2) := by decide +kernel
theorem dX4_followers_23 : decode cX4_followers 23 = .ok (.invokevirtual 36, 3) := by decide +kernel
theorem dX4_followers_26 : decode cX4_followers 26 = .ok (.iload_n 2, 1) := by decide +kernel
theorem dX4_followers_27 : decode cX4_followers 27 = .ok (.iand, 1) := by decide +kernel
theorem dX4_followers_28 : decode cX4_followers 28 = .ok (.ifCond .eq 9, 3) := by decide +kernel
theorem dX4_followers_31 : decode cX4_followers 31 = .ok (.iconst 1, 1) := by decide +kernel
theorem dX4_followers_32 : decode cX4_followers 32 = .ok (.iload_n 3, 1) := by decide +kernel
theorem dX4_followers_33 : decode cX4_followers 33 = .ok (.ishl, 1) := by decide +kernel
theorem dX4_followers_34 : decode cX4_followers 34 = .ok (.goto 4, 3) := by decide +kernel
theorem dX4_followers_37 : decode cX4_followers 37 = .ok (.iconst 0, 1) := by decide +kernel
theorem dX4_followers_38 : decode cX4_followers 38 = .ok (.ior, 1) := by decide +kernel
theorem dX4_followers_39 : decode cX4_followers 39 = .ok (.istore_n 2, 1) := by decide +kernel
theorem dX4_followers_40 : decode cX4_followers 40 = .ok (.iinc 3 1, 3) := by decide +kernel
theorem dX4_followers_43 : decode cX4_followers 43 = .ok (.goto (-35), 3) := by decide +kernel
theorem dX4_followers_46 : decode cX4_followers 46 = .ok (.iload_n 2, 1) := by decide +kernel
theorem dX4_followers_47 : decode cX4_followers 47 = .ok (.iconst 1, 1) := by decide +kernel
theorem dX4_followers_48 : decode cX4_followers 48 = .ok (.iload_n 1, 1) := by decide +kernel
theorem dX4_followers_49 : decode cX4_followers 49 = .ok (.ishl, 1) := by decide +kernel
theorem dX4_followers_50 : decode cX4_followers 50 = .ok (.isub, 1) := by decide +kernel
theorem dX4_followers_51 : decode cX4_followers 51 = .ok (.ireturn, 1) := by decide +kernel
theorem dX4_become_0 : decode cX4_become 0 = .ok (.aload_n 0, 1) := by decide +kernel
theorem dX4_become_1 : decode cX4_become 1 = .ok (.iload_n 1, 1) := by decide +kernel
theorem dX4_become_2 : decode cX4_become 2 = .ok (.bipush 9, 2) := by decide +kernel
theorem dX4_become_4 : decode cX4_become 4 = .ok (.iload_n 2, 1) := by decide +kernel
theorem dX4_become_5 : decode cX4_become 5 = .ok (.invokevirtual 40, 3) := by decide +kernel
theorem dX4_become_8 : decode cX4_become 8 = .ok (.aload_n 0, 1) := by decide +kernel
theorem dX4_become_9 : decode cX4_become 9 = .ok (.dup, 1) := by decide +kernel
theorem dX4_become_10 : decode cX4_become 10 = .ok (.getfield 44, 3) := by decide +kernel
theorem dX4_become_13 : decode cX4_become 13 = .ok (.iconst 1, 1) := by decide +kernel
theorem dX4_become_14 : decode cX4_become 14 = .ok (.iadd, 1) := by decide +kernel
theorem dX4_become_15 : decode cX4_become 15 = .ok (.putfield 44, 3) := by decide +kernel
theorem dX4_become_18 : decode cX4_become 18 = .ok (.aload_n 0, 1) := by decide +kernel
theorem dX4_become_19 : decode cX4_become 19 = .ok (.dup, 1) := by decide +kernel
theorem dX4_become_20 : decode cX4_become 20 = .ok (.getfield 47, 3) := by decide +kernel
theorem dX4_become_23 : decode cX4_become 23 = .ok (.iload_n 2, 1) := by decide +kernel
theorem dX4_become_24 : decode cX4_become 24 = .ok (.iconst 4, 1) := by decide +kernel
theorem dX4_become_25 : decode cX4_become 25 = .ok (.if_icmp .lt 9, 3) := by decide +kernel
theorem dX4_become_28 : decode cX4_become 28 = .ok (.iconst 1, 1) := by decide +kernel
theorem dX4_become_29 : decode cX4_become 29 = .ok (.iload_n 1, 1) := by decide +kernel
theorem dX4_become_30 : decode cX4_become 30 = .ok (.ishl, 1) := by decide +kernel
theorem dX4_become_31 : decode cX4_become 31 = .ok (.goto 4, 3) := by decide +kernel
theorem dX4_become_34 : decode cX4_become 34 = .ok (.iconst 0, 1) := by decide +kernel
theorem dX4_become_35 : decode cX4_become 35 = .ok (.ior, 1) := by decide +kernel
theorem dX4_become_36 : decode cX4_become 36 = .ok (.putfield 47, 3) := by decide +kernel
theorem dX4_become_39 : decode cX4_become 39 = .ok (.iload_n 2, 1) := by decide +kernel
theorem dX4_become_40 : decode cX4_become 40 = .ok (.iconst 2, 1) := by decide +kernel
theorem dX4_become_41 : decode cX4_become 41 = .ok (.if_icmp .eq 8, 3) := by decide +kernel
theorem dX4_become_44 : decode cX4_become 44 = .ok (.iload_n 2, 1) := by decide +kernel
theorem dX4_become_45 : decode cX4_become 45 = .ok (.iconst 3, 1) := by decide +kernel
theorem dX4_become_46 : decode cX4_become 46 = .ok (.if_icmp .ne 21, 3) := by decide +kernel
theorem dX4_become_49 : decode cX4_become 49 = .ok (.aload_n 0, 1) := by decide +kernel
theorem dX4_become_50 : decode cX4_become 50 = .ok (.iload_n 1, 1) := by decide +kernel
theorem dX4_become_51 : decode cX4_become 51 = .ok (.bipush 16, 2) := by decide +kernel
theorem dX4_become_53 : decode cX4_become 53 = .ok (.iload_n 2, 1) := by decide +kernel
theorem dX4_become_54 : decode cX4_become 54 = .ok (.iconst 2, 1) := by decide +kernel
theorem dX4_become_55 : decode cX4_become 55 = .ok (.if_icmp .ne 7, 3) := by decide +kernel
theorem dX4_become_58 : decode cX4_become 58 = .ok (.iconst 0, 1) := by decide +kernel
theorem dX4_become_59 : decode cX4_become 59 = .ok (.goto 4, 3) := by decide +kernel
theorem dX4_become_62 : decode cX4_become 62 = .ok (.iconst 1, 1) := by decide +kernel
theorem dX4_become_63 : decode cX4_become 63 = .ok (.iadd, 1) := by decide +kernel
theorem dX4_become_64 : decode cX4_become 64 = .ok (.invokevirtual 50, 3) := by decide +kernel
theorem dX4_become_67 : decode cX4_become 67 = .ok (.aload_n 0, 1) := by decide +kernel
theorem dX4_become_68 : decode cX4_become 68 = .ok (.getfield 7, 3) := by decide +kernel
theorem dX4_become_71 : decode cX4_become 71 = .ok (.iconst 3, 1) := by decide +kernel
theorem dX4_become_72 : decode cX4_become 72 = .ok (.iaload, 1) := by decide +kernel
theorem dX4_become_73 : decode cX4_become 73 = .ok (.bipush 16, 2) := by decide +kernel
theorem dX4_become_75 : decode cX4_become 75 = .ok (.if_icmp .ne 45, 3) := by decide +kernel
theorem dX4_become_78 : decode cX4_become 78 = .ok (.iconst 4, 1) := by decide +kernel
theorem dX4_become_79 : decode cX4_become 79 = .ok (.istore_n 3, 1) := by decide +kernel
theorem dX4_become_80 : decode cX4_become 80 = .ok (.iload_n 3, 1) := by decide +kernel
theorem dX4_become_81 : decode cX4_become 81 = .ok (.bipush 64, 2) := by decide +kernel
theorem dX4_become_83 : decode cX4_become 83 = .ok (.if_icmp .ge 27, 3) := by decide +kernel
theorem dX4_become_86 : decode cX4_become 86 = .ok (.aload_n 0, 1) := by decide +kernel
theorem dX4_become_87 : decode cX4_become 87 = .ok (.getfield 7, 3) := by decide +kernel
theorem dX4_become_90 : decode cX4_become 90 = .ok (.iconst 4, 1) := by decide +kernel
theorem dX4_become_91 : decode cX4_become 91 = .ok (.iload_n 3, 1) := by decide +kernel
theorem dX4_become_92 : decode cX4_become 92 = .ok (.iadd, 1) := by decide +kernel
theorem dX4_become_93 : decode cX4_become 93 = .ok (.iconst 4, 1) := by decide +kernel
theorem dX4_become_94 : decode cX4_become 94 = .ok (.isub, 1) := by decide +kernel
theorem dX4_become_95 : decode cX4_become 95 = .ok (.aload_n 0, 1) := by decide +kernel
theorem dX4_become_96 : decode cX4_become 96 = .ok (.getfield 7, 3) := by decide +kernel
theorem dX4_become_99 : decode cX4_become 99 = .ok (.iconst 4, 1) := by decide +kernel
theorem dX4_become_100 : decode cX4_become 100 = .ok (.iload_n 3, 1) := by decide +kernel
theorem dX4_become_101 : decode cX4_become 101 = .ok (.iadd, 1) := by decide +kernel
theorem dX4_become_102 : decode cX4_become 102 = .ok (.iaload, 1) := by decide +kernel
theorem dX4_become_103 : decode cX4_become 103 = .ok (.iastore, 1) := by decide +kernel
theorem dX4_become_104 : decode cX4_become 104 = .ok (.iinc 3 1, 3) := by decide +kernel
theorem dX4_become_107 : decode cX4_become 107 = .ok (.goto (-27), 3) := by decide +kernel
theorem dX4_become_110 : decode cX4_become 110 = .ok (.aload_n 0, 1) := by decide +kernel
theorem dX4_become_111 : decode cX4_become 111 = .ok (.getfield 7, 3) := by decide +kernel
theorem dX4_become_114 : decode cX4_become 114 = .ok (.iconst 3, 1) := by decide +kernel
theorem dX4_become_115 : decode cX4_become 115 = .ok (.dup2, 1) := by decide +kernel
theorem dX4_become_116 : decode cX4_become 116 = .ok (.iaload, 1) := by decide +kernel
theorem dX4_become_117 : decode cX4_become 117 = .ok (.iconst 1, 1) := by decide +kernel
theorem dX4_become_118 : decode cX4_become 118 = .ok (.isub, 1) := by decide +kernel
theorem dX4_become_119 : decode cX4_become 119 = .ok (.iastore, 1) := by decide +kernel
theorem dX4_become_120 : decode cX4_become 120 = .ok (.iconst 4, 1) := by decide +kernel
theorem dX4_become_121 : decode cX4_become 121 = .ok (.iconst 4, 1) := by decide +kernel
theorem dX4_become_122 : decode cX4_become 122 = .ok (.aload_n 0, 1) := by decide +kernel
theorem dX4_become_123 : decode cX4_become 123 = .ok (.getfield 7, 3) := by decide +kernel
theorem dX4_become_126 : decode cX4_become 126 = .ok (.iconst 3, 1) := by decide +kernel
theorem dX4_become_127 : decode cX4_become 127 = .ok (.iaload, 1) := by decide +kernel
theorem dX4_become_128 : decode cX4_become 128 = .ok (.imul, 1) := by decide +kernel
theorem dX4_become_129 : decode cX4_become 129 = .ok (.iadd, 1) := by decide +kernel
theorem dX4_become_130 : decode cX4_become 130 = .ok (.istore_n 3, 1) := by decide +kernel
theorem dX4_become_131 : decode cX4_become 131 = .ok (.aload_n 0, 1) := by decide +kernel
theorem dX4_become_132 : decode cX4_become 132 = .ok (.getfield 7, 3) := by decide +kernel
theorem dX4_become_135 : decode cX4_become 135 = .ok (.iload_n 3, 1) := by decide +kernel
theorem dX4_become_136 : decode cX4_become 136 = .ok (.aload_n 0, 1) := by decide +kernel
theorem dX4_become_137 : decode cX4_become 137 = .ok (.getfield 7, 3) := by decide +kernel
theorem dX4_become_140 : decode cX4_become 140 = .ok (.iconst 2, 1) := by decide +kernel
theorem dX4_become_141 : decode cX4_become 141 = .ok (.iaload, 1) := by decide +kernel
theorem dX4_become_142 : decode cX4_become 142 = .ok (.iastore, 1) := by decide +kernel
theorem dX4_become_143 : decode cX4_become 143 = .ok (.aload_n 0, 1) := by decide +kernel
theorem dX4_become_144 : decode cX4_become 144 = .ok (.getfield 7, 3) := by decide +kernel
theorem dX4_become_147 : decode cX4_become 147 = .ok (.iload_n 3, 1) := by decide +kernel
theorem dX4_become_148 : decode cX4_become 148 = .ok (.iconst 1, 1) := by decide +kernel
theorem dX4_become_149 : decode cX4_become 149 = .ok (.iadd, 1) := by decide +kernel
theorem dX4_become_150 : decode cX4_become 150 = .ok (.iload_n 1, 1) := by decide +kernel
theorem dX4_become_151 : decode cX4_become 151 = .ok (.iastore, 1) := by decide +kernel
theorem dX4_become_152 : decode cX4_become 152 = .ok (.aload_n 0, 1) := by decide +kernel
theorem dX4_become_153 : decode cX4_become 153 = .ok (.getfield 7, 3) := by decide +kernel
theorem dX4_become_156 : decode cX4_become 156 = .ok (.iload_n 3, 1) := by decide +kernel
theorem dX4_become_157 : decode cX4_become 157 = .ok (.iconst 2, 1) := by decide +kernel
theorem dX4_become_158 : decode cX4_become 158 = .ok (.iadd, 1) := by decide +kernel
theorem dX4_become_159 : decode cX4_become 159 = .ok (.iload_n 2, 1) := by decide +kernel
theorem dX4_become_160 : decode cX4_become 160 = .ok (.iastore, 1) := by decide +kernel
theorem dX4_become_161 : decode cX4_become 161 = .ok (.aload_n 0, 1) := by decide +kernel
theorem dX4_become_162 : decode cX4_become 162 = .ok (.getfield 7, 3) := by decide +kernel
theorem dX4_become_165 : decode cX4_become 165 = .ok (.iload_n 3, 1) := by decide +kernel
theorem dX4_become_166 : decode cX4_become 166 = .ok (.iconst 3, 1) := by decide +kernel
theorem dX4_become_167 : decode cX4_become 167 = .ok (.iadd, 1) := by decide +kernel
theorem dX4_become_168 : decode cX4_become 168 = .ok (.aload_n 0, 1) := by decide +kernel
theorem dX4_become_169 : decode cX4_become 169 = .ok (.iload_n 1, 1) := by decide +kernel
theorem dX4_become_170 : decode cX4_become 170 = .ok (.bipush 15, 2) := by decide +kernel
theorem dX4_become_172 : decode cX4_become 172 = .ok (.invokevirtual 36, 3) := by decide +kernel
theorem dX4_become_175 : decode cX4_become 175 = .ok (.iastore, 1) := by decide +kernel
theorem dX4_become_176 : decode cX4_become 176 = .ok (.aload_n 0, 1) := by decide +kernel
theorem dX4_become_177 : decode cX4_become 177 = .ok (.getfield 7, 3) := by decide +kernel
theorem dX4_become_180 : decode cX4_become 180 = .ok (.iconst 3, 1) := by decide +kernel
theorem dX4_become_181 : decode cX4_become 181 = .ok (.dup2, 1) := by decide +kernel
theorem dX4_become_182 : decode cX4_become 182 = .ok (.iaload, 1) := by decide +kernel
theorem dX4_become_183 : decode cX4_become 183 = .ok (.iconst 1, 1) := by decide +kernel
theorem dX4_become_184 : decode cX4_become 184 = .ok (.iadd, 1) := by decide +kernel
theorem dX4_become_185 : decode cX4_become 185 = .ok (.iastore, 1) := by decide +kernel
theorem dX4_become_186 : decode cX4_become 186 = .ok (.return_, 1) := by decide +kernel
theorem dX4_becomeFor_0 : decode cX4_becomeFor 0 = .ok (.aload_n 0, 1) := by decide +kernel
theorem dX4_becomeFor_1 : decode cX4_becomeFor 1 = .ok (.iload_n 1, 1) := by decide +kernel
theorem dX4_becomeFor_2 : decode cX4_becomeFor 2 = .ok (.bipush 15, 2) := by decide +kernel
theorem dX4_becomeFor_4 : decode cX4_becomeFor 4 = .ok (.iload_n 3, 1) := by decide +kernel
theorem dX4_becomeFor_5 : decode cX4_becomeFor 5 = .ok (.invokevirtual 40, 3) := by decide +kernel
theorem dX4_becomeFor_8 : decode cX4_becomeFor 8 = .ok (.aload_n 0, 1) := by decide +kernel
theorem dX4_becomeFor_9 : decode cX4_becomeFor 9 = .ok (.iload_n 1, 1) := by decide +kernel
theorem dX4_becomeFor_10 : decode cX4_becomeFor 10 = .ok (.iload_n 2, 1) := by decide +kernel
theorem dX4_becomeFor_11 : decode cX4_becomeFor 11 = .ok (.invokevirtual 54, 3) := by decide +kernel
theorem dX4_becomeFor_14 : decode cX4_becomeFor 14 = .ok (.return_, 1) := by decide +kernel
theorem dX4_towards_0 : decode cX4_towards 0 = .ok (.iload_n 1, 1) := by decide +kernel
theorem dX4_towards_1 : decode cX4_towards 1 = .ok (.iload_n 0, 1) := by decide +kernel
theorem dX4_towards_2 : decode cX4_towards 2 = .ok (.isub, 1) := by decide +kernel
theorem dX4_towards_3 : decode cX4_towards 3 = .ok (.istore_n 3, 1) := by decide +kernel
theorem dX4_towards_4 : decode cX4_towards 4 = .ok (.iload_n 0, 1) := by decide +kernel
theorem dX4_towards_5 : decode cX4_towards 5 = .ok (.iload_n 3, 1) := by decide +kernel
theorem dX4_towards_6 : decode cX4_towards 6 = .ok (.iload_n 2, 1) := by decide +kernel
theorem dX4_towards_7 : decode cX4_towards 7 = .ok (.if_icmp .le 7, 3) := by decide +kernel
theorem dX4_towards_10 : decode cX4_towards 10 = .ok (.iload_n 2, 1) := by decide +kernel
theorem dX4_towards_11 : decode cX4_towards 11 = .ok (.goto 15, 3) := by decide +kernel
theorem dX4_towards_14 : decode cX4_towards 14 = .ok (.iload_n 3, 1) := by decide +kernel
theorem dX4_towards_15 : decode cX4_towards 15 = .ok (.iload_n 2, 1) := by decide +kernel
theorem dX4_towards_16 : decode cX4_towards 16 = .ok (.ineg, 1) := by decide +kernel
theorem dX4_towards_17 : decode cX4_towards 17 = .ok (.if_icmp .ge 8, 3) := by decide +kernel
theorem dX4_towards_20 : decode cX4_towards 20 = .ok (.iload_n 2, 1) := by decide +kernel
theorem dX4_towards_21 : decode cX4_towards 21 = .ok (.ineg, 1) := by decide +kernel
theorem dX4_towards_22 : decode cX4_towards 22 = .ok (.goto 4, 3) := by decide +kernel
theorem dX4_towards_25 : decode cX4_towards 25 = .ok (.iload_n 3, 1) := by decide +kernel
theorem dX4_towards_26 : decode cX4_towards 26 = .ok (.iadd, 1) := by decide +kernel
theorem dX4_towards_27 : decode cX4_towards 27 = .ok (.ireturn, 1) := by decide +kernel
theorem dX4_moveVoltage_0 : decode cX4_moveVoltage 0 = .ok (.aload_n 0, 1) := by decide +kernel
theorem dX4_moveVoltage_1 : decode cX4_moveVoltage 1 = .ok (.iload_n 1, 1) := by decide +kernel
theorem dX4_moveVoltage_2 : decode cX4_moveVoltage 2 = .ok (.bipush 9, 2) := by decide +kernel
theorem dX4_moveVoltage_4 : decode cX4_moveVoltage 4 = .ok (.invokevirtual 36, 3) := by decide +kernel
theorem dX4_moveVoltage_7 : decode cX4_moveVoltage 7 = .ok (.iconst 2, 1) := by decide +kernel
theorem dX4_moveVoltage_8 : decode cX4_moveVoltage 8 = .ok (.if_icmp .eq 14, 3) := by decide +kernel
theorem dX4_moveVoltage_11 : decode cX4_moveVoltage 11 = .ok (.aload_n 0, 1) := by decide +kernel
theorem dX4_moveVoltage_12 : decode cX4_moveVoltage 12 = .ok (.iload_n 1, 1) := by decide +kernel
theorem dX4_moveVoltage_13 : decode cX4_moveVoltage 13 = .ok (.bipush 9, 2) := by decide +kernel
theorem dX4_moveVoltage_15 : decode cX4_moveVoltage 15 = .ok (.invokevirtual 36, 3) := by decide +kernel
theorem dX4_moveVoltage_18 : decode cX4_moveVoltage 18 = .ok (.iconst 3, 1) := by decide +kernel
theorem dX4_moveVoltage_19 : decode cX4_moveVoltage 19 = .ok (.if_icmp .ne 17, 3) := by decide +kernel
theorem dX4_moveVoltage_22 : decode cX4_moveVoltage 22 = .ok (.aload_n 0, 1) := by decide +kernel
theorem dX4_moveVoltage_23 : decode cX4_moveVoltage 23 = .ok (.iload_n 1, 1) := by decide +kernel
theorem dX4_moveVoltage_24 : decode cX4_moveVoltage 24 = .ok (.bipush 12, 2) := by decide +kernel
theorem dX4_moveVoltage_26 : decode cX4_moveVoltage 26 = .ok (.invokevirtual 36, 3) := by decide +kernel
theorem dX4_moveVoltage_29 : decode cX4_moveVoltage 29 = .ok (.ifCond .ne 7, 3) := by decide +kernel
theorem dX4_moveVoltage_32 : decode cX4_moveVoltage 32 = .ok (.iconst 1, 1) := by decide +kernel
theorem dX4_moveVoltage_33 : decode cX4_moveVoltage 33 = .ok (.goto 4, 3) := by decide +kernel
theorem dX4_moveVoltage_36 : decode cX4_moveVoltage 36 = .ok (.iconst 0, 1) := by decide +kernel
theorem dX4_moveVoltage_37 : decode cX4_moveVoltage 37 = .ok (.istore_n 2, 1) := by decide +kernel
theorem dX4_moveVoltage_38 : decode cX4_moveVoltage 38 = .ok (.aload_n 0, 1) := by decide +kernel
theorem dX4_moveVoltage_39 : decode cX4_moveVoltage 39 = .ok (.iload_n 1, 1) := by decide +kernel
theorem dX4_moveVoltage_40 : decode cX4_moveVoltage 40 = .ok (.bipush 10, 2) := by decide +kernel
theorem dX4_moveVoltage_42 : decode cX4_moveVoltage 42 = .ok (.invokevirtual 36, 3) := by decide +kernel
theorem dX4_moveVoltage_45 : decode cX4_moveVoltage 45 = .ok (.istore_n 3, 1) := by decide +kernel
theorem dX4_moveVoltage_46 : decode cX4_moveVoltage 46 = .ok (.aload_n 0, 1) := by decide +kernel
theorem dX4_moveVoltage_47 : decode cX4_moveVoltage 47 = .ok (.iload_n 1, 1) := by decide +kernel
theorem dX4_moveVoltage_48 : decode cX4_moveVoltage 48 = .ok (.bipush 10, 2) := by decide +kernel
theorem dX4_moveVoltage_50 : decode cX4_moveVoltage 50 = .ok (.iload_n 2, 1) := by decide +kernel
theorem dX4_moveVoltage_51 : decode cX4_moveVoltage 51 = .ok (.ifCond .eq 22, 3) := by decide +kernel
theorem dX4_moveVoltage_54 : decode cX4_moveVoltage 54 = .ok (.iload_n 3, 1) := by decide +kernel
theorem dX4_moveVoltage_55 : decode cX4_moveVoltage 55 = .ok (.aload_n 0, 1) := by decide +kernel
theorem dX4_moveVoltage_56 : decode cX4_moveVoltage 56 = .ok (.iload_n 1, 1) := by decide +kernel
theorem dX4_moveVoltage_57 : decode cX4_moveVoltage 57 = .ok (.iconst 0, 1) := by decide +kernel
theorem dX4_moveVoltage_58 : decode cX4_moveVoltage 58 = .ok (.invokevirtual 36, 3) := by decide +kernel
theorem dX4_moveVoltage_61 : decode cX4_moveVoltage 61 = .ok (.aload_n 0, 1) := by decide +kernel
theorem dX4_moveVoltage_62 : decode cX4_moveVoltage 62 = .ok (.iload_n 1, 1) := by decide +kernel
theorem dX4_moveVoltage_63 : decode cX4_moveVoltage 63 = .ok (.iconst 1, 1) := by decide +kernel
theorem dX4_moveVoltage_64 : decode cX4_moveVoltage 64 = .ok (.invokevirtual 36, 3) := by decide +kernel
theorem dX4_moveVoltage_67 : decode cX4_moveVoltage 67 = .ok (.invokestatic 57, 3) := by decide +kernel
theorem dX4_moveVoltage_70 : decode cX4_moveVoltage 70 = .ok (.goto 14, 3) := by decide +kernel
theorem dX4_moveVoltage_73 : decode cX4_moveVoltage 73 = .ok (.iload_n 3, 1) := by decide +kernel
theorem dX4_moveVoltage_74 : decode cX4_moveVoltage 74 = .ok (.iconst 0, 1) := by decide +kernel
theorem dX4_moveVoltage_75 : decode cX4_moveVoltage 75 = .ok (.aload_n 0, 1) := by decide +kernel
theorem dX4_moveVoltage_76 : decode cX4_moveVoltage 76 = .ok (.iload_n 1, 1) := by decide +kernel
theorem dX4_moveVoltage_77 : decode cX4_moveVoltage 77 = .ok (.iconst 2, 1) := by decide +kernel
theorem dX4_moveVoltage_78 : decode cX4_moveVoltage 78 = .ok (.invokevirtual 36, 3) := by decide +kernel
theorem dX4_moveVoltage_81 : decode cX4_moveVoltage 81 = .ok (.invokestatic 57, 3) := by decide +kernel
theorem dX4_moveVoltage_84 : decode cX4_moveVoltage 84 = .ok (.invokevirtual 40, 3) := by decide +kernel
theorem dX4_moveVoltage_87 : decode cX4_moveVoltage 87 = .ok (.return_, 1) := by decide +kernel
theorem dX4_missing_0 : decode cX4_missing 0 = .ok (.iconst (-1), 1) := by decide +kernel
theorem dX4_missing_1 : decode cX4_missing 1 = .ok (.istore_n 2, 1) := by decide +kernel
theorem dX4_missing_2 : decode cX4_missing 2 = .ok (.iload_n 1, 1) := by decide +kernel
theorem dX4_missing_3 : decode cX4_missing 3 = .ok (.iconst 1, 1) := by decide +kernel
theorem dX4_missing_4 : decode cX4_missing 4 = .ok (.isub, 1) := by decide +kernel
theorem dX4_missing_5 : decode cX4_missing 5 = .ok (.istore_n 3, 1) := by decide +kernel
theorem dX4_missing_6 : decode cX4_missing 6 = .ok (.iload_n 3, 1) := by decide +kernel
theorem dX4_missing_7 : decode cX4_missing 7 = .ok (.ifCond .lt 47, 3) := by decide +kernel
theorem dX4_missing_10 : decode cX4_missing 10 = .ok (.aload_n 0, 1) := by decide +kernel
theorem dX4_missing_11 : decode cX4_missing 11 = .ok (.iload_n 1, 1) := by decide +kernel
theorem dX4_missing_12 : decode cX4_missing 12 = .ok (.bipush 7, 2) := by decide +kernel
theorem dX4_missing_14 : decode cX4_missing 14 = .ok (.invokevirtual 36, 3) := by decide +kernel
theorem dX4_missing_17 : decode cX4_missing 17 = .ok (.iload_n 3, 1) := by decide +kernel
theorem dX4_missing_18 : decode cX4_missing 18 = .ok (.invokestatic 61, 3) := by decide +kernel
theorem dX4_missing_21 : decode cX4_missing 21 = .ok (.ifCond .eq 25, 3) := by decide +kernel
theorem dX4_missing_24 : decode cX4_missing 24 = .ok (.aload_n 0, 1) := by decide +kernel
theorem dX4_missing_25 : decode cX4_missing 25 = .ok (.getfield 19, 3) := by decide +kernel
theorem dX4_missing_28 : decode cX4_missing 28 = .ok (.iload_n 3, 1) := by decide +kernel
theorem dX4_missing_29 : decode cX4_missing 29 = .ok (.iaload, 1) := by decide +kernel
theorem dX4_missing_30 : decode cX4_missing 30 = .ok (.iconst 3, 1) := by decide +kernel
theorem dX4_missing_31 : decode cX4_missing 31 = .ok (.if_icmp .ne 11, 3) := by decide +kernel
theorem dX4_missing_34 : decode cX4_missing 34 = .ok (.aload_n 0, 1) := by decide +kernel
theorem dX4_missing_35 : decode cX4_missing 35 = .ok (.iload_n 3, 1) := by decide +kernel
theorem dX4_missing_36 : decode cX4_missing 36 = .ok (.invokevirtual 65, 3) := by decide +kernel
theorem dX4_missing_39 : decode cX4_missing 39 = .ok (.ifCond .ne 7, 3) := by decide +kernel
theorem dX4_missing_42 : decode cX4_missing 42 = .ok (.iload_n 3, 1) := by decide +kernel
theorem dX4_missing_43 : decode cX4_missing 43 = .ok (.goto 4, 3) := by decide +kernel
theorem dX4_missing_46 : decode cX4_missing 46 = .ok (.iload_n 2, 1) := by decide +kernel
theorem dX4_missing_47 : decode cX4_missing 47 = .ok (.istore_n 2, 1) := by decide +kernel
theorem dX4_missing_48 : decode cX4_missing 48 = .ok (.iinc 3 (-1), 3) := by decide +kernel
theorem dX4_missing_51 : decode cX4_missing 51 = .ok (.goto (-45), 3) := by decide +kernel
theorem dX4_missing_54 : decode cX4_missing 54 = .ok (.iload_n 2, 1) := by decide +kernel
theorem dX4_missing_55 : decode cX4_missing 55 = .ok (.ireturn, 1) := by decide +kernel
theorem dX4_isUsed_0 : decode cX4_isUsed 0 = .ok (.iconst 0, 1) := by decide +kernel
theorem dX4_isUsed_1 : decode cX4_isUsed 1 = .ok (.istore_n 2, 1) := by decide +kernel
theorem dX4_isUsed_2 : decode cX4_isUsed 2 = .ok (.iload_n 1, 1) := by decide +kernel
theorem dX4_isUsed_3 : decode cX4_isUsed 3 = .ok (.iconst 1, 1) := by decide +kernel
theorem dX4_isUsed_4 : decode cX4_isUsed 4 = .ok (.iadd, 1) := by decide +kernel
theorem dX4_isUsed_5 : decode cX4_isUsed 5 = .ok (.istore_n 3, 1) := by decide +kernel
theorem dX4_isUsed_6 : decode cX4_isUsed 6 = .ok (.iload_n 3, 1) := by decide +kernel
theorem dX4_isUsed_7 : decode cX4_isUsed 7 = .ok (.aload_n 0, 1) := by decide +kernel
theorem dX4_isUsed_8 : decode cX4_isUsed 8 = .ok (.getfield 7, 3) := by decide +kernel
theorem dX4_isUsed_11 : decode cX4_isUsed 11 = .ok (.iconst 0, 1) := by decide +kernel
theorem dX4_isUsed_12 : decode cX4_isUsed 12 = .ok (.iaload, 1) := by decide +kernel
theorem dX4_isUsed_13 : decode cX4_isUsed 13 = .ok (.if_icmp .ge 72, 3) := by decide +kernel
theorem dX4_isUsed_16 : decode cX4_isUsed 16 = .ok (.aload_n 0, 1) := by decide +kernel
theorem dX4_isUsed_17 : decode cX4_isUsed 17 = .ok (.iload_n 3, 1) := by decide +kernel
theorem dX4_isUsed_18 : decode cX4_isUsed 18 = .ok (.invokevirtual 69, 3) := by decide +kernel
theorem dX4_isUsed_21 : decode cX4_isUsed 21 = .ok (.ifCond .eq 26, 3) := by decide +kernel
theorem dX4_isUsed_24 : decode cX4_isUsed 24 = .ok (.aload_n 0, 1) := by decide +kernel
theorem dX4_isUsed_25 : decode cX4_isUsed 25 = .ok (.getfield 19, 3) := by decide +kernel
theorem dX4_isUsed_28 : decode cX4_isUsed 28 = .ok (.iload_n 3, 1) := by decide +kernel
theorem dX4_isUsed_29 : decode cX4_isUsed 29 = .ok (.iaload, 1) := by decide +kernel
theorem dX4_isUsed_30 : decode cX4_isUsed 30 = .ok (.ifCond .eq 13, 3) := by decide +kernel
theorem dX4_isUsed_33 : decode cX4_isUsed 33 = .ok (.aload_n 0, 1) := by decide +kernel
theorem dX4_isUsed_34 : decode cX4_isUsed 34 = .ok (.getfield 19, 3) := by decide +kernel
theorem dX4_isUsed_37 : decode cX4_isUsed 37 = .ok (.iload_n 3, 1) := by decide +kernel
theorem dX4_isUsed_38 : decode cX4_isUsed 38 = .ok (.iaload, 1) := by decide +kernel
theorem dX4_isUsed_39 : decode cX4_isUsed 39 = .ok (.iconst 5, 1) := by decide +kernel
theorem dX4_isUsed_40 : decode cX4_isUsed 40 = .ok (.if_icmp .ne 7, 3) := by decide +kernel
theorem dX4_isUsed_43 : decode cX4_isUsed 43 = .ok (.iconst 1, 1) := by decide +kernel
theorem dX4_isUsed_44 : decode cX4_isUsed 44 = .ok (.goto 4, 3) := by decide +kernel
theorem dX4_isUsed_47 : decode cX4_isUsed 47 = .ok (.iconst 0, 1) := by decide +kernel
theorem dX4_isUsed_48 : decode cX4_isUsed 48 = .ok (.istore 4, 2) := by decide +kernel
theorem dX4_isUsed_50 : decode cX4_isUsed 50 = .ok (.iload_n 2, 1) := by decide +kernel
theorem dX4_isUsed_51 : decode cX4_isUsed 51 = .ok (.ifCond .ne 22, 3) := by decide +kernel
theorem dX4_isUsed_54 : decode cX4_isUsed 54 = .ok (.aload_n 0, 1) := by decide +kernel
theorem dX4_isUsed_55 : decode cX4_isUsed 55 = .ok (.iload_n 3, 1) := by decide +kernel
theorem dX4_isUsed_56 : decode cX4_isUsed 56 = .ok (.bipush 7, 2) := by decide +kernel
theorem dX4_isUsed_58 : decode cX4_isUsed 58 = .ok (.invokevirtual 36, 3) := by decide +kernel
theorem dX4_isUsed_61 : decode cX4_isUsed 61 = .ok (.iload_n 1, 1) := by decide +kernel
theorem dX4_isUsed_62 : decode cX4_isUsed 62 = .ok (.invokestatic 61, 3) := by decide +kernel
theorem dX4_isUsed_65 : decode cX4_isUsed 65 = .ok (.ifCond .eq 12, 3) := by decide +kernel
theorem dX4_isUsed_68 : decode cX4_isUsed 68 = .ok (.iload 4, 2) := by decide +kernel
theorem dX4_isUsed_70 : decode cX4_isUsed 70 = .ok (.ifCond .ne 7, 3) := by decide +kernel
theorem dX4_isUsed_73 : decode cX4_isUsed 73 = .ok (.iconst 1, 1) := by decide +kernel
theorem dX4_isUsed_74 : decode cX4_isUsed 74 = .ok (.goto 4, 3) := by decide +kernel
theorem dX4_isUsed_77 : decode cX4_isUsed 77 = .ok (.iconst 0, 1) := by decide +kernel
theorem dX4_isUsed_78 : decode cX4_isUsed 78 = .ok (.istore_n 2, 1) := by decide +kernel
theorem dX4_isUsed_79 : decode cX4_isUsed 79 = .ok (.iinc 3 1, 3) := by decide +kernel
theorem dX4_isUsed_82 : decode cX4_isUsed 82 = .ok (.goto (-76), 3) := by decide +kernel
theorem dX4_isUsed_85 : decode cX4_isUsed 85 = .ok (.iload_n 2, 1) := by decide +kernel
theorem dX4_isUsed_86 : decode cX4_isUsed 86 = .ok (.ireturn, 1) := by decide +kernel
theorem dX4_fail_0 : decode cX4_fail 0 = .ok (.aload_n 0, 1) := by decide +kernel
theorem dX4_fail_1 : decode cX4_fail 1 = .ok (.iload_n 1, 1) := by decide +kernel
theorem dX4_fail_2 : decode cX4_fail 2 = .ok (.bipush 14, 2) := by decide +kernel
theorem dX4_fail_4 : decode cX4_fail 4 = .ok (.invokevirtual 50, 3) := by decide +kernel
theorem dX4_fail_7 : decode cX4_fail 7 = .ok (.aload_n 0, 1) := by decide +kernel
theorem dX4_fail_8 : decode cX4_fail 8 = .ok (.iload_n 1, 1) := by decide +kernel
theorem dX4_fail_9 : decode cX4_fail 9 = .ok (.bipush 18, 2) := by decide +kernel
theorem dX4_fail_11 : decode cX4_fail 11 = .ok (.invokevirtual 50, 3) := by decide +kernel
theorem dX4_fail_14 : decode cX4_fail 14 = .ok (.aload_n 0, 1) := by decide +kernel
theorem dX4_fail_15 : decode cX4_fail 15 = .ok (.iload_n 1, 1) := by decide +kernel
theorem dX4_fail_16 : decode cX4_fail 16 = .ok (.aload_n 0, 1) := by decide +kernel
theorem dX4_fail_17 : decode cX4_fail 17 = .ok (.iload_n 1, 1) := by decide +kernel
theorem dX4_fail_18 : decode cX4_fail 18 = .ok (.bipush 14, 2) := by decide +kernel
theorem dX4_fail_20 : decode cX4_fail 20 = .ok (.invokevirtual 36, 3) := by decide +kernel
theorem dX4_fail_23 : decode cX4_fail 23 = .ok (.aload_n 0, 1) := by decide +kernel
theorem dX4_fail_24 : decode cX4_fail 24 = .ok (.iload_n 1, 1) := by decide +kernel
theorem dX4_fail_25 : decode cX4_fail 25 = .ok (.bipush 6, 2) := by decide +kernel
theorem dX4_fail_27 : decode cX4_fail 27 = .ok (.invokevirtual 36, 3) := by decide +kernel
theorem dX4_fail_30 : decode cX4_fail 30 = .ok (.if_icmp .lt 7, 3) := by decide +kernel
theorem dX4_fail_33 : decode cX4_fail 33 = .ok (.iconst 5, 1) := by decide +kernel
theorem dX4_fail_34 : decode cX4_fail 34 = .ok (.goto 4, 3) := by decide +kernel
theorem dX4_fail_37 : decode cX4_fail 37 = .ok (.iconst 4, 1) := by decide +kernel
theorem dX4_fail_38 : decode cX4_fail 38 = .ok (.iload_n 1, 1) := by decide +kernel
theorem dX4_fail_39 : decode cX4_fail 39 = .ok (.invokevirtual 72, 3) := by decide +kernel
theorem dX4_fail_42 : decode cX4_fail 42 = .ok (.return_, 1) := by decide +kernel
theorem dX4_lookWaiting_0 : decode cX4_lookWaiting 0 = .ok (.aload_n 0, 1) := by decide +kernel
theorem dX4_lookWaiting_1 : decode cX4_lookWaiting 1 = .ok (.iload_n 1, 1) := by decide +kernel
theorem dX4_lookWaiting_2 : decode cX4_lookWaiting 2 = .ok (.bipush 8, 2) := by decide +kernel
theorem dX4_lookWaiting_4 : decode cX4_lookWaiting 4 = .ok (.invokevirtual 36, 3) := by decide +kernel
theorem dX4_lookWaiting_7 : decode cX4_lookWaiting 7 = .ok (.ifCond .ne 12, 3) := by decide +kernel
theorem dX4_lookWaiting_10 : decode cX4_lookWaiting 10 = .ok (.aload_n 0, 1) := by decide +kernel
theorem dX4_lookWaiting_11 : decode cX4_lookWaiting 11 = .ok (.iload_n 1, 1) := by decide +kernel
theorem dX4_lookWaiting_12 : decode cX4_lookWaiting 12 = .ok (.iconst 0, 1) := by decide +kernel
theorem dX4_lookWaiting_13 : decode cX4_lookWaiting 13 = .ok (.invokevirtual 54, 3) := by decide +kernel
theorem dX4_lookWaiting_16 : decode cX4_lookWaiting 16 = .ok (.goto 68, 3) := by decide +kernel
theorem dX4_lookWaiting_19 : decode cX4_lookWaiting 19 = .ok (.aload_n 0, 1) := by decide +kernel
theorem dX4_lookWaiting_20 : decode cX4_lookWaiting 20 = .ok (.iload_n 1, 1) := by decide +kernel
theorem dX4_lookWaiting_21 : decode cX4_lookWaiting 21 = .ok (.invokevirtual 69, 3) := by decide +kernel
theorem dX4_lookWaiting_24 : decode cX4_lookWaiting 24 = .ok (.ifCond .eq 52, 3) := by decide +kernel
theorem dX4_lookWaiting_27 : decode cX4_lookWaiting 27 = .ok (.aload_n 0, 1) := by decide +kernel
theorem dX4_lookWaiting_28 : decode cX4_lookWaiting 28 = .ok (.iload_n 1, 1) := by decide +kernel
theorem dX4_lookWaiting_29 : decode cX4_lookWaiting 29 = .ok (.invokevirtual 75, 3) := by decide +kernel
theorem dX4_lookWaiting_32 : decode cX4_lookWaiting 32 = .ok (.iconst (-1), 1) := by decide +kernel
theorem dX4_lookWaiting_33 : decode cX4_lookWaiting 33 = .ok (.if_icmp .ne 43, 3) := by decide +kernel
theorem dX4_lookWaiting_36 : decode cX4_lookWaiting 36 = .ok (.aload_n 0, 1) := by decide +kernel
theorem dX4_lookWaiting_37 : decode cX4_lookWaiting 37 = .ok (.iload_n 1, 1) := by decide +kernel
theorem dX4_lookWaiting_38 : decode cX4_lookWaiting 38 = .ok (.bipush 13, 2) := by decide +kernel
theorem dX4_lookWaiting_40 : decode cX4_lookWaiting 40 = .ok (.invokevirtual 50, 3) := by decide +kernel
theorem dX4_lookWaiting_43 : decode cX4_lookWaiting 43 = .ok (.aload_n 0, 1) := by decide +kernel
theorem dX4_lookWaiting_44 : decode cX4_lookWaiting 44 = .ok (.iload_n 1, 1) := by decide +kernel
theorem dX4_lookWaiting_45 : decode cX4_lookWaiting 45 = .ok (.bipush 13, 2) := by decide +kernel
theorem dX4_lookWaiting_47 : decode cX4_lookWaiting 47 = .ok (.invokevirtual 36, 3) := by decide +kernel
theorem dX4_lookWaiting_50 : decode cX4_lookWaiting 50 = .ok (.aload_n 0, 1) := by decide +kernel
theorem dX4_lookWaiting_51 : decode cX4_lookWaiting 51 = .ok (.iload_n 1, 1) := by decide +kernel
theorem dX4_lookWaiting_52 : decode cX4_lookWaiting 52 = .ok (.iconst 4, 1) := by decide +kernel
theorem dX4_lookWaiting_53 : decode cX4_lookWaiting 53 = .ok (.invokevirtual 36, 3) := by decide +kernel
theorem dX4_lookWaiting_56 : decode cX4_lookWaiting 56 = .ok (.if_icmp .le 28, 3) := by decide +kernel
theorem dX4_lookWaiting_59 : decode cX4_lookWaiting 59 = .ok (.aload_n 0, 1) := by decide +kernel
theorem dX4_lookWaiting_60 : decode cX4_lookWaiting 60 = .ok (.iload_n 1, 1) := by decide +kernel
theorem dX4_lookWaiting_61 : decode cX4_lookWaiting 61 = .ok (.bipush 13, 2) := by decide +kernel
theorem dX4_lookWaiting_63 : decode cX4_lookWaiting 63 = .ok (.iconst 0, 1) := by decide +kernel
theorem dX4_lookWaiting_64 : decode cX4_lookWaiting 64 = .ok (.invokevirtual 40, 3) := by decide +kernel
theorem dX4_lookWaiting_67 : decode cX4_lookWaiting 67 = .ok (.aload_n 0, 1) := by decide +kernel
theorem dX4_lookWaiting_68 : decode cX4_lookWaiting 68 = .ok (.iload_n 1, 1) := by decide +kernel
theorem dX4_lookWaiting_69 : decode cX4_lookWaiting 69 = .ok (.iconst 2, 1) := by decide +kernel
theorem dX4_lookWaiting_70 : decode cX4_lookWaiting 70 = .ok (.invokevirtual 54, 3) := by decide +kernel
theorem dX4_lookWaiting_73 : decode cX4_lookWaiting 73 = .ok (.goto 11, 3) := by decide +kernel
theorem dX4_lookWaiting_76 : decode cX4_lookWaiting 76 = .ok (.aload_n 0, 1) := by decide +kernel
theorem dX4_lookWaiting_77 : decode cX4_lookWaiting 77 = .ok (.iload_n 1, 1) := by decide +kernel
theorem dX4_lookWaiting_78 : decode cX4_lookWaiting 78 = .ok (.bipush 13, 2) := by decide +kernel
theorem dX4_lookWaiting_80 : decode cX4_lookWaiting 80 = .ok (.iconst 0, 1) := by decide +kernel
theorem dX4_lookWaiting_81 : decode cX4_lookWaiting 81 = .ok (.invokevirtual 40, 3) := by decide +kernel
theorem dX4_lookWaiting_84 : decode cX4_lookWaiting 84 = .ok (.return_, 1) := by decide +kernel
theorem dX4_lookRising_0 : decode cX4_lookRising 0 = .ok (.aload_n 0, 1) := by decide +kernel
theorem dX4_lookRising_1 : decode cX4_lookRising 1 = .ok (.iload_n 1, 1) := by decide +kernel
theorem dX4_lookRising_2 : decode cX4_lookRising 2 = .ok (.invokevirtual 75, 3) := by decide +kernel
theorem dX4_lookRising_5 : decode cX4_lookRising 5 = .ok (.istore_n 2, 1) := by decide +kernel
