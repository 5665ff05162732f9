theorem dX3_set_27 : decode cX3_set 27 = .ok (.athrow, 1) := by decide +kernel
theorem dX3_set_28 : decode cX3_set 28 = .ok (.iload_n 2, 1) := by decide +kernel
theorem dX3_set_29 : decode cX3_set 29 = .ok (.iload_n 3, 1) := by decide +kernel
theorem dX3_set_30 : decode cX3_set 30 = .ok (.invokestatic 34, 3) := by decide +kernel
theorem dX3_set_33 : decode cX3_set 33 = .ok (.ifCond .ne 13, 3) := by decide +kernel
theorem dX3_set_36 : decode cX3_set 36 = .ok (.new 38, 3) := by decide +kernel
theorem dX3_set_39 : decode cX3_set 39 = .ok (.dup, 1) := by decide +kernel
theorem dX3_set_40 : decode cX3_set 40 = .ok (.ldc 75, 2) := by decide +kernel
theorem dX3_set_42 : decode cX3_set 42 = .ok (.invokespecial 42, 3) := by decide +kernel
theorem dX3_set_45 : decode cX3_set 45 = .ok (.athrow, 1) := by decide +kernel
theorem dX3_set_46 : decode cX3_set 46 = .ok (.aload_n 0, 1) := by decide +kernel
theorem dX3_set_47 : decode cX3_set 47 = .ok (.invokevirtual 60, 3) := by decide +kernel
theorem dX3_set_50 : decode cX3_set 50 = .ok (.aload_n 0, 1) := by decide +kernel
theorem dX3_set_51 : decode cX3_set 51 = .ok (.getfield 10, 3) := by decide +kernel
theorem dX3_set_54 : decode cX3_set 54 = .ok (.iload_n 1, 1) := by decide +kernel
theorem dX3_set_55 : decode cX3_set 55 = .ok (.iload_n 2, 1) := by decide +kernel
theorem dX3_set_56 : decode cX3_set 56 = .ok (.invokevirtual 77, 3) := by decide +kernel
theorem dX3_set_59 : decode cX3_set 59 = .ok (.istore 4, 2) := by decide +kernel
theorem dX3_set_61 : decode cX3_set 61 = .ok (.aload_n 0, 1) := by decide +kernel
theorem dX3_set_62 : decode cX3_set 62 = .ok (.getfield 10, 3) := by decide +kernel
theorem dX3_set_65 : decode cX3_set 65 = .ok (.getfield 81, 3) := by decide +kernel
theorem dX3_set_68 : decode cX3_set 68 = .ok (.iload_n 1, 1) := by decide +kernel
theorem dX3_set_69 : decode cX3_set 69 = .ok (.bipush 7, 2) := by decide +kernel
theorem dX3_set_71 : decode cX3_set 71 = .ok (.imul, 1) := by decide +kernel
theorem dX3_set_72 : decode cX3_set 72 = .ok (.iload_n 2, 1) := by decide +kernel
theorem dX3_set_73 : decode cX3_set 73 = .ok (.iadd, 1) := by decide +kernel
theorem dX3_set_74 : decode cX3_set 74 = .ok (.iload_n 3, 1) := by decide +kernel
theorem dX3_set_75 : decode cX3_set 75 = .ok (.iastore, 1) := by decide +kernel
theorem dX3_set_76 : decode cX3_set 76 = .ok (.iload 4, 2) := by decide +kernel
theorem dX3_set_78 : decode cX3_set 78 = .ok (.ireturn, 1) := by decide +kernel
theorem dX3_setNeeds_0 : decode cX3_setNeeds 0 = .ok (.aload_n 0, 1) := by decide +kernel
theorem dX3_setNeeds_1 : decode cX3_setNeeds 1 = .ok (.iload_n 1, 1) := by decide +kernel
theorem dX3_setNeeds_2 : decode cX3_setNeeds 2 = .ok (.invokevirtual 67, 3) := by decide +kernel
theorem dX3_setNeeds_5 : decode cX3_setNeeds 5 = .ok (.ifCond .ne 13, 3) := by decide +kernel
theorem dX3_setNeeds_8 : decode cX3_setNeeds 8 = .ok (.new 70, 3) := by decide +kernel
theorem dX3_setNeeds_11 : decode cX3_setNeeds 11 = .ok (.dup, 1) := by decide +kernel
theorem dX3_setNeeds_12 : decode cX3_setNeeds 12 = .ok (.ldc 84, 2) := by decide +kernel
theorem dX3_setNeeds_14 : decode cX3_setNeeds 14 = .ok (.invokespecial 74, 3) := by decide +kernel
theorem dX3_setNeeds_17 : decode cX3_setNeeds 17 = .ok (.athrow, 1) := by decide +kernel
theorem dX3_setNeeds_18 : decode cX3_setNeeds 18 = .ok (.iload_n 1, 1) := by decide +kernel
theorem dX3_setNeeds_19 : decode cX3_setNeeds 19 = .ok (.iload_n 2, 1) := by decide +kernel
theorem dX3_setNeeds_20 : decode cX3_setNeeds 20 = .ok (.invokestatic 86, 3) := by decide +kernel
theorem dX3_setNeeds_23 : decode cX3_setNeeds 23 = .ok (.ifCond .ne 13, 3) := by decide +kernel
theorem dX3_setNeeds_26 : decode cX3_setNeeds 26 = .ok (.new 38, 3) := by decide +kernel
theorem dX3_setNeeds_29 : decode cX3_setNeeds 29 = .ok (.dup, 1) := by decide +kernel
theorem dX3_setNeeds_30 : decode cX3_setNeeds 30 = .ok (.ldc 89, 2) := by decide +kernel
theorem dX3_setNeeds_32 : decode cX3_setNeeds 32 = .ok (.invokespecial 42, 3) := by decide +kernel
theorem dX3_setNeeds_35 : decode cX3_setNeeds 35 = .ok (.athrow, 1) := by decide +kernel
theorem dX3_setNeeds_36 : decode cX3_setNeeds 36 = .ok (.aload_n 0, 1) := by decide +kernel
theorem dX3_setNeeds_37 : decode cX3_setNeeds 37 = .ok (.getfield 10, 3) := by decide +kernel
theorem dX3_setNeeds_40 : decode cX3_setNeeds 40 = .ok (.getfield 91, 3) := by decide +kernel
theorem dX3_setNeeds_43 : decode cX3_setNeeds 43 = .ok (.iload_n 1, 1) := by decide +kernel
theorem dX3_setNeeds_44 : decode cX3_setNeeds 44 = .ok (.iaload, 1) := by decide +kernel
theorem dX3_setNeeds_45 : decode cX3_setNeeds 45 = .ok (.ifCond .eq 26, 3) := by decide +kernel
theorem dX3_setNeeds_48 : decode cX3_setNeeds 48 = .ok (.aload_n 0, 1) := by decide +kernel
theorem dX3_setNeeds_49 : decode cX3_setNeeds 49 = .ok (.getfield 10, 3) := by decide +kernel
theorem dX3_setNeeds_52 : decode cX3_setNeeds 52 = .ok (.getfield 91, 3) := by decide +kernel
theorem dX3_setNeeds_55 : decode cX3_setNeeds 55 = .ok (.iload_n 1, 1) := by decide +kernel
theorem dX3_setNeeds_56 : decode cX3_setNeeds 56 = .ok (.iaload, 1) := by decide +kernel
theorem dX3_setNeeds_57 : decode cX3_setNeeds 57 = .ok (.iconst 5, 1) := by decide +kernel
theorem dX3_setNeeds_58 : decode cX3_setNeeds 58 = .ok (.if_icmp .eq 13, 3) := by decide +kernel
theorem dX3_setNeeds_61 : decode cX3_setNeeds 61 = .ok (.new 55, 3) := by decide +kernel
theorem dX3_setNeeds_64 : decode cX3_setNeeds 64 = .ok (.dup, 1) := by decide +kernel
theorem dX3_setNeeds_65 : decode cX3_setNeeds 65 = .ok (.ldc 94, 2) := by decide +kernel
theorem dX3_setNeeds_67 : decode cX3_setNeeds 67 = .ok (.invokespecial 59, 3) := by decide +kernel
theorem dX3_setNeeds_70 : decode cX3_setNeeds 70 = .ok (.athrow, 1) := by decide +kernel
theorem dX3_setNeeds_71 : decode cX3_setNeeds 71 = .ok (.aload_n 0, 1) := by decide +kernel
theorem dX3_setNeeds_72 : decode cX3_setNeeds 72 = .ok (.invokevirtual 60, 3) := by decide +kernel
theorem dX3_setNeeds_75 : decode cX3_setNeeds 75 = .ok (.aload_n 0, 1) := by decide +kernel
theorem dX3_setNeeds_76 : decode cX3_setNeeds 76 = .ok (.getfield 10, 3) := by decide +kernel
theorem dX3_setNeeds_79 : decode cX3_setNeeds 79 = .ok (.getfield 96, 3) := by decide +kernel
theorem dX3_setNeeds_82 : decode cX3_setNeeds 82 = .ok (.iload_n 1, 1) := by decide +kernel
theorem dX3_setNeeds_83 : decode cX3_setNeeds 83 = .ok (.iaload, 1) := by decide +kernel
theorem dX3_setNeeds_84 : decode cX3_setNeeds 84 = .ok (.istore_n 3, 1) := by decide +kernel
theorem dX3_setNeeds_85 : decode cX3_setNeeds 85 = .ok (.aload_n 0, 1) := by decide +kernel
theorem dX3_setNeeds_86 : decode cX3_setNeeds 86 = .ok (.getfield 10, 3) := by decide +kernel
theorem dX3_setNeeds_89 : decode cX3_setNeeds 89 = .ok (.getfield 96, 3) := by decide +kernel
theorem dX3_setNeeds_92 : decode cX3_setNeeds 92 = .ok (.iload_n 1, 1) := by decide +kernel
theorem dX3_setNeeds_93 : decode cX3_setNeeds 93 = .ok (.iload_n 2, 1) := by decide +kernel
theorem dX3_setNeeds_94 : decode cX3_setNeeds 94 = .ok (.iastore, 1) := by decide +kernel
theorem dX3_setNeeds_95 : decode cX3_setNeeds 95 = .ok (.iload_n 3, 1) := by decide +kernel
theorem dX3_setNeeds_96 : decode cX3_setNeeds 96 = .ok (.ireturn, 1) := by decide +kernel
theorem dX3_setResidue_0 : decode cX3_setResidue 0 = .ok (.iload_n 1, 1) := by decide +kernel
theorem dX3_setResidue_1 : decode cX3_setResidue 1 = .ok (.ifCond .lt 10, 3) := by decide +kernel
theorem dX3_setResidue_4 : decode cX3_setResidue 4 = .ok (.iload_n 1, 1) := by decide +kernel
theorem dX3_setResidue_5 : decode cX3_setResidue 5 = .ok (.sipush 500, 3) := by decide +kernel
theorem dX3_setResidue_8 : decode cX3_setResidue 8 = .ok (.if_icmp .le 13, 3) := by decide +kernel
theorem dX3_setResidue_11 : decode cX3_setResidue 11 = .ok (.new 38, 3) := by decide +kernel
theorem dX3_setResidue_14 : decode cX3_setResidue 14 = .ok (.dup, 1) := by decide +kernel
theorem dX3_setResidue_15 : decode cX3_setResidue 15 = .ok (.ldc 99, 2) := by decide +kernel
theorem dX3_setResidue_17 : decode cX3_setResidue 17 = .ok (.invokespecial 42, 3) := by decide +kernel
theorem dX3_setResidue_20 : decode cX3_setResidue 20 = .ok (.athrow, 1) := by decide +kernel
theorem dX3_setResidue_21 : decode cX3_setResidue 21 = .ok (.aload_n 0, 1) := by decide +kernel
theorem dX3_setResidue_22 : decode cX3_setResidue 22 = .ok (.invokevirtual 60, 3) := by decide +kernel
theorem dX3_setResidue_25 : decode cX3_setResidue 25 = .ok (.aload_n 0, 1) := by decide +kernel
theorem dX3_setResidue_26 : decode cX3_setResidue 26 = .ok (.getfield 10, 3) := by decide +kernel
theorem dX3_setResidue_29 : decode cX3_setResidue 29 = .ok (.getfield 101, 3) := by decide +kernel
theorem dX3_setResidue_32 : decode cX3_setResidue 32 = .ok (.istore_n 2, 1) := by decide +kernel
theorem dX3_setResidue_33 : decode cX3_setResidue 33 = .ok (.aload_n 0, 1) := by decide +kernel
theorem dX3_setResidue_34 : decode cX3_setResidue 34 = .ok (.getfield 10, 3) := by decide +kernel
theorem dX3_setResidue_37 : decode cX3_setResidue 37 = .ok (.iload_n 1, 1) := by decide +kernel
theorem dX3_setResidue_38 : decode cX3_setResidue 38 = .ok (.putfield 101, 3) := by decide +kernel
theorem dX3_setResidue_41 : decode cX3_setResidue 41 = .ok (.iload_n 2, 1) := by decide +kernel
theorem dX3_setResidue_42 : decode cX3_setResidue 42 = .ok (.ireturn, 1) := by decide +kernel
theorem dX3_on_0 : decode cX3_on 0 = .ok (.aload_n 0, 1) := by decide +kernel
theorem dX3_on_1 : decode cX3_on 1 = .ok (.iload_n 1, 1) := by decide +kernel
theorem dX3_on_2 : decode cX3_on 2 = .ok (.invokevirtual 45, 3) := by decide +kernel
theorem dX3_on_5 : decode cX3_on 5 = .ok (.ifCond .ne 13, 3) := by decide +kernel
theorem dX3_on_8 : decode cX3_on 8 = .ok (.new 38, 3) := by decide +kernel
theorem dX3_on_11 : decode cX3_on 11 = .ok (.dup, 1) := by decide +kernel
theorem dX3_on_12 : decode cX3_on 12 = .ok (.ldc 104, 2) := by decide +kernel
theorem dX3_on_14 : decode cX3_on 14 = .ok (.invokespecial 42, 3) := by decide +kernel
theorem dX3_on_17 : decode cX3_on 17 = .ok (.athrow, 1) := by decide +kernel
theorem dX3_on_18 : decode cX3_on 18 = .ok (.aload_n 0, 1) := by decide +kernel
theorem dX3_on_19 : decode cX3_on 19 = .ok (.invokevirtual 60, 3) := by decide +kernel
theorem dX3_on_22 : decode cX3_on 22 = .ok (.aload_n 0, 1) := by decide +kernel
theorem dX3_on_23 : decode cX3_on 23 = .ok (.getfield 10, 3) := by decide +kernel
theorem dX3_on_26 : decode cX3_on 26 = .ok (.dup, 1) := by decide +kernel
theorem dX3_on_27 : decode cX3_on 27 = .ok (.getfield 106, 3) := by decide +kernel
theorem dX3_on_30 : decode cX3_on 30 = .ok (.aload_n 0, 1) := by decide +kernel
theorem dX3_on_31 : decode cX3_on 31 = .ok (.getfield 10, 3) := by decide +kernel
theorem dX3_on_34 : decode cX3_on 34 = .ok (.iload_n 1, 1) := by decide +kernel
theorem dX3_on_35 : decode cX3_on 35 = .ok (.invokevirtual 109, 3) := by decide +kernel
theorem dX3_on_38 : decode cX3_on 38 = .ok (.ior, 1) := by decide +kernel
theorem dX3_on_39 : decode cX3_on 39 = .ok (.putfield 106, 3) := by decide +kernel
theorem dX3_on_42 : decode cX3_on 42 = .ok (.aload_n 0, 1) := by decide +kernel
theorem dX3_on_43 : decode cX3_on 43 = .ok (.getfield 10, 3) := by decide +kernel
theorem dX3_on_46 : decode cX3_on 46 = .ok (.getfield 106, 3) := by decide +kernel
theorem dX3_on_49 : decode cX3_on 49 = .ok (.ireturn, 1) := by decide +kernel
theorem dX3_off_0 : decode cX3_off 0 = .ok (.aload_n 0, 1) := by decide +kernel
theorem dX3_off_1 : decode cX3_off 1 = .ok (.iload_n 1, 1) := by decide +kernel
theorem dX3_off_2 : decode cX3_off 2 = .ok (.invokevirtual 45, 3) := by decide +kernel
theorem dX3_off_5 : decode cX3_off 5 = .ok (.ifCond .ne 13, 3) := by decide +kernel
theorem dX3_off_8 : decode cX3_off 8 = .ok (.new 38, 3) := by decide +kernel
theorem dX3_off_11 : decode cX3_off 11 = .ok (.dup, 1) := by decide +kernel
theorem dX3_off_12 : decode cX3_off 12 = .ok (.ldc 104, 2) := by decide +kernel
theorem dX3_off_14 : decode cX3_off 14 = .ok (.invokespecial 42, 3) := by decide +kernel
theorem dX3_off_17 : decode cX3_off 17 = .ok (.athrow, 1) := by decide +kernel
theorem dX3_off_18 : decode cX3_off 18 = .ok (.aload_n 0, 1) := by decide +kernel
theorem dX3_off_19 : decode cX3_off 19 = .ok (.invokevirtual 60, 3) := by decide +kernel
theorem dX3_off_22 : decode cX3_off 22 = .ok (.aload_n 0, 1) := by decide +kernel
theorem dX3_off_23 : decode cX3_off 23 = .ok (.getfield 10, 3) := by decide +kernel
theorem dX3_off_26 : decode cX3_off 26 = .ok (.dup, 1) := by decide +kernel
theorem dX3_off_27 : decode cX3_off 27 = .ok (.getfield 106, 3) := by decide +kernel
theorem dX3_off_30 : decode cX3_off 30 = .ok (.aload_n 0, 1) := by decide +kernel
theorem dX3_off_31 : decode cX3_off 31 = .ok (.getfield 10, 3) := by decide +kernel
theorem dX3_off_34 : decode cX3_off 34 = .ok (.iload_n 1, 1) := by decide +kernel
theorem dX3_off_35 : decode cX3_off 35 = .ok (.invokevirtual 113, 3) := by decide +kernel
theorem dX3_off_38 : decode cX3_off 38 = .ok (.iconst (-1), 1) := by decide +kernel
theorem dX3_off_39 : decode cX3_off 39 = .ok (.ixor, 1) := by decide +kernel
theorem dX3_off_40 : decode cX3_off 40 = .ok (.iand, 1) := by decide +kernel
theorem dX3_off_41 : decode cX3_off 41 = .ok (.putfield 106, 3) := by decide +kernel
theorem dX3_off_44 : decode cX3_off 44 = .ok (.aload_n 0, 1) := by decide +kernel
theorem dX3_off_45 : decode cX3_off 45 = .ok (.getfield 10, 3) := by decide +kernel
theorem dX3_off_48 : decode cX3_off 48 = .ok (.getfield 106, 3) := by decide +kernel
theorem dX3_off_51 : decode cX3_off 51 = .ok (.ireturn, 1) := by decide +kernel
theorem dX3_restart_0 : decode cX3_restart 0 = .ok (.aload_n 0, 1) := by decide +kernel
theorem dX3_restart_1 : decode cX3_restart 1 = .ok (.iload_n 1, 1) := by decide +kernel
theorem dX3_restart_2 : decode cX3_restart 2 = .ok (.invokevirtual 67, 3) := by decide +kernel
theorem dX3_restart_5 : decode cX3_restart 5 = .ok (.ifCond .ne 13, 3) := by decide +kernel
theorem dX3_restart_8 : decode cX3_restart 8 = .ok (.new 70, 3) := by decide +kernel
theorem dX3_restart_11 : decode cX3_restart 11 = .ok (.dup, 1) := by decide +kernel
theorem dX3_restart_12 : decode cX3_restart 12 = .ok (.ldc 84, 2) := by decide +kernel
theorem dX3_restart_14 : decode cX3_restart 14 = .ok (.invokespecial 74, 3) := by decide +kernel
theorem dX3_restart_17 : decode cX3_restart 17 = .ok (.athrow, 1) := by decide +kernel
theorem dX3_restart_18 : decode cX3_restart 18 = .ok (.aload_n 0, 1) := by decide +kernel
theorem dX3_restart_19 : decode cX3_restart 19 = .ok (.getfield 10, 3) := by decide +kernel
theorem dX3_restart_22 : decode cX3_restart 22 = .ok (.iload_n 1, 1) := by decide +kernel
theorem dX3_restart_23 : decode cX3_restart 23 = .ok (.invokevirtual 116, 3) := by decide +kernel
theorem dX3_restart_26 : decode cX3_restart 26 = .ok (.ifCond .ne 13, 3) := by decide +kernel
theorem dX3_restart_29 : decode cX3_restart 29 = .ok (.new 55, 3) := by decide +kernel
theorem dX3_restart_32 : decode cX3_restart 32 = .ok (.dup, 1) := by decide +kernel
theorem dX3_restart_33 : decode cX3_restart 33 = .ok (.ldc 119, 2) := by decide +kernel
theorem dX3_restart_35 : decode cX3_restart 35 = .ok (.invokespecial 59, 3) := by decide +kernel
theorem dX3_restart_38 : decode cX3_restart 38 = .ok (.athrow, 1) := by decide +kernel
theorem dX3_restart_39 : decode cX3_restart 39 = .ok (.aload_n 0, 1) := by decide +kernel
theorem dX3_restart_40 : decode cX3_restart 40 = .ok (.invokevirtual 60, 3) := by decide +kernel
theorem dX3_restart_43 : decode cX3_restart 43 = .ok (.aload_n 0, 1) := by decide +kernel
theorem dX3_restart_44 : decode cX3_restart 44 = .ok (.getfield 10, 3) := by decide +kernel
theorem dX3_restart_47 : decode cX3_restart 47 = .ok (.iload_n 1, 1) := by decide +kernel
theorem dX3_restart_48 : decode cX3_restart 48 = .ok (.invokevirtual 121, 3) := by decide +kernel
theorem dX3_restart_51 : decode cX3_restart 51 = .ok (.ireturn, 1) := by decide +kernel
theorem dX3_shortCircuit_0 : decode cX3_shortCircuit 0 = .ok (.aload_n 0, 1) := by decide +kernel
theorem dX3_shortCircuit_1 : decode cX3_shortCircuit 1 = .ok (.iload_n 1, 1) := by decide +kernel
theorem dX3_shortCircuit_2 : decode cX3_shortCircuit 2 = .ok (.invokevirtual 67, 3) := by decide +kernel
theorem dX3_shortCircuit_5 : decode cX3_shortCircuit 5 = .ok (.ifCond .ne 13, 3) := by decide +kernel
theorem dX3_shortCircuit_8 : decode cX3_shortCircuit 8 = .ok (.new 70, 3) := by decide +kernel
theorem dX3_shortCircuit_11 : decode cX3_shortCircuit 11 = .ok (.dup, 1) := by decide +kernel
theorem dX3_shortCircuit_12 : decode cX3_shortCircuit 12 = .ok (.ldc 84, 2) := by decide +kernel
theorem dX3_shortCircuit_14 : decode cX3_shortCircuit 14 = .ok (.invokespecial 74, 3) := by decide +kernel
theorem dX3_shortCircuit_17 : decode cX3_shortCircuit 17 = .ok (.athrow, 1) := by decide +kernel
theorem dX3_shortCircuit_18 : decode cX3_shortCircuit 18 = .ok (.iload_n 2, 1) := by decide +kernel
theorem dX3_shortCircuit_19 : decode cX3_shortCircuit 19 = .ok (.ifCond .lt 10, 3) := by decide +kernel
theorem dX3_shortCircuit_22 : decode cX3_shortCircuit 22 = .ok (.iload_n 2, 1) := by decide +kernel
theorem dX3_shortCircuit_23 : decode cX3_shortCircuit 23 = .ok (.sipush 500, 3) := by decide +kernel
theorem dX3_shortCircuit_26 : decode cX3_shortCircuit 26 = .ok (.if_icmp .le 13, 3) := by decide +kernel
theorem dX3_shortCircuit_29 : decode cX3_shortCircuit 29 = .ok (.new 38, 3) := by decide +kernel
theorem dX3_shortCircuit_32 : decode cX3_shortCircuit 32 = .ok (.dup, 1) := by decide +kernel
theorem dX3_shortCircuit_33 : decode cX3_shortCircuit 33 = .ok (.ldc 124, 2) := by decide +kernel
theorem dX3_shortCircuit_35 : decode cX3_shortCircuit 35 = .ok (.invokespecial 42, 3) := by decide +kernel
theorem dX3_shortCircuit_38 : decode cX3_shortCircuit 38 = .ok (.athrow, 1) := by decide +kernel
theorem dX3_shortCircuit_39 : decode cX3_shortCircuit 39 = .ok (.aload_n 0, 1) := by decide +kernel
theorem dX3_shortCircuit_40 : decode cX3_shortCircuit 40 = .ok (.invokevirtual 60, 3) := by decide +kernel
theorem dX3_shortCircuit_43 : decode cX3_shortCircuit 43 = .ok (.aload_n 0, 1) := by decide +kernel
theorem dX3_shortCircuit_44 : decode cX3_shortCircuit 44 = .ok (.getfield 10, 3) := by decide +kernel
theorem dX3_shortCircuit_47 : decode cX3_shortCircuit 47 = .ok (.getfield 126, 3) := by decide +kernel
theorem dX3_shortCircuit_50 : decode cX3_shortCircuit 50 = .ok (.iload_n 1, 1) := by decide +kernel
theorem dX3_shortCircuit_51 : decode cX3_shortCircuit 51 = .ok (.iaload, 1) := by decide +kernel
theorem dX3_shortCircuit_52 : decode cX3_shortCircuit 52 = .ok (.istore_n 3, 1) := by decide +kernel
theorem dX3_shortCircuit_53 : decode cX3_shortCircuit 53 = .ok (.aload_n 0, 1) := by decide +kernel
theorem dX3_shortCircuit_54 : decode cX3_shortCircuit 54 = .ok (.getfield 10, 3) := by decide +kernel
theorem dX3_shortCircuit_57 : decode cX3_shortCircuit 57 = .ok (.getfield 126, 3) := by decide +kernel
theorem dX3_shortCircuit_60 : decode cX3_shortCircuit 60 = .ok (.iload_n 1, 1) := by decide +kernel
theorem dX3_shortCircuit_61 : decode cX3_shortCircuit 61 = .ok (.iload_n 2, 1) := by decide +kernel
theorem dX3_shortCircuit_62 : decode cX3_shortCircuit 62 = .ok (.iastore, 1) := by decide +kernel
theorem dX3_shortCircuit_63 : decode cX3_shortCircuit 63 = .ok (.iload_n 3, 1) := by decide +kernel
theorem dX3_shortCircuit_64 : decode cX3_shortCircuit 64 = .ok (.ireturn, 1) := by decide +kernel
theorem dX3_stick_0 : decode cX3_stick 0 = .ok (.aload_n 0, 1) := by decide +kernel
theorem dX3_stick_1 : decode cX3_stick 1 = .ok (.iload_n 1, 1) := by decide +kernel
theorem dX3_stick_2 : decode cX3_stick 2 = .ok (.invokevirtual 67, 3) := by decide +kernel
theorem dX3_stick_5 : decode cX3_stick 5 = .ok (.ifCond .ne 13, 3) := by decide +kernel
theorem dX3_stick_8 : decode cX3_stick 8 = .ok (.new 70, 3) := by decide +kernel
theorem dX3_stick_11 : decode cX3_stick 11 = .ok (.dup, 1) := by decide +kernel
theorem dX3_stick_12 : decode cX3_stick 12 = .ok (.ldc 84, 2) := by decide +kernel
theorem dX3_stick_14 : decode cX3_stick 14 = .ok (.invokespecial 74, 3) := by decide +kernel
theorem dX3_stick_17 : decode cX3_stick 17 = .ok (.athrow, 1) := by decide +kernel
theorem dX3_stick_18 : decode cX3_stick 18 = .ok (.iload_n 2, 1) := by decide +kernel
theorem dX3_stick_19 : decode cX3_stick 19 = .ok (.ifCond .lt 8, 3) := by decide +kernel
theorem dX3_stick_22 : decode cX3_stick 22 = .ok (.iload_n 2, 1) := by decide +kernel
theorem dX3_stick_23 : decode cX3_stick 23 = .ok (.iconst 2, 1) := by decide +kernel
theorem dX3_stick_24 : decode cX3_stick 24 = .ok (.if_icmp .le 13, 3) := by decide +kernel
theorem dX3_stick_27 : decode cX3_stick 27 = .ok (.new 38, 3) := by decide +kernel
theorem dX3_stick_30 : decode cX3_stick 30 = .ok (.dup, 1) := by decide +kernel
theorem dX3_stick_31 : decode cX3_stick 31 = .ok (.ldc 129, 2) := by decide +kernel
theorem dX3_stick_33 : decode cX3_stick 33 = .ok (.invokespecial 42, 3) := by decide +kernel
theorem dX3_stick_36 : decode cX3_stick 36 = .ok (.athrow, 1) := by decide +kernel
theorem dX3_stick_37 : decode cX3_stick 37 = .ok (.aload_n 0, 1) := by decide +kernel
theorem dX3_stick_38 : decode cX3_stick 38 = .ok (.invokevirtual 60, 3) := by decide +kernel
theorem dX3_stick_41 : decode cX3_stick 41 = .ok (.aload_n 0, 1) := by decide +kernel
theorem dX3_stick_42 : decode cX3_stick 42 = .ok (.getfield 10, 3) := by decide +kernel
theorem dX3_stick_45 : decode cX3_stick 45 = .ok (.getfield 131, 3) := by decide +kernel
theorem dX3_stick_48 : decode cX3_stick 48 = .ok (.iload_n 1, 1) := by decide +kernel
theorem dX3_stick_49 : decode cX3_stick 49 = .ok (.iaload, 1) := by decide +kernel
theorem dX3_stick_50 : decode cX3_stick 50 = .ok (.istore_n 3, 1) := by decide +kernel
theorem dX3_stick_51 : decode cX3_stick 51 = .ok (.aload_n 0, 1) := by decide +kernel
theorem dX3_stick_52 : decode cX3_stick 52 = .ok (.getfield 10, 3) := by decide +kernel
theorem dX3_stick_55 : decode cX3_stick 55 = .ok (.getfield 131, 3) := by decide +kernel
theorem dX3_stick_58 : decode cX3_stick 58 = .ok (.iload_n 1, 1) := by decide +kernel
theorem dX3_stick_59 : decode cX3_stick 59 = .ok (.iload_n 2, 1) := by decide +kernel
theorem dX3_stick_60 : decode cX3_stick 60 = .ok (.iastore, 1) := by decide +kernel
theorem dX3_stick_61 : decode cX3_stick 61 = .ok (.iload_n 3, 1) := by decide +kernel
theorem dX3_stick_62 : decode cX3_stick 62 = .ok (.ireturn, 1) := by decide +kernel
theorem dX3_tick_0 : decode cX3_tick 0 = .ok (.iload_n 1, 1) := by decide +kernel
theorem dX3_tick_1 : decode cX3_tick 1 = .ok (.iconst 1, 1) := by decide +kernel
theorem dX3_tick_2 : decode cX3_tick 2 = .ok (.if_icmp .lt 10, 3) := by decide +kernel
theorem dX3_tick_5 : decode cX3_tick 5 = .ok (.iload_n 1, 1) := by decide +kernel
theorem dX3_tick_6 : decode cX3_tick 6 = .ok (.sipush 200, 3) := by decide +kernel
theorem dX3_tick_9 : decode cX3_tick 9 = .ok (.if_icmp .le 13, 3) := by decide +kernel
theorem dX3_tick_12 : decode cX3_tick 12 = .ok (.new 38, 3) := by decide +kernel
theorem dX3_tick_15 : decode cX3_tick 15 = .ok (.dup, 1) := by decide +kernel
theorem dX3_tick_16 : decode cX3_tick 16 = .ok (.ldc 124, 2) := by decide +kernel
theorem dX3_tick_18 : decode cX3_tick 18 = .ok (.invokespecial 42, 3) := by decide +kernel
theorem dX3_tick_21 : decode cX3_tick 21 = .ok (.athrow, 1) := by decide +kernel
theorem dX3_tick_22 : decode cX3_tick 22 = .ok (.aload_n 0, 1) := by decide +kernel
theorem dX3_tick_23 : decode cX3_tick 23 = .ok (.getfield 10, 3) := by decide +kernel
theorem dX3_tick_26 : decode cX3_tick 26 = .ok (.getfield 134, 3) := by decide +kernel
theorem dX3_tick_29 : decode cX3_tick 29 = .ok (.iload_n 1, 1) := by decide +kernel
theorem dX3_tick_30 : decode cX3_tick 30 = .ok (.iadd, 1) := by decide +kernel
theorem dX3_tick_31 : decode cX3_tick 31 = .ok (.sipush 20000, 3) := by decide +kernel
theorem dX3_tick_34 : decode cX3_tick 34 = .ok (.if_icmp .le 13, 3) := by decide +kernel
theorem dX3_tick_37 : decode cX3_tick 37 = .ok (.new 55, 3) := by decide +kernel
theorem dX3_tick_40 : decode cX3_tick 40 = .ok (.dup, 1) := by decide +kernel
theorem dX3_tick_41 : decode cX3_tick 41 = .ok (.ldc 137, 2) := by decide +kernel
theorem dX3_tick_43 : decode cX3_tick 43 = .ok (.invokespecial 59, 3) := by decide +kernel
theorem dX3_tick_46 : decode cX3_tick 46 = .ok (.athrow, 1) := by decide +kernel
theorem dX3_tick_47 : decode cX3_tick 47 = .ok (.aload_n 0, 1) := by decide +kernel
theorem dX3_tick_48 : decode cX3_tick 48 = .ok (.invokevirtual 60, 3) := by decide +kernel
theorem dX3_tick_51 : decode cX3_tick 51 = .ok (.iconst 0, 1) := by decide +kernel
theorem dX3_tick_52 : decode cX3_tick 52 = .ok (.istore_n 2, 1) := by decide +kernel
theorem dX3_tick_53 : decode cX3_tick 53 = .ok (.iconst 0, 1) := by decide +kernel
theorem dX3_tick_54 : decode cX3_tick 54 = .ok (.istore_n 3, 1) := by decide +kernel
theorem dX3_tick_55 : decode cX3_tick 55 = .ok (.iload_n 3, 1) := by decide +kernel
theorem dX3_tick_56 : decode cX3_tick 56 = .ok (.iload_n 1, 1) := by decide +kernel
theorem dX3_tick_57 : decode cX3_tick 57 = .ok (.if_icmp .ge 19, 3) := by decide +kernel
theorem dX3_tick_60 : decode cX3_tick 60 = .ok (.iload_n 2, 1) := by decide +kernel
theorem dX3_tick_61 : decode cX3_tick 61 = .ok (.aload_n 0, 1) := by decide +kernel
theorem dX3_tick_62 : decode cX3_tick 62 = .ok (.getfield 10, 3) := by decide +kernel
theorem dX3_tick_65 : decode cX3_tick 65 = .ok (.invokevirtual 139, 3) := by decide +kernel
theorem dX3_tick_68 : decode cX3_tick 68 = .ok (.iadd, 1) := by decide +kernel
theorem dX3_tick_69 : decode cX3_tick 69 = .ok (.istore_n 2, 1) := by decide +kernel
theorem dX3_tick_70 : decode cX3_tick 70 = .ok (.iinc 3 1, 3) := by decide +kernel
theorem dX3_tick_73 : decode cX3_tick 73 = .ok (.goto (-18), 3) := by decide +kernel
theorem dX3_tick_76 : decode cX3_tick 76 = .ok (.iload_n 2, 1) := by decide +kernel
theorem dX3_tick_77 : decode cX3_tick 77 = .ok (.ireturn, 1) := by decide +kernel
theorem dX3_rail_0 : decode cX3_rail 0 = .ok (.aload_n 0, 1) := by decide +kernel
theorem dX3_rail_1 : decode cX3_rail 1 = .ok (.iload_n 1, 1) := by decide +kernel
theorem dX3_rail_2 : decode cX3_rail 2 = .ok (.invokevirtual 67, 3) := by decide +kernel
theorem dX3_rail_5 : decode cX3_rail 5 = .ok (.ifCond .ne 13, 3) := by decide +kernel
theorem dX3_rail_8 : decode cX3_rail 8 = .ok (.new 70, 3) := by decide +kernel
theorem dX3_rail_11 : decode cX3_rail 11 = .ok (.dup, 1) := by decide +kernel
theorem dX3_rail_12 : decode cX3_rail 12 = .ok (.ldc 84, 2) := by decide +kernel
theorem dX3_rail_14 : decode cX3_rail 14 = .ok (.invokespecial 74, 3) := by decide +kernel
theorem dX3_rail_17 : decode cX3_rail 17 = .ok (.athrow, 1) := by decide +kernel
theorem dX3_rail_18 : decode cX3_rail 18 = .ok (.iload_n 2, 1) := by decide +kernel
theorem dX3_rail_19 : decode cX3_rail 19 = .ok (.ifCond .lt 9, 3) := by decide +kernel
theorem dX3_rail_22 : decode cX3_rail 22 = .ok (.iload_n 2, 1) := by decide +kernel
theorem dX3_rail_23 : decode cX3_rail 23 = .ok (.bipush 19, 2) := by decide +kernel
theorem dX3_rail_25 : decode cX3_rail 25 = .ok (.if_icmp .lt 13, 3) := by decide +kernel
theorem dX3_rail_28 : decode cX3_rail 28 = .ok (.new 38, 3) := by decide +kernel
theorem dX3_rail_31 : decode cX3_rail 31 = .ok (.dup, 1) := by decide +kernel
theorem dX3_rail_32 : decode cX3_rail 32 = .ok (.ldc 173, 2) := by decide +kernel
theorem dX3_rail_34 : decode cX3_rail 34 = .ok (.invokespecial 42, 3) := by decide +kernel
theorem dX3_rail_37 : decode cX3_rail 37 = .ok (.athrow, 1) := by decide +kernel
theorem dX3_rail_38 : decode cX3_rail 38 = .ok (.aload_n 0, 1) := by decide +kernel
theorem dX3_rail_39 : decode cX3_rail 39 = .ok (.getfield 10, 3) := by decide +kernel
theorem dX3_rail_42 : decode cX3_rail 42 = .ok (.iload_n 1, 1) := by decide +kernel
theorem dX3_rail_43 : decode cX3_rail 43 = .ok (.iload_n 2, 1) := by decide +kernel
theorem dX3_rail_44 : decode cX3_rail 44 = .ok (.invokevirtual 175, 3) := by decide +kernel
theorem dX3_rail_47 : decode cX3_rail 47 = .ok (.ireturn, 1) := by decide +kernel
theorem dX3_account_0 : decode cX3_account 0 = .ok (.aload_n 0, 1) := by decide +kernel
theorem dX3_account_1 : decode cX3_account 1 = .ok (.iload_n 1, 1) := by decide +kernel
theorem dX3_account_2 : decode cX3_account 2 = .ok (.invokevirtual 67, 3) := by decide +kernel
theorem dX3_account_5 : decode cX3_account 5 = .ok (.ifCond .ne 13, 3) := by decide +kernel
theorem dX3_account_8 : decode cX3_account 8 = .ok (.new 70, 3) := by decide +kernel
theorem dX3_account_11 : decode cX3_account 11 = .ok (.dup, 1) := by decide +kernel
theorem dX3_account_12 : decode cX3_account 12 = .ok (.ldc 84, 2) := by decide +kernel
theorem dX3_account_14 : decode cX3_account 14 = .ok (.invokespecial 74, 3) := by decide +kernel
theorem dX3_account_17 : decode cX3_account 17 = .ok (.athrow, 1) := by decide +kernel
theorem dX3_account_18 : decode cX3_account 18 = .ok (.iload_n 2, 1) := by decide +kernel
theorem dX3_account_19 : decode cX3_account 19 = .ok (.ifCond .lt 8, 3) := by decide +kernel
theorem dX3_account_22 : decode cX3_account 22 = .ok (.iload_n 2, 1) := by decide +kernel
theorem dX3_account_23 : decode cX3_account 23 = .ok (.iconst 4, 1) := by decide +kernel
theorem dX3_account_24 : decode cX3_account 24 = .ok (.if_icmp .lt 13, 3) := by decide +kernel
theorem dX3_account_27 : decode cX3_account 27 = .ok (.new 38, 3) := by decide +kernel
theorem dX3_account_30 : decode cX3_account 30 = .ok (.dup, 1) := by decide +kernel
theorem dX3_account_31 : decode cX3_account 31 = .ok (.ldc 178, 2) := by decide +kernel
theorem dX3_account_33 : decode cX3_account 33 = .ok (.invokespecial 42, 3) := by decide +kernel
theorem dX3_account_36 : decode cX3_account 36 = .ok (.athrow, 1) := by decide +kernel
theorem dX3_account_37 : decode cX3_account 37 = .ok (.aload_n 0, 1) := by decide +kernel
theorem dX3_account_38 : decode cX3_account 38 = .ok (.getfield 10, 3) := by decide +kernel
theorem dX3_account_41 : decode cX3_account 41 = .ok (.getfield 180, 3) := by decide +kernel
theorem dX3_account_44 : decode cX3_account 44 = .ok (.iload_n 1, 1) := by decide +kernel
theorem dX3_account_45 : decode cX3_account 45 = .ok (.iconst 4, 1) := by decide +kernel
theorem dX3_account_46 : decode cX3_account 46 = .ok (.imul, 1) := by decide +kernel
theorem dX3_account_47 : decode cX3_account 47 = .ok (.iload_n 2, 1) := by decide +kernel
theorem dX3_account_48 : decode cX3_account 48 = .ok (.iadd, 1) := by decide +kernel
theorem dX3_account_49 : decode cX3_account 49 = .ok (.iaload, 1) := by decide +kernel
theorem dX3_account_50 : decode cX3_account 50 = .ok (.ireturn, 1) := by decide +kernel
theorem dX3_entry_0 : decode cX3_entry 0 = .ok (.iload_n 1, 1) := by decide +kernel
theorem dX3_entry_1 : decode cX3_entry 1 = .ok (.ifCond .lt 18, 3) := by decide +kernel
theorem dX3_entry_4 : decode cX3_entry 4 = .ok (.iload_n 1, 1) := by decide +kernel
theorem dX3_entry_5 : decode cX3_entry 5 = .ok (.bipush 16, 2) := by decide +kernel
theorem dX3_entry_7 : decode cX3_entry 7 = .ok (.if_icmp .ge 12, 3) := by decide +kernel
theorem dX3_entry_10 : decode cX3_entry 10 = .ok (.iload_n 2, 1) := by decide +kernel
theorem dX3_entry_11 : decode cX3_entry 11 = .ok (.ifCond .lt 8, 3) := by decide +kernel
theorem dX3_entry_14 : decode cX3_entry 14 = .ok (.iload_n 2, 1) := by decide +kernel
theorem dX3_entry_15 : decode cX3_entry 15 = .ok (.iconst 4, 1) := by decide +kernel
theorem dX3_entry_16 : decode cX3_entry 16 = .ok (.if_icmp .lt 13, 3) := by decide +kernel
theorem dX3_entry_19 : decode cX3_entry 19 = .ok (.new 38, 3) := by decide +kernel
theorem dX3_entry_22 : decode cX3_entry 22 = .ok (.dup, 1) := by decide +kernel
theorem dX3_entry_23 : decode cX3_entry 23 = .ok (.ldc 185, 2) := by decide +kernel
theorem dX3_entry_25 : decode cX3_entry 25 = .ok (.invokespecial 42, 3) := by decide +kernel
theorem dX3_entry_28 : decode cX3_entry 28 = .ok (.athrow, 1) := by decide +kernel
theorem dX3_entry_29 : decode cX3_entry 29 = .ok (.iload_n 1, 1) := by decide +kernel
theorem dX3_entry_30 : decode cX3_entry 30 = .ok (.aload_n 0, 1) := by decide +kernel
theorem dX3_entry_31 : decode cX3_entry 31 = .ok (.getfield 10, 3) := by decide +kernel
theorem dX3_entry_34 : decode cX3_entry 34 = .ok (.getfield 187, 3) := by decide +kernel
theorem dX3_entry_37 : decode cX3_entry 37 = .ok (.getfield 191, 3) := by decide +kernel
theorem dX3_entry_40 : decode cX3_entry 40 = .ok (.if_icmp .ge 18, 3) := by decide +kernel
theorem dX3_entry_43 : decode cX3_entry 43 = .ok (.aload_n 0, 1) := by decide +kernel
theorem dX3_entry_44 : decode cX3_entry 44 = .ok (.getfield 10, 3) := by decide +kernel
theorem dX3_entry_47 : decode cX3_entry 47 = .ok (.getfield 187, 3) := by decide +kernel
theorem dX3_entry_50 : decode cX3_entry 50 = .ok (.iload_n 1, 1) := by decide +kernel
theorem dX3_entry_51 : decode cX3_entry 51 = .ok (.iload_n 2, 1) := by decide +kernel
theorem dX3_entry_52 : decode cX3_entry 52 = .ok (.invokevirtual 194, 3) := by decide +kernel
theorem dX3_entry_55 : decode cX3_entry 55 = .ok (.goto 4, 3) := by decide +kernel
theorem dX3_entry_58 : decode cX3_entry 58 = .ok (.iconst (-1), 1) := by decide +kernel
theorem dX3_entry_59 : decode cX3_entry 59 = .ok (.ireturn, 1) := by decide +kernel
theorem dX3_forget_0 : decode cX3_forget 0 = .ok (.aload_n 0, 1) := by decide +kernel
theorem dX3_forget_1 : decode cX3_forget 1 = .ok (.iload_n 1, 1) := by decide +kernel
theorem dX3_forget_2 : decode cX3_forget 2 = .ok (.invokevirtual 67, 3) := by decide +kernel
theorem dX3_forget_5 : decode cX3_forget 5 = .ok (.ifCond .ne 13, 3) := by decide +kernel
theorem dX3_forget_8 : decode cX3_forget 8 = .ok (.new 70, 3) := by decide +kernel
theorem dX3_forget_11 : decode cX3_forget 11 = .ok (.dup, 1) := by decide +kernel
theorem dX3_forget_12 : decode cX3_forget 12 = .ok (.ldc 84, 2) := by decide +kernel
theorem dX3_forget_14 : decode cX3_forget 14 = .ok (.invokespecial 74, 3) := by decide +kernel
theorem dX3_forget_17 : decode cX3_forget 17 = .ok (.athrow, 1) := by decide +kernel
theorem dX3_forget_18 : decode cX3_forget 18 = .ok (.aload_n 0, 1) := by decide +kernel
theorem dX3_forget_19 : decode cX3_forget 19 = .ok (.invokevirtual 60, 3) := by decide +kernel
theorem dX3_forget_22 : decode cX3_forget 22 = .ok (.aload_n 0, 1) := by decide +kernel
theorem dX3_forget_23 : decode cX3_forget 23 = .ok (.getfield 10, 3) := by decide +kernel
theorem dX3_forget_26 : decode cX3_forget 26 = .ok (.getfield 187, 3) := by decide +kernel
theorem dX3_forget_29 : decode cX3_forget 29 = .ok (.iload_n 1, 1) := by decide +kernel
theorem dX3_forget_30 : decode cX3_forget 30 = .ok (.invokevirtual 197, 3) := by decide +kernel
theorem dX3_forget_33 : decode cX3_forget 33 = .ok (.ireturn, 1) := by decide +kernel
theorem dX3_count_0 : decode cX3_count 0 = .ok (.iload_n 1, 1) := by decide +kernel
theorem dX3_count_1 : decode cX3_count 1 = .ok (.ifCond .lt 9, 3) := by decide +kernel
theorem dX3_count_4 : decode cX3_count 4 = .ok (.iload_n 1, 1) := by decide +kernel
theorem dX3_count_5 : decode cX3_count 5 = .ok (.bipush 10, 2) := by decide +kernel
theorem dX3_count_7 : decode cX3_count 7 = .ok (.if_icmp .lt 13, 3) := by decide +kernel
theorem dX3_count_10 : decode cX3_count 10 = .ok (.new 38, 3) := by decide +kernel
theorem dX3_count_13 : decode cX3_count 13 = .ok (.dup, 1) := by decide +kernel
theorem dX3_count_14 : decode cX3_count 14 = .ok (.ldc 200, 2) := by decide +kernel
theorem dX3_count_16 : decode cX3_count 16 = .ok (.invokespecial 42, 3) := by decide +kernel
theorem dX3_count_19 : decode cX3_count 19 = .ok (.athrow, 1) := by decide +kernel
theorem dX3_count_20 : decode cX3_count 20 = .ok (.aload_n 0, 1) := by decide +kernel
theorem dX3_count_21 : decode cX3_count 21 = .ok (.iload_n 1, 1) := by decide +kernel
theorem dX3_count_22 : decode cX3_count 22 = .ok (.invokevirtual 202, 3) := by decide +kernel
theorem dX3_count_25 : decode cX3_count 25 = .ok (.ireturn, 1) := by decide +kernel
theorem dX3_allGoodIn_0 : decode cX3_allGoodIn 0 = .ok (.aload_n 0, 1) := by decide +kernel
theorem dX3_allGoodIn_1 : decode cX3_allGoodIn 1 = .ok (.getfield 16, 3) := by decide +kernel
theorem dX3_allGoodIn_4 : decode cX3_allGoodIn 4 = .ok (.aload_n 0, 1) := by decide +kernel
theorem dX3_allGoodIn_5 : decode cX3_allGoodIn 5 = .ok (.getfield 10, 3) := by decide +kernel
theorem dX3_allGoodIn_8 : decode cX3_allGoodIn 8 = .ok (.invokevirtual 164, 3) := by decide +kernel
theorem dX3_allGoodIn_11 : decode cX3_allGoodIn 11 = .ok (.iconst 0, 1) := by decide +kernel
theorem dX3_allGoodIn_12 : decode cX3_allGoodIn 12 = .ok (.istore_n 1, 1) := by decide +kernel
theorem dX3_allGoodIn_13 : decode cX3_allGoodIn 13 = .ok (.iload_n 1, 1) := by decide +kernel
theorem dX3_allGoodIn_14 : decode cX3_allGoodIn 14 = .ok (.sipush 1000, 3) := by decide +kernel
theorem dX3_allGoodIn_17 : decode cX3_allGoodIn 17 = .ok (.if_icmp .gt 72, 3) := by decide +kernel
theorem dX3_allGoodIn_20 : decode cX3_allGoodIn 20 = .ok (.aload_n 0, 1) := by decide +kernel
theorem dX3_allGoodIn_21 : decode cX3_allGoodIn 21 = .ok (.getfield 16, 3) := by decide +kernel
theorem dX3_allGoodIn_24 : decode cX3_allGoodIn 24 = .ok (.getfield 106, 3) := by decide +kernel
theorem dX3_allGoodIn_27 : decode cX3_allGoodIn 27 = .ok (.aload_n 0, 1) := by decide +kernel
theorem dX3_allGoodIn_28 : decode cX3_allGoodIn 28 = .ok (.getfield 16, 3) := by decide +kernel
theorem dX3_allGoodIn_31 : decode cX3_allGoodIn 31 = .ok (.iconst 3, 1) := by decide +kernel
theorem dX3_allGoodIn_32 : decode cX3_allGoodIn 32 = .ok (.invokevirtual 205, 3) := by decide +kernel
theorem dX3_allGoodIn_35 : decode cX3_allGoodIn 35 = .ok (.iconst (-1), 1) := by decide +kernel
theorem dX3_allGoodIn_36 : decode cX3_allGoodIn 36 = .ok (.ixor, 1) := by decide +kernel
theorem dX3_allGoodIn_37 : decode cX3_allGoodIn 37 = .ok (.iand, 1) := by decide +kernel
theorem dX3_allGoodIn_38 : decode cX3_allGoodIn 38 = .ok (.ifCond .ne 5, 3) := by decide +kernel
theorem dX3_allGoodIn_41 : decode cX3_allGoodIn 41 = .ok (.iload_n 1, 1) := by decide +kernel
theorem dX3_allGoodIn_42 : decode cX3_allGoodIn 42 = .ok (.ireturn, 1) := by decide +kernel
theorem dX3_allGoodIn_43 : decode cX3_allGoodIn 43 = .ok (.aload_n 0, 1) := by decide +kernel
theorem dX3_allGoodIn_44 : decode cX3_allGoodIn 44 = .ok (.getfield 16, 3) := by decide +kernel
theorem dX3_allGoodIn_47 : decode cX3_allGoodIn 47 = .ok (.invokevirtual 208, 3) := by decide +kernel
theorem dX3_allGoodIn_50 : decode cX3_allGoodIn 50 = .ok (.ifCond .ne 7, 3) := by decide +kernel
theorem dX3_allGoodIn_53 : decode cX3_allGoodIn 53 = .ok (.iconst 1, 1) := by decide +kernel
theorem dX3_allGoodIn_54 : decode cX3_allGoodIn 54 = .ok (.goto 4, 3) := by decide +kernel
theorem dX3_allGoodIn_57 : decode cX3_allGoodIn 57 = .ok (.iconst 0, 1) := by decide +kernel
theorem dX3_allGoodIn_58 : decode cX3_allGoodIn 58 = .ok (.istore_n 2, 1) := by decide +kernel
theorem dX3_allGoodIn_59 : decode cX3_allGoodIn 59 = .ok (.aload_n 0, 1) := by decide +kernel
theorem dX3_allGoodIn_60 : decode cX3_allGoodIn 60 = .ok (.getfield 16, 3) := by decide +kernel
theorem dX3_allGoodIn_63 : decode cX3_allGoodIn 63 = .ok (.invokevirtual 139, 3) := by decide +kernel
theorem dX3_allGoodIn_66 : decode cX3_allGoodIn 66 = .ok (.pop, 1) := by decide +kernel
theorem dX3_allGoodIn_67 : decode cX3_allGoodIn 67 = .ok (.iload_n 2, 1) := by decide +kernel
theorem dX3_allGoodIn_68 : decode cX3_allGoodIn 68 = .ok (.ifCond .eq 15, 3) := by decide +kernel
theorem dX3_allGoodIn_71 : decode cX3_allGoodIn 71 = .ok (.aload_n 0, 1) := by decide +kernel
theorem dX3_allGoodIn_72 : decode cX3_allGoodIn 72 = .ok (.getfield 16, 3) := by decide +kernel
theorem dX3_allGoodIn_75 : decode cX3_allGoodIn 75 = .ok (.invokevirtual 211, 3) := by decide +kernel
theorem dX3_allGoodIn_78 : decode cX3_allGoodIn 78 = .ok (.ifCond .eq 5, 3) := by decide +kernel
theorem dX3_allGoodIn_81 : decode cX3_allGoodIn 81 = .ok (.iconst (-1), 1) := by decide +kernel
theorem dX3_allGoodIn_82 : decode cX3_allGoodIn 82 = .ok (.ireturn, 1) := by decide +kernel
theorem dX3_allGoodIn_83 : decode cX3_allGoodIn 83 = .ok (.iinc 1 1, 3) := by decide +kernel
theorem dX3_allGoodIn_86 : decode cX3_allGoodIn 86 = .ok (.goto (-73), 3) := by decide +kernel
theorem dX3_allGoodIn_89 : decode cX3_allGoodIn 89 = .ok (.iconst (-1), 1) := by decide +kernel
theorem dX3_allGoodIn_90 : decode cX3_allGoodIn 90 = .ok (.ireturn, 1) := by decide +kernel
theorem dX3_allOffIn_0 : decode cX3_allOffIn 0 = .ok (.aload_n 0, 1) := by decide +kernel
theorem dX3_allOffIn_1 : decode cX3_allOffIn 1 = .ok (.getfield 16, 3) := by decide +kernel
theorem dX3_allOffIn_4 : decode cX3_allOffIn 4 = .ok (.aload_n 0, 1) := by decide +kernel
theorem dX3_allOffIn_5 : decode cX3_allOffIn 5 = .ok (.getfield 10, 3) := by decide +kernel
theorem dX3_allOffIn_8 : decode cX3_allOffIn 8 = .ok (.invokevirtual 164, 3) := by decide +kernel
theorem dX3_allOffIn_11 : decode cX3_allOffIn 11 = .ok (.aload_n 0, 1) := by decide +kernel
theorem dX3_allOffIn_12 : decode cX3_allOffIn 12 = .ok (.getfield 16, 3) := by decide +kernel
theorem dX3_allOffIn_15 : decode cX3_allOffIn 15 = .ok (.iconst 0, 1) := by decide +kernel
theorem dX3_allOffIn_16 : decode cX3_allOffIn 16 = .ok (.putfield 106, 3) := by decide +kernel
theorem dX3_allOffIn_19 : decode cX3_allOffIn 19 = .ok (.iconst 0, 1) := by decide +kernel
theorem dX3_allOffIn_20 : decode cX3_allOffIn 20 = .ok (.istore_n 1, 1) := by decide +kernel
theorem dX3_allOffIn_21 : decode cX3_allOffIn 21 = .ok (.iload_n 1, 1) := by decide +kernel
theorem dX3_allOffIn_22 : decode cX3_allOffIn 22 = .ok (.sipush 1000, 3) := by decide +kernel
theorem dX3_allOffIn_25 : decode cX3_allOffIn 25 = .ok (.if_icmp .gt 29, 3) := by decide +kernel
theorem dX3_allOffIn_28 : decode cX3_allOffIn 28 = .ok (.aload_n 0, 1) := by decide +kernel
theorem dX3_allOffIn_29 : decode cX3_allOffIn 29 = .ok (.getfield 16, 3) := by decide +kernel
theorem dX3_allOffIn_32 : decode cX3_allOffIn 32 = .ok (.invokevirtual 214, 3) := by decide +kernel
theorem dX3_allOffIn_35 : decode cX3_allOffIn 35 = .ok (.ifCond .eq 5, 3) := by decide +kernel
theorem dX3_allOffIn_38 : decode cX3_allOffIn 38 = .ok (.iload_n 1, 1) := by decide +kernel
theorem dX3_allOffIn_39 : decode cX3_allOffIn 39 = .ok (.ireturn, 1) := by decide +kernel
theorem dX3_allOffIn_40 : decode cX3_allOffIn 40 = .ok (.aload_n 0, 1) := by decide +kernel
theorem dX3_allOffIn_41 : decode cX3_allOffIn 41 = .ok (.getfield 16, 3) := by decide +kernel
theorem dX3_allOffIn_44 : decode cX3_allOffIn 44 = .ok (.invokevirtual 139, 3) := by decide +kernel
theorem dX3_allOffIn_47 : decode cX3_allOffIn 47 = .ok (.pop, 1) := by decide +kernel
theorem dX3_allOffIn_48 : decode cX3_allOffIn 48 = .ok (.iinc 1 1, 3) := by decide +kernel
theorem dX3_allOffIn_51 : decode cX3_allOffIn 51 = .ok (.goto (-30), 3) := by decide +kernel
theorem dX3_allOffIn_54 : decode cX3_allOffIn 54 = .ok (.iconst (-1), 1) := by decide +kernel
theorem dX3_allOffIn_55 : decode cX3_allOffIn 55 = .ok (.ireturn, 1) := by decide +kernel
theorem dX3_ifShort_0 : decode cX3_ifShort 0 = .ok (.aload_n 0, 1) := by decide +kernel
theorem dX3_ifShort_1 : decode cX3_ifShort 1 = .ok (.iload_n 1, 1) := by decide +kernel
theorem dX3_ifShort_2 : decode cX3_ifShort 2 = .ok (.invokevirtual 67, 3) := by decide +kernel
theorem dX3_ifShort_5 : decode cX3_ifShort 5 = .ok (.ifCond .ne 13, 3) := by decide +kernel
theorem dX3_ifShort_8 : decode cX3_ifShort 8 = .ok (.new 70, 3) := by decide +kernel
theorem dX3_ifShort_11 : decode cX3_ifShort 11 = .ok (.dup, 1) := by decide +kernel
theorem dX3_ifShort_12 : decode cX3_ifShort 12 = .ok (.ldc 84, 2) := by decide +kernel
theorem dX3_ifShort_14 : decode cX3_ifShort 14 = .ok (.invokespecial 74, 3) := by decide +kernel
theorem dX3_ifShort_17 : decode cX3_ifShort 17 = .ok (.athrow, 1) := by decide +kernel
theorem dX3_ifShort_18 : decode cX3_ifShort 18 = .ok (.iload_n 2, 1) := by decide +kernel
theorem dX3_ifShort_19 : decode cX3_ifShort 19 = .ok (.iconst 1, 1) := by decide +kernel
theorem dX3_ifShort_20 : decode cX3_ifShort 20 = .ok (.if_icmp .lt 19, 3) := by decide +kernel
theorem dX3_ifShort_23 : decode cX3_ifShort 23 = .ok (.iload_n 2, 1) := by decide +kernel
theorem dX3_ifShort_24 : decode cX3_ifShort 24 = .ok (.sipush 500, 3) := by decide +kernel
theorem dX3_ifShort_27 : decode cX3_ifShort 27 = .ok (.if_icmp .gt 12, 3) := by decide +kernel
theorem dX3_ifShort_30 : decode cX3_ifShort 30 = .ok (.iload_n 3, 1) := by decide +kernel
theorem dX3_ifShort_31 : decode cX3_ifShort 31 = .ok (.ifCond .lt 8, 3) := by decide +kernel
theorem dX3_ifShort_34 : decode cX3_ifShort 34 = .ok (.iload_n 3, 1) := by decide +kernel
theorem dX3_ifShort_35 : decode cX3_ifShort 35 = .ok (.iconst 2, 1) := by decide +kernel
theorem dX3_ifShort_36 : decode cX3_ifShort 36 = .ok (.if_icmp .le 13, 3) := by decide +kernel
theorem dX3_ifShort_39 : decode cX3_ifShort 39 = .ok (.new 38, 3) := by decide +kernel
theorem dX3_ifShort_42 : decode cX3_ifShort 42 = .ok (.dup, 1) := by decide +kernel
theorem dX3_ifShort_43 : decode cX3_ifShort 43 = .ok (.ldc 217, 2) := by decide +kernel
theorem dX3_ifShort_45 : decode cX3_ifShort 45 = .ok (.invokespecial 42, 3) := by decide +kernel
theorem dX3_ifShort_48 : decode cX3_ifShort 48 = .ok (.athrow, 1) := by decide +kernel
theorem dX3_ifShort_49 : decode cX3_ifShort 49 = .ok (.aload_n 0, 1) := by decide +kernel
theorem dX3_ifShort_50 : decode cX3_ifShort 50 = .ok (.getfield 16, 3) := by decide +kernel
theorem dX3_ifShort_53 : decode cX3_ifShort 53 = .ok (.aload_n 0, 1) := by decide +kernel
theorem dX3_ifShort_54 : decode cX3_ifShort 54 = .ok (.getfield 10, 3) := by decide +kernel
theorem dX3_ifShort_57 : decode cX3_ifShort 57 = .ok (.invokevirtual 164, 3) := by decide +kernel
theorem dX3_ifShort_60 : decode cX3_ifShort 60 = .ok (.aload_n 0, 1) := by decide +kernel
theorem dX3_ifShort_61 : decode cX3_ifShort 61 = .ok (.getfield 16, 3) := by decide +kernel
theorem dX3_ifShort_64 : decode cX3_ifShort 64 = .ok (.getfield 126, 3) := by decide +kernel
theorem dX3_ifShort_67 : decode cX3_ifShort 67 = .ok (.iload_n 1, 1) := by decide +kernel
theorem dX3_ifShort_68 : decode cX3_ifShort 68 = .ok (.iload_n 2, 1) := by decide +kernel
theorem dX3_ifShort_69 : decode cX3_ifShort 69 = .ok (.iastore, 1) := by decide +kernel
theorem dX3_ifShort_70 : decode cX3_ifShort 70 = .ok (.iconst 0, 1) := by decide +kernel
theorem dX3_ifShort_71 : decode cX3_ifShort 71 = .ok (.istore 4, 2) := by decide +kernel
theorem dX3_ifShort_73 : decode cX3_ifShort 73 = .ok (.iconst 0, 1) := by decide +kernel
theorem dX3_ifShort_74 : decode cX3_ifShort 74 = .ok (.istore 5, 2) := by decide +kernel
theorem dX3_ifShort_76 : decode cX3_ifShort 76 = .ok (.iload 5, 2) := by decide +kernel
theorem dX3_ifShort_78 : decode cX3_ifShort 78 = .ok (.bipush 100, 2) := by decide +kernel
theorem dX3_ifShort_80 : decode cX3_ifShort 80 = .ok (.if_icmp .ge 29, 3) := by decide +kernel
theorem dX3_ifShort_83 : decode cX3_ifShort 83 = .ok (.aload_n 0, 1) := by decide +kernel
theorem dX3_ifShort_84 : decode cX3_ifShort 84 = .ok (.getfield 16, 3) := by decide +kernel
theorem dX3_ifShort_87 : decode cX3_ifShort 87 = .ok (.invokevirtual 139, 3) := by decide +kernel
theorem dX3_ifShort_90 : decode cX3_ifShort 90 = .ok (.pop, 1) := by decide +kernel
theorem dX3_ifShort_91 : decode cX3_ifShort 91 = .ok (.iload 4, 2) := by decide +kernel
theorem dX3_ifShort_93 : decode cX3_ifShort 93 = .ok (.aload_n 0, 1) := by decide +kernel
theorem dX3_ifShort_94 : decode cX3_ifShort 94 = .ok (.getfield 16, 3) := by decide +kernel
theorem dX3_ifShort_97 : decode cX3_ifShort 97 = .ok (.invokevirtual 219, 3) := by decide +kernel
theorem dX3_ifShort_100 : decode cX3_ifShort 100 = .ok (.ior, 1) := by decide +kernel
theorem dX3_ifShort_101 : decode cX3_ifShort 101 = .ok (.istore 4, 2) := by decide +kernel
theorem dX3_ifShort_103 : decode cX3_ifShort 103 = .ok (.iinc 5 1, 3) := by decide +kernel
theorem dX3_ifShort_106 : decode cX3_ifShort 106 = .ok (.goto (-30), 3) := by decide +kernel
theorem dX3_ifShort_109 : decode cX3_ifShort 109 = .ok (.iload_n 3, 1) := by decide +kernel
theorem dX3_ifShort_110 : decode cX3_ifShort 110 = .ok (.ifCond .ne 6, 3) := by decide +kernel
theorem dX3_ifShort_113 : decode cX3_ifShort 113 = .ok (.iload 4, 2) := by decide +kernel
theorem dX3_ifShort_115 : decode cX3_ifShort 115 = .ok (.ireturn, 1) := by decide +kernel
theorem dX3_ifShort_116 : decode cX3_ifShort 116 = .ok (.aload_n 0, 1) := by decide +kernel
theorem dX3_ifShort_117 : decode cX3_ifShort 117 = .ok (.getfield 16, 3) := by decide +kernel
theorem dX3_ifShort_120 : decode cX3_ifShort 120 = .ok (.iload_n 3, 1) := by decide +kernel
theorem dX3_ifShort_121 : decode cX3_ifShort 121 = .ok (.iconst 1, 1) := by decide +kernel
theorem dX3_ifShort_122 : decode cX3_ifShort 122 = .ok (.if_icmp .ne 7, 3) := by decide +kernel
theorem dX3_ifShort_125 : decode cX3_ifShort 125 = .ok (.iconst 3, 1) := by decide +kernel
theorem dX3_ifShort_126 : decode cX3_ifShort 126 = .ok (.goto 4, 3) := by decide +kernel
theorem dX3_ifShort_129 : decode cX3_ifShort 129 = .ok (.iconst 5, 1) := by decide +kernel
theorem dX3_ifShort_130 : decode cX3_ifShort 130 = .ok (.invokevirtual 205, 3) := by decide +kernel
theorem dX3_ifShort_133 : decode cX3_ifShort 133 = .ok (.ireturn, 1) := by decide +kernel
theorem dX3_leastPatience_0 : decode cX3_leastPatience 0 = .ok (.aload_n 0, 1) := by decide +kernel
theorem dX3_leastPatience_1 : decode cX3_leastPatience 1 = .ok (.iload_n 1, 1) := by decide +kernel
theorem dX3_leastPatience_2 : decode cX3_leastPatience 2 = .ok (.invokevirtual 67, 3) := by decide +kernel
theorem dX3_leastPatience_5 : decode cX3_leastPatience 5 = .ok (.ifCond .ne 13, 3) := by decide +kernel
theorem dX3_leastPatience_8 : decode cX3_leastPatience 8 = .ok (.new 70, 3) := by decide +kernel
theorem dX3_leastPatience_11 : decode cX3_leastPatience 11 = .ok (.dup, 1) := by decide +kernel
theorem dX3_leastPatience_12 : decode cX3_leastPatience 12 = .ok (.ldc 84, 2) := by decide +kernel
theorem dX3_leastPatience_14 : decode cX3_leastPatience 14 = .ok (.invokespecial 74, 3) := by decide +kernel
theorem dX3_leastPatience_17 : decode cX3_leastPatience 17 = .ok (.athrow, 1) := by decide +kernel
theorem dX3_leastPatience_18 : decode cX3_leastPatience 18 = .ok (.aload_n 0, 1) := by decide +kernel
theorem dX3_leastPatience_19 : decode cX3_leastPatience 19 = .ok (.getfield 10, 3) := by decide +kernel
theorem dX3_leastPatience_22 : decode cX3_leastPatience 22 = .ok (.iload_n 1, 1) := by decide +kernel
theorem dX3_leastPatience_23 : decode cX3_leastPatience 23 = .ok (.invokevirtual 222, 3) := by decide +kernel
theorem dX3_leastPatience_26 : decode cX3_leastPatience 26 = .ok (.ireturn, 1) := by decide +kernel
theorem dX3_goodShare_0 : decode cX3_goodShare 0 = .ok (.aload_n 0, 1) := by decide +kernel
theorem dX3_goodShare_1 : decode cX3_goodShare 1 = .ok (.getfield 10, 3) := by decide +kernel
theorem dX3_goodShare_4 : decode cX3_goodShare 4 = .ok (.getfield 134, 3) := by decide +kernel
theorem dX3_goodShare_7 : decode cX3_goodShare 7 = .ok (.aload_n 0, 1) := by decide +kernel
theorem dX3_goodShare_8 : decode cX3_goodShare 8 = .ok (.getfield 10, 3) := by decide +kernel
theorem dX3_goodShare_11 : decode cX3_goodShare 11 = .ok (.getfield 51, 3) := by decide +kernel
theorem dX3_goodShare_14 : decode cX3_goodShare 14 = .ok (.imul, 1) := by decide +kernel
theorem dX3_goodShare_15 : decode cX3_goodShare 15 = .ok (.istore_n 1, 1) := by decide +kernel
theorem dX3_goodShare_16 : decode cX3_goodShare 16 = .ok (.iload_n 1, 1) := by decide +kernel
theorem dX3_goodShare_17 : decode cX3_goodShare 17 = .ok (.ifCond .ne 5, 3) := by decide +kernel
theorem dX3_goodShare_20 : decode cX3_goodShare 20 = .ok (.dconst 0, 1) := by decide +kernel
theorem dX3_goodShare_21 : decode cX3_goodShare 21 = .ok (.dreturn, 1) := by decide +kernel
theorem dX3_goodShare_22 : decode cX3_goodShare 22 = .ok (.iconst 0, 1) := by decide +kernel
theorem dX3_goodShare_23 : decode cX3_goodShare 23 = .ok (.istore_n 2, 1) := by decide +kernel
theorem dX3_goodShare_24 : decode cX3_goodShare 24 = .ok (.iconst 0, 1) := by decide +kernel
theorem dX3_goodShare_25 : decode cX3_goodShare 25 = .ok (.istore_n 3, 1) := by decide +kernel
theorem dX3_goodShare_26 : decode cX3_goodShare 26 = .ok (.iload_n 3, 1) := by decide +kernel
theorem dX3_goodShare_27 : decode cX3_goodShare 27 = .ok (.aload_n 0, 1) := by decide +kernel
theorem dX3_goodShare_28 : decode cX3_goodShare 28 = .ok (.getfield 10, 3) := by decide +kernel
theorem dX3_goodShare_31 : decode cX3_goodShare 31 = .ok (.getfield 51, 3) := by decide +kernel
theorem dX3_goodShare_34 : decode cX3_goodShare 34 = .ok (.if_icmp .ge 25, 3) := by decide +kernel
theorem dX3_goodShare_37 : decode cX3_goodShare 37 = .ok (.iload_n 2, 1) := by decide +kernel
theorem dX3_goodShare_38 : decode cX3_goodShare 38 = .ok (.aload_n 0, 1) := by decide +kernel
theorem dX3_goodShare_39 : decode cX3_goodShare 39 = .ok (.getfield 10, 3) := by decide +kernel
theorem dX3_goodShare_42 : decode cX3_goodShare 42 = .ok (.getfield 180, 3) := by decide +kernel
theorem dX3_goodShare_45 : decode cX3_goodShare 45 = .ok (.iload_n 3, 1) := by decide +kernel
theorem dX3_goodShare_46 : decode cX3_goodShare 46 = .ok (.iconst 4, 1) := by decide +kernel
theorem dX3_goodShare_47 : decode cX3_goodShare 47 = .ok (.imul, 1) := by decide +kernel
theorem dX3_goodShare_48 : decode cX3_goodShare 48 = .ok (.iconst 3, 1) := by decide +kernel
theorem dX3_goodShare_49 : decode cX3_goodShare 49 = .ok (.iadd, 1) := by decide +kernel
theorem dX3_goodShare_50 : decode cX3_goodShare 50 = .ok (.iaload, 1) := by decide +kernel
theorem dX3_goodShare_51 : decode cX3_goodShare 51 = .ok (.iadd, 1) := by decide +kernel
theorem dX3_goodShare_52 : decode cX3_goodShare 52 = .ok (.istore_n 2, 1) := by decide +kernel
theorem dX3_goodShare_53 : decode cX3_goodShare 53 = .ok (.iinc 3 1, 3) := by decide +kernel
theorem dX3_goodShare_56 : decode cX3_goodShare 56 = .ok (.goto (-30), 3) := by decide +kernel
theorem dX3_goodShare_59 : decode cX3_goodShare 59 = .ok (.iload_n 2, 1) := by decide +kernel
theorem dX3_goodShare_60 : decode cX3_goodShare 60 = .ok (.i2d, 1) := by decide +kernel
theorem dX3_goodShare_61 : decode cX3_goodShare 61 = .ok (.iload_n 1, 1) := by decide +kernel
theorem dX3_goodShare_62 : decode cX3_goodShare 62 = .ok (.i2d, 1) := by decide +kernel
theorem dX3_goodShare_63 : decode cX3_goodShare 63 = .ok (.ddiv, 1) := by decide +kernel
theorem dX3_goodShare_64 : decode cX3_goodShare 64 = .ok (.dreturn, 1) := by decide +kernel
theorem dX3_isRail_0 : decode cX3_isRail 0 = .ok (.iload_n 1, 1) := by decide +kernel
theorem dX3_isRail_1 : decode cX3_isRail 1 = .ok (.ifCond .lt 18, 3) := by decide +kernel
theorem dX3_isRail_4 : decode cX3_isRail 4 = .ok (.iload_n 1, 1) := by decide +kernel
theorem dX3_isRail_5 : decode cX3_isRail 5 = .ok (.aload_n 0, 1) := by decide +kernel
theorem dX3_isRail_6 : decode cX3_isRail 6 = .ok (.getfield 10, 3) := by decide +kernel
theorem dX3_isRail_9 : decode cX3_isRail 9 = .ok (.getfield 51, 3) := by decide +kernel
theorem dX3_isRail_12 : decode cX3_isRail 12 = .ok (.if_icmp .ge 7, 3) := by decide +kernel
theorem dX3_isRail_15 : decode cX3_isRail 15 = .ok (.iconst 1, 1) := by decide +kernel
theorem dX3_isRail_16 : decode cX3_isRail 16 = .ok (.goto 4, 3) := by decide +kernel
theorem dX3_isRail_19 : decode cX3_isRail 19 = .ok (.iconst 0, 1) := by decide +kernel
theorem dX3_isRail_20 : decode cX3_isRail 20 = .ok (.ireturn, 1) := by decide +kernel
theorem dX3_areRails_0 : decode cX3_areRails 0 = .ok (.aload_n 0, 1) := by decide +kernel
theorem dX3_areRails_1 : decode cX3_areRails 1 = .ok (.getfield 10, 3) := by decide +kernel
theorem dX3_areRails_4 : decode cX3_areRails 4 = .ok (.getfield 51, 3) := by decide +kernel
theorem dX3_areRails_7 : decode cX3_areRails 7 = .ok (.iload_n 1, 1) := by decide +kernel
theorem dX3_areRails_8 : decode cX3_areRails 8 = .ok (.invokestatic 86, 3) := by decide +kernel
theorem dX3_areRails_11 : decode cX3_areRails 11 = .ok (.ireturn, 1) := by decide +kernel
theorem dX3_areBelow_0 : decode cX3_areBelow 0 = .ok (.iload_n 1, 1) := by decide +kernel
theorem dX3_areBelow_1 : decode cX3_areBelow 1 = .ok (.iconst 1, 1) := by decide +kernel
theorem dX3_areBelow_2 : decode cX3_areBelow 2 = .ok (.iload_n 0, 1) := by decide +kernel
theorem dX3_areBelow_3 : decode cX3_areBelow 3 = .ok (.ishl, 1) := by decide +kernel
theorem dX3_areBelow_4 : decode cX3_areBelow 4 = .ok (.iconst 1, 1) := by decide +kernel
theorem dX3_areBelow_5 : decode cX3_areBelow 5 = .ok (.isub, 1) := by decide +kernel
theorem dX3_areBelow_6 : decode cX3_areBelow 6 = .ok (.iconst (-1), 1) := by decide +kernel
theorem dX3_areBelow_7 : decode cX3_areBelow 7 = .ok (.ixor, 1) := by decide +kernel
theorem dX3_areBelow_8 : decode cX3_areBelow 8 = .ok (.iand, 1) := by decide +kernel
theorem dX3_areBelow_9 : decode cX3_areBelow 9 = .ok (.ifCond .ne 7, 3) := by decide +kernel
theorem dX3_areBelow_12 : decode cX3_areBelow 12 = .ok (.iconst 1, 1) := by decide +kernel
theorem dX3_areBelow_13 : decode cX3_areBelow 13 = .ok (.goto 4, 3) := by decide +kernel
theorem dX3_areBelow_16 : decode cX3_areBelow 16 = .ok (.iconst 0, 1) := by decide +kernel
theorem dX3_areBelow_17 : decode cX3_areBelow 17 = .ok (.ireturn, 1) := by decide +kernel
theorem dX3_isInRange_0 : decode cX3_isInRange 0 = .ok (.iload_n 1, 1) := by decide +kernel
theorem dX3_isInRange_1 : decode cX3_isInRange 1 = .ok (.getstatic 254, 3) := by decide +kernel
theorem dX3_isInRange_4 : decode cX3_isInRange 4 = .ok (.iload_n 0, 1) := by decide +kernel
theorem dX3_isInRange_5 : decode cX3_isInRange 5 = .ok (.iaload, 1) := by decide +kernel
theorem dX3_isInRange_6 : decode cX3_isInRange 6 = .ok (.if_icmp .lt 16, 3) := by decide +kernel
theorem dX3_isInRange_9 : decode cX3_isInRange 9 = .ok (.iload_n 1, 1) := by decide +kernel
theorem dX3_isInRange_10 : decode cX3_isInRange 10 = .ok (.getstatic 257, 3) := by decide +kernel
theorem dX3_isInRange_13 : decode cX3_isInRange 13 = .ok (.iload_n 0, 1) := by decide +kernel
theorem dX3_isInRange_14 : decode cX3_isInRange 14 = .ok (.iaload, 1) := by decide +kernel
theorem dX3_isInRange_15 : decode cX3_isInRange 15 = .ok (.if_icmp .gt 7, 3) := by decide +kernel
theorem dX3_isInRange_18 : decode cX3_isInRange 18 = .ok (.iconst 1, 1) := by decide +kernel
theorem dX3_isInRange_19 : decode cX3_isInRange 19 = .ok (.goto 4, 3) := by decide +kernel
theorem dX3_isInRange_22 : decode cX3_isInRange 22 = .ok (.iconst 0, 1) := by decide +kernel
theorem dX3_isInRange_23 : decode cX3_isInRange 23 = .ok (.ireturn, 1) := by decide +kernel
theorem dX3_save_0 : decode cX3_save 0 = .ok (.aload_n 0, 1) := by decide +kernel
theorem dX3_save_1 : decode cX3_save 1 = .ok (.getfield 168, 3) := by decide +kernel
theorem dX3_save_4 : decode cX3_save 4 = .ok (.bipush 6, 2) := by decide +kernel
theorem dX3_save_6 : decode cX3_save 6 = .ok (.if_icmp .lt 7, 3) := by decide +kernel
theorem dX3_save_9 : decode cX3_save 9 = .ok (.aload_n 0, 1) := by decide +kernel
theorem dX3_save_10 : decode cX3_save 10 = .ok (.invokevirtual 260, 3) := by decide +kernel
theorem dX3_save_13 : decode cX3_save 13 = .ok (.aload_n 0, 1) := by decide +kernel
theorem dX3_save_14 : decode cX3_save 14 = .ok (.getfield 19, 3) := by decide +kernel
theorem dX3_save_17 : decode cX3_save 17 = .ok (.aload_n 0, 1) := by decide +kernel
theorem dX3_save_18 : decode cX3_save 18 = .ok (.getfield 168, 3) := by decide +kernel
theorem dX3_save_21 : decode cX3_save 21 = .ok (.aaload, 1) := by decide +kernel
theorem dX3_save_22 : decode cX3_save 22 = .ok (.aload_n 0, 1) := by decide +kernel
theorem dX3_save_23 : decode cX3_save 23 = .ok (.getfield 10, 3) := by decide +kernel
theorem dX3_save_26 : decode cX3_save 26 = .ok (.invokevirtual 164, 3) := by decide +kernel
theorem dX3_save_29 : decode cX3_save 29 = .ok (.aload_n 0, 1) := by decide +kernel
theorem dX3_save_30 : decode cX3_save 30 = .ok (.dup, 1) := by decide +kernel
theorem dX3_save_31 : decode cX3_save 31 = .ok (.getfield 168, 3) := by decide +kernel
theorem dX3_save_34 : decode cX3_save 34 = .ok (.iconst 1, 1) := by decide +kernel
theorem dX3_save_35 : decode cX3_save 35 = .ok (.iadd, 1) := by decide +kernel
theorem dX3_save_36 : decode cX3_save 36 = .ok (.putfield 168, 3) := by decide +kernel
theorem dX3_save_39 : decode cX3_save 39 = .ok (.return_, 1) := by decide +kernel
theorem dX3_dropOldestSaved_0 : decode cX3_dropOldestSaved 0 = .ok (.aload_n 0, 1) := by decide +kernel
theorem dX3_dropOldestSaved_1 : decode cX3_dropOldestSaved 1 = .ok (.getfield 19, 3) := by decide +kernel
theorem dX3_dropOldestSaved_4 : decode cX3_dropOldestSaved 4 = .ok (.iconst 0, 1) := by decide +kernel
theorem dX3_dropOldestSaved_5 : decode cX3_dropOldestSaved 5 = .ok (.aaload, 1) := by decide +kernel
theorem dX3_dropOldestSaved_6 : decode cX3_dropOldestSaved 6 = .ok (.astore_n 1, 1) := by decide +kernel
theorem dX3_dropOldestSaved_7 : decode cX3_dropOldestSaved 7 = .ok (.iconst 1, 1) := by decide +kernel
theorem dX3_dropOldestSaved_8 : decode cX3_dropOldestSaved 8 = .ok (.istore_n 2, 1) := by decide +kernel
theorem dX3_dropOldestSaved_9 : decode cX3_dropOldestSaved 9 = .ok (.iload_n 2, 1) := by decide +kernel
theorem dX3_dropOldestSaved_10 : decode cX3_dropOldestSaved 10 = .ok (.bipush 6, 2) := by decide +kernel
theorem dX3_dropOldestSaved_12 : decode cX3_dropOldestSaved 12 = .ok (.if_icmp .ge 23, 3) := by decide +kernel
theorem dX3_dropOldestSaved_15 : decode cX3_dropOldestSaved 15 = .ok (.aload_n 0, 1) := by decide +kernel
theorem dX3_dropOldestSaved_16 : decode cX3_dropOldestSaved 16 = .ok (.getfield 19, 3) := by decide +kernel
theorem dX3_dropOldestSaved_19 : decode cX3_dropOldestSaved 19 = .ok (.iload_n 2, 1) := by decide +kernel
theorem dX3_dropOldestSaved_20 : decode cX3_dropOldestSaved 20 = .ok (.iconst 1, 1) := by decide +kernel
theorem dX3_dropOldestSaved_21 : decode cX3_dropOldestSaved 21 = .ok (.isub, 1) := by decide +kernel
theorem dX3_dropOldestSaved_22 : decode cX3_dropOldestSaved 22 = .ok (.aload_n 0, 1) := by decide +kernel
theorem dX3_dropOldestSaved_23 : decode cX3_dropOldestSaved 23 = .ok (.getfield 19, 3) := by decide +kernel
theorem dX3_dropOldestSaved_26 : decode cX3_dropOldestSaved 26 = .ok (.iload_n 2, 1) := by decide +kernel
theorem dX3_dropOldestSaved_27 : decode cX3_dropOldestSaved 27 = .ok (.aaload, 1) := by decide +kernel
theorem dX3_dropOldestSaved_28 : decode cX3_dropOldestSaved 28 = .ok (.aastore, 1) := by decide +kernel
theorem dX3_dropOldestSaved_29 : decode cX3_dropOldestSaved 29 = .ok (.iinc 2 1, 3) := by decide +kernel
theorem dX3_dropOldestSaved_32 : decode cX3_dropOldestSaved 32 = .ok (.goto (-23), 3) := by decide +kernel
theorem dX3_dropOldestSaved_35 : decode cX3_dropOldestSaved 35 = .ok (.aload_n 0, 1) := by decide +kernel
theorem dX3_dropOldestSaved_36 : decode cX3_dropOldestSaved 36 = .ok (.getfield 19, 3) := by decide +kernel
theorem dX3_dropOldestSaved_39 : decode cX3_dropOldestSaved 39 = .ok (.iconst 5, 1) := by decide +kernel
theorem dX3_dropOldestSaved_40 : decode cX3_dropOldestSaved 40 = .ok (.aload_n 1, 1) := by decide +kernel
theorem dX3_dropOldestSaved_41 : decode cX3_dropOldestSaved 41 = .ok (.aastore, 1) := by decide +kernel
theorem dX3_dropOldestSaved_42 : decode cX3_dropOldestSaved 42 = .ok (.aload_n 0, 1) := by decide +kernel
theorem dX3_dropOldestSaved_43 : decode cX3_dropOldestSaved 43 = .ok (.iconst 5, 1) := by decide +kernel
theorem dX3_dropOldestSaved_44 : decode cX3_dropOldestSaved 44 = .ok (.putfield 168, 3) := by decide +kernel
theorem dX3_dropOldestSaved_47 : decode cX3_dropOldestSaved 47 = .ok (.return_, 1) := by decide +kernel
theorem dX3_countOf_0 : decode cX3_countOf 0 = .ok (.iload_n 1, 1) := by decide +kernel
theorem dX3_countOf_1 : decode cX3_countOf 1 = .ok (.tableswitch 125 0 8 #[51, 59, 67, 75, 83, 92, 101, 112, 120], 51) := by decide +kernel
theorem dX3_countOf_52 : decode cX3_countOf 52 = .ok (.aload_n 0, 1) := by decide +kernel
theorem dX3_countOf_53 : decode cX3_countOf 53 = .ok (.getfield 10, 3) := by decide +kernel
theorem dX3_countOf_56 : decode cX3_countOf 56 = .ok (.getfield 51, 3) := by decide +kernel
theorem dX3_countOf_59 : decode cX3_countOf 59 = .ok (.ireturn, 1) := by decide +kernel
theorem dX3_countOf_60 : decode cX3_countOf 60 = .ok (.aload_n 0, 1) := by decide +kernel
theorem dX3_countOf_61 : decode cX3_countOf 61 = .ok (.getfield 10, 3) := by decide +kernel
theorem dX3_countOf_64 : decode cX3_countOf 64 = .ok (.getfield 134, 3) := by decide +kernel
theorem dX3_countOf_67 : decode cX3_countOf 67 = .ok (.ireturn, 1) := by decide +kernel
theorem dX3_countOf_68 : decode cX3_countOf 68 = .ok (.aload_n 0, 1) := by decide +kernel
theorem dX3_countOf_69 : decode cX3_countOf 69 = .ok (.getfield 10, 3) := by decide +kernel
theorem dX3_countOf_72 : decode cX3_countOf 72 = .ok (.getfield 101, 3) := by decide +kernel
theorem dX3_countOf_75 : decode cX3_countOf 75 = .ok (.ireturn, 1) := by decide +kernel
theorem dX3_countOf_76 : decode cX3_countOf 76 = .ok (.aload_n 0, 1) := by decide +kernel
theorem dX3_countOf_77 : decode cX3_countOf 77 = .ok (.getfield 10, 3) := by decide +kernel
theorem dX3_countOf_80 : decode cX3_countOf 80 = .ok (.getfield 106, 3) := by decide +kernel
theorem dX3_countOf_83 : decode cX3_countOf 83 = .ok (.ireturn, 1) := by decide +kernel
theorem dX3_countOf_84 : decode cX3_countOf 84 = .ok (.aload_n 0, 1) := by decide +kernel
theorem dX3_countOf_85 : decode cX3_countOf 85 = .ok (.getfield 10, 3) := by decide +kernel
theorem dX3_countOf_88 : decode cX3_countOf 88 = .ok (.iconst 3, 1) := by decide +kernel
theorem dX3_countOf_89 : decode cX3_countOf 89 = .ok (.invokevirtual 205, 3) := by decide +kernel
theorem dX3_countOf_92 : decode cX3_countOf 92 = .ok (.ireturn, 1) := by decide +kernel
theorem dX3_countOf_93 : decode cX3_countOf 93 = .ok (.aload_n 0, 1) := by decide +kernel
theorem dX3_countOf_94 : decode cX3_countOf 94 = .ok (.getfield 10, 3) := by decide +kernel
theorem dX3_countOf_97 : decode cX3_countOf 97 = .ok (.iconst 5, 1) := by decide +kernel
theorem dX3_countOf_98 : decode cX3_countOf 98 = .ok (.invokevirtual 205, 3) := by decide +kernel
theorem dX3_countOf_101 : decode cX3_countOf 101 = .ok (.ireturn, 1) := by decide +kernel
theorem dX3_countOf_102 : decode cX3_countOf 102 = .ok (.aload_n 0, 1) := by decide +kernel
theorem dX3_countOf_103 : decode cX3_countOf 103 = .ok (.getfield 10, 3) := by decide +kernel
theorem dX3_countOf_106 : decode cX3_countOf 106 = .ok (.getfield 187, 3) := by decide +kernel
theorem dX3_countOf_109 : decode cX3_countOf 109 = .ok (.getfield 191, 3) := by decide +kernel
theorem dX3_countOf_112 : decode cX3_countOf 112 = .ok (.ireturn, 1) := by decide +kernel
theorem dX3_countOf_113 : decode cX3_countOf 113 = .ok (.aload_n 0, 1) := by decide +kernel
theorem dX3_countOf_114 : decode cX3_countOf 114 = .ok (.getfield 10, 3) := by decide +kernel
theorem dX3_countOf_117 : decode cX3_countOf 117 = .ok (.invokevirtual 277, 3) := by decide +kernel
theorem dX3_countOf_120 : decode cX3_countOf 120 = .ok (.ireturn, 1) := by decide +kernel
theorem dX3_countOf_121 : decode cX3_countOf 121 = .ok (.aload_n 0, 1) := by decide +kernel
theorem dX3_countOf_122 : decode cX3_countOf 122 = .ok (.getfield 168, 3) := by decide +kernel
theorem dX3_countOf_125 : decode cX3_countOf 125 = .ok (.ireturn, 1) := by decide +kernel
theorem dX3_countOf_126 : decode cX3_countOf 126 = .ok (.aload_n 0, 1) := by decide +kernel
theorem dX3_countOf_127 : decode cX3_countOf 127 = .ok (.getfield 16, 3) := by decide +kernel
theorem dX3_countOf_130 : decode cX3_countOf 130 = .ok (.aload_n 0, 1) := by decide +kernel
theorem dX3_countOf_131 : decode cX3_countOf 131 = .ok (.getfield 10, 3) := by decide +kernel
theorem dX3_countOf_134 : decode cX3_countOf 134 = .ok (.invokevirtual 164, 3) := by decide +kernel
theorem dX3_countOf_137 : decode cX3_countOf 137 = .ok (.aload_n 0, 1) := by decide +kernel
theorem dX3_countOf_138 : decode cX3_countOf 138 = .ok (.getfield 16, 3) := by decide +kernel
theorem dX3_countOf_141 : decode cX3_countOf 141 = .ok (.invokevirtual 139, 3) := by decide +kernel
theorem dX3_countOf_144 : decode cX3_countOf 144 = .ok (.pop, 1) := by decide +kernel
theorem dX3_countOf_145 : decode cX3_countOf 145 = .ok (.aload_n 0, 1) := by decide +kernel
theorem dX3_countOf_146 : decode cX3_countOf 146 = .ok (.getfield 16, 3) := by decide +kernel
theorem dX3_countOf_149 : decode cX3_countOf 149 = .ok (.invokevirtual 211, 3) := by decide +kernel
theorem dX3_countOf_152 : decode cX3_countOf 152 = .ok (.ifCond .eq 7, 3) := by decide +kernel
theorem dX3_countOf_155 : decode cX3_countOf 155 = .ok (.iconst 1, 1) := by decide +kernel
theorem dX3_countOf_156 : decode cX3_countOf 156 = .ok (.goto 4, 3) := by decide +kernel
theorem dX3_countOf_159 : decode cX3_countOf 159 = .ok (.iconst 0, 1) := by decide +kernel
theorem dX3_countOf_160 : decode cX3_countOf 160 = .ok (.ireturn, 1) := by decide +kernel
theorem dL_cell_0 : decode cL_cell 0 = .ok (.iload_n 1, 1) := by decide +kernel
theorem dL_cell_1 : decode cL_cell 1 = .ok (.aload_n 0, 1) := by decide +kernel
theorem dL_cell_2 : decode cL_cell 2 = .ok (.arraylength, 1) := by decide +kernel
theorem dL_cell_3 : decode cL_cell 3 = .ok (.if_icmp .ge 9, 3) := by decide +kernel
theorem dL_cell_6 : decode cL_cell 6 = .ok (.aload_n 0, 1) := by decide +kernel
theorem dL_cell_7 : decode cL_cell 7 = .ok (.iload_n 1, 1) := by decide +kernel
theorem dL_cell_8 : decode cL_cell 8 = .ok (.iaload, 1) := by decide +kernel
theorem dL_cell_9 : decode cL_cell 9 = .ok (.goto 9, 3) := by decide +kernel
theorem dL_cell_12 : decode cL_cell 12 = .ok (.ldc 7, 2) := by decide +kernel
theorem dL_cell_14 : decode cL_cell 14 = .ok (.iload_n 1, 1) := by decide +kernel
theorem dL_cell_15 : decode cL_cell 15 = .ok (.iconst 1, 1) := by decide +kernel
theorem dL_cell_16 : decode cL_cell 16 = .ok (.iadd, 1) := by decide +kernel
theorem dL_cell_17 : decode cL_cell 17 = .ok (.imul, 1) := by decide +kernel
theorem dL_cell_18 : decode cL_cell 18 = .ok (.ireturn, 1) := by decide +kernel
theorem dL_at_0 : decode cL_at 0 = .ok (.iload_n 0, 1) := by decide +kernel
theorem dL_at_1 : decode cL_at 1 = .ok (.iconst 1, 1) := by decide +kernel
theorem dL_at_2 : decode cL_at 2 = .ok (.iushr, 1) := by decide +kernel
theorem dL_at_3 : decode cL_at 3 = .ok (.iload_n 1, 1) := by decide +kernel
theorem dL_at_4 : decode cL_at 4 = .ok (.irem, 1) := by decide +kernel
theorem dL_at_5 : decode cL_at 5 = .ok (.ireturn, 1) := by decide +kernel
theorem dL_flag_0 : decode cL_flag 0 = .ok (.aload_n 2, 1) := by decide +kernel
theorem dL_flag_1 : decode cL_flag 1 = .ok (.bipush 9, 2) := by decide +kernel
theorem dL_flag_3 : decode cL_flag 3 = .ok (.iload_n 0, 1) := by decide +kernel
theorem dL_flag_4 : decode cL_flag 4 = .ok (.imul, 1) := by decide +kernel
theorem dL_flag_5 : decode cL_flag 5 = .ok (.iconst 4, 1) := by decide +kernel
theorem dL_flag_6 : decode cL_flag 6 = .ok (.iadd, 1) := by decide +kernel
theorem dL_flag_7 : decode cL_flag 7 = .ok (.iaload, 1) := by decide +kernel
theorem dL_flag_8 : decode cL_flag 8 = .ok (.iconst 2, 1) := by decide +kernel
theorem dL_flag_9 : decode cL_flag 9 = .ok (.if_icmp .eq 43, 3) := by decide +kernel
theorem dL_flag_12 : decode cL_flag 12 = .ok (.aload_n 2, 1) := by decide +kernel
theorem dL_flag_13 : decode cL_flag 13 = .ok (.bipush 9, 2) := by decide +kernel
theorem dL_flag_15 : decode cL_flag 15 = .ok (.iload_n 0, 1) := by decide +kernel
theorem dL_flag_16 : decode cL_flag 16 = .ok (.imul, 1) := by decide +kernel
theorem dL_flag_17 : decode cL_flag 17 = .ok (.iconst 4, 1) := by decide +kernel
theorem dL_flag_18 : decode cL_flag 18 = .ok (.iadd, 1) := by decide +kernel
theorem dL_flag_19 : decode cL_flag 19 = .ok (.iaload, 1) := by decide +kernel
theorem dL_flag_20 : decode cL_flag 20 = .ok (.ifCond .ne 36, 3) := by decide +kernel
theorem dL_flag_23 : decode cL_flag 23 = .ok (.bipush 100, 2) := by decide +kernel
theorem dL_flag_25 : decode cL_flag 25 = .ok (.aload_n 2, 1) := by decide +kernel
theorem dL_flag_26 : decode cL_flag 26 = .ok (.bipush 9, 2) := by decide +kernel
theorem dL_flag_28 : decode cL_flag 28 = .ok (.iload_n 0, 1) := by decide +kernel
theorem dL_flag_29 : decode cL_flag 29 = .ok (.imul, 1) := by decide +kernel
theorem dL_flag_30 : decode cL_flag 30 = .ok (.iconst 3, 1) := by decide +kernel
theorem dL_flag_31 : decode cL_flag 31 = .ok (.iadd, 1) := by decide +kernel
theorem dL_flag_32 : decode cL_flag 32 = .ok (.iaload, 1) := by decide +kernel
theorem dL_flag_33 : decode cL_flag 33 = .ok (.imul, 1) := by decide +kernel
theorem dL_flag_34 : decode cL_flag 34 = .ok (.aload_n 1, 1) := by decide +kernel
theorem dL_flag_35 : decode cL_flag 35 = .ok (.bipush 7, 2) := by decide +kernel
theorem dL_flag_37 : decode cL_flag 37 = .ok (.iload_n 0, 1) := by decide +kernel
theorem dL_flag_38 : decode cL_flag 38 = .ok (.imul, 1) := by decide +kernel
theorem dL_flag_39 : decode cL_flag 39 = .ok (.iaload, 1) := by decide +kernel
theorem dL_flag_40 : decode cL_flag 40 = .ok (.aload_n 1, 1) := by decide +kernel
theorem dL_flag_41 : decode cL_flag 41 = .ok (.bipush 7, 2) := by decide +kernel
theorem dL_flag_43 : decode cL_flag 43 = .ok (.iload_n 0, 1) := by decide +kernel
theorem dL_flag_44 : decode cL_flag 44 = .ok (.imul, 1) := by decide +kernel
theorem dL_flag_45 : decode cL_flag 45 = .ok (.iconst 3, 1) := by decide +kernel
theorem dL_flag_46 : decode cL_flag 46 = .ok (.iadd, 1) := by decide +kernel
theorem dL_flag_47 : decode cL_flag 47 = .ok (.iaload, 1) := by decide +kernel
theorem dL_flag_48 : decode cL_flag 48 = .ok (.imul, 1) := by decide +kernel
theorem dL_flag_49 : decode cL_flag 49 = .ok (.if_icmp .lt 7, 3) := by decide +kernel
theorem dL_flag_52 : decode cL_flag 52 = .ok (.iconst 1, 1) := by decide +kernel
theorem dL_flag_53 : decode cL_flag 53 = .ok (.goto 4, 3) := by decide +kernel
theorem dL_flag_56 : decode cL_flag 56 = .ok (.iconst 0, 1) := by decide +kernel
theorem dL_flag_57 : decode cL_flag 57 = .ok (.ireturn, 1) := by decide +kernel
theorem dL_enter_0 : decode cL_enter 0 = .ok (.aload_n 2, 1) := by decide +kernel
theorem dL_enter_1 : decode cL_enter 1 = .ok (.bipush 9, 2) := by decide +kernel
theorem dL_enter_3 : decode cL_enter 3 = .ok (.iload_n 0, 1) := by decide +kernel
theorem dL_enter_4 : decode cL_enter 4 = .ok (.imul, 1) := by decide +kernel
theorem dL_enter_5 : decode cL_enter 5 = .ok (.iconst 2, 1) := by decide +kernel
theorem dL_enter_6 : decode cL_enter 6 = .ok (.iadd, 1) := by decide +kernel
theorem dL_enter_7 : decode cL_enter 7 = .ok (.iload_n 1, 1) := by decide +kernel
theorem dL_enter_8 : decode cL_enter 8 = .ok (.iastore, 1) := by decide +kernel
theorem dL_enter_9 : decode cL_enter 9 = .ok (.aload 5, 2) := by decide +kernel
theorem dL_enter_11 : decode cL_enter 11 = .ok (.iconst 4, 1) := by decide +kernel
theorem dL_enter_12 : decode cL_enter 12 = .ok (.dup2, 1) := by decide +kernel
theorem dL_enter_13 : decode cL_enter 13 = .ok (.iaload, 1) := by decide +kernel
theorem dL_enter_14 : decode cL_enter 14 = .ok (.iconst 1, 1) := by decide +kernel
theorem dL_enter_15 : decode cL_enter 15 = .ok (.iadd, 1) := by decide +kernel
theorem dL_enter_16 : decode cL_enter 16 = .ok (.iastore, 1) := by decide +kernel
theorem dL_enter_17 : decode cL_enter 17 = .ok (.iload_n 1, 1) := by decide +kernel
theorem dL_enter_18 : decode cL_enter 18 = .ok (.iconst 3, 1) := by decide +kernel
theorem dL_enter_19 : decode cL_enter 19 = .ok (.if_icmp .le 13, 3) := by decide +kernel
theorem dL_enter_22 : decode cL_enter 22 = .ok (.aload 5, 2) := by decide +kernel
theorem dL_enter_24 : decode cL_enter 24 = .ok (.iconst 5, 1) := by decide +kernel
theorem dL_enter_25 : decode cL_enter 25 = .ok (.dup2, 1) := by decide +kernel
theorem dL_enter_26 : decode cL_enter 26 = .ok (.iaload, 1) := by decide +kernel
theorem dL_enter_27 : decode cL_enter 27 = .ok (.iconst 1, 1) := by decide +kernel
theorem dL_enter_28 : decode cL_enter 28 = .ok (.iload_n 0, 1) := by decide +kernel
theorem dL_enter_29 : decode cL_enter 29 = .ok (.ishl, 1) := by decide +kernel
theorem dL_enter_30 : decode cL_enter 30 = .ok (.ior, 1) := by decide +kernel
theorem dL_enter_31 : decode cL_enter 31 = .ok (.iastore, 1) := by decide +kernel
theorem dL_enter_32 : decode cL_enter 32 = .ok (.iload_n 1, 1) := by decide +kernel
theorem dL_enter_33 : decode cL_enter 33 = .ok (.iconst 2, 1) := by decide +kernel
theorem dL_enter_34 : decode cL_enter 34 = .ok (.if_icmp .eq 8, 3) := by decide +kernel
theorem dL_enter_37 : decode cL_enter 37 = .ok (.iload_n 1, 1) := by decide +kernel
theorem dL_enter_38 : decode cL_enter 38 = .ok (.iconst 3, 1) := by decide +kernel
theorem dL_enter_39 : decode cL_enter 39 = .ok (.if_icmp .ne 16, 3) := by decide +kernel
theorem dL_enter_42 : decode cL_enter 42 = .ok (.aload_n 3, 1) := by decide +kernel
theorem dL_enter_43 : decode cL_enter 43 = .ok (.iconst 4, 1) := by decide +kernel
theorem dL_enter_44 : decode cL_enter 44 = .ok (.iload_n 0, 1) := by decide +kernel
theorem dL_enter_45 : decode cL_enter 45 = .ok (.imul, 1) := by decide +kernel
theorem dL_enter_46 : decode cL_enter 46 = .ok (.iload_n 1, 1) := by decide +kernel
theorem dL_enter_47 : decode cL_enter 47 = .ok (.iadd, 1) := by decide +kernel
theorem dL_enter_48 : decode cL_enter 48 = .ok (.iconst 2, 1) := by decide +kernel
theorem dL_enter_49 : decode cL_enter 49 = .ok (.isub, 1) := by decide +kernel
theorem dL_enter_50 : decode cL_enter 50 = .ok (.dup2, 1) := by decide +kernel
theorem dL_enter_51 : decode cL_enter 51 = .ok (.iaload, 1) := by decide +kernel
theorem dL_enter_52 : decode cL_enter 52 = .ok (.iconst 1, 1) := by decide +kernel
theorem dL_enter_53 : decode cL_enter 53 = .ok (.iadd, 1) := by decide +kernel
theorem dL_enter_54 : decode cL_enter 54 = .ok (.iastore, 1) := by decide +kernel
theorem dL_enter_55 : decode cL_enter 55 = .ok (.bipush 59, 2) := by decide +kernel
theorem dL_enter_57 : decode cL_enter 57 = .ok (.istore 6, 2) := by decide +kernel
theorem dL_enter_59 : decode cL_enter 59 = .ok (.iload 6, 2) := by decide +kernel
theorem dL_enter_61 : decode cL_enter 61 = .ok (.ifCond .lt 21, 3) := by decide +kernel
theorem dL_enter_64 : decode cL_enter 64 = .ok (.aload 4, 2) := by decide +kernel
theorem dL_enter_66 : decode cL_enter 66 = .ok (.iload 6, 2) := by decide +kernel
theorem dL_enter_68 : decode cL_enter 68 = .ok (.iconst 4, 1) := by decide +kernel
theorem dL_enter_69 : decode cL_enter 69 = .ok (.iadd, 1) := by decide +kernel
theorem dL_enter_70 : decode cL_enter 70 = .ok (.aload 4, 2) := by decide +kernel
theorem dL_enter_72 : decode cL_enter 72 = .ok (.iload 6, 2) := by decide +kernel
theorem dL_enter_74 : decode cL_enter 74 = .ok (.iaload, 1) := by decide +kernel
theorem dL_enter_75 : decode cL_enter 75 = .ok (.iastore, 1) := by decide +kernel
theorem dL_enter_76 : decode cL_enter 76 = .ok (.iinc 6 (-1), 3) := by decide +kernel
theorem dL_enter_79 : decode cL_enter 79 = .ok (.goto (-20), 3) := by decide +kernel
theorem dL_enter_82 : decode cL_enter 82 = .ok (.aload 4, 2) := by decide +kernel
theorem dL_enter_84 : decode cL_enter 84 = .ok (.iconst 0, 1) := by decide +kernel
theorem dL_enter_85 : decode cL_enter 85 = .ok (.aload 5, 2) := by decide +kernel
theorem dL_enter_87 : decode cL_enter 87 = .ok (.iconst 2, 1) := by decide +kernel
theorem dL_enter_88 : decode cL_enter 88 = .ok (.iaload, 1) := by decide +kernel
theorem dL_enter_89 : decode cL_enter 89 = .ok (.iastore, 1) := by decide +kernel
theorem dL_enter_90 : decode cL_enter 90 = .ok (.aload 4, 2) := by decide +kernel
theorem dL_enter_92 : decode cL_enter 92 = .ok (.iconst 1, 1) := by decide +kernel
theorem dL_enter_93 : decode cL_enter 93 = .ok (.iload_n 0, 1) := by decide +kernel
theorem dL_enter_94 : decode cL_enter 94 = .ok (.iastore, 1) := by decide +kernel
theorem dL_enter_95 : decode cL_enter 95 = .ok (.aload 4, 2) := by decide +kernel
theorem dL_enter_97 : decode cL_enter 97 = .ok (.iconst 2, 1) := by decide +kernel
theorem dL_enter_98 : decode cL_enter 98 = .ok (.iload_n 1, 1) := by decide +kernel
theorem dL_enter_99 : decode cL_enter 99 = .ok (.iastore, 1) := by decide +kernel
theorem dL_enter_100 : decode cL_enter 100 = .ok (.aload 4, 2) := by decide +kernel
theorem dL_enter_102 : decode cL_enter 102 = .ok (.iconst 3, 1) := by decide +kernel
theorem dL_enter_103 : decode cL_enter 103 = .ok (.aload_n 2, 1) := by decide +kernel
theorem dL_enter_104 : decode cL_enter 104 = .ok (.bipush 9, 2) := by decide +kernel
theorem dL_enter_106 : decode cL_enter 106 = .ok (.iload_n 0, 1) := by decide +kernel
theorem dL_enter_107 : decode cL_enter 107 = .ok (.imul, 1) := by decide +kernel
theorem dL_enter_108 : decode cL_enter 108 = .ok (.bipush 8, 2) := by decide +kernel
theorem dL_enter_110 : decode cL_enter 110 = .ok (.iadd, 1) := by decide +kernel
theorem dL_enter_111 : decode cL_enter 111 = .ok (.iaload, 1) := by decide +kernel
theorem dL_enter_112 : decode cL_enter 112 = .ok (.iastore, 1) := by decide +kernel
theorem dL_enter_113 : decode cL_enter 113 = .ok (.aload 5, 2) := by decide +kernel
theorem dL_enter_115 : decode cL_enter 115 = .ok (.iconst 3, 1) := by decide +kernel
theorem dL_enter_116 : decode cL_enter 116 = .ok (.iaload, 1) := by decide +kernel
theorem dL_enter_117 : decode cL_enter 117 = .ok (.bipush 16, 2) := by decide +kernel
theorem dL_enter_119 : decode cL_enter 119 = .ok (.if_icmp .ge 11, 3) := by decide +kernel
theorem dL_enter_122 : decode cL_enter 122 = .ok (.aload 5, 2) := by decide +kernel
theorem dL_enter_124 : decode cL_enter 124 = .ok (.iconst 3, 1) := by decide +kernel
theorem dL_enter_125 : decode cL_enter 125 = .ok (.dup2, 1) := by decide +kernel
theorem dL_enter_126 : decode cL_enter 126 = .ok (.iaload, 1) := by decide +kernel
theorem dL_enter_127 : decode cL_enter 127 = .ok (.iconst 1, 1) := by decide +kernel
theorem dL_enter_128 : decode cL_enter 128 = .ok (.iadd, 1) := by decide +kernel
theorem dL_enter_129 : decode cL_enter 129 = .ok (.iastore, 1) := by decide +kernel
theorem dL_enter_130 : decode cL_enter 130 = .ok (.return_, 1) := by decide +kernel
theorem dL_next_0 : decode cL_next 0 = .ok (.bipush 9, 2) := by decide +kernel
theorem dL_next_2 : decode cL_next 2 = .ok (.iload_n 0, 1) := by decide +kernel
theorem dL_next_3 : decode cL_next 3 = .ok (.imul, 1) := by decide +kernel
theorem dL_next_4 : decode cL_next 4 = .ok (.istore 5, 2) := by decide +kernel
theorem dL_next_6 : decode cL_next 6 = .ok (.iconst (-1), 1) := by decide +kernel
theorem dL_next_7 : decode cL_next 7 = .ok (.istore 6, 2) := by decide +kernel
theorem dL_next_9 : decode cL_next 9 = .ok (.iconst 0, 1) := by decide +kernel
theorem dL_next_10 : decode cL_next 10 = .ok (.istore 7, 2) := by decide +kernel
theorem dL_next_12 : decode cL_next 12 = .ok (.iload 7, 2) := by decide +kernel
theorem dL_next_14 : decode cL_next 14 = .ok (.iload_n 0, 1) := by decide +kernel
theorem dL_next_15 : decode cL_next 15 = .ok (.if_icmp .ge 54, 3) := by decide +kernel
theorem dL_next_18 : decode cL_next 18 = .ok (.iload 6, 2) := by decide +kernel
theorem dL_next_20 : decode cL_next 20 = .ok (.ifCond .ge 49, 3) := by decide +kernel
theorem dL_next_23 : decode cL_next 23 = .ok (.aload_n 3, 1) := by decide +kernel
theorem dL_next_24 : decode cL_next 24 = .ok (.iload 5, 2) := by decide +kernel
theorem dL_next_26 : decode cL_next 26 = .ok (.iaload, 1) := by decide +kernel
theorem dL_next_27 : decode cL_next 27 = .ok (.iload 7, 2) := by decide +kernel
theorem dL_next_29 : decode cL_next 29 = .ok (.ishr, 1) := by decide +kernel
theorem dL_next_30 : decode cL_next 30 = .ok (.iconst 1, 1) := by decide +kernel
theorem dL_next_31 : decode cL_next 31 = .ok (.iand, 1) := by decide +kernel
theorem dL_next_32 : decode cL_next 32 = .ok (.iconst 1, 1) := by decide +kernel
theorem dL_next_33 : decode cL_next 33 = .ok (.if_icmp .ne 30, 3) := by decide +kernel
theorem dL_next_36 : decode cL_next 36 = .ok (.iload_n 1, 1) := by decide +kernel
theorem dL_next_37 : decode cL_next 37 = .ok (.iconst 3, 1) := by decide +kernel
theorem dL_next_38 : decode cL_next 38 = .ok (.iload 7, 2) := by decide +kernel
theorem dL_next_40 : decode cL_next 40 = .ok (.imul, 1) := by decide +kernel
theorem dL_next_41 : decode cL_next 41 = .ok (.ishr, 1) := by decide +kernel
theorem dL_next_42 : decode cL_next 42 = .ok (.bipush 7, 2) := by decide +kernel
theorem dL_next_44 : decode cL_next 44 = .ok (.iand, 1) := by decide +kernel
theorem dL_next_45 : decode cL_next 45 = .ok (.iconst 3, 1) := by decide +kernel
theorem dL_next_46 : decode cL_next 46 = .ok (.if_icmp .ne 13, 3) := by decide +kernel
theorem dL_next_49 : decode cL_next 49 = .ok (.iload 7, 2) := by decide +kernel
theorem dL_next_51 : decode cL_next 51 = .ok (.aload_n 2, 1) := by decide +kernel
theorem dL_next_52 : decode cL_next 52 = .ok (.aload_n 3, 1) := by decide +kernel
theorem dL_next_53 : decode cL_next 53 = .ok (.invokestatic 8, 3) := by decide +kernel
theorem dL_next_56 : decode cL_next 56 = .ok (.ifCond .ne 7, 3) := by decide +kernel
theorem dL_next_59 : decode cL_next 59 = .ok (.iload 7, 2) := by decide +kernel
theorem dL_next_61 : decode cL_next 61 = .ok (.istore 6, 2) := by decide +kernel
theorem dL_next_63 : decode cL_next 63 = .ok (.iinc 7 1, 3) := by decide +kernel
theorem dL_next_66 : decode cL_next 66 = .ok (.goto (-54), 3) := by decide +kernel
theorem dL_next_69 : decode cL_next 69 = .ok (.aload_n 3, 1) := by decide +kernel
theorem dL_next_70 : decode cL_next 70 = .ok (.iload 5, 2) := by decide +kernel
theorem dL_next_72 : decode cL_next 72 = .ok (.iconst 1, 1) := by decide +kernel
theorem dL_next_73 : decode cL_next 73 = .ok (.iadd, 1) := by decide +kernel
theorem dL_next_74 : decode cL_next 74 = .ok (.iaload, 1) := by decide +kernel
theorem dL_next_75 : decode cL_next 75 = .ok (.iconst 1, 1) := by decide +kernel
theorem dL_next_76 : decode cL_next 76 = .ok (.if_icmp .ne 7, 3) := by decide +kernel
theorem dL_next_79 : decode cL_next 79 = .ok (.iconst 1, 1) := by decide +kernel
theorem dL_next_80 : decode cL_next 80 = .ok (.goto 4, 3) := by decide +kernel
theorem dL_next_83 : decode cL_next 83 = .ok (.iconst 0, 1) := by decide +kernel
theorem dL_next_84 : decode cL_next 84 = .ok (.istore 7, 2) := by decide +kernel
theorem dL_next_86 : decode cL_next 86 = .ok (.aload_n 3, 1) := by decide +kernel
theorem dL_next_87 : decode cL_next 87 = .ok (.iload 5, 2) := by decide +kernel
theorem dL_next_89 : decode cL_next 89 = .ok (.iconst 3, 1) := by decide +kernel
theorem dL_next_90 : decode cL_next 90 = .ok (.iadd, 1) := by decide +kernel
theorem dL_next_91 : decode cL_next 91 = .ok (.iaload, 1) := by decide +kernel
theorem dL_next_92 : decode cL_next 92 = .ok (.aload 4, 2) := by decide +kernel
theorem dL_next_94 : decode cL_next 94 = .ok (.iconst 1, 1) := by decide +kernel
theorem dL_next_95 : decode cL_next 95 = .ok (.iaload, 1) := by decide +kernel
theorem dL_next_96 : decode cL_next 96 = .ok (.if_icmp .gt 7, 3) := by decide +kernel
theorem dL_next_99 : decode cL_next 99 = .ok (.iconst 1, 1) := by decide +kernel
theorem dL_next_100 : decode cL_next 100 = .ok (.goto 4, 3) := by decide +kernel
theorem dL_next_103 : decode cL_next 103 = .ok (.iconst 0, 1) := by decide +kernel
theorem dL_next_104 : decode cL_next 104 = .ok (.istore 8, 2) := by decide +kernel
theorem dL_next_106 : decode cL_next 106 = .ok (.iload_n 1, 1) := by decide +kernel
theorem dL_next_107 : decode cL_next 107 = .ok (.iconst 3, 1) := by decide +kernel
theorem dL_next_108 : decode cL_next 108 = .ok (.iload_n 0, 1) := by decide +kernel
theorem dL_next_109 : decode cL_next 109 = .ok (.imul, 1) := by decide +kernel
theorem dL_next_110 : decode cL_next 110 = .ok (.ishr, 1) := by decide +kernel
theorem dL_next_111 : decode cL_next 111 = .ok (.bipush 7, 2) := by decide +kernel
theorem dL_next_113 : decode cL_next 113 = .ok (.iand, 1) := by decide +kernel
theorem dL_next_114 : decode cL_next 114 = .ok (.istore 9, 2) := by decide +kernel
theorem dL_next_116 : decode cL_next 116 = .ok (.iload 9, 2) := by decide +kernel
theorem dL_next_118 : decode cL_next 118 = .ok (.ifCond .ne 14, 3) := by decide +kernel
theorem dL_next_121 : decode cL_next 121 = .ok (.iload 7, 2) := by decide +kernel
theorem dL_next_123 : decode cL_next 123 = .ok (.ifCond .eq 7, 3) := by decide +kernel
theorem dL_next_126 : decode cL_next 126 = .ok (.iconst 1, 1) := by decide +kernel
theorem dL_next_127 : decode cL_next 127 = .ok (.goto 4, 3) := by decide +kernel
theorem dL_next_130 : decode cL_next 130 = .ok (.iconst (-1), 1) := by decide +kernel
theorem dL_next_131 : decode cL_next 131 = .ok (.ireturn, 1) := by decide +kernel
theorem dL_next_132 : decode cL_next 132 = .ok (.iload 9, 2) := by decide +kernel
theorem dL_next_134 : decode cL_next 134 = .ok (.iconst 1, 1) := by decide +kernel
theorem dL_next_135 : decode cL_next 135 = .ok (.if_icmp .ne 46, 3) := by decide +kernel
theorem dL_next_138 : decode cL_next 138 = .ok (.iload 7, 2) := by decide +kernel
theorem dL_next_140 : decode cL_next 140 = .ok (.ifCond .ne 7, 3) := by decide +kernel
theorem dL_next_143 : decode cL_next 143 = .ok (.iconst 0, 1) := by decide +kernel
theorem dL_next_144 : decode cL_next 144 = .ok (.goto 36, 3) := by decide +kernel
theorem dL_next_147 : decode cL_next 147 = .ok (.iload 8, 2) := by decide +kernel
theorem dL_next_149 : decode cL_next 149 = .ok (.ifCond .eq 30, 3) := by decide +kernel
theorem dL_next_152 : decode cL_next 152 = .ok (.iload 6, 2) := by decide +kernel
theorem dL_next_154 : decode cL_next 154 = .ok (.ifCond .ge 25, 3) := by decide +kernel
theorem dL_next_157 : decode cL_next 157 = .ok (.aload_n 3, 1) := by decide +kernel
theorem dL_next_158 : decode cL_next 158 = .ok (.iload 5, 2) := by decide +kernel
theorem dL_next_160 : decode cL_next 160 = .ok (.bipush 6, 2) := by decide +kernel
theorem dL_next_162 : decode cL_next 162 = .ok (.iadd, 1) := by decide +kernel
theorem dL_next_163 : decode cL_next 163 = .ok (.iaload, 1) := by decide +kernel
theorem dL_next_164 : decode cL_next 164 = .ok (.aload_n 2, 1) := by decide +kernel
theorem dL_next_165 : decode cL_next 165 = .ok (.bipush 7, 2) := by decide +kernel
theorem dL_next_167 : decode cL_next 167 = .ok (.iload_n 0, 1) := by decide +kernel
theorem dL_next_168 : decode cL_next 168 = .ok (.imul, 1) := by decide +kernel
theorem dL_next_169 : decode cL_next 169 = .ok (.iconst 4, 1) := by decide +kernel
theorem dL_next_170 : decode cL_next 170 = .ok (.iadd, 1) := by decide +kernel
theorem dL_next_171 : decode cL_next 171 = .ok (.iaload, 1) := by decide +kernel
theorem dL_next_172 : decode cL_next 172 = .ok (.if_icmp .lt 7, 3) := by decide +kernel
theorem dL_next_175 : decode cL_next 175 = .ok (.iconst 2, 1) := by decide +kernel
theorem dL_next_176 : decode cL_next 176 = .ok (.goto 4, 3) := by decide +kernel
theorem dL_next_179 : decode cL_next 179 = .ok (.iconst (-1), 1) := by decide +kernel
theorem dL_next_180 : decode cL_next 180 = .ok (.ireturn, 1) := by decide +kernel
theorem dL_next_181 : decode cL_next 181 = .ok (.iload 9, 2) := by decide +kernel
theorem dL_next_183 : decode cL_next 183 = .ok (.iconst 4, 1) := by decide +kernel
theorem dL_next_184 : decode cL_next 184 = .ok (.if_icmp .ne 23, 3) := by decide +kernel
theorem dL_next_187 : decode cL_next 187 = .ok (.iload 8, 2) := by decide +kernel
theorem dL_next_189 : decode cL_next 189 = .ok (.ifCond .ne 7, 3) := by decide +kernel
theorem dL_next_192 : decode cL_next 192 = .ok (.iconst (-1), 1) := by decide +kernel
theorem dL_next_193 : decode cL_next 193 = .ok (.goto 13, 3) := by decide +kernel
theorem dL_next_196 : decode cL_next 196 = .ok (.iload 7, 2) := by decide +kernel
theorem dL_next_198 : decode cL_next 198 = .ok (.ifCond .eq 7, 3) := by decide +kernel
theorem dL_next_201 : decode cL_next 201 = .ok (.iconst 1, 1) := by decide +kernel
theorem dL_next_202 : decode cL_next 202 = .ok (.goto 4, 3) := by decide +kernel
theorem dL_next_205 : decode cL_next 205 = .ok (.iconst 0, 1) := by decide +kernel
theorem dL_next_206 : decode cL_next 206 = .ok (.ireturn, 1) := by decide +kernel
theorem dL_next_207 : decode cL_next 207 = .ok (.iload 9, 2) := by decide +kernel
theorem dL_next_209 : decode cL_next 209 = .ok (.iconst 5, 1) := by decide +kernel
theorem dL_next_210 : decode cL_next 210 = .ok (.if_icmp .ne 19, 3) := by decide +kernel
theorem dL_next_213 : decode cL_next 213 = .ok (.iload 7, 2) := by decide +kernel
theorem dL_next_215 : decode cL_next 215 = .ok (.ifCond .ne 12, 3) := by decide +kernel
theorem dL_next_218 : decode cL_next 218 = .ok (.iload 8, 2) := by decide +kernel
theorem dL_next_220 : decode cL_next 220 = .ok (.ifCond .eq 7, 3) := by decide +kernel
theorem dL_next_223 : decode cL_next 223 = .ok (.iconst 0, 1) := by decide +kernel
theorem dL_next_224 : decode cL_next 224 = .ok (.goto 4, 3) := by decide +kernel
theorem dL_next_227 : decode cL_next 227 = .ok (.iconst (-1), 1) := by decide +kernel
theorem dL_next_228 : decode cL_next 228 = .ok (.ireturn, 1) := by decide +kernel
theorem dL_next_229 : decode cL_next 229 = .ok (.iload 9, 2) := by decide +kernel
theorem dL_next_231 : decode cL_next 231 = .ok (.iconst 2, 1) := by decide +kernel
theorem dL_next_232 : decode cL_next 232 = .ok (.if_icmp .ne 11, 3) := by decide +kernel
theorem dL_next_235 : decode cL_next 235 = .ok (.iload 7, 2) := by decide +kernel
theorem dL_next_237 : decode cL_next 237 = .ok (.ifCond .ne 6, 3) := by decide +kernel
theorem dL_next_240 : decode cL_next 240 = .ok (.bipush 24, 2) := by decide +kernel
theorem dL_next_242 : decode cL_next 242 = .ok (.ireturn, 1) := by decide +kernel
theorem dL_next_243 : decode cL_next 243 = .ok (.iload 6, 2) := by decide +kernel
theorem dL_next_245 : decode cL_next 245 = .ok (.ifCond .lt 13, 3) := by decide +kernel
theorem dL_next_248 : decode cL_next 248 = .ok (.iconst 4, 1) := by decide +kernel
theorem dL_next_249 : decode cL_next 249 = .ok (.bipush 20, 2) := by decide +kernel
theorem dL_next_251 : decode cL_next 251 = .ok (.iload 6, 2) := by decide +kernel
theorem dL_next_253 : decode cL_next 253 = .ok (.iconst 2, 1) := by decide +kernel
theorem dL_next_254 : decode cL_next 254 = .ok (.iadd, 1) := by decide +kernel
theorem dL_next_255 : decode cL_next 255 = .ok (.imul, 1) := by decide +kernel
theorem dL_next_256 : decode cL_next 256 = .ok (.iadd, 1) := by decide +kernel
theorem dL_next_257 : decode cL_next 257 = .ok (.ireturn, 1) := by decide +kernel
theorem dL_next_258 : decode cL_next 258 = .ok (.iload 9, 2) := by decide +kernel
theorem dL_next_260 : decode cL_next 260 = .ok (.iconst 2, 1) := by decide +kernel
theorem dL_next_261 : decode cL_next 261 = .ok (.if_icmp .ne 51, 3) := by decide +kernel
theorem dL_next_264 : decode cL_next 264 = .ok (.iload_n 0, 1) := by decide +kernel
theorem dL_next_265 : decode cL_next 265 = .ok (.aload_n 2, 1) := by decide +kernel
theorem dL_next_266 : decode cL_next 266 = .ok (.aload_n 3, 1) := by decide +kernel
theorem dL_next_267 : decode cL_next 267 = .ok (.invokestatic 8, 3) := by decide +kernel
theorem dL_next_270 : decode cL_next 270 = .ok (.ifCond .eq 8, 3) := by decide +kernel
theorem dL_next_273 : decode cL_next 273 = .ok (.bipush 23, 2) := by decide +kernel
theorem dL_next_275 : decode cL_next 275 = .ok (.goto 36, 3) := by decide +kernel
theorem dL_next_278 : decode cL_next 278 = .ok (.aload_n 3, 1) := by decide +kernel
theorem dL_next_279 : decode cL_next 279 = .ok (.iload 5, 2) := by decide +kernel
theorem dL_next_281 : decode cL_next 281 = .ok (.bipush 6, 2) := by decide +kernel
theorem dL_next_283 : decode cL_next 283 = .ok (.iadd, 1) := by decide +kernel
theorem dL_next_284 : decode cL_next 284 = .ok (.iaload, 1) := by decide +kernel
theorem dL_next_285 : decode cL_next 285 = .ok (.iconst 1, 1) := by decide +kernel
theorem dL_next_286 : decode cL_next 286 = .ok (.iadd, 1) := by decide +kernel
theorem dL_next_287 : decode cL_next 287 = .ok (.aload_n 2, 1) := by decide +kernel
theorem dL_next_288 : decode cL_next 288 = .ok (.bipush 7, 2) := by decide +kernel
theorem dL_next_290 : decode cL_next 290 = .ok (.iload_n 0, 1) := by decide +kernel
theorem dL_next_291 : decode cL_next 291 = .ok (.imul, 1) := by decide +kernel
theorem dL_next_292 : decode cL_next 292 = .ok (.iconst 5, 1) := by decide +kernel
theorem dL_next_293 : decode cL_next 293 = .ok (.iadd, 1) := by decide +kernel
theorem dL_next_294 : decode cL_next 294 = .ok (.iaload, 1) := by decide +kernel
theorem dL_next_295 : decode cL_next 295 = .ok (.if_icmp .lt 15, 3) := by decide +kernel
theorem dL_next_298 : decode cL_next 298 = .ok (.bipush 6, 2) := by decide +kernel
theorem dL_next_300 : decode cL_next 300 = .ok (.bipush 20, 2) := by decide +kernel
theorem dL_next_302 : decode cL_next 302 = .ok (.iload_n 0, 1) := by decide +kernel
theorem dL_next_303 : decode cL_next 303 = .ok (.iconst 2, 1) := by decide +kernel
theorem dL_next_304 : decode cL_next 304 = .ok (.iadd, 1) := by decide +kernel
theorem dL_next_305 : decode cL_next 305 = .ok (.imul, 1) := by decide +kernel
theorem dL_next_306 : decode cL_next 306 = .ok (.iadd, 1) := by decide +kernel
theorem dL_next_307 : decode cL_next 307 = .ok (.goto 4, 3) := by decide +kernel
theorem dL_next_310 : decode cL_next 310 = .ok (.iconst (-1), 1) := by decide +kernel
theorem dL_next_311 : decode cL_next 311 = .ok (.ireturn, 1) := by decide +kernel
theorem dL_next_312 : decode cL_next 312 = .ok (.iload_n 0, 1) := by decide +kernel
theorem dL_next_313 : decode cL_next 313 = .ok (.aload_n 2, 1) := by decide +kernel
theorem dL_next_314 : decode cL_next 314 = .ok (.aload_n 3, 1) := by decide +kernel
theorem dL_next_315 : decode cL_next 315 = .ok (.invokestatic 8, 3) := by decide +kernel
theorem dL_next_318 : decode cL_next 318 = .ok (.ifCond .ne 13, 3) := by decide +kernel
theorem dL_next_321 : decode cL_next 321 = .ok (.bipush 6, 2) := by decide +kernel
theorem dL_next_323 : decode cL_next 323 = .ok (.bipush 20, 2) := by decide +kernel
theorem dL_next_325 : decode cL_next 325 = .ok (.iload_n 0, 1) := by decide +kernel
theorem dL_next_326 : decode cL_next 326 = .ok (.iconst 2, 1) := by decide +kernel
theorem dL_next_327 : decode cL_next 327 = .ok (.iadd, 1) := by decide +kernel
theorem dL_next_328 : decode cL_next 328 = .ok (.imul, 1) := by decide +kernel
theorem dL_next_329 : decode cL_next 329 = .ok (.iadd, 1) := by decide +kernel
theorem dL_next_330 : decode cL_next 330 = .ok (.ireturn, 1) := by decide +kernel
theorem dL_next_331 : decode cL_next 331 = .ok (.iload 7, 2) := by decide +kernel
theorem dL_next_333 : decode cL_next 333 = .ok (.ifCond .eq 5, 3) := by decide +kernel
theorem dL_next_336 : decode cL_next 336 = .ok (.iconst (-1), 1) := by decide +kernel
theorem dL_next_337 : decode cL_next 337 = .ok (.ireturn, 1) := by decide +kernel
theorem dL_next_338 : decode cL_next 338 = .ok (.iload_n 0, 1) := by decide +kernel
theorem dL_next_339 : decode cL_next 339 = .ok (.iconst 1, 1) := by decide +kernel
theorem dL_next_340 : decode cL_next 340 = .ok (.iadd, 1) := by decide +kernel
theorem dL_next_341 : decode cL_next 341 = .ok (.istore 10, 2) := by decide +kernel
theorem dL_next_343 : decode cL_next 343 = .ok (.iload 10, 2) := by decide +kernel
theorem dL_next_345 : decode cL_next 345 = .ok (.aload 4, 2) := by decide +kernel
theorem dL_next_347 : decode cL_next 347 = .ok (.iconst 0, 1) := by decide +kernel
theorem dL_next_348 : decode cL_next 348 = .ok (.iaload, 1) := by decide +kernel
theorem dL_next_349 : decode cL_next 349 = .ok (.if_icmp .ge 67, 3) := by decide +kernel
theorem dL_next_352 : decode cL_next 352 = .ok (.aload_n 3, 1) := by decide +kernel
theorem dL_next_353 : decode cL_next 353 = .ok (.bipush 9, 2) := by decide +kernel
theorem dL_next_355 : decode cL_next 355 = .ok (.iload 10, 2) := by decide +kernel
theorem dL_next_357 : decode cL_next 357 = .ok (.imul, 1) := by decide +kernel
theorem dL_next_358 : decode cL_next 358 = .ok (.iaload, 1) := by decide +kernel
theorem dL_next_359 : decode cL_next 359 = .ok (.iload_n 0, 1) := by decide +kernel
theorem dL_next_360 : decode cL_next 360 = .ok (.ishr, 1) := by decide +kernel
theorem dL_next_361 : decode cL_next 361 = .ok (.iconst 1, 1) := by decide +kernel
theorem dL_next_362 : decode cL_next 362 = .ok (.iand, 1) := by decide +kernel
theorem dL_next_363 : decode cL_next 363 = .ok (.iconst 1, 1) := by decide +kernel
theorem dL_next_364 : decode cL_next 364 = .ok (.if_icmp .ne 46, 3) := by decide +kernel
theorem dL_next_367 : decode cL_next 367 = .ok (.aload_n 3, 1) := by decide +kernel
theorem dL_next_368 : decode cL_next 368 = .ok (.bipush 9, 2) := by decide +kernel
theorem dL_next_370 : decode cL_next 370 = .ok (.iload 10, 2) := by decide +kernel
theorem dL_next_372 : decode cL_next 372 = .ok (.imul, 1) := by decide +kernel
theorem dL_next_373 : decode cL_next 373 = .ok (.iconst 3, 1) := by decide +kernel
theorem dL_next_374 : decode cL_next 374 = .ok (.iadd, 1) := by decide +kernel
theorem dL_next_375 : decode cL_next 375 = .ok (.iaload, 1) := by decide +kernel
theorem dL_next_376 : decode cL_next 376 = .ok (.aload 4, 2) := by decide +kernel
theorem dL_next_378 : decode cL_next 378 = .ok (.iconst 1, 1) := by decide +kernel
theorem dL_next_379 : decode cL_next 379 = .ok (.iaload, 1) := by decide +kernel
theorem dL_next_380 : decode cL_next 380 = .ok (.if_icmp .gt 28, 3) := by decide +kernel
theorem dL_next_383 : decode cL_next 383 = .ok (.iload_n 1, 1) := by decide +kernel
theorem dL_next_384 : decode cL_next 384 = .ok (.iconst 3, 1) := by decide +kernel
theorem dL_next_385 : decode cL_next 385 = .ok (.iload 10, 2) := by decide +kernel
theorem dL_next_387 : decode cL_next 387 = .ok (.imul, 1) := by decide +kernel
theorem dL_next_388 : decode cL_next 388 = .ok (.ishr, 1) := by decide +kernel
theorem dL_next_389 : decode cL_next 389 = .ok (.bipush 7, 2) := by decide +kernel
theorem dL_next_391 : decode cL_next 391 = .ok (.iand, 1) := by decide +kernel
theorem dL_next_392 : decode cL_next 392 = .ok (.ifCond .eq 18, 3) := by decide +kernel
theorem dL_next_395 : decode cL_next 395 = .ok (.iload_n 1, 1) := by decide +kernel
theorem dL_next_396 : decode cL_next 396 = .ok (.iconst 3, 1) := by decide +kernel
theorem dL_next_397 : decode cL_next 397 = .ok (.iload 10, 2) := by decide +kernel
theorem dL_next_399 : decode cL_next 399 = .ok (.imul, 1) := by decide +kernel
theorem dL_next_400 : decode cL_next 400 = .ok (.ishr, 1) := by decide +kernel
theorem dL_next_401 : decode cL_next 401 = .ok (.bipush 7, 2) := by decide +kernel
theorem dL_next_403 : decode cL_next 403 = .ok (.iand, 1) := by decide +kernel
theorem dL_next_404 : decode cL_next 404 = .ok (.iconst 5, 1) := by decide +kernel
theorem dL_next_405 : decode cL_next 405 = .ok (.if_icmp .eq 5, 3) := by decide +kernel
theorem dL_next_408 : decode cL_next 408 = .ok (.iconst (-1), 1) := by decide +kernel
theorem dL_next_409 : decode cL_next 409 = .ok (.ireturn, 1) := by decide +kernel
theorem dL_next_410 : decode cL_next 410 = .ok (.iinc 10 1, 3) := by decide +kernel
theorem dL_next_413 : decode cL_next 413 = .ok (.goto (-70), 3) := by decide +kernel
theorem dL_next_416 : decode cL_next 416 = .ok (.bipush 24, 2) := by decide +kernel
theorem dL_next_418 : decode cL_next 418 = .ok (.ireturn, 1) := by decide +kernel
theorem dL_tick_0 : decode cL_tick 0 = .ok (.iconst 0, 1) := by decide +kernel
theorem dL_tick_1 : decode cL_tick 1 = .ok (.istore 5, 2) := by decide +kernel
theorem dL_tick_3 : decode cL_tick 3 = .ok (.iconst 0, 1) := by decide +kernel
theorem dL_tick_4 : decode cL_tick 4 = .ok (.istore 6, 2) := by decide +kernel
theorem dL_tick_6 : decode cL_tick 6 = .ok (.iload 6, 2) := by decide +kernel
theorem dL_tick_8 : decode cL_tick 8 = .ok (.aload 4, 2) := by decide +kernel
theorem dL_tick_10 : decode cL_tick 10 = .ok (.iconst 0, 1) := by decide +kernel
theorem dL_tick_11 : decode cL_tick 11 = .ok (.iaload, 1) := by decide +kernel
theorem dL_tick_12 : decode cL_tick 12 = .ok (.if_icmp .ge 172, 3) := by decide +kernel
theorem dL_tick_15 : decode cL_tick 15 = .ok (.bipush 9, 2) := by decide +kernel
theorem dL_tick_17 : decode cL_tick 17 = .ok (.iload 6, 2) := by decide +kernel
theorem dL_tick_19 : decode cL_tick 19 = .ok (.imul, 1) := by decide +kernel
theorem dL_tick_20 : decode cL_tick 20 = .ok (.istore 7, 2) := by decide +kernel
theorem dL_tick_22 : decode cL_tick 22 = .ok (.aload_n 1, 1) := by decide +kernel
theorem dL_tick_23 : decode cL_tick 23 = .ok (.iload 7, 2) := by decide +kernel
theorem dL_tick_25 : decode cL_tick 25 = .ok (.iconst 2, 1) := by decide +kernel
theorem dL_tick_26 : decode cL_tick 26 = .ok (.iadd, 1) := by decide +kernel
theorem dL_tick_27 : decode cL_tick 27 = .ok (.iaload, 1) := by decide +kernel
theorem dL_tick_28 : decode cL_tick 28 = .ok (.iconst 2, 1) := by decide +kernel
theorem dL_tick_29 : decode cL_tick 29 = .ok (.if_icmp .eq 13, 3) := by decide +kernel
theorem dL_tick_32 : decode cL_tick 32 = .ok (.aload_n 1, 1) := by decide +kernel
theorem dL_tick_33 : decode cL_tick 33 = .ok (.iload 7, 2) := by decide +kernel
theorem dL_tick_35 : decode cL_tick 35 = .ok (.iconst 2, 1) := by decide +kernel
theorem dL_tick_36 : decode cL_tick 36 = .ok (.iadd, 1) := by decide +kernel
theorem dL_tick_37 : decode cL_tick 37 = .ok (.iaload, 1) := by decide +kernel
theorem dL_tick_38 : decode cL_tick 38 = .ok (.iconst 3, 1) := by decide +kernel
theorem dL_tick_39 : decode cL_tick 39 = .ok (.if_icmp .ne 16, 3) := by decide +kernel
theorem dL_tick_42 : decode cL_tick 42 = .ok (.aload_n 1, 1) := by decide +kernel
theorem dL_tick_43 : decode cL_tick 43 = .ok (.iload 7, 2) := by decide +kernel
theorem dL_tick_45 : decode cL_tick 45 = .ok (.iconst 5, 1) := by decide +kernel
theorem dL_tick_46 : decode cL_tick 46 = .ok (.iadd, 1) := by decide +kernel
theorem dL_tick_47 : decode cL_tick 47 = .ok (.iaload, 1) := by decide +kernel
theorem dL_tick_48 : decode cL_tick 48 = .ok (.ifCond .ne 7, 3) := by decide +kernel
theorem dL_tick_51 : decode cL_tick 51 = .ok (.iconst 1, 1) := by decide +kernel
theorem dL_tick_52 : decode cL_tick 52 = .ok (.goto 4, 3) := by decide +kernel
theorem dL_tick_55 : decode cL_tick 55 = .ok (.iconst 0, 1) := by decide +kernel
theorem dL_tick_56 : decode cL_tick 56 = .ok (.istore 8, 2) := by decide +kernel
theorem dL_tick_58 : decode cL_tick 58 = .ok (.iload 8, 2) := by decide +kernel
theorem dL_tick_60 : decode cL_tick 60 = .ok (.ifCond .eq 13, 3) := by decide +kernel
theorem dL_tick_63 : decode cL_tick 63 = .ok (.aload_n 0, 1) := by decide +kernel
theorem dL_tick_64 : decode cL_tick 64 = .ok (.bipush 7, 2) := by decide +kernel
theorem dL_tick_66 : decode cL_tick 66 = .ok (.iload 6, 2) := by decide +kernel
theorem dL_tick_68 : decode cL_tick 68 = .ok (.imul, 1) := by decide +kernel
theorem dL_tick_69 : decode cL_tick 69 = .ok (.iaload, 1) := by decide +kernel
theorem dL_tick_70 : decode cL_tick 70 = .ok (.goto 4, 3) := by decide +kernel
theorem dL_tick_73 : decode cL_tick 73 = .ok (.iconst 0, 1) := by decide +kernel
theorem dL_tick_74 : decode cL_tick 74 = .ok (.istore 9, 2) := by decide +kernel
theorem dL_tick_76 : decode cL_tick 76 = .ok (.iload 8, 2) := by decide +kernel
theorem dL_tick_78 : decode cL_tick 78 = .ok (.ifCond .eq 15, 3) := by decide +kernel
theorem dL_tick_81 : decode cL_tick 81 = .ok (.aload_n 0, 1) := by decide +kernel
theorem dL_tick_82 : decode cL_tick 82 = .ok (.bipush 7, 2) := by decide +kernel
theorem dL_tick_84 : decode cL_tick 84 = .ok (.iload 6, 2) := by decide +kernel
theorem dL_tick_86 : decode cL_tick 86 = .ok (.imul, 1) := by decide +kernel
theorem dL_tick_87 : decode cL_tick 87 = .ok (.iconst 1, 1) := by decide +kernel
theorem dL_tick_88 : decode cL_tick 88 = .ok (.iadd, 1) := by decide +kernel
theorem dL_tick_89 : decode cL_tick 89 = .ok (.iaload, 1) := by decide +kernel
theorem dL_tick_90 : decode cL_tick 90 = .ok (.goto 12, 3) := by decide +kernel
theorem dL_tick_93 : decode cL_tick 93 = .ok (.aload_n 0, 1) := by decide +kernel
theorem dL_tick_94 : decode cL_tick 94 = .ok (.bipush 7, 2) := by decide +kernel
theorem dL_tick_96 : decode cL_tick 96 = .ok (.iload 6, 2) := by decide +kernel
theorem dL_tick_98 : decode cL_tick 98 = .ok (.imul, 1) := by decide +kernel
theorem dL_tick_99 : decode cL_tick 99 = .ok (.iconst 2, 1) := by decide +kernel
theorem dL_tick_100 : decode cL_tick 100 = .ok (.iadd, 1) := by decide +kernel
theorem dL_tick_101 : decode cL_tick 101 = .ok (.iaload, 1) := by decide +kernel
theorem dL_tick_102 : decode cL_tick 102 = .ok (.istore 10, 2) := by decide +kernel
theorem dL_tick_104 : decode cL_tick 104 = .ok (.iload 9, 2) := by decide +kernel
theorem dL_tick_106 : decode cL_tick 106 = .ok (.aload_n 1, 1) := by decide +kernel
theorem dL_tick_107 : decode cL_tick 107 = .ok (.iload 7, 2) := by decide +kernel
theorem dL_tick_109 : decode cL_tick 109 = .ok (.iconst 3, 1) := by decide +kernel
theorem dL_tick_110 : decode cL_tick 110 = .ok (.iadd, 1) := by decide +kernel
theorem dL_tick_111 : decode cL_tick 111 = .ok (.iaload, 1) := by decide +kernel
theorem dL_tick_112 : decode cL_tick 112 = .ok (.isub, 1) := by decide +kernel
theorem dL_tick_113 : decode cL_tick 113 = .ok (.istore 11, 2) := by decide +kernel
theorem dL_tick_115 : decode cL_tick 115 = .ok (.aload_n 1, 1) := by decide +kernel
theorem dL_tick_116 : decode cL_tick 116 = .ok (.iload 7, 2) := by decide +kernel
theorem dL_tick_118 : decode cL_tick 118 = .ok (.iconst 3, 1) := by decide +kernel
theorem dL_tick_119 : decode cL_tick 119 = .ok (.iadd, 1) := by decide +kernel
theorem dL_tick_120 : decode cL_tick 120 = .ok (.iload 11, 2) := by decide +kernel
theorem dL_tick_122 : decode cL_tick 122 = .ok (.iload 10, 2) := by decide +kernel
theorem dL_tick_124 : decode cL_tick 124 = .ok (.if_icmp .le 15, 3) := by decide +kernel
theorem dL_tick_127 : decode cL_tick 127 = .ok (.aload_n 1, 1) := by decide +kernel
theorem dL_tick_128 : decode cL_tick 128 = .ok (.iload 7, 2) := by decide +kernel
theorem dL_tick_130 : decode cL_tick 130 = .ok (.iconst 3, 1) := by decide +kernel
theorem dL_tick_131 : decode cL_tick 131 = .ok (.iadd, 1) := by decide +kernel
theorem dL_tick_132 : decode cL_tick 132 = .ok (.iaload, 1) := by decide +kernel
theorem dL_tick_133 : decode cL_tick 133 = .ok (.iload 10, 2) := by decide +kernel
theorem dL_tick_135 : decode cL_tick 135 = .ok (.iadd, 1) := by decide +kernel
theorem dL_tick_136 : decode cL_tick 136 = .ok (.goto 25, 3) := by decide +kernel
theorem dL_tick_139 : decode cL_tick 139 = .ok (.iload 11, 2) := by decide +kernel
theorem dL_tick_141 : decode cL_tick 141 = .ok (.iload 10, 2) := by decide +kernel
theorem dL_tick_143 : decode cL_tick 143 = .ok (.ineg, 1) := by decide +kernel
theorem dL_tick_144 : decode cL_tick 144 = .ok (.if_icmp .ge 15, 3) := by decide +kernel
theorem dL_tick_147 : decode cL_tick 147 = .ok (.aload_n 1, 1) := by decide +kernel
theorem dL_tick_148 : decode cL_tick 148 = .ok (.iload 7, 2) := by decide +kernel
theorem dL_tick_150 : decode cL_tick 150 = .ok (.iconst 3, 1) := by decide +kernel
theorem dL_tick_151 : decode cL_tick 151 = .ok (.iadd, 1) := by decide +kernel
theorem dL_tick_152 : decode cL_tick 152 = .ok (.iaload, 1) := by decide +kernel
theorem dL_tick_153 : decode cL_tick 153 = .ok (.iload 10, 2) := by decide +kernel
theorem dL_tick_155 : decode cL_tick 155 = .ok (.isub, 1) := by decide +kernel
theorem dL_tick_156 : decode cL_tick 156 = .ok (.goto 5, 3) := by decide +kernel
theorem dL_tick_159 : decode cL_tick 159 = .ok (.iload 9, 2) := by decide +kernel
theorem dL_tick_161 : decode cL_tick 161 = .ok (.iastore, 1) := by decide +kernel
theorem dL_tick_162 : decode cL_tick 162 = .ok (.iload 5, 2) := by decide +kernel
theorem dL_tick_164 : decode cL_tick 164 = .ok (.aload_n 1, 1) := by decide +kernel
theorem dL_tick_165 : decode cL_tick 165 = .ok (.iload 7, 2) := by decide +kernel
theorem dL_tick_167 : decode cL_tick 167 = .ok (.iconst 2, 1) := by decide +kernel
theorem dL_tick_168 : decode cL_tick 168 = .ok (.iadd, 1) := by decide +kernel
theorem dL_tick_169 : decode cL_tick 169 = .ok (.iaload, 1) := by decide +kernel
theorem dL_tick_170 : decode cL_tick 170 = .ok (.iconst 3, 1) := by decide +kernel
theorem dL_tick_171 : decode cL_tick 171 = .ok (.iload 6, 2) := by decide +kernel
theorem dL_tick_173 : decode cL_tick 173 = .ok (.imul, 1) := by decide +kernel
theorem dL_tick_174 : decode cL_tick 174 = .ok (.ishl, 1) := by decide +kernel
theorem dL_tick_175 : decode cL_tick 175 = .ok (.ior, 1) := by decide +kernel
theorem dL_tick_176 : decode cL_tick 176 = .ok (.istore 5, 2) := by decide +kernel
theorem dL_tick_178 : decode cL_tick 178 = .ok (.iinc 6 1, 3) := by decide +kernel
theorem dL_tick_181 : decode cL_tick 181 = .ok (.goto (-175), 3) := by decide +kernel
theorem dL_tick_184 : decode cL_tick 184 = .ok (.iconst 0, 1) := by decide +kernel
theorem dL_tick_185 : decode cL_tick 185 = .ok (.istore 6, 2) := by decide +kernel
theorem dL_tick_187 : decode cL_tick 187 = .ok (.iload 6, 2) := by decide +kernel
theorem dL_tick_189 : decode cL_tick 189 = .ok (.aload 4, 2) := by decide +kernel
theorem dL_tick_191 : decode cL_tick 191 = .ok (.iconst 0, 1) := by decide +kernel
theorem dL_tick_192 : decode cL_tick 192 = .ok (.iaload, 1) := by decide +kernel
theorem dL_tick_193 : decode cL_tick 193 = .ok (.if_icmp .ge 344, 3) := by decide +kernel
theorem dL_tick_196 : decode cL_tick 196 = .ok (.bipush 9, 2) := by decide +kernel
theorem dL_tick_198 : decode cL_tick 198 = .ok (.iload 6, 2) := by decide +kernel
theorem dL_tick_200 : decode cL_tick 200 = .ok (.imul, 1) := by decide +kernel
theorem dL_tick_201 : decode cL_tick 201 = .ok (.istore 7, 2) := by decide +kernel
theorem dL_tick_203 : decode cL_tick 203 = .ok (.aload_n 1, 1) := by decide +kernel
theorem dL_tick_204 : decode cL_tick 204 = .ok (.iload 7, 2) := by decide +kernel
theorem dL_tick_206 : decode cL_tick 206 = .ok (.iconst 2, 1) := by decide +kernel
theorem dL_tick_207 : decode cL_tick 207 = .ok (.iadd, 1) := by decide +kernel
theorem dL_tick_208 : decode cL_tick 208 = .ok (.iaload, 1) := by decide +kernel
theorem dL_tick_209 : decode cL_tick 209 = .ok (.istore 8, 2) := by decide +kernel
theorem dL_tick_211 : decode cL_tick 211 = .ok (.iload 6, 2) := by decide +kernel
theorem dL_tick_213 : decode cL_tick 213 = .ok (.iload 5, 2) := by decide +kernel
theorem dL_tick_215 : decode cL_tick 215 = .ok (.aload_n 0, 1) := by decide +kernel
theorem dL_tick_216 : decode cL_tick 216 = .ok (.aload_n 1, 1) := by decide +kernel
theorem dL_tick_217 : decode cL_tick 217 = .ok (.aload 4, 2) := by decide +kernel
theorem dL_tick_219 : decode cL_tick 219 = .ok (.invokestatic 14, 3) := by decide +kernel
theorem dL_tick_222 : decode cL_tick 222 = .ok (.istore 9, 2) := by decide +kernel
theorem dL_tick_224 : decode cL_tick 224 = .ok (.iload 8, 2) := by decide +kernel
theorem dL_tick_226 : decode cL_tick 226 = .ok (.iconst 1, 1) := by decide +kernel
theorem dL_tick_227 : decode cL_tick 227 = .ok (.if_icmp .ne 117, 3) := by decide +kernel
theorem dL_tick_230 : decode cL_tick 230 = .ok (.iload 9, 2) := by decide +kernel
theorem dL_tick_232 : decode cL_tick 232 = .ok (.ifCond .ge 112, 3) := by decide +kernel
theorem dL_tick_235 : decode cL_tick 235 = .ok (.aload_n 1, 1) := by decide +kernel
theorem dL_tick_236 : decode cL_tick 236 = .ok (.iload 7, 2) := by decide +kernel
theorem dL_tick_238 : decode cL_tick 238 = .ok (.iconst 3, 1) := by decide +kernel
theorem dL_tick_239 : decode cL_tick 239 = .ok (.iadd, 1) := by decide +kernel
theorem dL_tick_240 : decode cL_tick 240 = .ok (.iaload, 1) := by decide +kernel
theorem dL_tick_241 : decode cL_tick 241 = .ok (.aload 4, 2) := by decide +kernel
theorem dL_tick_243 : decode cL_tick 243 = .ok (.iconst 1, 1) := by decide +kernel
theorem dL_tick_244 : decode cL_tick 244 = .ok (.iaload, 1) := by decide +kernel
theorem dL_tick_245 : decode cL_tick 245 = .ok (.if_icmp .gt 7, 3) := by decide +kernel
theorem dL_tick_248 : decode cL_tick 248 = .ok (.iconst 1, 1) := by decide +kernel
theorem dL_tick_249 : decode cL_tick 249 = .ok (.goto 4, 3) := by decide +kernel
theorem dL_tick_252 : decode cL_tick 252 = .ok (.iconst 0, 1) := by decide +kernel
theorem dL_tick_253 : decode cL_tick 253 = .ok (.istore 10, 2) := by decide +kernel
theorem dL_tick_255 : decode cL_tick 255 = .ok (.iconst 0, 1) := by decide +kernel
theorem dL_tick_256 : decode cL_tick 256 = .ok (.istore 11, 2) := by decide +kernel
theorem dL_tick_258 : decode cL_tick 258 = .ok (.iload 11, 2) := by decide +kernel
theorem dL_tick_260 : decode cL_tick 260 = .ok (.iload 6, 2) := by decide +kernel
theorem dL_tick_262 : decode cL_tick 262 = .ok (.if_icmp .ge 57, 3) := by decide +kernel
theorem dL_tick_265 : decode cL_tick 265 = .ok (.iload 10, 2) := by decide +kernel
theorem dL_tick_267 : decode cL_tick 267 = .ok (.ifCond .eq 43, 3) := by decide +kernel
theorem dL_tick_270 : decode cL_tick 270 = .ok (.aload_n 1, 1) := by decide +kernel
theorem dL_tick_271 : decode cL_tick 271 = .ok (.iload 7, 2) := by decide +kernel
theorem dL_tick_273 : decode cL_tick 273 = .ok (.iaload, 1) := by decide +kernel
theorem dL_tick_274 : decode cL_tick 274 = .ok (.iload 11, 2) := by decide +kernel
theorem dL_tick_276 : decode cL_tick 276 = .ok (.ishr, 1) := by decide +kernel
theorem dL_tick_277 : decode cL_tick 277 = .ok (.iconst 1, 1) := by decide +kernel
theorem dL_tick_278 : decode cL_tick 278 = .ok (.iand, 1) := by decide +kernel
theorem dL_tick_279 : decode cL_tick 279 = .ok (.ifCond .eq 27, 3) := by decide +kernel
theorem dL_tick_282 : decode cL_tick 282 = .ok (.iload 5, 2) := by decide +kernel
theorem dL_tick_284 : decode cL_tick 284 = .ok (.iconst 3, 1) := by decide +kernel
theorem dL_tick_285 : decode cL_tick 285 = .ok (.iload 11, 2) := by decide +kernel
theorem dL_tick_287 : decode cL_tick 287 = .ok (.imul, 1) := by decide +kernel
theorem dL_tick_288 : decode cL_tick 288 = .ok (.ishr, 1) := by decide +kernel
theorem dL_tick_289 : decode cL_tick 289 = .ok (.bipush 7, 2) := by decide +kernel
theorem dL_tick_291 : decode cL_tick 291 = .ok (.iand, 1) := by decide +kernel
theorem dL_tick_292 : decode cL_tick 292 = .ok (.iconst 3, 1) := by decide +kernel
theorem dL_tick_293 : decode cL_tick 293 = .ok (.if_icmp .ne 17, 3) := by decide +kernel
theorem dL_tick_296 : decode cL_tick 296 = .ok (.iload 11, 2) := by decide +kernel
theorem dL_tick_298 : decode cL_tick 298 = .ok (.aload_n 0, 1) := by decide +kernel
theorem dL_tick_299 : decode cL_tick 299 = .ok (.aload_n 1, 1) := by decide +kernel
theorem dL_tick_300 : decode cL_tick 300 = .ok (.invokestatic 8, 3) := by decide +kernel
theorem dL_tick_303 : decode cL_tick 303 = .ok (.ifCond .eq 7, 3) := by decide +kernel
theorem dL_tick_306 : decode cL_tick 306 = .ok (.iconst 1, 1) := by decide +kernel
theorem dL_tick_307 : decode cL_tick 307 = .ok (.goto 4, 3) := by decide +kernel
theorem dL_tick_310 : decode cL_tick 310 = .ok (.iconst 0, 1) := by decide +kernel
theorem dL_tick_311 : decode cL_tick 311 = .ok (.istore 10, 2) := by decide +kernel
theorem dL_tick_313 : decode cL_tick 313 = .ok (.iinc 11 1, 3) := by decide +kernel
theorem dL_tick_316 : decode cL_tick 316 = .ok (.goto (-58), 3) := by decide +kernel
theorem dL_tick_319 : decode cL_tick 319 = .ok (.aload_n 1, 1) := by decide +kernel
theorem dL_tick_320 : decode cL_tick 320 = .ok (.iload 7, 2) := by decide +kernel
theorem dL_tick_322 : decode cL_tick 322 = .ok (.bipush 6, 2) := by decide +kernel
theorem dL_tick_324 : decode cL_tick 324 = .ok (.iadd, 1) := by decide +kernel
theorem dL_tick_325 : decode cL_tick 325 = .ok (.iload 10, 2) := by decide +kernel
theorem dL_tick_327 : decode cL_tick 327 = .ok (.ifCond .eq 15, 3) := by decide +kernel
theorem dL_tick_330 : decode cL_tick 330 = .ok (.aload_n 1, 1) := by decide +kernel
theorem dL_tick_331 : decode cL_tick 331 = .ok (.iload 7, 2) := by decide +kernel
theorem dL_tick_333 : decode cL_tick 333 = .ok (.bipush 6, 2) := by decide +kernel
theorem dL_tick_335 : decode cL_tick 335 = .ok (.iadd, 1) := by decide +kernel
theorem dL_tick_336 : decode cL_tick 336 = .ok (.iaload, 1) := by decide +kernel
theorem dL_tick_337 : decode cL_tick 337 = .ok (.iconst 1, 1) := by decide +kernel
theorem dL_tick_338 : decode cL_tick 338 = .ok (.iadd, 1) := by decide +kernel
theorem dL_tick_339 : decode cL_tick 339 = .ok (.goto 4, 3) := by decide +kernel
theorem dL_tick_342 : decode cL_tick 342 = .ok (.iconst 0, 1) := by decide +kernel
theorem dL_tick_343 : decode cL_tick 343 = .ok (.iastore, 1) := by decide +kernel
theorem dL_tick_344 : decode cL_tick 344 = .ok (.iload 9, 2) := by decide +kernel
theorem dL_tick_346 : decode cL_tick 346 = .ok (.ifCond .lt 17, 3) := by decide +kernel
theorem dL_tick_349 : decode cL_tick 349 = .ok (.iload 9, 2) := by decide +kernel
theorem dL_tick_351 : decode cL_tick 351 = .ok (.bipush 20, 2) := by decide +kernel
theorem dL_tick_353 : decode cL_tick 353 = .ok (.irem, 1) := by decide +kernel
theorem dL_tick_354 : decode cL_tick 354 = .ok (.bipush 6, 2) := by decide +kernel
theorem dL_tick_356 : decode cL_tick 356 = .ok (.if_icmp .ne 7, 3) := by decide +kernel
theorem dL_tick_359 : decode cL_tick 359 = .ok (.iconst 1, 1) := by decide +kernel
theorem dL_tick_360 : decode cL_tick 360 = .ok (.goto 4, 3) := by decide +kernel
theorem dL_tick_363 : decode cL_tick 363 = .ok (.iconst 0, 1) := by decide +kernel
theorem dL_tick_364 : decode cL_tick 364 = .ok (.istore 10, 2) := by decide +kernel
theorem dL_tick_366 : decode cL_tick 366 = .ok (.iload 8, 2) := by decide +kernel
theorem dL_tick_368 : decode cL_tick 368 = .ok (.iconst 2, 1) := by decide +kernel
theorem dL_tick_369 : decode cL_tick 369 = .ok (.if_icmp .ne 24, 3) := by decide +kernel
theorem dL_tick_372 : decode cL_tick 372 = .ok (.iload 9, 2) := by decide +kernel
theorem dL_tick_374 : decode cL_tick 374 = .ok (.ifCond .lt 8, 3) := by decide +kernel
theorem dL_tick_377 : decode cL_tick 377 = .ok (.iload 10, 2) := by decide +kernel
theorem dL_tick_379 : decode cL_tick 379 = .ok (.ifCond .eq 14, 3) := by decide +kernel
theorem dL_tick_382 : decode cL_tick 382 = .ok (.aload_n 1, 1) := by decide +kernel
theorem dL_tick_383 : decode cL_tick 383 = .ok (.iload 7, 2) := by decide +kernel
theorem dL_tick_385 : decode cL_tick 385 = .ok (.bipush 6, 2) := by decide +kernel
theorem dL_tick_387 : decode cL_tick 387 = .ok (.iadd, 1) := by decide +kernel
theorem dL_tick_388 : decode cL_tick 388 = .ok (.dup2, 1) := by decide +kernel
theorem dL_tick_389 : decode cL_tick 389 = .ok (.iaload, 1) := by decide +kernel
theorem dL_tick_390 : decode cL_tick 390 = .ok (.iconst 1, 1) := by decide +kernel
theorem dL_tick_391 : decode cL_tick 391 = .ok (.iadd, 1) := by decide +kernel
theorem dL_tick_392 : decode cL_tick 392 = .ok (.iastore, 1) := by decide +kernel
theorem dL_tick_393 : decode cL_tick 393 = .ok (.iload 9, 2) := by decide +kernel
theorem dL_tick_395 : decode cL_tick 395 = .ok (.ifCond .ge 6, 3) := by decide +kernel
theorem dL_tick_398 : decode cL_tick 398 = .ok (.goto 133, 3) := by decide +kernel
theorem dL_tick_401 : decode cL_tick 401 = .ok (.iload 9, 2) := by decide +kernel
theorem dL_tick_403 : decode cL_tick 403 = .ok (.iconst 1, 1) := by decide +kernel
theorem dL_tick_404 : decode cL_tick 404 = .ok (.if_icmp .eq 9, 3) := by decide +kernel
theorem dL_tick_407 : decode cL_tick 407 = .ok (.iload 9, 2) := by decide +kernel
theorem dL_tick_409 : decode cL_tick 409 = .ok (.iconst 2, 1) := by decide +kernel
theorem dL_tick_410 : decode cL_tick 410 = .ok (.if_icmp .ne 11, 3) := by decide +kernel
theorem dL_tick_413 : decode cL_tick 413 = .ok (.aload_n 1, 1) := by decide +kernel
theorem dL_tick_414 : decode cL_tick 414 = .ok (.iload 7, 2) := by decide +kernel
theorem dL_tick_416 : decode cL_tick 416 = .ok (.bipush 6, 2) := by decide +kernel
theorem dL_tick_418 : decode cL_tick 418 = .ok (.iadd, 1) := by decide +kernel
theorem dL_tick_419 : decode cL_tick 419 = .ok (.iconst 0, 1) := by decide +kernel
theorem dL_tick_420 : decode cL_tick 420 = .ok (.iastore, 1) := by decide +kernel
theorem dL_tick_421 : decode cL_tick 421 = .ok (.iload 8, 2) := by decide +kernel
theorem dL_tick_423 : decode cL_tick 423 = .ok (.ifCond .ne 11, 3) := by decide +kernel
theorem dL_tick_426 : decode cL_tick 426 = .ok (.aload_n 1, 1) := by decide +kernel
theorem dL_tick_427 : decode cL_tick 427 = .ok (.iload 7, 2) := by decide +kernel
theorem dL_tick_429 : decode cL_tick 429 = .ok (.bipush 7, 2) := by decide +kernel
theorem dL_tick_431 : decode cL_tick 431 = .ok (.iadd, 1) := by decide +kernel
theorem dL_tick_432 : decode cL_tick 432 = .ok (.iconst 0, 1) := by decide +kernel
theorem dL_tick_433 : decode cL_tick 433 = .ok (.iastore, 1) := by decide +kernel
theorem dL_tick_434 : decode cL_tick 434 = .ok (.iload 9, 2) := by decide +kernel
theorem dL_tick_436 : decode cL_tick 436 = .ok (.bipush 20, 2) := by decide +kernel
theorem dL_tick_438 : decode cL_tick 438 = .ok (.if_icmp .lt 17, 3) := by decide +kernel
theorem dL_tick_441 : decode cL_tick 441 = .ok (.aload_n 1, 1) := by decide +kernel
theorem dL_tick_442 : decode cL_tick 442 = .ok (.iload 7, 2) := by decide +kernel
theorem dL_tick_444 : decode cL_tick 444 = .ok (.bipush 8, 2) := by decide +kernel
theorem dL_tick_446 : decode cL_tick 446 = .ok (.iadd, 1) := by decide +kernel
theorem dL_tick_447 : decode cL_tick 447 = .ok (.iload 9, 2) := by decide +kernel
theorem dL_tick_449 : decode cL_tick 449 = .ok (.bipush 20, 2) := by decide +kernel
theorem dL_tick_451 : decode cL_tick 451 = .ok (.idiv, 1) := by decide +kernel
theorem dL_tick_452 : decode cL_tick 452 = .ok (.iconst 2, 1) := by decide +kernel
theorem dL_tick_453 : decode cL_tick 453 = .ok (.isub, 1) := by decide +kernel
theorem dL_tick_454 : decode cL_tick 454 = .ok (.iastore, 1) := by decide +kernel
theorem dL_tick_455 : decode cL_tick 455 = .ok (.iload 10, 2) := by decide +kernel
theorem dL_tick_457 : decode cL_tick 457 = .ok (.ifCond .eq 26, 3) := by decide +kernel
theorem dL_tick_460 : decode cL_tick 460 = .ok (.aload_n 1, 1) := by decide +kernel
theorem dL_tick_461 : decode cL_tick 461 = .ok (.iload 7, 2) := by decide +kernel
theorem dL_tick_463 : decode cL_tick 463 = .ok (.bipush 7, 2) := by decide +kernel
theorem dL_tick_465 : decode cL_tick 465 = .ok (.iadd, 1) := by decide +kernel
theorem dL_tick_466 : decode cL_tick 466 = .ok (.dup2, 1) := by decide +kernel
theorem dL_tick_467 : decode cL_tick 467 = .ok (.iaload, 1) := by decide +kernel
theorem dL_tick_468 : decode cL_tick 468 = .ok (.iconst 1, 1) := by decide +kernel
theorem dL_tick_469 : decode cL_tick 469 = .ok (.iadd, 1) := by decide +kernel
theorem dL_tick_470 : decode cL_tick 470 = .ok (.iastore, 1) := by decide +kernel
theorem dL_tick_471 : decode cL_tick 471 = .ok (.aload_n 2, 1) := by decide +kernel
theorem dL_tick_472 : decode cL_tick 472 = .ok (.iconst 4, 1) := by decide +kernel
theorem dL_tick_473 : decode cL_tick 473 = .ok (.iload 6, 2) := by decide +kernel
theorem dL_tick_475 : decode cL_tick 475 = .ok (.imul, 1) := by decide +kernel
theorem dL_tick_476 : decode cL_tick 476 = .ok (.iconst 2, 1) := by decide +kernel
theorem dL_tick_477 : decode cL_tick 477 = .ok (.iadd, 1) := by decide +kernel
theorem dL_tick_478 : decode cL_tick 478 = .ok (.dup2, 1) := by decide +kernel
theorem dL_tick_479 : decode cL_tick 479 = .ok (.iaload, 1) := by decide +kernel
theorem dL_tick_480 : decode cL_tick 480 = .ok (.iconst 1, 1) := by decide +kernel
theorem dL_tick_481 : decode cL_tick 481 = .ok (.iadd, 1) := by decide +kernel
theorem dL_tick_482 : decode cL_tick 482 = .ok (.iastore, 1) := by decide +kernel
theorem dL_tick_483 : decode cL_tick 483 = .ok (.iload 6, 2) := by decide +kernel
theorem dL_tick_485 : decode cL_tick 485 = .ok (.iload 10, 2) := by decide +kernel
theorem dL_tick_487 : decode cL_tick 487 = .ok (.ifCond .eq 31, 3) := by decide +kernel
theorem dL_tick_490 : decode cL_tick 490 = .ok (.aload_n 1, 1) := by decide +kernel
theorem dL_tick_491 : decode cL_tick 491 = .ok (.iload 7, 2) := by decide +kernel
theorem dL_tick_493 : decode cL_tick 493 = .ok (.bipush 7, 2) := by decide +kernel
theorem dL_tick_495 : decode cL_tick 495 = .ok (.iadd, 1) := by decide +kernel
theorem dL_tick_496 : decode cL_tick 496 = .ok (.iaload, 1) := by decide +kernel
theorem dL_tick_497 : decode cL_tick 497 = .ok (.aload_n 0, 1) := by decide +kernel
theorem dL_tick_498 : decode cL_tick 498 = .ok (.bipush 7, 2) := by decide +kernel
theorem dL_tick_500 : decode cL_tick 500 = .ok (.iload 6, 2) := by decide +kernel
theorem dL_tick_502 : decode cL_tick 502 = .ok (.imul, 1) := by decide +kernel
theorem dL_tick_503 : decode cL_tick 503 = .ok (.bipush 6, 2) := by decide +kernel
theorem dL_tick_505 : decode cL_tick 505 = .ok (.iadd, 1) := by decide +kernel
theorem dL_tick_506 : decode cL_tick 506 = .ok (.iaload, 1) := by decide +kernel
theorem dL_tick_507 : decode cL_tick 507 = .ok (.if_icmp .lt 7, 3) := by decide +kernel
theorem dL_tick_510 : decode cL_tick 510 = .ok (.iconst 5, 1) := by decide +kernel
theorem dL_tick_511 : decode cL_tick 511 = .ok (.goto 12, 3) := by decide +kernel
theorem dL_tick_514 : decode cL_tick 514 = .ok (.iconst 4, 1) := by decide +kernel
theorem dL_tick_515 : decode cL_tick 515 = .ok (.goto 8, 3) := by decide +kernel
theorem dL_tick_518 : decode cL_tick 518 = .ok (.iload 9, 2) := by decide +kernel
theorem dL_tick_520 : decode cL_tick 520 = .ok (.bipush 20, 2) := by decide +kernel
theorem dL_tick_522 : decode cL_tick 522 = .ok (.irem, 1) := by decide +kernel
theorem dL_tick_523 : decode cL_tick 523 = .ok (.aload_n 1, 1) := by decide +kernel
theorem dL_tick_524 : decode cL_tick 524 = .ok (.aload_n 2, 1) := by decide +kernel
theorem dL_tick_525 : decode cL_tick 525 = .ok (.aload_n 3, 1) := by decide +kernel
theorem dL_tick_526 : decode cL_tick 526 = .ok (.aload 4, 2) := by decide +kernel
theorem dL_tick_528 : decode cL_tick 528 = .ok (.invokestatic 18, 3) := by decide +kernel
theorem dL_tick_531 : decode cL_tick 531 = .ok (.iinc 6 1, 3) := by decide +kernel
theorem dL_tick_534 : decode cL_tick 534 = .ok (.goto (-347), 3) := by decide +kernel
theorem dL_tick_537 : decode cL_tick 537 = .ok (.iconst 0, 1) := by decide +kernel
theorem dL_tick_538 : decode cL_tick 538 = .ok (.istore 6, 2) := by decide +kernel
theorem dL_tick_540 : decode cL_tick 540 = .ok (.iload 6, 2) := by decide +kernel
theorem dL_tick_542 : decode cL_tick 542 = .ok (.aload 4, 2) := by decide +kernel
theorem dL_tick_544 : decode cL_tick 544 = .ok (.iconst 0, 1) := by decide +kernel
theorem dL_tick_545 : decode cL_tick 545 = .ok (.iaload, 1) := by decide +kernel
theorem dL_tick_546 : decode cL_tick 546 = .ok (.if_icmp .ge 63, 3) := by decide +kernel
theorem dL_tick_549 : decode cL_tick 549 = .ok (.aload_n 1, 1) := by decide +kernel
theorem dL_tick_550 : decode cL_tick 550 = .ok (.bipush 9, 2) := by decide +kernel
theorem dL_tick_552 : decode cL_tick 552 = .ok (.iload 6, 2) := by decide +kernel
theorem dL_tick_554 : decode cL_tick 554 = .ok (.imul, 1) := by decide +kernel
theorem dL_tick_555 : decode cL_tick 555 = .ok (.iconst 5, 1) := by decide +kernel
theorem dL_tick_556 : decode cL_tick 556 = .ok (.iadd, 1) := by decide +kernel
theorem dL_tick_557 : decode cL_tick 557 = .ok (.iaload, 1) := by decide +kernel
theorem dL_tick_558 : decode cL_tick 558 = .ok (.ifCond .le 16, 3) := by decide +kernel
theorem dL_tick_561 : decode cL_tick 561 = .ok (.aload_n 1, 1) := by decide +kernel
theorem dL_tick_562 : decode cL_tick 562 = .ok (.bipush 9, 2) := by decide +kernel
theorem dL_tick_564 : decode cL_tick 564 = .ok (.iload 6, 2) := by decide +kernel
theorem dL_tick_566 : decode cL_tick 566 = .ok (.imul, 1) := by decide +kernel
theorem dL_tick_567 : decode cL_tick 567 = .ok (.iconst 5, 1) := by decide +kernel
theorem dL_tick_568 : decode cL_tick 568 = .ok (.iadd, 1) := by decide +kernel
theorem dL_tick_569 : decode cL_tick 569 = .ok (.dup2, 1) := by decide +kernel
theorem dL_tick_570 : decode cL_tick 570 = .ok (.iaload, 1) := by decide +kernel
theorem dL_tick_571 : decode cL_tick 571 = .ok (.iconst 1, 1) := by decide +kernel
theorem dL_tick_572 : decode cL_tick 572 = .ok (.isub, 1) := by decide +kernel
theorem dL_tick_573 : decode cL_tick 573 = .ok (.iastore, 1) := by decide +kernel
theorem dL_tick_574 : decode cL_tick 574 = .ok (.aload_n 2, 1) := by decide +kernel
theorem dL_tick_575 : decode cL_tick 575 = .ok (.iconst 4, 1) := by decide +kernel
theorem dL_tick_576 : decode cL_tick 576 = .ok (.iload 6, 2) := by decide +kernel
theorem dL_tick_578 : decode cL_tick 578 = .ok (.imul, 1) := by decide +kernel
theorem dL_tick_579 : decode cL_tick 579 = .ok (.iconst 3, 1) := by decide +kernel
theorem dL_tick_580 : decode cL_tick 580 = .ok (.iadd, 1) := by decide +kernel
theorem dL_tick_581 : decode cL_tick 581 = .ok (.dup2, 1) := by decide +kernel
theorem dL_tick_582 : decode cL_tick 582 = .ok (.iaload, 1) := by decide +kernel
theorem dL_tick_583 : decode cL_tick 583 = .ok (.aload_n 1, 1) := by decide +kernel
theorem dL_tick_584 : decode cL_tick 584 = .ok (.bipush 9, 2) := by decide +kernel
theorem dL_tick_586 : decode cL_tick 586 = .ok (.iload 6, 2) := by decide +kernel
theorem dL_tick_588 : decode cL_tick 588 = .ok (.imul, 1) := by decide +kernel
theorem dL_tick_589 : decode cL_tick 589 = .ok (.iconst 2, 1) := by decide +kernel
theorem dL_tick_590 : decode cL_tick 590 = .ok (.iadd, 1) := by decide +kernel
theorem dL_tick_591 : decode cL_tick 591 = .ok (.iaload, 1) := by decide +kernel
theorem dL_tick_592 : decode cL_tick 592 = .ok (.iconst 3, 1) := by decide +kernel
theorem dL_tick_593 : decode cL_tick 593 = .ok (.if_icmp .ne 7, 3) := by decide +kernel
theorem dL_tick_596 : decode cL_tick 596 = .ok (.iconst 1, 1) := by decide +kernel
theorem dL_tick_597 : decode cL_tick 597 = .ok (.goto 4, 3) := by decide +kernel
theorem dL_tick_600 : decode cL_tick 600 = .ok (.iconst 0, 1) := by decide +kernel
theorem dL_tick_601 : decode cL_tick 601 = .ok (.iadd, 1) := by decide +kernel
theorem dL_tick_602 : decode cL_tick 602 = .ok (.iastore, 1) := by decide +kernel
theorem dL_tick_603 : decode cL_tick 603 = .ok (.iinc 6 1, 3) := by decide +kernel
theorem dL_tick_606 : decode cL_tick 606 = .ok (.goto (-66), 3) := by decide +kernel
theorem dL_tick_609 : decode cL_tick 609 = .ok (.aload 4, 2) := by decide +kernel
theorem dL_tick_611 : decode cL_tick 611 = .ok (.iconst 2, 1) := by decide +kernel
theorem dL_tick_612 : decode cL_tick 612 = .ok (.dup2, 1) := by decide +kernel
theorem dL_tick_613 : decode cL_tick 613 = .ok (.iaload, 1) := by decide +kernel
theorem dL_tick_614 : decode cL_tick 614 = .ok (.iconst 1, 1) := by decide +kernel
theorem dL_tick_615 : decode cL_tick 615 = .ok (.iadd, 1) := by decide +kernel
theorem dL_tick_616 : decode cL_tick 616 = .ok (.iastore, 1) := by decide +kernel
theorem dL_tick_617 : decode cL_tick 617 = .ok (.return_, 1) := by decide +kernel
theorem dL_mask_0 : decode cL_mask 0 = .ok (.iconst 0, 1) := by decide +kernel
theorem dL_mask_1 : decode cL_mask 1 = .ok (.istore 4, 2) := by decide +kernel
theorem dL_mask_3 : decode cL_mask 3 = .ok (.iconst 0, 1) := by decide +kernel
theorem dL_mask_4 : decode cL_mask 4 = .ok (.istore 5, 2) := by decide +kernel
theorem dL_mask_6 : decode cL_mask 6 = .ok (.iload 5, 2) := by decide +kernel
theorem dL_mask_8 : decode cL_mask 8 = .ok (.aload_n 3, 1) := by decide +kernel
theorem dL_mask_9 : decode cL_mask 9 = .ok (.iconst 0, 1) := by decide +kernel
theorem dL_mask_10 : decode cL_mask 10 = .ok (.iaload, 1) := by decide +kernel
theorem dL_mask_11 : decode cL_mask 11 = .ok (.if_icmp .ge 35, 3) := by decide +kernel
theorem dL_mask_14 : decode cL_mask 14 = .ok (.iload 4, 2) := by decide +kernel
theorem dL_mask_16 : decode cL_mask 16 = .ok (.aload_n 2, 1) := by decide +kernel
theorem dL_mask_17 : decode cL_mask 17 = .ok (.bipush 9, 2) := by decide +kernel
theorem dL_mask_19 : decode cL_mask 19 = .ok (.iload 5, 2) := by decide +kernel
theorem dL_mask_21 : decode cL_mask 21 = .ok (.imul, 1) := by decide +kernel
theorem dL_mask_22 : decode cL_mask 22 = .ok (.iload_n 0, 1) := by decide +kernel
