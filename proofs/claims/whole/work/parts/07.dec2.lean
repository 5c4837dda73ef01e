theorem d2_mayLearn_15 : decode (mm_cc M2_mayLearn) 15 = .ok (.getfield 93, 3) := by decide +kernel
theorem d2_mayLearn_18 : decode (mm_cc M2_mayLearn) 18 = .ok (.iload_n 1, 1) := by decide +kernel
theorem d2_mayLearn_19 : decode (mm_cc M2_mayLearn) 19 = .ok (.invokevirtual 96, 3) := by decide +kernel
theorem d2_mayLearn_22 : decode (mm_cc M2_mayLearn) 22 = .ok (.iconst (-1), 1) := by decide +kernel
theorem d2_mayLearn_23 : decode (mm_cc M2_mayLearn) 23 = .ok (.if_icmp .ne 26, 3) := by decide +kernel
theorem d2_mayLearn_26 : decode (mm_cc M2_mayLearn) 26 = .ok (.aload_n 0, 1) := by decide +kernel
theorem d2_mayLearn_27 : decode (mm_cc M2_mayLearn) 27 = .ok (.getfield 19, 3) := by decide +kernel
theorem d2_mayLearn_30 : decode (mm_cc M2_mayLearn) 30 = .ok (.iload_n 1, 1) := by decide +kernel
theorem d2_mayLearn_31 : decode (mm_cc M2_mayLearn) 31 = .ok (.iload_n 2, 1) := by decide +kernel
theorem d2_mayLearn_32 : decode (mm_cc M2_mayLearn) 32 = .ok (.invokevirtual 49, 3) := by decide +kernel
theorem d2_mayLearn_35 : decode (mm_cc M2_mayLearn) 35 = .ok (.ifCond .ne 14, 3) := by decide +kernel
theorem d2_mayLearn_38 : decode (mm_cc M2_mayLearn) 38 = .ok (.aload_n 0, 1) := by decide +kernel
theorem d2_mayLearn_39 : decode (mm_cc M2_mayLearn) 39 = .ok (.getfield 9, 3) := by decide +kernel
theorem d2_mayLearn_42 : decode (mm_cc M2_mayLearn) 42 = .ok (.iload_n 2, 1) := by decide +kernel
theorem d2_mayLearn_43 : decode (mm_cc M2_mayLearn) 43 = .ok (.invokevirtual 99, 3) := by decide +kernel
theorem d2_mayLearn_46 : decode (mm_cc M2_mayLearn) 46 = .ok (.ifCond .eq 5, 3) := by decide +kernel
theorem d2_mayLearn_49 : decode (mm_cc M2_mayLearn) 49 = .ok (.iconst 0, 1) := by decide +kernel
theorem d2_mayLearn_50 : decode (mm_cc M2_mayLearn) 50 = .ok (.ireturn, 1) := by decide +kernel
theorem d2_mayLearn_51 : decode (mm_cc M2_mayLearn) 51 = .ok (.aload_n 0, 1) := by decide +kernel
theorem d2_mayLearn_52 : decode (mm_cc M2_mayLearn) 52 = .ok (.getfield 9, 3) := by decide +kernel
theorem d2_mayLearn_55 : decode (mm_cc M2_mayLearn) 55 = .ok (.getfield 102, 3) := by decide +kernel
theorem d2_mayLearn_58 : decode (mm_cc M2_mayLearn) 58 = .ok (.iload_n 2, 1) := by decide +kernel
theorem d2_mayLearn_59 : decode (mm_cc M2_mayLearn) 59 = .ok (.invokevirtual 96, 3) := by decide +kernel
theorem d2_mayLearn_62 : decode (mm_cc M2_mayLearn) 62 = .ok (.istore_n 3, 1) := by decide +kernel
theorem d2_mayLearn_63 : decode (mm_cc M2_mayLearn) 63 = .ok (.iload_n 3, 1) := by decide +kernel
theorem d2_mayLearn_64 : decode (mm_cc M2_mayLearn) 64 = .ok (.iconst (-1), 1) := by decide +kernel
theorem d2_mayLearn_65 : decode (mm_cc M2_mayLearn) 65 = .ok (.if_icmp .eq 15, 3) := by decide +kernel
theorem d2_mayLearn_68 : decode (mm_cc M2_mayLearn) 68 = .ok (.aload_n 0, 1) := by decide +kernel
theorem d2_mayLearn_69 : decode (mm_cc M2_mayLearn) 69 = .ok (.getfield 19, 3) := by decide +kernel
theorem d2_mayLearn_72 : decode (mm_cc M2_mayLearn) 72 = .ok (.iload_n 1, 1) := by decide +kernel
theorem d2_mayLearn_73 : decode (mm_cc M2_mayLearn) 73 = .ok (.iload_n 3, 1) := by decide +kernel
theorem d2_mayLearn_74 : decode (mm_cc M2_mayLearn) 74 = .ok (.invokevirtual 49, 3) := by decide +kernel
theorem d2_mayLearn_77 : decode (mm_cc M2_mayLearn) 77 = .ok (.ifCond .eq 7, 3) := by decide +kernel
theorem d2_mayLearn_80 : decode (mm_cc M2_mayLearn) 80 = .ok (.iconst 1, 1) := by decide +kernel
theorem d2_mayLearn_81 : decode (mm_cc M2_mayLearn) 81 = .ok (.goto 4, 3) := by decide +kernel
theorem d2_mayLearn_84 : decode (mm_cc M2_mayLearn) 84 = .ok (.iconst 0, 1) := by decide +kernel
theorem d2_mayLearn_85 : decode (mm_cc M2_mayLearn) 85 = .ok (.ireturn, 1) := by decide +kernel
theorem d2_mayLend_0 : decode (mm_cc M2_mayLend) 0 = .ok (.aload_n 0, 1) := by decide +kernel
theorem d2_mayLend_1 : decode (mm_cc M2_mayLend) 1 = .ok (.getfield 15, 3) := by decide +kernel
theorem d2_mayLend_4 : decode (mm_cc M2_mayLend) 4 = .ok (.getfield 105, 3) := by decide +kernel
theorem d2_mayLend_7 : decode (mm_cc M2_mayLend) 7 = .ok (.ifCond .eq 34, 3) := by decide +kernel
theorem d2_mayLend_10 : decode (mm_cc M2_mayLend) 10 = .ok (.aload_n 0, 1) := by decide +kernel
theorem d2_mayLend_11 : decode (mm_cc M2_mayLend) 11 = .ok (.getfield 19, 3) := by decide +kernel
theorem d2_mayLend_14 : decode (mm_cc M2_mayLend) 14 = .ok (.iload_n 1, 1) := by decide +kernel
theorem d2_mayLend_15 : decode (mm_cc M2_mayLend) 15 = .ok (.iload_n 2, 1) := by decide +kernel
theorem d2_mayLend_16 : decode (mm_cc M2_mayLend) 16 = .ok (.invokevirtual 49, 3) := by decide +kernel
theorem d2_mayLend_19 : decode (mm_cc M2_mayLend) 19 = .ok (.ifCond .eq 22, 3) := by decide +kernel
theorem d2_mayLend_22 : decode (mm_cc M2_mayLend) 22 = .ok (.aload_n 0, 1) := by decide +kernel
theorem d2_mayLend_23 : decode (mm_cc M2_mayLend) 23 = .ok (.getfield 19, 3) := by decide +kernel
theorem d2_mayLend_26 : decode (mm_cc M2_mayLend) 26 = .ok (.getfield 81, 3) := by decide +kernel
theorem d2_mayLend_29 : decode (mm_cc M2_mayLend) 29 = .ok (.iload_n 1, 1) := by decide +kernel
theorem d2_mayLend_30 : decode (mm_cc M2_mayLend) 30 = .ok (.invokevirtual 96, 3) := by decide +kernel
theorem d2_mayLend_33 : decode (mm_cc M2_mayLend) 33 = .ok (.iconst (-1), 1) := by decide +kernel
theorem d2_mayLend_34 : decode (mm_cc M2_mayLend) 34 = .ok (.if_icmp .ne 7, 3) := by decide +kernel
theorem d2_mayLend_37 : decode (mm_cc M2_mayLend) 37 = .ok (.iconst 1, 1) := by decide +kernel
theorem d2_mayLend_38 : decode (mm_cc M2_mayLend) 38 = .ok (.goto 4, 3) := by decide +kernel
theorem d2_mayLend_41 : decode (mm_cc M2_mayLend) 41 = .ok (.iconst 0, 1) := by decide +kernel
theorem d2_mayLend_42 : decode (mm_cc M2_mayLend) 42 = .ok (.ireturn, 1) := by decide +kernel
theorem d2_witnessesFor_0 : decode (mm_cc M2_witnessesFor) 0 = .ok (.iconst 0, 1) := by decide +kernel
theorem d2_witnessesFor_1 : decode (mm_cc M2_witnessesFor) 1 = .ok (.istore_n 3, 1) := by decide +kernel
theorem d2_witnessesFor_2 : decode (mm_cc M2_witnessesFor) 2 = .ok (.aload_n 0, 1) := by decide +kernel
theorem d2_witnessesFor_3 : decode (mm_cc M2_witnessesFor) 3 = .ok (.getfield 15, 3) := by decide +kernel
theorem d2_witnessesFor_6 : decode (mm_cc M2_witnessesFor) 6 = .ok (.getfield 109, 3) := by decide +kernel
theorem d2_witnessesFor_9 : decode (mm_cc M2_witnessesFor) 9 = .ok (.istore 4, 2) := by decide +kernel
theorem d2_witnessesFor_11 : decode (mm_cc M2_witnessesFor) 11 = .ok (.iconst 0, 1) := by decide +kernel
theorem d2_witnessesFor_12 : decode (mm_cc M2_witnessesFor) 12 = .ok (.istore 5, 2) := by decide +kernel
theorem d2_witnessesFor_14 : decode (mm_cc M2_witnessesFor) 14 = .ok (.iload 5, 2) := by decide +kernel
theorem d2_witnessesFor_16 : decode (mm_cc M2_witnessesFor) 16 = .ok (.aload_n 0, 1) := by decide +kernel
theorem d2_witnessesFor_17 : decode (mm_cc M2_witnessesFor) 17 = .ok (.getfield 9, 3) := by decide +kernel
theorem d2_witnessesFor_20 : decode (mm_cc M2_witnessesFor) 20 = .ok (.getfield 110, 3) := by decide +kernel
theorem d2_witnessesFor_23 : decode (mm_cc M2_witnessesFor) 23 = .ok (.if_icmp .ge 91, 3) := by decide +kernel
theorem d2_witnessesFor_26 : decode (mm_cc M2_witnessesFor) 26 = .ok (.iload 4, 2) := by decide +kernel
theorem d2_witnessesFor_28 : decode (mm_cc M2_witnessesFor) 28 = .ok (.ifCond .le 86, 3) := by decide +kernel
theorem d2_witnessesFor_31 : decode (mm_cc M2_witnessesFor) 31 = .ok (.aload_n 0, 1) := by decide +kernel
theorem d2_witnessesFor_32 : decode (mm_cc M2_witnessesFor) 32 = .ok (.getfield 19, 3) := by decide +kernel
theorem d2_witnessesFor_35 : decode (mm_cc M2_witnessesFor) 35 = .ok (.iload 5, 2) := by decide +kernel
theorem d2_witnessesFor_37 : decode (mm_cc M2_witnessesFor) 37 = .ok (.invokevirtual 90, 3) := by decide +kernel
theorem d2_witnessesFor_40 : decode (mm_cc M2_witnessesFor) 40 = .ok (.ifCond .eq 38, 3) := by decide +kernel
theorem d2_witnessesFor_43 : decode (mm_cc M2_witnessesFor) 43 = .ok (.aload_n 0, 1) := by decide +kernel
theorem d2_witnessesFor_44 : decode (mm_cc M2_witnessesFor) 44 = .ok (.getfield 19, 3) := by decide +kernel
theorem d2_witnessesFor_47 : decode (mm_cc M2_witnessesFor) 47 = .ok (.getfield 93, 3) := by decide +kernel
theorem d2_witnessesFor_50 : decode (mm_cc M2_witnessesFor) 50 = .ok (.iload 5, 2) := by decide +kernel
theorem d2_witnessesFor_52 : decode (mm_cc M2_witnessesFor) 52 = .ok (.invokevirtual 96, 3) := by decide +kernel
theorem d2_witnessesFor_55 : decode (mm_cc M2_witnessesFor) 55 = .ok (.iconst (-1), 1) := by decide +kernel
theorem d2_witnessesFor_56 : decode (mm_cc M2_witnessesFor) 56 = .ok (.if_icmp .ne 22, 3) := by decide +kernel
theorem d2_witnessesFor_59 : decode (mm_cc M2_witnessesFor) 59 = .ok (.aload_n 0, 1) := by decide +kernel
theorem d2_witnessesFor_60 : decode (mm_cc M2_witnessesFor) 60 = .ok (.getfield 19, 3) := by decide +kernel
theorem d2_witnessesFor_63 : decode (mm_cc M2_witnessesFor) 63 = .ok (.getfield 78, 3) := by decide +kernel
theorem d2_witnessesFor_66 : decode (mm_cc M2_witnessesFor) 66 = .ok (.iload 5, 2) := by decide +kernel
theorem d2_witnessesFor_68 : decode (mm_cc M2_witnessesFor) 68 = .ok (.invokestatic 113, 3) := by decide +kernel
theorem d2_witnessesFor_71 : decode (mm_cc M2_witnessesFor) 71 = .ok (.ifCond .ne 7, 3) := by decide +kernel
theorem d2_witnessesFor_74 : decode (mm_cc M2_witnessesFor) 74 = .ok (.iconst 1, 1) := by decide +kernel
theorem d2_witnessesFor_75 : decode (mm_cc M2_witnessesFor) 75 = .ok (.goto 4, 3) := by decide +kernel
theorem d2_witnessesFor_78 : decode (mm_cc M2_witnessesFor) 78 = .ok (.iconst 0, 1) := by decide +kernel
theorem d2_witnessesFor_79 : decode (mm_cc M2_witnessesFor) 79 = .ok (.istore 6, 2) := by decide +kernel
theorem d2_witnessesFor_81 : decode (mm_cc M2_witnessesFor) 81 = .ok (.iload 6, 2) := by decide +kernel
theorem d2_witnessesFor_83 : decode (mm_cc M2_witnessesFor) 83 = .ok (.ifCond .eq 25, 3) := by decide +kernel
theorem d2_witnessesFor_86 : decode (mm_cc M2_witnessesFor) 86 = .ok (.iload 5, 2) := by decide +kernel
theorem d2_witnessesFor_88 : decode (mm_cc M2_witnessesFor) 88 = .ok (.iload_n 1, 1) := by decide +kernel
theorem d2_witnessesFor_89 : decode (mm_cc M2_witnessesFor) 89 = .ok (.if_icmp .eq 19, 3) := by decide +kernel
theorem d2_witnessesFor_92 : decode (mm_cc M2_witnessesFor) 92 = .ok (.iload 5, 2) := by decide +kernel
theorem d2_witnessesFor_94 : decode (mm_cc M2_witnessesFor) 94 = .ok (.iload_n 2, 1) := by decide +kernel
theorem d2_witnessesFor_95 : decode (mm_cc M2_witnessesFor) 95 = .ok (.if_icmp .eq 13, 3) := by decide +kernel
theorem d2_witnessesFor_98 : decode (mm_cc M2_witnessesFor) 98 = .ok (.iload_n 3, 1) := by decide +kernel
theorem d2_witnessesFor_99 : decode (mm_cc M2_witnessesFor) 99 = .ok (.iconst 1, 1) := by decide +kernel
theorem d2_witnessesFor_100 : decode (mm_cc M2_witnessesFor) 100 = .ok (.iload 5, 2) := by decide +kernel
theorem d2_witnessesFor_102 : decode (mm_cc M2_witnessesFor) 102 = .ok (.ishl, 1) := by decide +kernel
theorem d2_witnessesFor_103 : decode (mm_cc M2_witnessesFor) 103 = .ok (.ior, 1) := by decide +kernel
theorem d2_witnessesFor_104 : decode (mm_cc M2_witnessesFor) 104 = .ok (.istore_n 3, 1) := by decide +kernel
theorem d2_witnessesFor_105 : decode (mm_cc M2_witnessesFor) 105 = .ok (.iinc 4 (-1), 3) := by decide +kernel
theorem d2_witnessesFor_108 : decode (mm_cc M2_witnessesFor) 108 = .ok (.iinc 5 1, 3) := by decide +kernel
theorem d2_witnessesFor_111 : decode (mm_cc M2_witnessesFor) 111 = .ok (.goto (-97), 3) := by decide +kernel
theorem d2_witnessesFor_114 : decode (mm_cc M2_witnessesFor) 114 = .ok (.iload 4, 2) := by decide +kernel
theorem d2_witnessesFor_116 : decode (mm_cc M2_witnessesFor) 116 = .ok (.ifCond .le 8, 3) := by decide +kernel
theorem d2_witnessesFor_119 : decode (mm_cc M2_witnessesFor) 119 = .ok (.ldc 59, 2) := by decide +kernel
theorem d2_witnessesFor_121 : decode (mm_cc M2_witnessesFor) 121 = .ok (.goto 4, 3) := by decide +kernel
theorem d2_witnessesFor_124 : decode (mm_cc M2_witnessesFor) 124 = .ok (.iload_n 3, 1) := by decide +kernel
theorem d2_witnessesFor_125 : decode (mm_cc M2_witnessesFor) 125 = .ok (.ireturn, 1) := by decide +kernel
theorem d2_workByNight_0 : decode (mm_cc M2_workByNight) 0 = .ok (.aload_n 0, 1) := by decide +kernel
theorem d2_workByNight_1 : decode (mm_cc M2_workByNight) 1 = .ok (.getfield 19, 3) := by decide +kernel
theorem d2_workByNight_4 : decode (mm_cc M2_workByNight) 4 = .ok (.iload_n 1, 1) := by decide +kernel
theorem d2_workByNight_5 : decode (mm_cc M2_workByNight) 5 = .ok (.iload_n 2, 1) := by decide +kernel
theorem d2_workByNight_6 : decode (mm_cc M2_workByNight) 6 = .ok (.bipush 100, 2) := by decide +kernel
theorem d2_workByNight_8 : decode (mm_cc M2_workByNight) 8 = .ok (.aload_n 0, 1) := by decide +kernel
theorem d2_workByNight_9 : decode (mm_cc M2_workByNight) 9 = .ok (.getfield 19, 3) := by decide +kernel
theorem d2_workByNight_12 : decode (mm_cc M2_workByNight) 12 = .ok (.iload_n 1, 1) := by decide +kernel
theorem d2_workByNight_13 : decode (mm_cc M2_workByNight) 13 = .ok (.iload_n 2, 1) := by decide +kernel
theorem d2_workByNight_14 : decode (mm_cc M2_workByNight) 14 = .ok (.invokevirtual 119, 3) := by decide +kernel
theorem d2_workByNight_17 : decode (mm_cc M2_workByNight) 17 = .ok (.iconst 5, 1) := by decide +kernel
theorem d2_workByNight_18 : decode (mm_cc M2_workByNight) 18 = .ok (.iadd, 1) := by decide +kernel
theorem d2_workByNight_19 : decode (mm_cc M2_workByNight) 19 = .ok (.invokestatic 122, 3) := by decide +kernel
theorem d2_workByNight_22 : decode (mm_cc M2_workByNight) 22 = .ok (.invokevirtual 127, 3) := by decide +kernel
theorem d2_workByNight_25 : decode (mm_cc M2_workByNight) 25 = .ok (.aload_n 0, 1) := by decide +kernel
theorem d2_workByNight_26 : decode (mm_cc M2_workByNight) 26 = .ok (.getfield 19, 3) := by decide +kernel
theorem d2_workByNight_29 : decode (mm_cc M2_workByNight) 29 = .ok (.dup, 1) := by decide +kernel
theorem d2_workByNight_30 : decode (mm_cc M2_workByNight) 30 = .ok (.getfield 131, 3) := by decide +kernel
theorem d2_workByNight_33 : decode (mm_cc M2_workByNight) 33 = .ok (.iconst 1, 1) := by decide +kernel
theorem d2_workByNight_34 : decode (mm_cc M2_workByNight) 34 = .ok (.iload_n 1, 1) := by decide +kernel
theorem d2_workByNight_35 : decode (mm_cc M2_workByNight) 35 = .ok (.ishl, 1) := by decide +kernel
theorem d2_workByNight_36 : decode (mm_cc M2_workByNight) 36 = .ok (.ior, 1) := by decide +kernel
theorem d2_workByNight_37 : decode (mm_cc M2_workByNight) 37 = .ok (.putfield 131, 3) := by decide +kernel
theorem d2_workByNight_40 : decode (mm_cc M2_workByNight) 40 = .ok (.aload_n 0, 1) := by decide +kernel
theorem d2_workByNight_41 : decode (mm_cc M2_workByNight) 41 = .ok (.getfield 19, 3) := by decide +kernel
theorem d2_workByNight_44 : decode (mm_cc M2_workByNight) 44 = .ok (.getfield 134, 3) := by decide +kernel
theorem d2_workByNight_47 : decode (mm_cc M2_workByNight) 47 = .ok (.iconst 1, 1) := by decide +kernel
theorem d2_workByNight_48 : decode (mm_cc M2_workByNight) 48 = .ok (.iload_n 1, 1) := by decide +kernel
theorem d2_workByNight_49 : decode (mm_cc M2_workByNight) 49 = .ok (.ishl, 1) := by decide +kernel
theorem d2_workByNight_50 : decode (mm_cc M2_workByNight) 50 = .ok (.iconst (-1), 1) := by decide +kernel
theorem d2_workByNight_51 : decode (mm_cc M2_workByNight) 51 = .ok (.ixor, 1) := by decide +kernel
theorem d2_workByNight_52 : decode (mm_cc M2_workByNight) 52 = .ok (.iand, 1) := by decide +kernel
theorem d2_workByNight_53 : decode (mm_cc M2_workByNight) 53 = .ok (.invokestatic 39, 3) := by decide +kernel
theorem d2_workByNight_56 : decode (mm_cc M2_workByNight) 56 = .ok (.istore_n 3, 1) := by decide +kernel
theorem d2_workByNight_57 : decode (mm_cc M2_workByNight) 57 = .ok (.aload_n 0, 1) := by decide +kernel
theorem d2_workByNight_58 : decode (mm_cc M2_workByNight) 58 = .ok (.getfield 19, 3) := by decide +kernel
theorem d2_workByNight_61 : decode (mm_cc M2_workByNight) 61 = .ok (.bipush 100, 2) := by decide +kernel
theorem d2_workByNight_63 : decode (mm_cc M2_workByNight) 63 = .ok (.invokevirtual 137, 3) := by decide +kernel
theorem d2_workByNight_66 : decode (mm_cc M2_workByNight) 66 = .ok (.bipush 10, 2) := by decide +kernel
theorem d2_workByNight_68 : decode (mm_cc M2_workByNight) 68 = .ok (.iload_n 3, 1) := by decide +kernel
theorem d2_workByNight_69 : decode (mm_cc M2_workByNight) 69 = .ok (.imul, 1) := by decide +kernel
theorem d2_workByNight_70 : decode (mm_cc M2_workByNight) 70 = .ok (.if_icmp .ge 7, 3) := by decide +kernel
theorem d2_workByNight_73 : decode (mm_cc M2_workByNight) 73 = .ok (.iconst 1, 1) := by decide +kernel
theorem d2_workByNight_74 : decode (mm_cc M2_workByNight) 74 = .ok (.goto 4, 3) := by decide +kernel
theorem d2_workByNight_77 : decode (mm_cc M2_workByNight) 77 = .ok (.iconst 0, 1) := by decide +kernel
theorem d2_workByNight_78 : decode (mm_cc M2_workByNight) 78 = .ok (.istore 4, 2) := by decide +kernel
theorem d2_workByNight_80 : decode (mm_cc M2_workByNight) 80 = .ok (.iload 4, 2) := by decide +kernel
theorem d2_workByNight_82 : decode (mm_cc M2_workByNight) 82 = .ok (.ifCond .eq 30, 3) := by decide +kernel
theorem d2_workByNight_85 : decode (mm_cc M2_workByNight) 85 = .ok (.aload_n 0, 1) := by decide +kernel
theorem d2_workByNight_86 : decode (mm_cc M2_workByNight) 86 = .ok (.getfield 19, 3) := by decide +kernel
theorem d2_workByNight_89 : decode (mm_cc M2_workByNight) 89 = .ok (.getfield 81, 3) := by decide +kernel
theorem d2_workByNight_92 : decode (mm_cc M2_workByNight) 92 = .ok (.iload_n 1, 1) := by decide +kernel
theorem d2_workByNight_93 : decode (mm_cc M2_workByNight) 93 = .ok (.invokevirtual 96, 3) := by decide +kernel
theorem d2_workByNight_96 : decode (mm_cc M2_workByNight) 96 = .ok (.iconst (-1), 1) := by decide +kernel
theorem d2_workByNight_97 : decode (mm_cc M2_workByNight) 97 = .ok (.if_icmp .ne 15, 3) := by decide +kernel
theorem d2_workByNight_100 : decode (mm_cc M2_workByNight) 100 = .ok (.aload_n 0, 1) := by decide +kernel
theorem d2_workByNight_101 : decode (mm_cc M2_workByNight) 101 = .ok (.getfield 19, 3) := by decide +kernel
theorem d2_workByNight_104 : decode (mm_cc M2_workByNight) 104 = .ok (.getfield 81, 3) := by decide +kernel
theorem d2_workByNight_107 : decode (mm_cc M2_workByNight) 107 = .ok (.iload_n 1, 1) := by decide +kernel
theorem d2_workByNight_108 : decode (mm_cc M2_workByNight) 108 = .ok (.iload_n 2, 1) := by decide +kernel
theorem d2_workByNight_109 : decode (mm_cc M2_workByNight) 109 = .ok (.invokevirtual 85, 3) := by decide +kernel
theorem d2_workByNight_112 : decode (mm_cc M2_workByNight) 112 = .ok (.iload 4, 2) := by decide +kernel
theorem d2_workByNight_114 : decode (mm_cc M2_workByNight) 114 = .ok (.ireturn, 1) := by decide +kernel
theorem d3_costOf_0 : decode (mm_cc M3_costOf) 0 = .ok (.aload_n 0, 1) := by decide +kernel
theorem d3_costOf_1 : decode (mm_cc M3_costOf) 1 = .ok (.getfield 37, 3) := by decide +kernel
theorem d3_costOf_4 : decode (mm_cc M3_costOf) 4 = .ok (.iload_n 1, 1) := by decide +kernel
theorem d3_costOf_5 : decode (mm_cc M3_costOf) 5 = .ok (.iload_n 2, 1) := by decide +kernel
theorem d3_costOf_6 : decode (mm_cc M3_costOf) 6 = .ok (.invokevirtual 97, 3) := by decide +kernel
theorem d3_costOf_9 : decode (mm_cc M3_costOf) 9 = .ok (.istore_n 3, 1) := by decide +kernel
theorem d3_costOf_10 : decode (mm_cc M3_costOf) 10 = .ok (.aload_n 0, 1) := by decide +kernel
theorem d3_costOf_11 : decode (mm_cc M3_costOf) 11 = .ok (.getfield 33, 3) := by decide +kernel
theorem d3_costOf_14 : decode (mm_cc M3_costOf) 14 = .ok (.getfield 100, 3) := by decide +kernel
theorem d3_costOf_17 : decode (mm_cc M3_costOf) 17 = .ok (.iload_n 2, 1) := by decide +kernel
theorem d3_costOf_18 : decode (mm_cc M3_costOf) 18 = .ok (.invokevirtual 71, 3) := by decide +kernel
theorem d3_costOf_21 : decode (mm_cc M3_costOf) 21 = .ok (.istore 4, 2) := by decide +kernel
theorem d3_costOf_23 : decode (mm_cc M3_costOf) 23 = .ok (.iload_n 3, 1) := by decide +kernel
theorem d3_costOf_24 : decode (mm_cc M3_costOf) 24 = .ok (.bipush 50, 2) := by decide +kernel
theorem d3_costOf_26 : decode (mm_cc M3_costOf) 26 = .ok (.if_icmp .lt 5, 3) := by decide +kernel
theorem d3_costOf_29 : decode (mm_cc M3_costOf) 29 = .ok (.iconst 0, 1) := by decide +kernel
theorem d3_costOf_30 : decode (mm_cc M3_costOf) 30 = .ok (.ireturn, 1) := by decide +kernel
theorem d3_costOf_31 : decode (mm_cc M3_costOf) 31 = .ok (.iload_n 3, 1) := by decide +kernel
theorem d3_costOf_32 : decode (mm_cc M3_costOf) 32 = .ok (.ifCond .le 17, 3) := by decide +kernel
theorem d3_costOf_35 : decode (mm_cc M3_costOf) 35 = .ok (.iload 4, 2) := by decide +kernel
theorem d3_costOf_37 : decode (mm_cc M3_costOf) 37 = .ok (.bipush 100, 2) := by decide +kernel
theorem d3_costOf_39 : decode (mm_cc M3_costOf) 39 = .ok (.iload_n 3, 1) := by decide +kernel
theorem d3_costOf_40 : decode (mm_cc M3_costOf) 40 = .ok (.isub, 1) := by decide +kernel
theorem d3_costOf_41 : decode (mm_cc M3_costOf) 41 = .ok (.imul, 1) := by decide +kernel
theorem d3_costOf_42 : decode (mm_cc M3_costOf) 42 = .ok (.bipush 99, 2) := by decide +kernel
theorem d3_costOf_44 : decode (mm_cc M3_costOf) 44 = .ok (.iadd, 1) := by decide +kernel
theorem d3_costOf_45 : decode (mm_cc M3_costOf) 45 = .ok (.bipush 100, 2) := by decide +kernel
theorem d3_costOf_47 : decode (mm_cc M3_costOf) 47 = .ok (.idiv, 1) := by decide +kernel
theorem d3_costOf_48 : decode (mm_cc M3_costOf) 48 = .ok (.ireturn, 1) := by decide +kernel
theorem d3_costOf_49 : decode (mm_cc M3_costOf) 49 = .ok (.aload_n 0, 1) := by decide +kernel
theorem d3_costOf_50 : decode (mm_cc M3_costOf) 50 = .ok (.getfield 33, 3) := by decide +kernel
theorem d3_costOf_53 : decode (mm_cc M3_costOf) 53 = .ok (.getfield 103, 3) := by decide +kernel
theorem d3_costOf_56 : decode (mm_cc M3_costOf) 56 = .ok (.iload_n 2, 1) := by decide +kernel
theorem d3_costOf_57 : decode (mm_cc M3_costOf) 57 = .ok (.invokevirtual 71, 3) := by decide +kernel
theorem d3_costOf_60 : decode (mm_cc M3_costOf) 60 = .ok (.istore 5, 2) := by decide +kernel
theorem d3_costOf_62 : decode (mm_cc M3_costOf) 62 = .ok (.aload_n 0, 1) := by decide +kernel
theorem d3_costOf_63 : decode (mm_cc M3_costOf) 63 = .ok (.getfield 37, 3) := by decide +kernel
theorem d3_costOf_66 : decode (mm_cc M3_costOf) 66 = .ok (.iload_n 1, 1) := by decide +kernel
theorem d3_costOf_67 : decode (mm_cc M3_costOf) 67 = .ok (.invokevirtual 106, 3) := by decide +kernel
theorem d3_costOf_70 : decode (mm_cc M3_costOf) 70 = .ok (.ifCond .eq 37, 3) := by decide +kernel
theorem d3_costOf_73 : decode (mm_cc M3_costOf) 73 = .ok (.aload_n 0, 1) := by decide +kernel
theorem d3_costOf_74 : decode (mm_cc M3_costOf) 74 = .ok (.getfield 33, 3) := by decide +kernel
theorem d3_costOf_77 : decode (mm_cc M3_costOf) 77 = .ok (.iload_n 2, 1) := by decide +kernel
theorem d3_costOf_78 : decode (mm_cc M3_costOf) 78 = .ok (.invokevirtual 110, 3) := by decide +kernel
theorem d3_costOf_81 : decode (mm_cc M3_costOf) 81 = .ok (.ifCond .ne 26, 3) := by decide +kernel
theorem d3_costOf_84 : decode (mm_cc M3_costOf) 84 = .ok (.iload 5, 2) := by decide +kernel
theorem d3_costOf_86 : decode (mm_cc M3_costOf) 86 = .ok (.iconst (-1), 1) := by decide +kernel
theorem d3_costOf_87 : decode (mm_cc M3_costOf) 87 = .ok (.if_icmp .eq 16, 3) := by decide +kernel
theorem d3_costOf_90 : decode (mm_cc M3_costOf) 90 = .ok (.aload_n 0, 1) := by decide +kernel
theorem d3_costOf_91 : decode (mm_cc M3_costOf) 91 = .ok (.getfield 37, 3) := by decide +kernel
theorem d3_costOf_94 : decode (mm_cc M3_costOf) 94 = .ok (.iload_n 1, 1) := by decide +kernel
theorem d3_costOf_95 : decode (mm_cc M3_costOf) 95 = .ok (.iload 5, 2) := by decide +kernel
theorem d3_costOf_97 : decode (mm_cc M3_costOf) 97 = .ok (.invokevirtual 113, 3) := by decide +kernel
theorem d3_costOf_100 : decode (mm_cc M3_costOf) 100 = .ok (.ifCond .eq 7, 3) := by decide +kernel
theorem d3_costOf_103 : decode (mm_cc M3_costOf) 103 = .ok (.iconst 1, 1) := by decide +kernel
theorem d3_costOf_104 : decode (mm_cc M3_costOf) 104 = .ok (.goto 4, 3) := by decide +kernel
theorem d3_costOf_107 : decode (mm_cc M3_costOf) 107 = .ok (.iconst 0, 1) := by decide +kernel
theorem d3_costOf_108 : decode (mm_cc M3_costOf) 108 = .ok (.istore 6, 2) := by decide +kernel
theorem d3_costOf_110 : decode (mm_cc M3_costOf) 110 = .ok (.iload 6, 2) := by decide +kernel
theorem d3_costOf_112 : decode (mm_cc M3_costOf) 112 = .ok (.ifCond .eq 8, 3) := by decide +kernel
theorem d3_costOf_115 : decode (mm_cc M3_costOf) 115 = .ok (.iload 4, 2) := by decide +kernel
theorem d3_costOf_117 : decode (mm_cc M3_costOf) 117 = .ok (.goto 5, 3) := by decide +kernel
theorem d3_costOf_120 : decode (mm_cc M3_costOf) 120 = .ok (.ldc 74, 2) := by decide +kernel
theorem d3_costOf_122 : decode (mm_cc M3_costOf) 122 = .ok (.ireturn, 1) := by decide +kernel
theorem d3_sumWith_0 : decode (mm_cc M3_sumWith) 0 = .ok (.iload_n 1, 1) := by decide +kernel
theorem d3_sumWith_1 : decode (mm_cc M3_sumWith) 1 = .ok (.iconst 1, 1) := by decide +kernel
theorem d3_sumWith_2 : decode (mm_cc M3_sumWith) 2 = .ok (.iadd, 1) := by decide +kernel
theorem d3_sumWith_3 : decode (mm_cc M3_sumWith) 3 = .ok (.aload_n 0, 1) := by decide +kernel
theorem d3_sumWith_4 : decode (mm_cc M3_sumWith) 4 = .ok (.getfield 29, 3) := by decide +kernel
theorem d3_sumWith_7 : decode (mm_cc M3_sumWith) 7 = .ok (.imul, 1) := by decide +kernel
theorem d3_sumWith_8 : decode (mm_cc M3_sumWith) 8 = .ok (.istore 4, 2) := by decide +kernel
theorem d3_sumWith_10 : decode (mm_cc M3_sumWith) 10 = .ok (.iload_n 3, 1) := by decide +kernel
theorem d3_sumWith_11 : decode (mm_cc M3_sumWith) 11 = .ok (.iconst (-1), 1) := by decide +kernel
theorem d3_sumWith_12 : decode (mm_cc M3_sumWith) 12 = .ok (.if_icmp .ne 15, 3) := by decide +kernel
theorem d3_sumWith_15 : decode (mm_cc M3_sumWith) 15 = .ok (.aload_n 0, 1) := by decide +kernel
theorem d3_sumWith_16 : decode (mm_cc M3_sumWith) 16 = .ok (.getfield 23, 3) := by decide +kernel
theorem d3_sumWith_19 : decode (mm_cc M3_sumWith) 19 = .ok (.iload 4, 2) := by decide +kernel
theorem d3_sumWith_21 : decode (mm_cc M3_sumWith) 21 = .ok (.iload_n 2, 1) := by decide +kernel
theorem d3_sumWith_22 : decode (mm_cc M3_sumWith) 22 = .ok (.iadd, 1) := by decide +kernel
theorem d3_sumWith_23 : decode (mm_cc M3_sumWith) 23 = .ok (.invokevirtual 71, 3) := by decide +kernel
theorem d3_sumWith_26 : decode (mm_cc M3_sumWith) 26 = .ok (.ireturn, 1) := by decide +kernel
theorem d3_sumWith_27 : decode (mm_cc M3_sumWith) 27 = .ok (.aload_n 0, 1) := by decide +kernel
theorem d3_sumWith_28 : decode (mm_cc M3_sumWith) 28 = .ok (.iload_n 2, 1) := by decide +kernel
theorem d3_sumWith_29 : decode (mm_cc M3_sumWith) 29 = .ok (.iload_n 3, 1) := by decide +kernel
theorem d3_sumWith_30 : decode (mm_cc M3_sumWith) 30 = .ok (.invokevirtual 126, 3) := by decide +kernel
theorem d3_sumWith_33 : decode (mm_cc M3_sumWith) 33 = .ok (.ifCond .ne 6, 3) := by decide +kernel
theorem d3_sumWith_36 : decode (mm_cc M3_sumWith) 36 = .ok (.ldc 74, 2) := by decide +kernel
theorem d3_sumWith_38 : decode (mm_cc M3_sumWith) 38 = .ok (.ireturn, 1) := by decide +kernel
theorem d3_sumWith_39 : decode (mm_cc M3_sumWith) 39 = .ok (.ldc 74, 2) := by decide +kernel
theorem d3_sumWith_41 : decode (mm_cc M3_sumWith) 41 = .ok (.aload_n 0, 1) := by decide +kernel
theorem d3_sumWith_42 : decode (mm_cc M3_sumWith) 42 = .ok (.getfield 20, 3) := by decide +kernel
theorem d3_sumWith_45 : decode (mm_cc M3_sumWith) 45 = .ok (.iload_n 1, 1) := by decide +kernel
theorem d3_sumWith_46 : decode (mm_cc M3_sumWith) 46 = .ok (.iload_n 3, 1) := by decide +kernel
theorem d3_sumWith_47 : decode (mm_cc M3_sumWith) 47 = .ok (.invokestatic 90, 3) := by decide +kernel
theorem d3_sumWith_50 : decode (mm_cc M3_sumWith) 50 = .ok (.invokevirtual 71, 3) := by decide +kernel
theorem d3_sumWith_53 : decode (mm_cc M3_sumWith) 53 = .ok (.aload_n 0, 1) := by decide +kernel
theorem d3_sumWith_54 : decode (mm_cc M3_sumWith) 54 = .ok (.getfield 23, 3) := by decide +kernel
theorem d3_sumWith_57 : decode (mm_cc M3_sumWith) 57 = .ok (.iload 4, 2) := by decide +kernel
theorem d3_sumWith_59 : decode (mm_cc M3_sumWith) 59 = .ok (.iload_n 2, 1) := by decide +kernel
theorem d3_sumWith_60 : decode (mm_cc M3_sumWith) 60 = .ok (.iadd, 1) := by decide +kernel
theorem d3_sumWith_61 : decode (mm_cc M3_sumWith) 61 = .ok (.aload_n 0, 1) := by decide +kernel
theorem d3_sumWith_62 : decode (mm_cc M3_sumWith) 62 = .ok (.getfield 14, 3) := by decide +kernel
theorem d3_sumWith_65 : decode (mm_cc M3_sumWith) 65 = .ok (.iload_n 3, 1) := by decide +kernel
theorem d3_sumWith_66 : decode (mm_cc M3_sumWith) 66 = .ok (.invokevirtual 71, 3) := by decide +kernel
theorem d3_sumWith_69 : decode (mm_cc M3_sumWith) 69 = .ok (.isub, 1) := by decide +kernel
theorem d3_sumWith_70 : decode (mm_cc M3_sumWith) 70 = .ok (.invokevirtual 71, 3) := by decide +kernel
theorem d3_sumWith_73 : decode (mm_cc M3_sumWith) 73 = .ok (.iadd, 1) := by decide +kernel
theorem d3_sumWith_74 : decode (mm_cc M3_sumWith) 74 = .ok (.invokestatic 121, 3) := by decide +kernel
theorem d3_sumWith_77 : decode (mm_cc M3_sumWith) 77 = .ok (.ireturn, 1) := by decide +kernel
theorem d4_closeClause_0 : decode (mm_cc M4_closeClause) 0 = .ok (.aload_n 0, 1) := by decide +kernel
theorem d4_closeClause_1 : decode (mm_cc M4_closeClause) 1 = .ok (.getfield 24, 3) := by decide +kernel
theorem d4_closeClause_4 : decode (mm_cc M4_closeClause) 4 = .ok (.iconst 3, 1) := by decide +kernel
theorem d4_closeClause_5 : decode (mm_cc M4_closeClause) 5 = .ok (.if_icmp .eq 12, 3) := by decide +kernel
theorem d4_closeClause_8 : decode (mm_cc M4_closeClause) 8 = .ok (.aload_n 0, 1) := by decide +kernel
theorem d4_closeClause_9 : decode (mm_cc M4_closeClause) 9 = .ok (.iconst 1, 1) := by decide +kernel
theorem d4_closeClause_10 : decode (mm_cc M4_closeClause) 10 = .ok (.aload_n 0, 1) := by decide +kernel
theorem d4_closeClause_11 : decode (mm_cc M4_closeClause) 11 = .ok (.getfield 27, 3) := by decide +kernel
theorem d4_closeClause_14 : decode (mm_cc M4_closeClause) 14 = .ok (.invokevirtual 62, 3) := by decide +kernel
theorem d4_closeClause_17 : decode (mm_cc M4_closeClause) 17 = .ok (.aload_n 0, 1) := by decide +kernel
theorem d4_closeClause_18 : decode (mm_cc M4_closeClause) 18 = .ok (.invokevirtual 72, 3) := by decide +kernel
theorem d4_closeClause_21 : decode (mm_cc M4_closeClause) 21 = .ok (.ifCond .eq 7, 3) := by decide +kernel
theorem d4_closeClause_24 : decode (mm_cc M4_closeClause) 24 = .ok (.aload_n 0, 1) := by decide +kernel
theorem d4_closeClause_25 : decode (mm_cc M4_closeClause) 25 = .ok (.invokevirtual 43, 3) := by decide +kernel
theorem d4_closeClause_28 : decode (mm_cc M4_closeClause) 28 = .ok (.return_, 1) := by decide +kernel
theorem d4_number_0 : decode (mm_cc M4_number) 0 = .ok (.aload_n 0, 1) := by decide +kernel
theorem d4_number_1 : decode (mm_cc M4_number) 1 = .ok (.getfield 24, 3) := by decide +kernel
theorem d4_number_4 : decode (mm_cc M4_number) 4 = .ok (.iconst 2, 1) := by decide +kernel
theorem d4_number_5 : decode (mm_cc M4_number) 5 = .ok (.if_icmp .eq 15, 3) := by decide +kernel
theorem d4_number_8 : decode (mm_cc M4_number) 8 = .ok (.aload_n 0, 1) := by decide +kernel
theorem d4_number_9 : decode (mm_cc M4_number) 9 = .ok (.iconst 1, 1) := by decide +kernel
theorem d4_number_10 : decode (mm_cc M4_number) 10 = .ok (.aload_n 0, 1) := by decide +kernel
theorem d4_number_11 : decode (mm_cc M4_number) 11 = .ok (.getfield 27, 3) := by decide +kernel
theorem d4_number_14 : decode (mm_cc M4_number) 14 = .ok (.invokevirtual 62, 3) := by decide +kernel
theorem d4_number_17 : decode (mm_cc M4_number) 17 = .ok (.goto 37, 3) := by decide +kernel
theorem d4_number_20 : decode (mm_cc M4_number) 20 = .ok (.aload_n 0, 1) := by decide +kernel
theorem d4_number_21 : decode (mm_cc M4_number) 21 = .ok (.getfield 30, 3) := by decide +kernel
theorem d4_number_24 : decode (mm_cc M4_number) 24 = .ok (.aload_n 0, 1) := by decide +kernel
theorem d4_number_25 : decode (mm_cc M4_number) 25 = .ok (.getfield 27, 3) := by decide +kernel
theorem d4_number_28 : decode (mm_cc M4_number) 28 = .ok (.isub, 1) := by decide +kernel
theorem d4_number_29 : decode (mm_cc M4_number) 29 = .ok (.iconst 3, 1) := by decide +kernel
theorem d4_number_30 : decode (mm_cc M4_number) 30 = .ok (.if_icmp .gt 15, 3) := by decide +kernel
theorem d4_number_33 : decode (mm_cc M4_number) 33 = .ok (.aload_n 0, 1) := by decide +kernel
theorem d4_number_34 : decode (mm_cc M4_number) 34 = .ok (.invokevirtual 65, 3) := by decide +kernel
theorem d4_number_37 : decode (mm_cc M4_number) 37 = .ok (.iload_n 1, 1) := by decide +kernel
theorem d4_number_38 : decode (mm_cc M4_number) 38 = .ok (.iload_n 2, 1) := by decide +kernel
theorem d4_number_39 : decode (mm_cc M4_number) 39 = .ok (.invokestatic 68, 3) := by decide +kernel
theorem d4_number_42 : decode (mm_cc M4_number) 42 = .ok (.ifCond .ne 12, 3) := by decide +kernel
theorem d4_number_45 : decode (mm_cc M4_number) 45 = .ok (.aload_n 0, 1) := by decide +kernel
theorem d4_number_46 : decode (mm_cc M4_number) 46 = .ok (.iconst 2, 1) := by decide +kernel
theorem d4_number_47 : decode (mm_cc M4_number) 47 = .ok (.aload_n 0, 1) := by decide +kernel
theorem d4_number_48 : decode (mm_cc M4_number) 48 = .ok (.getfield 27, 3) := by decide +kernel
theorem d4_number_51 : decode (mm_cc M4_number) 51 = .ok (.invokevirtual 62, 3) := by decide +kernel
theorem d4_number_54 : decode (mm_cc M4_number) 54 = .ok (.aload_n 0, 1) := by decide +kernel
theorem d4_number_55 : decode (mm_cc M4_number) 55 = .ok (.invokevirtual 72, 3) := by decide +kernel
theorem d4_number_58 : decode (mm_cc M4_number) 58 = .ok (.ifCond .ne 5, 3) := by decide +kernel
theorem d4_number_61 : decode (mm_cc M4_number) 61 = .ok (.iconst (-1), 1) := by decide +kernel
theorem d4_number_62 : decode (mm_cc M4_number) 62 = .ok (.ireturn, 1) := by decide +kernel
theorem d4_number_63 : decode (mm_cc M4_number) 63 = .ok (.aload_n 0, 1) := by decide +kernel
theorem d4_number_64 : decode (mm_cc M4_number) 64 = .ok (.invokevirtual 65, 3) := by decide +kernel
theorem d4_number_67 : decode (mm_cc M4_number) 67 = .ok (.istore_n 3, 1) := by decide +kernel
theorem d4_number_68 : decode (mm_cc M4_number) 68 = .ok (.aload_n 0, 1) := by decide +kernel
theorem d4_number_69 : decode (mm_cc M4_number) 69 = .ok (.invokevirtual 43, 3) := by decide +kernel
theorem d4_number_72 : decode (mm_cc M4_number) 72 = .ok (.iload_n 3, 1) := by decide +kernel
theorem d4_number_73 : decode (mm_cc M4_number) 73 = .ok (.ireturn, 1) := by decide +kernel
theorem d4_open_0 : decode (mm_cc M4_open) 0 = .ok (.aload_n 0, 1) := by decide +kernel
theorem d4_open_1 : decode (mm_cc M4_open) 1 = .ok (.iconst 0, 1) := by decide +kernel
theorem d4_open_2 : decode (mm_cc M4_open) 2 = .ok (.putfield 30, 3) := by decide +kernel
theorem d4_open_5 : decode (mm_cc M4_open) 5 = .ok (.aload_n 0, 1) := by decide +kernel
theorem d4_open_6 : decode (mm_cc M4_open) 6 = .ok (.iconst 0, 1) := by decide +kernel
theorem d4_open_7 : decode (mm_cc M4_open) 7 = .ok (.putfield 33, 3) := by decide +kernel
theorem d4_open_10 : decode (mm_cc M4_open) 10 = .ok (.aload_n 0, 1) := by decide +kernel
theorem d4_open_11 : decode (mm_cc M4_open) 11 = .ok (.iconst (-1), 1) := by decide +kernel
theorem d4_open_12 : decode (mm_cc M4_open) 12 = .ok (.putfield 36, 3) := by decide +kernel
theorem d4_open_15 : decode (mm_cc M4_open) 15 = .ok (.aload_n 0, 1) := by decide +kernel
theorem d4_open_16 : decode (mm_cc M4_open) 16 = .ok (.invokevirtual 43, 3) := by decide +kernel
theorem d4_open_19 : decode (mm_cc M4_open) 19 = .ok (.return_, 1) := by decide +kernel
theorem d5_gainOf_0 : decode (mm_cc M5_gainOf) 0 = .ok (.iload_n 2, 1) := by decide +kernel
theorem d5_gainOf_1 : decode (mm_cc M5_gainOf) 1 = .ok (.iconst (-1), 1) := by decide +kernel
theorem d5_gainOf_2 : decode (mm_cc M5_gainOf) 2 = .ok (.if_icmp .eq 41, 3) := by decide +kernel
theorem d5_gainOf_5 : decode (mm_cc M5_gainOf) 5 = .ok (.iload_n 3, 1) := by decide +kernel
theorem d5_gainOf_6 : decode (mm_cc M5_gainOf) 6 = .ok (.iconst (-1), 1) := by decide +kernel
theorem d5_gainOf_7 : decode (mm_cc M5_gainOf) 7 = .ok (.if_icmp .eq 36, 3) := by decide +kernel
theorem d5_gainOf_10 : decode (mm_cc M5_gainOf) 10 = .ok (.aload_n 0, 1) := by decide +kernel
theorem d5_gainOf_11 : decode (mm_cc M5_gainOf) 11 = .ok (.getfield 36, 3) := by decide +kernel
theorem d5_gainOf_14 : decode (mm_cc M5_gainOf) 14 = .ok (.getfield 62, 3) := by decide +kernel
theorem d5_gainOf_17 : decode (mm_cc M5_gainOf) 17 = .ok (.iload_n 1, 1) := by decide +kernel
theorem d5_gainOf_18 : decode (mm_cc M5_gainOf) 18 = .ok (.iload_n 3, 1) := by decide +kernel
theorem d5_gainOf_19 : decode (mm_cc M5_gainOf) 19 = .ok (.invokevirtual 86, 3) := by decide +kernel
theorem d5_gainOf_22 : decode (mm_cc M5_gainOf) 22 = .ok (.ifCond .ne 21, 3) := by decide +kernel
theorem d5_gainOf_25 : decode (mm_cc M5_gainOf) 25 = .ok (.aload_n 0, 1) := by decide +kernel
theorem d5_gainOf_26 : decode (mm_cc M5_gainOf) 26 = .ok (.getfield 36, 3) := by decide +kernel
theorem d5_gainOf_29 : decode (mm_cc M5_gainOf) 29 = .ok (.getfield 43, 3) := by decide +kernel
theorem d5_gainOf_32 : decode (mm_cc M5_gainOf) 32 = .ok (.iload_n 3, 1) := by decide +kernel
theorem d5_gainOf_33 : decode (mm_cc M5_gainOf) 33 = .ok (.invokevirtual 90, 3) := by decide +kernel
theorem d5_gainOf_36 : decode (mm_cc M5_gainOf) 36 = .ok (.ifCond .ne 7, 3) := by decide +kernel
theorem d5_gainOf_39 : decode (mm_cc M5_gainOf) 39 = .ok (.iconst 1, 1) := by decide +kernel
theorem d5_gainOf_40 : decode (mm_cc M5_gainOf) 40 = .ok (.goto 4, 3) := by decide +kernel
theorem d5_gainOf_43 : decode (mm_cc M5_gainOf) 43 = .ok (.iconst 0, 1) := by decide +kernel
theorem d5_gainOf_44 : decode (mm_cc M5_gainOf) 44 = .ok (.istore 4, 2) := by decide +kernel
theorem d5_gainOf_46 : decode (mm_cc M5_gainOf) 46 = .ok (.iload 4, 2) := by decide +kernel
theorem d5_gainOf_48 : decode (mm_cc M5_gainOf) 48 = .ok (.ifCond .eq 35, 3) := by decide +kernel
theorem d5_gainOf_51 : decode (mm_cc M5_gainOf) 51 = .ok (.iconst 0, 1) := by decide +kernel
theorem d5_gainOf_52 : decode (mm_cc M5_gainOf) 52 = .ok (.aload_n 0, 1) := by decide +kernel
theorem d5_gainOf_53 : decode (mm_cc M5_gainOf) 53 = .ok (.getfield 36, 3) := by decide +kernel
theorem d5_gainOf_56 : decode (mm_cc M5_gainOf) 56 = .ok (.getfield 43, 3) := by decide +kernel
theorem d5_gainOf_59 : decode (mm_cc M5_gainOf) 59 = .ok (.iload_n 1, 1) := by decide +kernel
theorem d5_gainOf_60 : decode (mm_cc M5_gainOf) 60 = .ok (.iload_n 3, 1) := by decide +kernel
theorem d5_gainOf_61 : decode (mm_cc M5_gainOf) 61 = .ok (.invokevirtual 93, 3) := by decide +kernel
theorem d5_gainOf_64 : decode (mm_cc M5_gainOf) 64 = .ok (.aload_n 0, 1) := by decide +kernel
theorem d5_gainOf_65 : decode (mm_cc M5_gainOf) 65 = .ok (.getfield 36, 3) := by decide +kernel
theorem d5_gainOf_68 : decode (mm_cc M5_gainOf) 68 = .ok (.getfield 43, 3) := by decide +kernel
theorem d5_gainOf_71 : decode (mm_cc M5_gainOf) 71 = .ok (.iload_n 1, 1) := by decide +kernel
theorem d5_gainOf_72 : decode (mm_cc M5_gainOf) 72 = .ok (.iload_n 2, 1) := by decide +kernel
theorem d5_gainOf_73 : decode (mm_cc M5_gainOf) 73 = .ok (.invokevirtual 93, 3) := by decide +kernel
theorem d5_gainOf_76 : decode (mm_cc M5_gainOf) 76 = .ok (.isub, 1) := by decide +kernel
theorem d5_gainOf_77 : decode (mm_cc M5_gainOf) 77 = .ok (.invokestatic 97, 3) := by decide +kernel
theorem d5_gainOf_80 : decode (mm_cc M5_gainOf) 80 = .ok (.goto 4, 3) := by decide +kernel
theorem d5_gainOf_83 : decode (mm_cc M5_gainOf) 83 = .ok (.iconst 0, 1) := by decide +kernel
theorem d5_gainOf_84 : decode (mm_cc M5_gainOf) 84 = .ok (.ireturn, 1) := by decide +kernel
theorem d5_walkOn_0 {d : Nat} : decode (mm_cc (M5_walkOn d)) 0 = .ok (.aload_n 0, 1) := (by decide +kernel : decode cX5_walkOn 0 = .ok (.aload_n 0, 1))
theorem d5_walkOn_1 {d : Nat} : decode (mm_cc (M5_walkOn d)) 1 = .ok (.getfield 23, 3) := (by decide +kernel : decode cX5_walkOn 1 = .ok (.getfield 23, 3))
theorem d5_walkOn_4 {d : Nat} : decode (mm_cc (M5_walkOn d)) 4 = .ok (.iconst 0, 1) := (by decide +kernel : decode cX5_walkOn 4 = .ok (.iconst 0, 1))
theorem d5_walkOn_5 {d : Nat} : decode (mm_cc (M5_walkOn d)) 5 = .ok (.invokevirtual 75, 3) := (by decide +kernel : decode cX5_walkOn 5 = .ok (.invokevirtual 75, 3))
theorem d5_walkOn_8 {d : Nat} : decode (mm_cc (M5_walkOn d)) 8 = .ok (.istore 4, 2) := (by decide +kernel : decode cX5_walkOn 8 = .ok (.istore 4, 2))
theorem d5_walkOn_10 {d : Nat} : decode (mm_cc (M5_walkOn d)) 10 = .ok (.aload_n 0, 1) := (by decide +kernel : decode cX5_walkOn 10 = .ok (.aload_n 0, 1))
theorem d5_walkOn_11 {d : Nat} : decode (mm_cc (M5_walkOn d)) 11 = .ok (.getfield 23, 3) := (by decide +kernel : decode cX5_walkOn 11 = .ok (.getfield 23, 3))
theorem d5_walkOn_14 {d : Nat} : decode (mm_cc (M5_walkOn d)) 14 = .ok (.iload_n 1, 1) := (by decide +kernel : decode cX5_walkOn 14 = .ok (.iload_n 1, 1))
theorem d5_walkOn_15 {d : Nat} : decode (mm_cc (M5_walkOn d)) 15 = .ok (.iconst 1, 1) := (by decide +kernel : decode cX5_walkOn 15 = .ok (.iconst 1, 1))
theorem d5_walkOn_16 {d : Nat} : decode (mm_cc (M5_walkOn d)) 16 = .ok (.isub, 1) := (by decide +kernel : decode cX5_walkOn 16 = .ok (.isub, 1))
theorem d5_walkOn_17 {d : Nat} : decode (mm_cc (M5_walkOn d)) 17 = .ok (.invokevirtual 75, 3) := (by decide +kernel : decode cX5_walkOn 17 = .ok (.invokevirtual 75, 3))
theorem d5_walkOn_20 {d : Nat} : decode (mm_cc (M5_walkOn d)) 20 = .ok (.istore 5, 2) := (by decide +kernel : decode cX5_walkOn 20 = .ok (.istore 5, 2))
theorem d5_walkOn_22 {d : Nat} : decode (mm_cc (M5_walkOn d)) 22 = .ok (.iload_n 1, 1) := (by decide +kernel : decode cX5_walkOn 22 = .ok (.iload_n 1, 1))
theorem d5_walkOn_23 {d : Nat} : decode (mm_cc (M5_walkOn d)) 23 = .ok (.iload_n 2, 1) := (by decide +kernel : decode cX5_walkOn 23 = .ok (.iload_n 2, 1))
theorem d5_walkOn_24 {d : Nat} : decode (mm_cc (M5_walkOn d)) 24 = .ok (.if_icmp .lt 18, 3) := (by decide +kernel : decode cX5_walkOn 24 = .ok (.if_icmp .lt 18, 3))
theorem d5_walkOn_27 {d : Nat} : decode (mm_cc (M5_walkOn d)) 27 = .ok (.aload_n 0, 1) := (by decide +kernel : decode cX5_walkOn 27 = .ok (.aload_n 0, 1))
theorem d5_walkOn_28 {d : Nat} : decode (mm_cc (M5_walkOn d)) 28 = .ok (.iload_n 2, 1) := (by decide +kernel : decode cX5_walkOn 28 = .ok (.iload_n 2, 1))
theorem d5_walkOn_29 {d : Nat} : decode (mm_cc (M5_walkOn d)) 29 = .ok (.iload_n 3, 1) := (by decide +kernel : decode cX5_walkOn 29 = .ok (.iload_n 3, 1))
theorem d5_walkOn_30 {d : Nat} : decode (mm_cc (M5_walkOn d)) 30 = .ok (.aload_n 0, 1) := (by decide +kernel : decode cX5_walkOn 30 = .ok (.aload_n 0, 1))
theorem d5_walkOn_31 {d : Nat} : decode (mm_cc (M5_walkOn d)) 31 = .ok (.iload 5, 2) := (by decide +kernel : decode cX5_walkOn 31 = .ok (.iload 5, 2))
theorem d5_walkOn_33 {d : Nat} : decode (mm_cc (M5_walkOn d)) 33 = .ok (.iload 4, 2) := (by decide +kernel : decode cX5_walkOn 33 = .ok (.iload 4, 2))
theorem d5_walkOn_35 {d : Nat} : decode (mm_cc (M5_walkOn d)) 35 = .ok (.invokevirtual 102, 3) := (by decide +kernel : decode cX5_walkOn 35 = .ok (.invokevirtual 102, 3))
theorem d5_walkOn_38 {d : Nat} : decode (mm_cc (M5_walkOn d)) 38 = .ok (.invokevirtual 105, 3) := (by decide +kernel : decode cX5_walkOn 38 = .ok (.invokevirtual 105, 3))
theorem d5_walkOn_41 {d : Nat} : decode (mm_cc (M5_walkOn d)) 41 = .ok (.return_, 1) := (by decide +kernel : decode cX5_walkOn 41 = .ok (.return_, 1))
theorem d5_walkOn_42 {d : Nat} : decode (mm_cc (M5_walkOn d)) 42 = .ok (.iload 4, 2) := (by decide +kernel : decode cX5_walkOn 42 = .ok (.iload 4, 2))
theorem d5_walkOn_44 {d : Nat} : decode (mm_cc (M5_walkOn d)) 44 = .ok (.iconst 1, 1) := (by decide +kernel : decode cX5_walkOn 44 = .ok (.iconst 1, 1))
theorem d5_walkOn_45 {d : Nat} : decode (mm_cc (M5_walkOn d)) 45 = .ok (.iadd, 1) := (by decide +kernel : decode cX5_walkOn 45 = .ok (.iadd, 1))
theorem d5_walkOn_46 {d : Nat} : decode (mm_cc (M5_walkOn d)) 46 = .ok (.istore 6, 2) := (by decide +kernel : decode cX5_walkOn 46 = .ok (.istore 6, 2))
theorem d5_walkOn_48 {d : Nat} : decode (mm_cc (M5_walkOn d)) 48 = .ok (.iload 6, 2) := (by decide +kernel : decode cX5_walkOn 48 = .ok (.iload 6, 2))
theorem d5_walkOn_50 {d : Nat} : decode (mm_cc (M5_walkOn d)) 50 = .ok (.bipush 8, 2) := (by decide +kernel : decode cX5_walkOn 50 = .ok (.bipush 8, 2))
theorem d5_walkOn_52 {d : Nat} : decode (mm_cc (M5_walkOn d)) 52 = .ok (.if_icmp .ge 56, 3) := (by decide +kernel : decode cX5_walkOn 52 = .ok (.if_icmp .ge 56, 3))
theorem d5_walkOn_55 {d : Nat} : decode (mm_cc (M5_walkOn d)) 55 = .ok (.aload_n 0, 1) := (by decide +kernel : decode cX5_walkOn 55 = .ok (.aload_n 0, 1))
theorem d5_walkOn_56 {d : Nat} : decode (mm_cc (M5_walkOn d)) 56 = .ok (.iload 5, 2) := (by decide +kernel : decode cX5_walkOn 56 = .ok (.iload 5, 2))
theorem d5_walkOn_58 {d : Nat} : decode (mm_cc (M5_walkOn d)) 58 = .ok (.iload 6, 2) := (by decide +kernel : decode cX5_walkOn 58 = .ok (.iload 6, 2))
theorem d5_walkOn_60 {d : Nat} : decode (mm_cc (M5_walkOn d)) 60 = .ok (.invokevirtual 102, 3) := (by decide +kernel : decode cX5_walkOn 60 = .ok (.invokevirtual 102, 3))
theorem d5_walkOn_63 {d : Nat} : decode (mm_cc (M5_walkOn d)) 63 = .ok (.istore 7, 2) := (by decide +kernel : decode cX5_walkOn 63 = .ok (.istore 7, 2))
theorem d5_walkOn_65 {d : Nat} : decode (mm_cc (M5_walkOn d)) 65 = .ok (.iload 7, 2) := (by decide +kernel : decode cX5_walkOn 65 = .ok (.iload 7, 2))
theorem d5_walkOn_67 {d : Nat} : decode (mm_cc (M5_walkOn d)) 67 = .ok (.ifCond .le 35, 3) := (by decide +kernel : decode cX5_walkOn 67 = .ok (.ifCond .le 35, 3))
theorem d5_walkOn_70 {d : Nat} : decode (mm_cc (M5_walkOn d)) 70 = .ok (.aload_n 0, 1) := (by decide +kernel : decode cX5_walkOn 70 = .ok (.aload_n 0, 1))
theorem d5_walkOn_71 {d : Nat} : decode (mm_cc (M5_walkOn d)) 71 = .ok (.iload 6, 2) := (by decide +kernel : decode cX5_walkOn 71 = .ok (.iload 6, 2))
theorem d5_walkOn_73 {d : Nat} : decode (mm_cc (M5_walkOn d)) 73 = .ok (.iload_n 1, 1) := (by decide +kernel : decode cX5_walkOn 73 = .ok (.iload_n 1, 1))
theorem d5_walkOn_74 {d : Nat} : decode (mm_cc (M5_walkOn d)) 74 = .ok (.invokevirtual 109, 3) := (by decide +kernel : decode cX5_walkOn 74 = .ok (.invokevirtual 109, 3))
theorem d5_walkOn_77 {d : Nat} : decode (mm_cc (M5_walkOn d)) 77 = .ok (.ifCond .ne 25, 3) := (by decide +kernel : decode cX5_walkOn 77 = .ok (.ifCond .ne 25, 3))
theorem d5_walkOn_80 {d : Nat} : decode (mm_cc (M5_walkOn d)) 80 = .ok (.aload_n 0, 1) := (by decide +kernel : decode cX5_walkOn 80 = .ok (.aload_n 0, 1))
theorem d5_walkOn_81 {d : Nat} : decode (mm_cc (M5_walkOn d)) 81 = .ok (.getfield 23, 3) := (by decide +kernel : decode cX5_walkOn 81 = .ok (.getfield 23, 3))
theorem d5_walkOn_84 {d : Nat} : decode (mm_cc (M5_walkOn d)) 84 = .ok (.iload_n 1, 1) := (by decide +kernel : decode cX5_walkOn 84 = .ok (.iload_n 1, 1))
theorem d5_walkOn_85 {d : Nat} : decode (mm_cc (M5_walkOn d)) 85 = .ok (.iload 6, 2) := (by decide +kernel : decode cX5_walkOn 85 = .ok (.iload 6, 2))
theorem d5_walkOn_87 {d : Nat} : decode (mm_cc (M5_walkOn d)) 87 = .ok (.invokevirtual 54, 3) := (by decide +kernel : decode cX5_walkOn 87 = .ok (.invokevirtual 54, 3))
theorem d5_walkOn_90 {d : Nat} : decode (mm_cc (M5_walkOn d)) 90 = .ok (.aload_n 0, 1) := (by decide +kernel : decode cX5_walkOn 90 = .ok (.aload_n 0, 1))
theorem d5_walkOn_91 {d : Nat} : decode (mm_cc (M5_walkOn d)) 91 = .ok (.iload_n 1, 1) := (by decide +kernel : decode cX5_walkOn 91 = .ok (.iload_n 1, 1))
theorem d5_walkOn_92 {d : Nat} : decode (mm_cc (M5_walkOn d)) 92 = .ok (.iconst 1, 1) := (by decide +kernel : decode cX5_walkOn 92 = .ok (.iconst 1, 1))
theorem d5_walkOn_93 {d : Nat} : decode (mm_cc (M5_walkOn d)) 93 = .ok (.iadd, 1) := (by decide +kernel : decode cX5_walkOn 93 = .ok (.iadd, 1))
theorem d5_walkOn_94 {d : Nat} : decode (mm_cc (M5_walkOn d)) 94 = .ok (.iload_n 2, 1) := (by decide +kernel : decode cX5_walkOn 94 = .ok (.iload_n 2, 1))
theorem d5_walkOn_95 {d : Nat} : decode (mm_cc (M5_walkOn d)) 95 = .ok (.iload_n 3, 1) := (by decide +kernel : decode cX5_walkOn 95 = .ok (.iload_n 3, 1))
theorem d5_walkOn_96 {d : Nat} : decode (mm_cc (M5_walkOn d)) 96 = .ok (.iload 7, 2) := (by decide +kernel : decode cX5_walkOn 96 = .ok (.iload 7, 2))
theorem d5_walkOn_98 {d : Nat} : decode (mm_cc (M5_walkOn d)) 98 = .ok (.iadd, 1) := (by decide +kernel : decode cX5_walkOn 98 = .ok (.iadd, 1))
theorem d5_walkOn_99 {d : Nat} : decode (mm_cc (M5_walkOn d)) 99 = .ok (.invokestatic 58, 3) := (by decide +kernel : decode cX5_walkOn 99 = .ok (.invokestatic 58, 3))
theorem d5_walkOn_102 {d : Nat} : decode (mm_cc (M5_walkOn d)) 102 = .ok (.iinc 6 1, 3) := (by decide +kernel : decode cX5_walkOn 102 = .ok (.iinc 6 1, 3))
theorem d5_walkOn_105 {d : Nat} : decode (mm_cc (M5_walkOn d)) 105 = .ok (.goto (-57), 3) := (by decide +kernel : decode cX5_walkOn 105 = .ok (.goto (-57), 3))
theorem d5_walkOn_108 {d : Nat} : decode (mm_cc (M5_walkOn d)) 108 = .ok (.return_, 1) := (by decide +kernel : decode cX5_walkOn 108 = .ok (.return_, 1))
theorem d8_firstWrong_0 : decode (mm_cc M8_firstWrong) 0 = .ok (.iconst 0, 1) := by decide +kernel
theorem d8_firstWrong_1 : decode (mm_cc M8_firstWrong) 1 = .ok (.istore_n 2, 1) := by decide +kernel
theorem d8_firstWrong_2 : decode (mm_cc M8_firstWrong) 2 = .ok (.iload_n 2, 1) := by decide +kernel
theorem d8_firstWrong_3 : decode (mm_cc M8_firstWrong) 3 = .ok (.aload_n 0, 1) := by decide +kernel
theorem d8_firstWrong_4 : decode (mm_cc M8_firstWrong) 4 = .ok (.getfield 39, 3) := by decide +kernel
theorem d8_firstWrong_7 : decode (mm_cc M8_firstWrong) 7 = .ok (.if_icmp .ge 42, 3) := by decide +kernel
theorem d8_firstWrong_10 : decode (mm_cc M8_firstWrong) 10 = .ok (.aload_n 1, 1) := by decide +kernel
theorem d8_firstWrong_11 : decode (mm_cc M8_firstWrong) 11 = .ok (.aload_n 0, 1) := by decide +kernel
theorem d8_firstWrong_12 : decode (mm_cc M8_firstWrong) 12 = .ok (.getfield 26, 3) := by decide +kernel
theorem d8_firstWrong_15 : decode (mm_cc M8_firstWrong) 15 = .ok (.iload_n 2, 1) := by decide +kernel
theorem d8_firstWrong_16 : decode (mm_cc M8_firstWrong) 16 = .ok (.invokevirtual 55, 3) := by decide +kernel
theorem d8_firstWrong_19 : decode (mm_cc M8_firstWrong) 19 = .ok (.aload_n 0, 1) := by decide +kernel
theorem d8_firstWrong_20 : decode (mm_cc M8_firstWrong) 20 = .ok (.getfield 29, 3) := by decide +kernel
theorem d8_firstWrong_23 : decode (mm_cc M8_firstWrong) 23 = .ok (.iload_n 2, 1) := by decide +kernel
theorem d8_firstWrong_24 : decode (mm_cc M8_firstWrong) 24 = .ok (.invokevirtual 55, 3) := by decide +kernel
theorem d8_firstWrong_27 : decode (mm_cc M8_firstWrong) 27 = .ok (.invokevirtual 80, 3) := by decide +kernel
theorem d8_firstWrong_30 : decode (mm_cc M8_firstWrong) 30 = .ok (.aload_n 0, 1) := by decide +kernel
theorem d8_firstWrong_31 : decode (mm_cc M8_firstWrong) 31 = .ok (.getfield 32, 3) := by decide +kernel
theorem d8_firstWrong_34 : decode (mm_cc M8_firstWrong) 34 = .ok (.iload_n 2, 1) := by decide +kernel
theorem d8_firstWrong_35 : decode (mm_cc M8_firstWrong) 35 = .ok (.invokevirtual 55, 3) := by decide +kernel
theorem d8_firstWrong_38 : decode (mm_cc M8_firstWrong) 38 = .ok (.if_icmp .eq 5, 3) := by decide +kernel
theorem d8_firstWrong_41 : decode (mm_cc M8_firstWrong) 41 = .ok (.iload_n 2, 1) := by decide +kernel
theorem d8_firstWrong_42 : decode (mm_cc M8_firstWrong) 42 = .ok (.ireturn, 1) := by decide +kernel
theorem d8_firstWrong_43 : decode (mm_cc M8_firstWrong) 43 = .ok (.iinc 2 1, 3) := by decide +kernel
theorem d8_firstWrong_46 : decode (mm_cc M8_firstWrong) 46 = .ok (.goto (-44), 3) := by decide +kernel
theorem d8_firstWrong_49 : decode (mm_cc M8_firstWrong) 49 = .ok (.iconst (-1), 1) := by decide +kernel
theorem d8_firstWrong_50 : decode (mm_cc M8_firstWrong) 50 = .ok (.ireturn, 1) := by decide +kernel
theorem d9_openClause_0 : decode (mm_cc M9_openClause) 0 = .ok (.iload_n 1, 1) := by decide +kernel
theorem d9_openClause_1 : decode (mm_cc M9_openClause) 1 = .ok (.ifCond .ne 18, 3) := by decide +kernel
theorem d9_openClause_4 : decode (mm_cc M9_openClause) 4 = .ok (.aload_n 0, 1) := by decide +kernel
theorem d9_openClause_5 : decode (mm_cc M9_openClause) 5 = .ok (.getfield 19, 3) := by decide +kernel
theorem d9_openClause_8 : decode (mm_cc M9_openClause) 8 = .ok (.iconst 3, 1) := by decide +kernel
theorem d9_openClause_9 : decode (mm_cc M9_openClause) 9 = .ok (.aload_n 0, 1) := by decide +kernel
theorem d9_openClause_10 : decode (mm_cc M9_openClause) 10 = .ok (.getfield 19, 3) := by decide +kernel
theorem d9_openClause_13 : decode (mm_cc M9_openClause) 13 = .ok (.getfield 70, 3) := by decide +kernel
theorem d9_openClause_16 : decode (mm_cc M9_openClause) 16 = .ok (.invokevirtual 73, 3) := by decide +kernel
theorem d9_openClause_19 : decode (mm_cc M9_openClause) 19 = .ok (.aload_n 0, 1) := by decide +kernel
theorem d9_openClause_20 : decode (mm_cc M9_openClause) 20 = .ok (.getfield 19, 3) := by decide +kernel
theorem d9_openClause_23 : decode (mm_cc M9_openClause) 23 = .ok (.invokevirtual 100, 3) := by decide +kernel
theorem d9_openClause_26 : decode (mm_cc M9_openClause) 26 = .ok (.return_, 1) := by decide +kernel
theorem d10_begin_0 : decode (mm_cc M10_begin) 0 = .ok (.aload_n 0, 1) := by decide +kernel
theorem d10_begin_1 : decode (mm_cc M10_begin) 1 = .ok (.getfield 42, 3) := by decide +kernel
theorem d10_begin_4 : decode (mm_cc M10_begin) 4 = .ok (.getfield 184, 3) := by decide +kernel
theorem d10_begin_7 : decode (mm_cc M10_begin) 7 = .ok (.istore_n 1, 1) := by decide +kernel
theorem d10_begin_8 : decode (mm_cc M10_begin) 8 = .ok (.aload_n 0, 1) := by decide +kernel
theorem d10_begin_9 : decode (mm_cc M10_begin) 9 = .ok (.invokevirtual 157, 3) := by decide +kernel
theorem d10_begin_12 : decode (mm_cc M10_begin) 12 = .ok (.iload_n 1, 1) := by decide +kernel
theorem d10_begin_13 : decode (mm_cc M10_begin) 13 = .ok (.ireturn, 1) := by decide +kernel
theorem d10_judge_0 : decode (mm_cc M10_judge) 0 = .ok (.aload_n 0, 1) := by decide +kernel
theorem d10_judge_1 : decode (mm_cc M10_judge) 1 = .ok (.getfield 73, 3) := by decide +kernel
theorem d10_judge_4 : decode (mm_cc M10_judge) 4 = .ok (.aload_n 0, 1) := by decide +kernel
theorem d10_judge_5 : decode (mm_cc M10_judge) 5 = .ok (.getfield 42, 3) := by decide +kernel
theorem d10_judge_8 : decode (mm_cc M10_judge) 8 = .ok (.invokevirtual 355, 3) := by decide +kernel
theorem d10_judge_11 : decode (mm_cc M10_judge) 11 = .ok (.ireturn, 1) := by decide +kernel
theorem d10_lastHand_0 : decode (mm_cc M10_lastHand) 0 = .ok (.aload_n 0, 1) := by decide +kernel
theorem d10_lastHand_1 : decode (mm_cc M10_lastHand) 1 = .ok (.getfield 19, 3) := by decide +kernel
theorem d10_lastHand_4 : decode (mm_cc M10_lastHand) 4 = .ok (.iload_n 1, 1) := by decide +kernel
theorem d10_lastHand_5 : decode (mm_cc M10_lastHand) 5 = .ok (.invokevirtual 216, 3) := by decide +kernel
theorem d10_lastHand_8 : decode (mm_cc M10_lastHand) 8 = .ok (.ifCond .ne 6, 3) := by decide +kernel
theorem d10_lastHand_11 : decode (mm_cc M10_lastHand) 11 = .ok (.ldc 220, 2) := by decide +kernel
theorem d10_lastHand_13 : decode (mm_cc M10_lastHand) 13 = .ok (.ireturn, 1) := by decide +kernel
theorem d10_lastHand_14 : decode (mm_cc M10_lastHand) 14 = .ok (.iload_n 2, 1) := by decide +kernel
theorem d10_lastHand_15 : decode (mm_cc M10_lastHand) 15 = .ok (.iconst 0, 1) := by decide +kernel
theorem d10_lastHand_16 : decode (mm_cc M10_lastHand) 16 = .ok (.iconst 1, 1) := by decide +kernel
theorem d10_lastHand_17 : decode (mm_cc M10_lastHand) 17 = .ok (.invokestatic 120, 3) := by decide +kernel
theorem d10_lastHand_20 : decode (mm_cc M10_lastHand) 20 = .ok (.ifCond .ne 6, 3) := by decide +kernel
theorem d10_lastHand_23 : decode (mm_cc M10_lastHand) 23 = .ok (.ldc 124, 2) := by decide +kernel
theorem d10_lastHand_25 : decode (mm_cc M10_lastHand) 25 = .ok (.ireturn, 1) := by decide +kernel
theorem d10_lastHand_26 : decode (mm_cc M10_lastHand) 26 = .ok (.aload_n 0, 1) := by decide +kernel
theorem d10_lastHand_27 : decode (mm_cc M10_lastHand) 27 = .ok (.getfield 42, 3) := by decide +kernel
theorem d10_lastHand_30 : decode (mm_cc M10_lastHand) 30 = .ok (.iload_n 1, 1) := by decide +kernel
theorem d10_lastHand_31 : decode (mm_cc M10_lastHand) 31 = .ok (.iconst 1, 1) := by decide +kernel
theorem d10_lastHand_32 : decode (mm_cc M10_lastHand) 32 = .ok (.invokevirtual 237, 3) := by decide +kernel
theorem d10_lastHand_35 : decode (mm_cc M10_lastHand) 35 = .ok (.istore_n 3, 1) := by decide +kernel
theorem d10_lastHand_36 : decode (mm_cc M10_lastHand) 36 = .ok (.iload_n 3, 1) := by decide +kernel
theorem d10_lastHand_37 : decode (mm_cc M10_lastHand) 37 = .ok (.invokestatic 299, 3) := by decide +kernel
theorem d10_lastHand_40 : decode (mm_cc M10_lastHand) 40 = .ok (.iconst 1, 1) := by decide +kernel
theorem d10_lastHand_41 : decode (mm_cc M10_lastHand) 41 = .ok (.if_icmp .eq 5, 3) := by decide +kernel
theorem d10_lastHand_44 : decode (mm_cc M10_lastHand) 44 = .ok (.iconst (-1), 1) := by decide +kernel
theorem d10_lastHand_45 : decode (mm_cc M10_lastHand) 45 = .ok (.ireturn, 1) := by decide +kernel
theorem d10_lastHand_46 : decode (mm_cc M10_lastHand) 46 = .ok (.iload_n 3, 1) := by decide +kernel
theorem d10_lastHand_47 : decode (mm_cc M10_lastHand) 47 = .ok (.invokestatic 322, 3) := by decide +kernel
theorem d10_lastHand_50 : decode (mm_cc M10_lastHand) 50 = .ok (.istore 4, 2) := by decide +kernel
theorem d10_lastHand_52 : decode (mm_cc M10_lastHand) 52 = .ok (.iconst 0, 1) := by decide +kernel
theorem d10_lastHand_53 : decode (mm_cc M10_lastHand) 53 = .ok (.aload_n 0, 1) := by decide +kernel
theorem d10_lastHand_54 : decode (mm_cc M10_lastHand) 54 = .ok (.getfield 29, 3) := by decide +kernel
theorem d10_lastHand_57 : decode (mm_cc M10_lastHand) 57 = .ok (.getfield 199, 3) := by decide +kernel
theorem d10_lastHand_60 : decode (mm_cc M10_lastHand) 60 = .ok (.aload_n 0, 1) := by decide +kernel
theorem d10_lastHand_61 : decode (mm_cc M10_lastHand) 61 = .ok (.getfield 42, 3) := by decide +kernel
theorem d10_lastHand_64 : decode (mm_cc M10_lastHand) 64 = .ok (.getfield 244, 3) := by decide +kernel
theorem d10_lastHand_67 : decode (mm_cc M10_lastHand) 67 = .ok (.iload 4, 2) := by decide +kernel
theorem d10_lastHand_69 : decode (mm_cc M10_lastHand) 69 = .ok (.invokevirtual 224, 3) := by decide +kernel
theorem d10_lastHand_72 : decode (mm_cc M10_lastHand) 72 = .ok (.isub, 1) := by decide +kernel
theorem d10_lastHand_73 : decode (mm_cc M10_lastHand) 73 = .ok (.invokestatic 325, 3) := by decide +kernel
theorem d10_lastHand_76 : decode (mm_cc M10_lastHand) 76 = .ok (.istore 5, 2) := by decide +kernel
theorem d10_lastHand_78 : decode (mm_cc M10_lastHand) 78 = .ok (.iload_n 2, 1) := by decide +kernel
theorem d10_lastHand_79 : decode (mm_cc M10_lastHand) 79 = .ok (.ifCond .ne 8, 3) := by decide +kernel
theorem d10_lastHand_82 : decode (mm_cc M10_lastHand) 82 = .ok (.iload 4, 2) := by decide +kernel
theorem d10_lastHand_84 : decode (mm_cc M10_lastHand) 84 = .ok (.goto 17, 3) := by decide +kernel
theorem d10_lastHand_87 : decode (mm_cc M10_lastHand) 87 = .ok (.aload_n 0, 1) := by decide +kernel
theorem d10_lastHand_88 : decode (mm_cc M10_lastHand) 88 = .ok (.getfield 19, 3) := by decide +kernel
theorem d10_lastHand_91 : decode (mm_cc M10_lastHand) 91 = .ok (.getfield 231, 3) := by decide +kernel
theorem d10_lastHand_94 : decode (mm_cc M10_lastHand) 94 = .ok (.iload_n 1, 1) := by decide +kernel
theorem d10_lastHand_95 : decode (mm_cc M10_lastHand) 95 = .ok (.invokevirtual 224, 3) := by decide +kernel
theorem d10_lastHand_98 : decode (mm_cc M10_lastHand) 98 = .ok (.iload 5, 2) := by decide +kernel
theorem d10_lastHand_100 : decode (mm_cc M10_lastHand) 100 = .ok (.imul, 1) := by decide +kernel
theorem d10_lastHand_101 : decode (mm_cc M10_lastHand) 101 = .ok (.ireturn, 1) := by decide +kernel
theorem d10_night_0 : decode (mm_cc M10_night) 0 = .ok (.aload_n 0, 1) := by decide +kernel
theorem d10_night_1 : decode (mm_cc M10_night) 1 = .ok (.iload_n 1, 1) := by decide +kernel
theorem d10_night_2 : decode (mm_cc M10_night) 2 = .ok (.iload_n 2, 1) := by decide +kernel
theorem d10_night_3 : decode (mm_cc M10_night) 3 = .ok (.invokevirtual 270, 3) := by decide +kernel
theorem d10_night_6 : decode (mm_cc M10_night) 6 = .ok (.ifCond .ne 6, 3) := by decide +kernel
theorem d10_night_9 : decode (mm_cc M10_night) 9 = .ok (.ldc 220, 2) := by decide +kernel
theorem d10_night_11 : decode (mm_cc M10_night) 11 = .ok (.ireturn, 1) := by decide +kernel
theorem d10_night_12 : decode (mm_cc M10_night) 12 = .ok (.aload_n 0, 1) := by decide +kernel
theorem d10_night_13 : decode (mm_cc M10_night) 13 = .ok (.getfield 42, 3) := by decide +kernel
theorem d10_night_16 : decode (mm_cc M10_night) 16 = .ok (.iload_n 1, 1) := by decide +kernel
theorem d10_night_17 : decode (mm_cc M10_night) 17 = .ok (.iload_n 2, 1) := by decide +kernel
theorem d10_night_18 : decode (mm_cc M10_night) 18 = .ok (.invokevirtual 283, 3) := by decide +kernel
theorem d10_night_21 : decode (mm_cc M10_night) 21 = .ok (.ifCond .eq 17, 3) := by decide +kernel
theorem d10_night_24 : decode (mm_cc M10_night) 24 = .ok (.aload_n 0, 1) := by decide +kernel
theorem d10_night_25 : decode (mm_cc M10_night) 25 = .ok (.getfield 42, 3) := by decide +kernel
theorem d10_night_28 : decode (mm_cc M10_night) 28 = .ok (.getfield 267, 3) := by decide +kernel
theorem d10_night_31 : decode (mm_cc M10_night) 31 = .ok (.iload_n 1, 1) := by decide +kernel
theorem d10_night_32 : decode (mm_cc M10_night) 32 = .ok (.invokestatic 263, 3) := by decide +kernel
theorem d10_night_35 : decode (mm_cc M10_night) 35 = .ok (.ifCond .eq 6, 3) := by decide +kernel
theorem d10_night_38 : decode (mm_cc M10_night) 38 = .ok (.ldc 167, 2) := by decide +kernel
theorem d10_night_40 : decode (mm_cc M10_night) 40 = .ok (.ireturn, 1) := by decide +kernel
theorem d10_night_41 : decode (mm_cc M10_night) 41 = .ok (.aload_n 0, 1) := by decide +kernel
theorem d10_night_42 : decode (mm_cc M10_night) 42 = .ok (.getfield 91, 3) := by decide +kernel
theorem d10_night_45 : decode (mm_cc M10_night) 45 = .ok (.iload_n 1, 1) := by decide +kernel
theorem d10_night_46 : decode (mm_cc M10_night) 46 = .ok (.iload_n 2, 1) := by decide +kernel
theorem d10_night_47 : decode (mm_cc M10_night) 47 = .ok (.invokevirtual 290, 3) := by decide +kernel
theorem d10_night_50 : decode (mm_cc M10_night) 50 = .ok (.ifCond .eq 7, 3) := by decide +kernel
theorem d10_night_53 : decode (mm_cc M10_night) 53 = .ok (.iconst 1, 1) := by decide +kernel
theorem d10_night_54 : decode (mm_cc M10_night) 54 = .ok (.goto 4, 3) := by decide +kernel
theorem d10_night_57 : decode (mm_cc M10_night) 57 = .ok (.iconst 0, 1) := by decide +kernel
theorem d10_night_58 : decode (mm_cc M10_night) 58 = .ok (.ireturn, 1) := by decide +kernel
theorem d10_trade_0 : decode (mm_cc M10_trade) 0 = .ok (.aload_n 0, 1) := by decide +kernel
theorem d10_trade_1 : decode (mm_cc M10_trade) 1 = .ok (.getfield 19, 3) := by decide +kernel
theorem d10_trade_4 : decode (mm_cc M10_trade) 4 = .ok (.iload_n 1, 1) := by decide +kernel
theorem d10_trade_5 : decode (mm_cc M10_trade) 5 = .ok (.invokevirtual 216, 3) := by decide +kernel
theorem d10_trade_8 : decode (mm_cc M10_trade) 8 = .ok (.ifCond .ne 6, 3) := by decide +kernel
theorem d10_trade_11 : decode (mm_cc M10_trade) 11 = .ok (.ldc 220, 2) := by decide +kernel
theorem d10_trade_13 : decode (mm_cc M10_trade) 13 = .ok (.ireturn, 1) := by decide +kernel
theorem d10_trade_14 : decode (mm_cc M10_trade) 14 = .ok (.iload_n 2, 1) := by decide +kernel
theorem d10_trade_15 : decode (mm_cc M10_trade) 15 = .ok (.tableswitch 119 0 6 #[41, 53, 65, 77, 89, 99, 110], 41) := by decide +kernel
theorem d10_trade_56 : decode (mm_cc M10_trade) 56 = .ok (.aload_n 0, 1) := by decide +kernel
theorem d10_trade_57 : decode (mm_cc M10_trade) 57 = .ok (.getfield 19, 3) := by decide +kernel
theorem d10_trade_60 : decode (mm_cc M10_trade) 60 = .ok (.getfield 221, 3) := by decide +kernel
theorem d10_trade_63 : decode (mm_cc M10_trade) 63 = .ok (.iload_n 1, 1) := by decide +kernel
theorem d10_trade_64 : decode (mm_cc M10_trade) 64 = .ok (.invokevirtual 224, 3) := by decide +kernel
theorem d10_trade_67 : decode (mm_cc M10_trade) 67 = .ok (.ireturn, 1) := by decide +kernel
theorem d10_trade_68 : decode (mm_cc M10_trade) 68 = .ok (.aload_n 0, 1) := by decide +kernel
theorem d10_trade_69 : decode (mm_cc M10_trade) 69 = .ok (.getfield 19, 3) := by decide +kernel
theorem d10_trade_72 : decode (mm_cc M10_trade) 72 = .ok (.getfield 228, 3) := by decide +kernel
theorem d10_trade_75 : decode (mm_cc M10_trade) 75 = .ok (.iload_n 1, 1) := by decide +kernel
theorem d10_trade_76 : decode (mm_cc M10_trade) 76 = .ok (.invokevirtual 224, 3) := by decide +kernel
theorem d10_trade_79 : decode (mm_cc M10_trade) 79 = .ok (.ireturn, 1) := by decide +kernel
theorem d10_trade_80 : decode (mm_cc M10_trade) 80 = .ok (.aload_n 0, 1) := by decide +kernel
theorem d10_trade_81 : decode (mm_cc M10_trade) 81 = .ok (.getfield 19, 3) := by decide +kernel
theorem d10_trade_84 : decode (mm_cc M10_trade) 84 = .ok (.getfield 231, 3) := by decide +kernel
theorem d10_trade_87 : decode (mm_cc M10_trade) 87 = .ok (.iload_n 1, 1) := by decide +kernel
theorem d10_trade_88 : decode (mm_cc M10_trade) 88 = .ok (.invokevirtual 224, 3) := by decide +kernel
theorem d10_trade_91 : decode (mm_cc M10_trade) 91 = .ok (.ireturn, 1) := by decide +kernel
theorem d10_trade_92 : decode (mm_cc M10_trade) 92 = .ok (.aload_n 0, 1) := by decide +kernel
theorem d10_trade_93 : decode (mm_cc M10_trade) 93 = .ok (.getfield 19, 3) := by decide +kernel
theorem d10_trade_96 : decode (mm_cc M10_trade) 96 = .ok (.getfield 234, 3) := by decide +kernel
theorem d10_trade_99 : decode (mm_cc M10_trade) 99 = .ok (.iload_n 1, 1) := by decide +kernel
theorem d10_trade_100 : decode (mm_cc M10_trade) 100 = .ok (.invokevirtual 224, 3) := by decide +kernel
theorem d10_trade_103 : decode (mm_cc M10_trade) 103 = .ok (.ireturn, 1) := by decide +kernel
theorem d10_trade_104 : decode (mm_cc M10_trade) 104 = .ok (.aload_n 0, 1) := by decide +kernel
theorem d10_trade_105 : decode (mm_cc M10_trade) 105 = .ok (.getfield 42, 3) := by decide +kernel
theorem d10_trade_108 : decode (mm_cc M10_trade) 108 = .ok (.iload_n 1, 1) := by decide +kernel
theorem d10_trade_109 : decode (mm_cc M10_trade) 109 = .ok (.iconst 1, 1) := by decide +kernel
theorem d10_trade_110 : decode (mm_cc M10_trade) 110 = .ok (.invokevirtual 237, 3) := by decide +kernel
theorem d10_trade_113 : decode (mm_cc M10_trade) 113 = .ok (.ireturn, 1) := by decide +kernel
theorem d10_trade_114 : decode (mm_cc M10_trade) 114 = .ok (.aload_n 0, 1) := by decide +kernel
theorem d10_trade_115 : decode (mm_cc M10_trade) 115 = .ok (.getfield 42, 3) := by decide +kernel
theorem d10_trade_118 : decode (mm_cc M10_trade) 118 = .ok (.iload_n 1, 1) := by decide +kernel
theorem d10_trade_119 : decode (mm_cc M10_trade) 119 = .ok (.bipush 50, 2) := by decide +kernel
theorem d10_trade_121 : decode (mm_cc M10_trade) 121 = .ok (.invokevirtual 237, 3) := by decide +kernel
theorem d10_trade_124 : decode (mm_cc M10_trade) 124 = .ok (.ireturn, 1) := by decide +kernel
theorem d10_trade_125 : decode (mm_cc M10_trade) 125 = .ok (.aload_n 0, 1) := by decide +kernel
theorem d10_trade_126 : decode (mm_cc M10_trade) 126 = .ok (.getfield 66, 3) := by decide +kernel
theorem d10_trade_129 : decode (mm_cc M10_trade) 129 = .ok (.iload_n 1, 1) := by decide +kernel
theorem d10_trade_130 : decode (mm_cc M10_trade) 130 = .ok (.invokevirtual 224, 3) := by decide +kernel
theorem d10_trade_133 : decode (mm_cc M10_trade) 133 = .ok (.ireturn, 1) := by decide +kernel
theorem d10_trade_134 : decode (mm_cc M10_trade) 134 = .ok (.ldc 124, 2) := by decide +kernel
theorem d10_trade_136 : decode (mm_cc M10_trade) 136 = .ok (.ireturn, 1) := by decide +kernel
theorem d11_changeNow_0 : decode (mm_cc M11_changeNow) 0 = .ok (.aload_n 0, 1) := by decide +kernel
theorem d11_changeNow_1 : decode (mm_cc M11_changeNow) 1 = .ok (.iload_n 1, 1) := by decide +kernel
theorem d11_changeNow_2 : decode (mm_cc M11_changeNow) 2 = .ok (.iload_n 2, 1) := by decide +kernel
theorem d11_changeNow_3 : decode (mm_cc M11_changeNow) 3 = .ok (.invokevirtual 284, 3) := by decide +kernel
theorem d11_changeNow_6 : decode (mm_cc M11_changeNow) 6 = .ok (.ifCond .eq 15, 3) := by decide +kernel
theorem d11_changeNow_9 : decode (mm_cc M11_changeNow) 9 = .ok (.aload_n 0, 1) := by decide +kernel
theorem d11_changeNow_10 : decode (mm_cc M11_changeNow) 10 = .ok (.iload_n 1, 1) := by decide +kernel
theorem d11_changeNow_11 : decode (mm_cc M11_changeNow) 11 = .ok (.iload_n 2, 1) := by decide +kernel
theorem d11_changeNow_12 : decode (mm_cc M11_changeNow) 12 = .ok (.iload_n 3, 1) := by decide +kernel
theorem d11_changeNow_13 : decode (mm_cc M11_changeNow) 13 = .ok (.iload 4, 2) := by decide +kernel
theorem d11_changeNow_15 : decode (mm_cc M11_changeNow) 15 = .ok (.invokevirtual 287, 3) := by decide +kernel
theorem d11_changeNow_18 : decode (mm_cc M11_changeNow) 18 = .ok (.ifCond .ne 6, 3) := by decide +kernel
theorem d11_changeNow_21 : decode (mm_cc M11_changeNow) 21 = .ok (.ldc 250, 2) := by decide +kernel
theorem d11_changeNow_23 : decode (mm_cc M11_changeNow) 23 = .ok (.ireturn, 1) := by decide +kernel
theorem d11_changeNow_24 : decode (mm_cc M11_changeNow) 24 = .ok (.iload_n 3, 1) := by decide +kernel
theorem d11_changeNow_25 : decode (mm_cc M11_changeNow) 25 = .ok (.ifCond .ge 7, 3) := by decide +kernel
theorem d11_changeNow_28 : decode (mm_cc M11_changeNow) 28 = .ok (.iconst 0, 1) := by decide +kernel
theorem d11_changeNow_29 : decode (mm_cc M11_changeNow) 29 = .ok (.goto 10, 3) := by decide +kernel
theorem d11_changeNow_32 : decode (mm_cc M11_changeNow) 32 = .ok (.aload_n 0, 1) := by decide +kernel
theorem d11_changeNow_33 : decode (mm_cc M11_changeNow) 33 = .ok (.iload_n 1, 1) := by decide +kernel
theorem d11_changeNow_34 : decode (mm_cc M11_changeNow) 34 = .ok (.iload 4, 2) := by decide +kernel
theorem d11_changeNow_36 : decode (mm_cc M11_changeNow) 36 = .ok (.invokevirtual 291, 3) := by decide +kernel
theorem d11_changeNow_39 : decode (mm_cc M11_changeNow) 39 = .ok (.istore 5, 2) := by decide +kernel
theorem d11_changeNow_41 : decode (mm_cc M11_changeNow) 41 = .ok (.iload 5, 2) := by decide +kernel
theorem d11_changeNow_43 : decode (mm_cc M11_changeNow) 43 = .ok (.ifCond .ge 6, 3) := by decide +kernel
theorem d11_changeNow_46 : decode (mm_cc M11_changeNow) 46 = .ok (.ldc 250, 2) := by decide +kernel
theorem d11_changeNow_48 : decode (mm_cc M11_changeNow) 48 = .ok (.ireturn, 1) := by decide +kernel
theorem d11_changeNow_49 : decode (mm_cc M11_changeNow) 49 = .ok (.iconst 0, 1) := by decide +kernel
theorem d11_changeNow_50 : decode (mm_cc M11_changeNow) 50 = .ok (.istore 6, 2) := by decide +kernel
theorem d11_changeNow_52 : decode (mm_cc M11_changeNow) 52 = .ok (.iload 6, 2) := by decide +kernel
theorem d11_changeNow_54 : decode (mm_cc M11_changeNow) 54 = .ok (.aload_n 0, 1) := by decide +kernel
theorem d11_changeNow_55 : decode (mm_cc M11_changeNow) 55 = .ok (.getfield 140, 3) := by decide +kernel
theorem d11_changeNow_58 : decode (mm_cc M11_changeNow) 58 = .ok (.if_icmp .ge 41, 3) := by decide +kernel
theorem d11_changeNow_61 : decode (mm_cc M11_changeNow) 61 = .ok (.aload_n 0, 1) := by decide +kernel
theorem d11_changeNow_62 : decode (mm_cc M11_changeNow) 62 = .ok (.getfield 66, 3) := by decide +kernel
theorem d11_changeNow_65 : decode (mm_cc M11_changeNow) 65 = .ok (.iload 6, 2) := by decide +kernel
theorem d11_changeNow_67 : decode (mm_cc M11_changeNow) 67 = .ok (.aload_n 0, 1) := by decide +kernel
theorem d11_changeNow_68 : decode (mm_cc M11_changeNow) 68 = .ok (.getfield 66, 3) := by decide +kernel
theorem d11_changeNow_71 : decode (mm_cc M11_changeNow) 71 = .ok (.iload 6, 2) := by decide +kernel
theorem d11_changeNow_73 : decode (mm_cc M11_changeNow) 73 = .ok (.baload, 1) := by decide +kernel
theorem d11_changeNow_74 : decode (mm_cc M11_changeNow) 74 = .ok (.ifCond .ne 13, 3) := by decide +kernel
theorem d11_changeNow_77 : decode (mm_cc M11_changeNow) 77 = .ok (.iload 5, 2) := by decide +kernel
theorem d11_changeNow_79 : decode (mm_cc M11_changeNow) 79 = .ok (.iload 6, 2) := by decide +kernel
theorem d11_changeNow_81 : decode (mm_cc M11_changeNow) 81 = .ok (.invokestatic 294, 3) := by decide +kernel
theorem d11_changeNow_84 : decode (mm_cc M11_changeNow) 84 = .ok (.ifCond .eq 7, 3) := by decide +kernel
theorem d11_changeNow_87 : decode (mm_cc M11_changeNow) 87 = .ok (.iconst 1, 1) := by decide +kernel
theorem d11_changeNow_88 : decode (mm_cc M11_changeNow) 88 = .ok (.goto 4, 3) := by decide +kernel
theorem d11_changeNow_91 : decode (mm_cc M11_changeNow) 91 = .ok (.iconst 0, 1) := by decide +kernel
theorem d11_changeNow_92 : decode (mm_cc M11_changeNow) 92 = .ok (.bastore, 1) := by decide +kernel
theorem d11_changeNow_93 : decode (mm_cc M11_changeNow) 93 = .ok (.iinc 6 1, 3) := by decide +kernel
theorem d11_changeNow_96 : decode (mm_cc M11_changeNow) 96 = .ok (.goto (-44), 3) := by decide +kernel
theorem d11_changeNow_99 : decode (mm_cc M11_changeNow) 99 = .ok (.aload_n 0, 1) := by decide +kernel
theorem d11_changeNow_100 : decode (mm_cc M11_changeNow) 100 = .ok (.getfield 54, 3) := by decide +kernel
theorem d11_changeNow_103 : decode (mm_cc M11_changeNow) 103 = .ok (.iload_n 1, 1) := by decide +kernel
theorem d11_changeNow_104 : decode (mm_cc M11_changeNow) 104 = .ok (.iload_n 2, 1) := by decide +kernel
theorem d11_changeNow_105 : decode (mm_cc M11_changeNow) 105 = .ok (.iastore, 1) := by decide +kernel
theorem d11_changeNow_106 : decode (mm_cc M11_changeNow) 106 = .ok (.aload_n 0, 1) := by decide +kernel
theorem d11_changeNow_107 : decode (mm_cc M11_changeNow) 107 = .ok (.getfield 57, 3) := by decide +kernel
theorem d11_changeNow_110 : decode (mm_cc M11_changeNow) 110 = .ok (.iload_n 1, 1) := by decide +kernel
theorem d11_changeNow_111 : decode (mm_cc M11_changeNow) 111 = .ok (.iconst 0, 1) := by decide +kernel
theorem d11_changeNow_112 : decode (mm_cc M11_changeNow) 112 = .ok (.iastore, 1) := by decide +kernel
theorem d11_changeNow_113 : decode (mm_cc M11_changeNow) 113 = .ok (.iload_n 3, 1) := by decide +kernel
theorem d11_changeNow_114 : decode (mm_cc M11_changeNow) 114 = .ok (.ifCond .lt 20, 3) := by decide +kernel
theorem d11_changeNow_117 : decode (mm_cc M11_changeNow) 117 = .ok (.aload_n 0, 1) := by decide +kernel
theorem d11_changeNow_118 : decode (mm_cc M11_changeNow) 118 = .ok (.getfield 60, 3) := by decide +kernel
theorem d11_changeNow_121 : decode (mm_cc M11_changeNow) 121 = .ok (.iload 4, 2) := by decide +kernel
theorem d11_changeNow_123 : decode (mm_cc M11_changeNow) 123 = .ok (.ifCond .ge 7, 3) := by decide +kernel
theorem d11_changeNow_126 : decode (mm_cc M11_changeNow) 126 = .ok (.iload_n 1, 1) := by decide +kernel
theorem d11_changeNow_127 : decode (mm_cc M11_changeNow) 127 = .ok (.goto 5, 3) := by decide +kernel
theorem d11_changeNow_130 : decode (mm_cc M11_changeNow) 130 = .ok (.iload 4, 2) := by decide +kernel
theorem d11_changeNow_132 : decode (mm_cc M11_changeNow) 132 = .ok (.iload_n 3, 1) := by decide +kernel
theorem d11_changeNow_133 : decode (mm_cc M11_changeNow) 133 = .ok (.iastore, 1) := by decide +kernel
theorem d11_changeNow_134 : decode (mm_cc M11_changeNow) 134 = .ok (.iload 5, 2) := by decide +kernel
theorem d11_changeNow_136 : decode (mm_cc M11_changeNow) 136 = .ok (.ireturn, 1) := by decide +kernel
theorem d11_findLeast_0 : decode (mm_cc M11_findLeast) 0 = .ok (.iconst 0, 1) := by decide +kernel
theorem d11_findLeast_1 : decode (mm_cc M11_findLeast) 1 = .ok (.istore_n 1, 1) := by decide +kernel
theorem d11_findLeast_2 : decode (mm_cc M11_findLeast) 2 = .ok (.aload_n 0, 1) := by decide +kernel
theorem d11_findLeast_3 : decode (mm_cc M11_findLeast) 3 = .ok (.iconst 1, 1) := by decide +kernel
theorem d11_findLeast_4 : decode (mm_cc M11_findLeast) 4 = .ok (.putfield 355, 3) := by decide +kernel
theorem d11_findLeast_7 : decode (mm_cc M11_findLeast) 7 = .ok (.iconst 0, 1) := by decide +kernel
theorem d11_findLeast_8 : decode (mm_cc M11_findLeast) 8 = .ok (.istore_n 2, 1) := by decide +kernel
theorem d11_findLeast_9 : decode (mm_cc M11_findLeast) 9 = .ok (.iload_n 2, 1) := by decide +kernel
theorem d11_findLeast_10 : decode (mm_cc M11_findLeast) 10 = .ok (.aload_n 0, 1) := by decide +kernel
theorem d11_findLeast_11 : decode (mm_cc M11_findLeast) 11 = .ok (.getfield 133, 3) := by decide +kernel
theorem d11_findLeast_14 : decode (mm_cc M11_findLeast) 14 = .ok (.if_icmp .ge 58, 3) := by decide +kernel
theorem d11_findLeast_17 : decode (mm_cc M11_findLeast) 17 = .ok (.iload_n 1, 1) := by decide +kernel
theorem d11_findLeast_18 : decode (mm_cc M11_findLeast) 18 = .ok (.aload_n 0, 1) := by decide +kernel
theorem d11_findLeast_19 : decode (mm_cc M11_findLeast) 19 = .ok (.getfield 72, 3) := by decide +kernel
theorem d11_findLeast_22 : decode (mm_cc M11_findLeast) 22 = .ok (.iload_n 2, 1) := by decide +kernel
theorem d11_findLeast_23 : decode (mm_cc M11_findLeast) 23 = .ok (.iaload, 1) := by decide +kernel
theorem d11_findLeast_24 : decode (mm_cc M11_findLeast) 24 = .ok (.iadd, 1) := by decide +kernel
theorem d11_findLeast_25 : decode (mm_cc M11_findLeast) 25 = .ok (.istore_n 1, 1) := by decide +kernel
theorem d11_findLeast_26 : decode (mm_cc M11_findLeast) 26 = .ok (.aload_n 0, 1) := by decide +kernel
theorem d11_findLeast_27 : decode (mm_cc M11_findLeast) 27 = .ok (.getfield 99, 3) := by decide +kernel
theorem d11_findLeast_30 : decode (mm_cc M11_findLeast) 30 = .ok (.iload_n 2, 1) := by decide +kernel
theorem d11_findLeast_31 : decode (mm_cc M11_findLeast) 31 = .ok (.aload_n 0, 1) := by decide +kernel
theorem d11_findLeast_32 : decode (mm_cc M11_findLeast) 32 = .ok (.getfield 355, 3) := by decide +kernel
theorem d11_findLeast_35 : decode (mm_cc M11_findLeast) 35 = .ok (.iastore, 1) := by decide +kernel
theorem d11_findLeast_36 : decode (mm_cc M11_findLeast) 36 = .ok (.aload_n 0, 1) := by decide +kernel
theorem d11_findLeast_37 : decode (mm_cc M11_findLeast) 37 = .ok (.iload_n 1, 1) := by decide +kernel
theorem d11_findLeast_38 : decode (mm_cc M11_findLeast) 38 = .ok (.bipush 8, 2) := by decide +kernel
theorem d11_findLeast_40 : decode (mm_cc M11_findLeast) 40 = .ok (.if_icmp .le 10, 3) := by decide +kernel
theorem d11_findLeast_43 : decode (mm_cc M11_findLeast) 43 = .ok (.aload_n 0, 1) := by decide +kernel
theorem d11_findLeast_44 : decode (mm_cc M11_findLeast) 44 = .ok (.getfield 355, 3) := by decide +kernel
theorem d11_findLeast_47 : decode (mm_cc M11_findLeast) 47 = .ok (.goto 16, 3) := by decide +kernel
theorem d11_findLeast_50 : decode (mm_cc M11_findLeast) 50 = .ok (.aload_n 0, 1) := by decide +kernel
theorem d11_findLeast_51 : decode (mm_cc M11_findLeast) 51 = .ok (.getfield 355, 3) := by decide +kernel
theorem d11_findLeast_54 : decode (mm_cc M11_findLeast) 54 = .ok (.aload_n 0, 1) := by decide +kernel
theorem d11_findLeast_55 : decode (mm_cc M11_findLeast) 55 = .ok (.getfield 72, 3) := by decide +kernel
theorem d11_findLeast_58 : decode (mm_cc M11_findLeast) 58 = .ok (.iload_n 2, 1) := by decide +kernel
theorem d11_findLeast_59 : decode (mm_cc M11_findLeast) 59 = .ok (.iaload, 1) := by decide +kernel
theorem d11_findLeast_60 : decode (mm_cc M11_findLeast) 60 = .ok (.iconst 1, 1) := by decide +kernel
theorem d11_findLeast_61 : decode (mm_cc M11_findLeast) 61 = .ok (.iadd, 1) := by decide +kernel
theorem d11_findLeast_62 : decode (mm_cc M11_findLeast) 62 = .ok (.imul, 1) := by decide +kernel
theorem d11_findLeast_63 : decode (mm_cc M11_findLeast) 63 = .ok (.putfield 355, 3) := by decide +kernel
theorem d11_findLeast_66 : decode (mm_cc M11_findLeast) 66 = .ok (.iinc 2 1, 3) := by decide +kernel
theorem d11_findLeast_69 : decode (mm_cc M11_findLeast) 69 = .ok (.goto (-60), 3) := by decide +kernel
theorem d11_findLeast_72 : decode (mm_cc M11_findLeast) 72 = .ok (.iload_n 1, 1) := by decide +kernel
theorem d11_findLeast_73 : decode (mm_cc M11_findLeast) 73 = .ok (.bipush 8, 2) := by decide +kernel
theorem d11_findLeast_75 : decode (mm_cc M11_findLeast) 75 = .ok (.if_icmp .le 5, 3) := by decide +kernel
theorem d11_findLeast_78 : decode (mm_cc M11_findLeast) 78 = .ok (.iconst 0, 1) := by decide +kernel
theorem d11_findLeast_79 : decode (mm_cc M11_findLeast) 79 = .ok (.ireturn, 1) := by decide +kernel
theorem d11_findLeast_80 : decode (mm_cc M11_findLeast) 80 = .ok (.aload_n 0, 1) := by decide +kernel
theorem d11_findLeast_81 : decode (mm_cc M11_findLeast) 81 = .ok (.getfield 140, 3) := by decide +kernel
theorem d11_findLeast_84 : decode (mm_cc M11_findLeast) 84 = .ok (.istore_n 2, 1) := by decide +kernel
theorem d11_findLeast_85 : decode (mm_cc M11_findLeast) 85 = .ok (.iload_n 2, 1) := by decide +kernel
theorem d11_findLeast_86 : decode (mm_cc M11_findLeast) 86 = .ok (.ifCond .lt 148, 3) := by decide +kernel
theorem d11_findLeast_89 : decode (mm_cc M11_findLeast) 89 = .ok (.iconst 0, 1) := by decide +kernel
theorem d11_findLeast_90 : decode (mm_cc M11_findLeast) 90 = .ok (.istore_n 3, 1) := by decide +kernel
theorem d11_findLeast_91 : decode (mm_cc M11_findLeast) 91 = .ok (.iload_n 3, 1) := by decide +kernel
theorem d11_findLeast_92 : decode (mm_cc M11_findLeast) 92 = .ok (.aload_n 0, 1) := by decide +kernel
theorem d11_findLeast_93 : decode (mm_cc M11_findLeast) 93 = .ok (.getfield 355, 3) := by decide +kernel
theorem d11_findLeast_96 : decode (mm_cc M11_findLeast) 96 = .ok (.if_icmp .ge 132, 3) := by decide +kernel
theorem d11_findLeast_99 : decode (mm_cc M11_findLeast) 99 = .ok (.aload_n 0, 1) := by decide +kernel
theorem d11_findLeast_100 : decode (mm_cc M11_findLeast) 100 = .ok (.getfield 96, 3) := by decide +kernel
theorem d11_findLeast_103 : decode (mm_cc M11_findLeast) 103 = .ok (.sipush 256, 3) := by decide +kernel
theorem d11_findLeast_106 : decode (mm_cc M11_findLeast) 106 = .ok (.iload_n 2, 1) := by decide +kernel
theorem d11_findLeast_107 : decode (mm_cc M11_findLeast) 107 = .ok (.imul, 1) := by decide +kernel
theorem d11_findLeast_108 : decode (mm_cc M11_findLeast) 108 = .ok (.iload_n 3, 1) := by decide +kernel
theorem d11_findLeast_109 : decode (mm_cc M11_findLeast) 109 = .ok (.iadd, 1) := by decide +kernel
theorem d11_findLeast_110 : decode (mm_cc M11_findLeast) 110 = .ok (.iload_n 2, 1) := by decide +kernel
theorem d11_findLeast_111 : decode (mm_cc M11_findLeast) 111 = .ok (.aload_n 0, 1) := by decide +kernel
theorem d11_findLeast_112 : decode (mm_cc M11_findLeast) 112 = .ok (.getfield 140, 3) := by decide +kernel
theorem d11_findLeast_115 : decode (mm_cc M11_findLeast) 115 = .ok (.if_icmp .ne 17, 3) := by decide +kernel
theorem d11_findLeast_118 : decode (mm_cc M11_findLeast) 118 = .ok (.iload_n 3, 1) := by decide +kernel
theorem d11_findLeast_119 : decode (mm_cc M11_findLeast) 119 = .ok (.ifCond .ne 7, 3) := by decide +kernel
theorem d11_findLeast_122 : decode (mm_cc M11_findLeast) 122 = .ok (.iconst 0, 1) := by decide +kernel
theorem d11_findLeast_123 : decode (mm_cc M11_findLeast) 123 = .ok (.goto 16, 3) := by decide +kernel
theorem d11_findLeast_126 : decode (mm_cc M11_findLeast) 126 = .ok (.ldc_w 354, 3) := by decide +kernel
theorem d11_findLeast_129 : decode (mm_cc M11_findLeast) 129 = .ok (.goto 10, 3) := by decide +kernel
theorem d11_findLeast_132 : decode (mm_cc M11_findLeast) 132 = .ok (.aload_n 0, 1) := by decide +kernel
theorem d11_findLeast_133 : decode (mm_cc M11_findLeast) 133 = .ok (.iload_n 2, 1) := by decide +kernel
theorem d11_findLeast_134 : decode (mm_cc M11_findLeast) 134 = .ok (.iload_n 3, 1) := by decide +kernel
theorem d11_findLeast_135 : decode (mm_cc M11_findLeast) 135 = .ok (.iconst (-1), 1) := by decide +kernel
theorem d11_findLeast_136 : decode (mm_cc M11_findLeast) 136 = .ok (.invokevirtual 358, 3) := by decide +kernel
theorem d11_findLeast_139 : decode (mm_cc M11_findLeast) 139 = .ok (.iastore, 1) := by decide +kernel
theorem d11_findLeast_140 : decode (mm_cc M11_findLeast) 140 = .ok (.iconst 0, 1) := by decide +kernel
theorem d11_findLeast_141 : decode (mm_cc M11_findLeast) 141 = .ok (.istore 4, 2) := by decide +kernel
theorem d11_findLeast_143 : decode (mm_cc M11_findLeast) 143 = .ok (.iload 4, 2) := by decide +kernel
theorem d11_findLeast_145 : decode (mm_cc M11_findLeast) 145 = .ok (.aload_n 0, 1) := by decide +kernel
theorem d11_findLeast_146 : decode (mm_cc M11_findLeast) 146 = .ok (.getfield 133, 3) := by decide +kernel
theorem d11_findLeast_149 : decode (mm_cc M11_findLeast) 149 = .ok (.if_icmp .ge 73, 3) := by decide +kernel
theorem d11_findLeast_152 : decode (mm_cc M11_findLeast) 152 = .ok (.iload_n 2, 1) := by decide +kernel
theorem d11_findLeast_153 : decode (mm_cc M11_findLeast) 153 = .ok (.aload_n 0, 1) := by decide +kernel
theorem d11_findLeast_154 : decode (mm_cc M11_findLeast) 154 = .ok (.getfield 140, 3) := by decide +kernel
theorem d11_findLeast_157 : decode (mm_cc M11_findLeast) 157 = .ok (.if_icmp .ge 65, 3) := by decide +kernel
theorem d11_findLeast_160 : decode (mm_cc M11_findLeast) 160 = .ok (.aload_n 0, 1) := by decide +kernel
theorem d11_findLeast_161 : decode (mm_cc M11_findLeast) 161 = .ok (.iload_n 2, 1) := by decide +kernel
theorem d11_findLeast_162 : decode (mm_cc M11_findLeast) 162 = .ok (.iload_n 3, 1) := by decide +kernel
theorem d11_findLeast_163 : decode (mm_cc M11_findLeast) 163 = .ok (.iload 4, 2) := by decide +kernel
theorem d11_findLeast_165 : decode (mm_cc M11_findLeast) 165 = .ok (.invokevirtual 358, 3) := by decide +kernel
theorem d11_findLeast_168 : decode (mm_cc M11_findLeast) 168 = .ok (.istore 5, 2) := by decide +kernel
theorem d11_findLeast_170 : decode (mm_cc M11_findLeast) 170 = .ok (.aload_n 0, 1) := by decide +kernel
theorem d11_findLeast_171 : decode (mm_cc M11_findLeast) 171 = .ok (.getfield 96, 3) := by decide +kernel
theorem d11_findLeast_174 : decode (mm_cc M11_findLeast) 174 = .ok (.sipush 256, 3) := by decide +kernel
theorem d11_findLeast_177 : decode (mm_cc M11_findLeast) 177 = .ok (.iload_n 2, 1) := by decide +kernel
theorem d11_findLeast_178 : decode (mm_cc M11_findLeast) 178 = .ok (.imul, 1) := by decide +kernel
theorem d11_findLeast_179 : decode (mm_cc M11_findLeast) 179 = .ok (.iload_n 3, 1) := by decide +kernel
theorem d11_findLeast_180 : decode (mm_cc M11_findLeast) 180 = .ok (.iadd, 1) := by decide +kernel
theorem d11_findLeast_181 : decode (mm_cc M11_findLeast) 181 = .ok (.iload 5, 2) := by decide +kernel
theorem d11_findLeast_183 : decode (mm_cc M11_findLeast) 183 = .ok (.aload_n 0, 1) := by decide +kernel
theorem d11_findLeast_184 : decode (mm_cc M11_findLeast) 184 = .ok (.getfield 96, 3) := by decide +kernel
theorem d11_findLeast_187 : decode (mm_cc M11_findLeast) 187 = .ok (.sipush 256, 3) := by decide +kernel
theorem d11_findLeast_190 : decode (mm_cc M11_findLeast) 190 = .ok (.iload_n 2, 1) := by decide +kernel
theorem d11_findLeast_191 : decode (mm_cc M11_findLeast) 191 = .ok (.imul, 1) := by decide +kernel
theorem d11_findLeast_192 : decode (mm_cc M11_findLeast) 192 = .ok (.iload_n 3, 1) := by decide +kernel
theorem d11_findLeast_193 : decode (mm_cc M11_findLeast) 193 = .ok (.iadd, 1) := by decide +kernel
theorem d11_findLeast_194 : decode (mm_cc M11_findLeast) 194 = .ok (.iaload, 1) := by decide +kernel
theorem d11_findLeast_195 : decode (mm_cc M11_findLeast) 195 = .ok (.if_icmp .ge 8, 3) := by decide +kernel
theorem d11_findLeast_198 : decode (mm_cc M11_findLeast) 198 = .ok (.iload 5, 2) := by decide +kernel
theorem d11_findLeast_200 : decode (mm_cc M11_findLeast) 200 = .ok (.goto 15, 3) := by decide +kernel
theorem d11_findLeast_203 : decode (mm_cc M11_findLeast) 203 = .ok (.aload_n 0, 1) := by decide +kernel
theorem d11_findLeast_204 : decode (mm_cc M11_findLeast) 204 = .ok (.getfield 96, 3) := by decide +kernel
theorem d11_findLeast_207 : decode (mm_cc M11_findLeast) 207 = .ok (.sipush 256, 3) := by decide +kernel
theorem d11_findLeast_210 : decode (mm_cc M11_findLeast) 210 = .ok (.iload_n 2, 1) := by decide +kernel
theorem d11_findLeast_211 : decode (mm_cc M11_findLeast) 211 = .ok (.imul, 1) := by decide +kernel
theorem d11_findLeast_212 : decode (mm_cc M11_findLeast) 212 = .ok (.iload_n 3, 1) := by decide +kernel
theorem d11_findLeast_213 : decode (mm_cc M11_findLeast) 213 = .ok (.iadd, 1) := by decide +kernel
theorem d11_findLeast_214 : decode (mm_cc M11_findLeast) 214 = .ok (.iaload, 1) := by decide +kernel
theorem d11_findLeast_215 : decode (mm_cc M11_findLeast) 215 = .ok (.iastore, 1) := by decide +kernel
theorem d11_findLeast_216 : decode (mm_cc M11_findLeast) 216 = .ok (.iinc 4 1, 3) := by decide +kernel
theorem d11_findLeast_219 : decode (mm_cc M11_findLeast) 219 = .ok (.goto (-76), 3) := by decide +kernel
theorem d11_findLeast_222 : decode (mm_cc M11_findLeast) 222 = .ok (.iinc 3 1, 3) := by decide +kernel
theorem d11_findLeast_225 : decode (mm_cc M11_findLeast) 225 = .ok (.goto (-134), 3) := by decide +kernel
theorem d11_findLeast_228 : decode (mm_cc M11_findLeast) 228 = .ok (.iinc 2 (-1), 3) := by decide +kernel
theorem d11_findLeast_231 : decode (mm_cc M11_findLeast) 231 = .ok (.goto (-146), 3) := by decide +kernel
theorem d11_findLeast_234 : decode (mm_cc M11_findLeast) 234 = .ok (.aload_n 0, 1) := by decide +kernel
theorem d11_findLeast_235 : decode (mm_cc M11_findLeast) 235 = .ok (.getfield 96, 3) := by decide +kernel
theorem d11_findLeast_238 : decode (mm_cc M11_findLeast) 238 = .ok (.aload_n 0, 1) := by decide +kernel
theorem d11_findLeast_239 : decode (mm_cc M11_findLeast) 239 = .ok (.getfield 355, 3) := by decide +kernel
theorem d11_findLeast_242 : decode (mm_cc M11_findLeast) 242 = .ok (.iconst 1, 1) := by decide +kernel
theorem d11_findLeast_243 : decode (mm_cc M11_findLeast) 243 = .ok (.isub, 1) := by decide +kernel
theorem d11_findLeast_244 : decode (mm_cc M11_findLeast) 244 = .ok (.iaload, 1) := by decide +kernel
theorem d11_findLeast_245 : decode (mm_cc M11_findLeast) 245 = .ok (.ldc_w 354, 3) := by decide +kernel
theorem d11_findLeast_248 : decode (mm_cc M11_findLeast) 248 = .ok (.if_icmp .ge 7, 3) := by decide +kernel
theorem d11_findLeast_251 : decode (mm_cc M11_findLeast) 251 = .ok (.iconst 1, 1) := by decide +kernel
theorem d11_findLeast_252 : decode (mm_cc M11_findLeast) 252 = .ok (.goto 4, 3) := by decide +kernel
theorem d11_findLeast_255 : decode (mm_cc M11_findLeast) 255 = .ok (.iconst 0, 1) := by decide +kernel
theorem d11_findLeast_256 : decode (mm_cc M11_findLeast) 256 = .ok (.ireturn, 1) := by decide +kernel
theorem d11_ringSum_0 : decode (mm_cc M11_ringSum) 0 = .ok (.iconst 0, 1) := by decide +kernel
theorem d11_ringSum_1 : decode (mm_cc M11_ringSum) 1 = .ok (.istore_n 2, 1) := by decide +kernel
theorem d11_ringSum_2 : decode (mm_cc M11_ringSum) 2 = .ok (.iconst 0, 1) := by decide +kernel
theorem d11_ringSum_3 : decode (mm_cc M11_ringSum) 3 = .ok (.istore_n 3, 1) := by decide +kernel
theorem d11_ringSum_4 : decode (mm_cc M11_ringSum) 4 = .ok (.iload_n 3, 1) := by decide +kernel
theorem d11_ringSum_5 : decode (mm_cc M11_ringSum) 5 = .ok (.iload_n 1, 1) := by decide +kernel
theorem d11_ringSum_6 : decode (mm_cc M11_ringSum) 6 = .ok (.if_icmp .ge 24, 3) := by decide +kernel
theorem d11_ringSum_9 : decode (mm_cc M11_ringSum) 9 = .ok (.aload_n 0, 1) := by decide +kernel
theorem d11_ringSum_10 : decode (mm_cc M11_ringSum) 10 = .ok (.aload_n 0, 1) := by decide +kernel
theorem d11_ringSum_11 : decode (mm_cc M11_ringSum) 11 = .ok (.getfield 102, 3) := by decide +kernel
theorem d11_ringSum_14 : decode (mm_cc M11_ringSum) 14 = .ok (.iload_n 3, 1) := by decide +kernel
theorem d11_ringSum_15 : decode (mm_cc M11_ringSum) 15 = .ok (.iaload, 1) := by decide +kernel
theorem d11_ringSum_16 : decode (mm_cc M11_ringSum) 16 = .ok (.invokevirtual 369, 3) := by decide +kernel
theorem d11_ringSum_19 : decode (mm_cc M11_ringSum) 19 = .ok (.ifCond .ne 5, 3) := by decide +kernel
theorem d11_ringSum_22 : decode (mm_cc M11_ringSum) 22 = .ok (.iconst 0, 1) := by decide +kernel
theorem d11_ringSum_23 : decode (mm_cc M11_ringSum) 23 = .ok (.ireturn, 1) := by decide +kernel
theorem d11_ringSum_24 : decode (mm_cc M11_ringSum) 24 = .ok (.iinc 3 1, 3) := by decide +kernel
theorem d11_ringSum_27 : decode (mm_cc M11_ringSum) 27 = .ok (.goto (-23), 3) := by decide +kernel
theorem d11_ringSum_30 : decode (mm_cc M11_ringSum) 30 = .ok (.iconst 0, 1) := by decide +kernel
theorem d11_ringSum_31 : decode (mm_cc M11_ringSum) 31 = .ok (.istore_n 3, 1) := by decide +kernel
theorem d11_ringSum_32 : decode (mm_cc M11_ringSum) 32 = .ok (.iload_n 3, 1) := by decide +kernel
theorem d11_ringSum_33 : decode (mm_cc M11_ringSum) 33 = .ok (.iload_n 1, 1) := by decide +kernel
theorem d11_ringSum_34 : decode (mm_cc M11_ringSum) 34 = .ok (.if_icmp .ge 43, 3) := by decide +kernel
theorem d11_ringSum_37 : decode (mm_cc M11_ringSum) 37 = .ok (.aload_n 0, 1) := by decide +kernel
theorem d11_ringSum_38 : decode (mm_cc M11_ringSum) 38 = .ok (.aload_n 0, 1) := by decide +kernel
theorem d11_ringSum_39 : decode (mm_cc M11_ringSum) 39 = .ok (.getfield 102, 3) := by decide +kernel
theorem d11_ringSum_42 : decode (mm_cc M11_ringSum) 42 = .ok (.iload_n 3, 1) := by decide +kernel
theorem d11_ringSum_43 : decode (mm_cc M11_ringSum) 43 = .ok (.iaload, 1) := by decide +kernel
theorem d11_ringSum_44 : decode (mm_cc M11_ringSum) 44 = .ok (.aload_n 0, 1) := by decide +kernel
theorem d11_ringSum_45 : decode (mm_cc M11_ringSum) 45 = .ok (.getfield 102, 3) := by decide +kernel
theorem d11_ringSum_48 : decode (mm_cc M11_ringSum) 48 = .ok (.iload_n 3, 1) := by decide +kernel
theorem d11_ringSum_49 : decode (mm_cc M11_ringSum) 49 = .ok (.iconst 1, 1) := by decide +kernel
theorem d11_ringSum_50 : decode (mm_cc M11_ringSum) 50 = .ok (.iadd, 1) := by decide +kernel
theorem d11_ringSum_51 : decode (mm_cc M11_ringSum) 51 = .ok (.iload_n 1, 1) := by decide +kernel
theorem d11_ringSum_52 : decode (mm_cc M11_ringSum) 52 = .ok (.irem, 1) := by decide +kernel
theorem d11_ringSum_53 : decode (mm_cc M11_ringSum) 53 = .ok (.iaload, 1) := by decide +kernel
theorem d11_ringSum_54 : decode (mm_cc M11_ringSum) 54 = .ok (.invokevirtual 372, 3) := by decide +kernel
theorem d11_ringSum_57 : decode (mm_cc M11_ringSum) 57 = .ok (.istore 4, 2) := by decide +kernel
theorem d11_ringSum_59 : decode (mm_cc M11_ringSum) 59 = .ok (.iload 4, 2) := by decide +kernel
theorem d11_ringSum_61 : decode (mm_cc M11_ringSum) 61 = .ok (.ifCond .ne 5, 3) := by decide +kernel
theorem d11_ringSum_64 : decode (mm_cc M11_ringSum) 64 = .ok (.iconst 0, 1) := by decide +kernel
theorem d11_ringSum_65 : decode (mm_cc M11_ringSum) 65 = .ok (.ireturn, 1) := by decide +kernel
theorem d11_ringSum_66 : decode (mm_cc M11_ringSum) 66 = .ok (.iload_n 2, 1) := by decide +kernel
theorem d11_ringSum_67 : decode (mm_cc M11_ringSum) 67 = .ok (.iload 4, 2) := by decide +kernel
theorem d11_ringSum_69 : decode (mm_cc M11_ringSum) 69 = .ok (.iadd, 1) := by decide +kernel
theorem d11_ringSum_70 : decode (mm_cc M11_ringSum) 70 = .ok (.istore_n 2, 1) := by decide +kernel
theorem d11_ringSum_71 : decode (mm_cc M11_ringSum) 71 = .ok (.iinc 3 1, 3) := by decide +kernel
theorem d11_ringSum_74 : decode (mm_cc M11_ringSum) 74 = .ok (.goto (-42), 3) := by decide +kernel
theorem d11_ringSum_77 : decode (mm_cc M11_ringSum) 77 = .ok (.iload_n 2, 1) := by decide +kernel
theorem d11_ringSum_78 : decode (mm_cc M11_ringSum) 78 = .ok (.ireturn, 1) := by decide +kernel
theorem d11_takeLaw_0 : decode (mm_cc M11_takeLaw) 0 = .ok (.aload_n 0, 1) := by decide +kernel
theorem d11_takeLaw_1 : decode (mm_cc M11_takeLaw) 1 = .ok (.invokevirtual 205, 3) := by decide +kernel
theorem d11_takeLaw_4 : decode (mm_cc M11_takeLaw) 4 = .ok (.aload_n 0, 1) := by decide +kernel
theorem d11_takeLaw_5 : decode (mm_cc M11_takeLaw) 5 = .ok (.getfield 169, 3) := by decide +kernel
theorem d11_takeLaw_8 : decode (mm_cc M11_takeLaw) 8 = .ok (.bipush 104, 2) := by decide +kernel
theorem d11_takeLaw_10 : decode (mm_cc M11_takeLaw) 10 = .ok (.bipush 111, 2) := by decide +kernel
theorem d11_takeLaw_12 : decode (mm_cc M11_takeLaw) 12 = .ok (.bipush 108, 2) := by decide +kernel
theorem d11_takeLaw_14 : decode (mm_cc M11_takeLaw) 14 = .ok (.bipush 100, 2) := by decide +kernel
theorem d11_takeLaw_16 : decode (mm_cc M11_takeLaw) 16 = .ok (.invokestatic 211, 3) := by decide +kernel
theorem d11_takeLaw_19 : decode (mm_cc M11_takeLaw) 19 = .ok (.bipush 115, 2) := by decide +kernel
theorem d11_takeLaw_21 : decode (mm_cc M11_takeLaw) 21 = .ok (.invokestatic 215, 3) := by decide +kernel
theorem d11_takeLaw_24 : decode (mm_cc M11_takeLaw) 24 = .ok (.lcmp, 1) := by decide +kernel
theorem d11_takeLaw_25 : decode (mm_cc M11_takeLaw) 25 = .ok (.ifCond .ne 7, 3) := by decide +kernel
theorem d11_takeLaw_28 : decode (mm_cc M11_takeLaw) 28 = .ok (.iconst 0, 1) := by decide +kernel
theorem d11_takeLaw_29 : decode (mm_cc M11_takeLaw) 29 = .ok (.goto 80, 3) := by decide +kernel
theorem d11_takeLaw_32 : decode (mm_cc M11_takeLaw) 32 = .ok (.aload_n 0, 1) := by decide +kernel
theorem d11_takeLaw_33 : decode (mm_cc M11_takeLaw) 33 = .ok (.getfield 169, 3) := by decide +kernel
theorem d11_takeLaw_36 : decode (mm_cc M11_takeLaw) 36 = .ok (.bipush 119, 2) := by decide +kernel
theorem d11_takeLaw_38 : decode (mm_cc M11_takeLaw) 38 = .ok (.bipush 105, 2) := by decide +kernel
theorem d11_takeLaw_40 : decode (mm_cc M11_takeLaw) 40 = .ok (.bipush 116, 2) := by decide +kernel
theorem d11_takeLaw_42 : decode (mm_cc M11_takeLaw) 42 = .ok (.bipush 110, 2) := by decide +kernel
theorem d11_takeLaw_44 : decode (mm_cc M11_takeLaw) 44 = .ok (.invokestatic 211, 3) := by decide +kernel
theorem d11_takeLaw_47 : decode (mm_cc M11_takeLaw) 47 = .ok (.bipush 101, 2) := by decide +kernel
theorem d11_takeLaw_49 : decode (mm_cc M11_takeLaw) 49 = .ok (.invokestatic 215, 3) := by decide +kernel
theorem d11_takeLaw_52 : decode (mm_cc M11_takeLaw) 52 = .ok (.bipush 115, 2) := by decide +kernel
theorem d11_takeLaw_54 : decode (mm_cc M11_takeLaw) 54 = .ok (.invokestatic 215, 3) := by decide +kernel
theorem d11_takeLaw_57 : decode (mm_cc M11_takeLaw) 57 = .ok (.bipush 115, 2) := by decide +kernel
theorem d11_takeLaw_59 : decode (mm_cc M11_takeLaw) 59 = .ok (.invokestatic 215, 3) := by decide +kernel
theorem d11_takeLaw_62 : decode (mm_cc M11_takeLaw) 62 = .ok (.bipush 101, 2) := by decide +kernel
theorem d11_takeLaw_64 : decode (mm_cc M11_takeLaw) 64 = .ok (.invokestatic 215, 3) := by decide +kernel
theorem d11_takeLaw_67 : decode (mm_cc M11_takeLaw) 67 = .ok (.bipush 115, 2) := by decide +kernel
theorem d11_takeLaw_69 : decode (mm_cc M11_takeLaw) 69 = .ok (.invokestatic 215, 3) := by decide +kernel
theorem d11_takeLaw_72 : decode (mm_cc M11_takeLaw) 72 = .ok (.lcmp, 1) := by decide +kernel
theorem d11_takeLaw_73 : decode (mm_cc M11_takeLaw) 73 = .ok (.ifCond .ne 7, 3) := by decide +kernel
theorem d11_takeLaw_76 : decode (mm_cc M11_takeLaw) 76 = .ok (.iconst 1, 1) := by decide +kernel
theorem d11_takeLaw_77 : decode (mm_cc M11_takeLaw) 77 = .ok (.goto 32, 3) := by decide +kernel
theorem d11_takeLaw_80 : decode (mm_cc M11_takeLaw) 80 = .ok (.aload_n 0, 1) := by decide +kernel
theorem d11_takeLaw_81 : decode (mm_cc M11_takeLaw) 81 = .ok (.getfield 169, 3) := by decide +kernel
theorem d11_takeLaw_84 : decode (mm_cc M11_takeLaw) 84 = .ok (.bipush 102, 2) := by decide +kernel
theorem d11_takeLaw_86 : decode (mm_cc M11_takeLaw) 86 = .ok (.bipush 97, 2) := by decide +kernel
theorem d11_takeLaw_88 : decode (mm_cc M11_takeLaw) 88 = .ok (.bipush 100, 2) := by decide +kernel
theorem d11_takeLaw_90 : decode (mm_cc M11_takeLaw) 90 = .ok (.bipush 101, 2) := by decide +kernel
theorem d11_takeLaw_92 : decode (mm_cc M11_takeLaw) 92 = .ok (.invokestatic 211, 3) := by decide +kernel
theorem d11_takeLaw_95 : decode (mm_cc M11_takeLaw) 95 = .ok (.bipush 115, 2) := by decide +kernel
theorem d11_takeLaw_97 : decode (mm_cc M11_takeLaw) 97 = .ok (.invokestatic 215, 3) := by decide +kernel
theorem d11_takeLaw_100 : decode (mm_cc M11_takeLaw) 100 = .ok (.lcmp, 1) := by decide +kernel
theorem d11_takeLaw_101 : decode (mm_cc M11_takeLaw) 101 = .ok (.ifCond .ne 7, 3) := by decide +kernel
theorem d11_takeLaw_104 : decode (mm_cc M11_takeLaw) 104 = .ok (.iconst 2, 1) := by decide +kernel
theorem d11_takeLaw_105 : decode (mm_cc M11_takeLaw) 105 = .ok (.goto 4, 3) := by decide +kernel
theorem d11_takeLaw_108 : decode (mm_cc M11_takeLaw) 108 = .ok (.iconst (-1), 1) := by decide +kernel
theorem d11_takeLaw_109 : decode (mm_cc M11_takeLaw) 109 = .ok (.istore_n 1, 1) := by decide +kernel
theorem d11_takeLaw_110 : decode (mm_cc M11_takeLaw) 110 = .ok (.iload_n 1, 1) := by decide +kernel
theorem d11_takeLaw_111 : decode (mm_cc M11_takeLaw) 111 = .ok (.ifCond .lt 7, 3) := by decide +kernel
theorem d11_takeLaw_114 : decode (mm_cc M11_takeLaw) 114 = .ok (.iload_n 1, 1) := by decide +kernel
theorem d11_takeLaw_115 : decode (mm_cc M11_takeLaw) 115 = .ok (.goto 78, 3) := by decide +kernel
theorem d11_takeLaw_118 : decode (mm_cc M11_takeLaw) 118 = .ok (.aload_n 0, 1) := by decide +kernel
theorem d11_takeLaw_119 : decode (mm_cc M11_takeLaw) 119 = .ok (.getfield 169, 3) := by decide +kernel
theorem d11_takeLaw_122 : decode (mm_cc M11_takeLaw) 122 = .ok (.bipush 114, 2) := by decide +kernel
theorem d11_takeLaw_124 : decode (mm_cc M11_takeLaw) 124 = .ok (.bipush 117, 2) := by decide +kernel
theorem d11_takeLaw_126 : decode (mm_cc M11_takeLaw) 126 = .ok (.bipush 115, 2) := by decide +kernel
theorem d11_takeLaw_128 : decode (mm_cc M11_takeLaw) 128 = .ok (.bipush 116, 2) := by decide +kernel
theorem d11_takeLaw_130 : decode (mm_cc M11_takeLaw) 130 = .ok (.invokestatic 211, 3) := by decide +kernel
theorem d11_takeLaw_133 : decode (mm_cc M11_takeLaw) 133 = .ok (.bipush 115, 2) := by decide +kernel
theorem d11_takeLaw_135 : decode (mm_cc M11_takeLaw) 135 = .ok (.invokestatic 215, 3) := by decide +kernel
theorem d11_takeLaw_138 : decode (mm_cc M11_takeLaw) 138 = .ok (.lcmp, 1) := by decide +kernel
theorem d11_takeLaw_139 : decode (mm_cc M11_takeLaw) 139 = .ok (.ifCond .ne 7, 3) := by decide +kernel
theorem d11_takeLaw_142 : decode (mm_cc M11_takeLaw) 142 = .ok (.iconst 3, 1) := by decide +kernel
theorem d11_takeLaw_143 : decode (mm_cc M11_takeLaw) 143 = .ok (.goto 50, 3) := by decide +kernel
theorem d11_takeLaw_146 : decode (mm_cc M11_takeLaw) 146 = .ok (.aload_n 0, 1) := by decide +kernel
theorem d11_takeLaw_147 : decode (mm_cc M11_takeLaw) 147 = .ok (.getfield 169, 3) := by decide +kernel
theorem d11_takeLaw_150 : decode (mm_cc M11_takeLaw) 150 = .ok (.bipush 100, 2) := by decide +kernel
theorem d11_takeLaw_152 : decode (mm_cc M11_takeLaw) 152 = .ok (.bipush 105, 2) := by decide +kernel
theorem d11_takeLaw_154 : decode (mm_cc M11_takeLaw) 154 = .ok (.bipush 101, 2) := by decide +kernel
theorem d11_takeLaw_156 : decode (mm_cc M11_takeLaw) 156 = .ok (.bipush 115, 2) := by decide +kernel
theorem d11_takeLaw_158 : decode (mm_cc M11_takeLaw) 158 = .ok (.invokestatic 211, 3) := by decide +kernel
theorem d11_takeLaw_161 : decode (mm_cc M11_takeLaw) 161 = .ok (.lcmp, 1) := by decide +kernel
theorem d11_takeLaw_162 : decode (mm_cc M11_takeLaw) 162 = .ok (.ifCond .ne 7, 3) := by decide +kernel
theorem d11_takeLaw_165 : decode (mm_cc M11_takeLaw) 165 = .ok (.iconst 4, 1) := by decide +kernel
theorem d11_takeLaw_166 : decode (mm_cc M11_takeLaw) 166 = .ok (.goto 27, 3) := by decide +kernel
theorem d11_takeLaw_169 : decode (mm_cc M11_takeLaw) 169 = .ok (.aload_n 0, 1) := by decide +kernel
theorem d11_takeLaw_170 : decode (mm_cc M11_takeLaw) 170 = .ok (.getfield 169, 3) := by decide +kernel
theorem d11_takeLaw_173 : decode (mm_cc M11_takeLaw) 173 = .ok (.bipush 108, 2) := by decide +kernel
theorem d11_takeLaw_175 : decode (mm_cc M11_takeLaw) 175 = .ok (.bipush 101, 2) := by decide +kernel
theorem d11_takeLaw_177 : decode (mm_cc M11_takeLaw) 177 = .ok (.bipush 110, 2) := by decide +kernel
theorem d11_takeLaw_179 : decode (mm_cc M11_takeLaw) 179 = .ok (.bipush 116, 2) := by decide +kernel
theorem d11_takeLaw_181 : decode (mm_cc M11_takeLaw) 181 = .ok (.invokestatic 211, 3) := by decide +kernel
theorem d11_takeLaw_184 : decode (mm_cc M11_takeLaw) 184 = .ok (.lcmp, 1) := by decide +kernel
theorem d11_takeLaw_185 : decode (mm_cc M11_takeLaw) 185 = .ok (.ifCond .ne 7, 3) := by decide +kernel
theorem d11_takeLaw_188 : decode (mm_cc M11_takeLaw) 188 = .ok (.iconst 5, 1) := by decide +kernel
theorem d11_takeLaw_189 : decode (mm_cc M11_takeLaw) 189 = .ok (.goto 4, 3) := by decide +kernel
theorem d11_takeLaw_192 : decode (mm_cc M11_takeLaw) 192 = .ok (.iconst (-1), 1) := by decide +kernel
theorem d11_takeLaw_193 : decode (mm_cc M11_takeLaw) 193 = .ok (.istore_n 2, 1) := by decide +kernel
theorem d11_takeLaw_194 : decode (mm_cc M11_takeLaw) 194 = .ok (.iload_n 2, 1) := by decide +kernel
theorem d11_takeLaw_195 : decode (mm_cc M11_takeLaw) 195 = .ok (.ifCond .lt 12, 3) := by decide +kernel
theorem d11_takeLaw_198 : decode (mm_cc M11_takeLaw) 198 = .ok (.aload_n 0, 1) := by decide +kernel
theorem d11_takeLaw_199 : decode (mm_cc M11_takeLaw) 199 = .ok (.getfield 93, 3) := by decide +kernel
theorem d11_takeLaw_202 : decode (mm_cc M11_takeLaw) 202 = .ok (.iload_n 2, 1) := by decide +kernel
theorem d11_takeLaw_203 : decode (mm_cc M11_takeLaw) 203 = .ok (.iaload, 1) := by decide +kernel
theorem d11_takeLaw_204 : decode (mm_cc M11_takeLaw) 204 = .ok (.ifCond .lt 21, 3) := by decide +kernel
theorem d11_takeLaw_207 : decode (mm_cc M11_takeLaw) 207 = .ok (.aload_n 0, 1) := by decide +kernel
theorem d11_takeLaw_208 : decode (mm_cc M11_takeLaw) 208 = .ok (.iload_n 2, 1) := by decide +kernel
theorem d11_takeLaw_209 : decode (mm_cc M11_takeLaw) 209 = .ok (.ifCond .ge 7, 3) := by decide +kernel
theorem d11_takeLaw_212 : decode (mm_cc M11_takeLaw) 212 = .ok (.iconst 1, 1) := by decide +kernel
theorem d11_takeLaw_213 : decode (mm_cc M11_takeLaw) 213 = .ok (.goto 4, 3) := by decide +kernel
theorem d11_takeLaw_216 : decode (mm_cc M11_takeLaw) 216 = .ok (.iconst 3, 1) := by decide +kernel
theorem d11_takeLaw_217 : decode (mm_cc M11_takeLaw) 217 = .ok (.aload_n 0, 1) := by decide +kernel
theorem d11_takeLaw_218 : decode (mm_cc M11_takeLaw) 218 = .ok (.getfield 163, 3) := by decide +kernel
theorem d11_takeLaw_221 : decode (mm_cc M11_takeLaw) 221 = .ok (.invokevirtual 192, 3) := by decide +kernel
theorem d11_takeLaw_224 : decode (mm_cc M11_takeLaw) 224 = .ok (.ireturn, 1) := by decide +kernel
theorem d11_takeLaw_225 : decode (mm_cc M11_takeLaw) 225 = .ok (.aload_n 0, 1) := by decide +kernel
theorem d11_takeLaw_226 : decode (mm_cc M11_takeLaw) 226 = .ok (.aload_n 0, 1) := by decide +kernel
theorem d11_takeLaw_227 : decode (mm_cc M11_takeLaw) 227 = .ok (.getfield 173, 3) := by decide +kernel
theorem d11_takeLaw_230 : decode (mm_cc M11_takeLaw) 230 = .ok (.putfield 163, 3) := by decide +kernel
theorem d11_takeLaw_233 : decode (mm_cc M11_takeLaw) 233 = .ok (.iconst 0, 1) := by decide +kernel
theorem d11_takeLaw_234 : decode (mm_cc M11_takeLaw) 234 = .ok (.istore_n 3, 1) := by decide +kernel
theorem d11_takeLaw_235 : decode (mm_cc M11_takeLaw) 235 = .ok (.iload_n 2, 1) := by decide +kernel
theorem d11_takeLaw_236 : decode (mm_cc M11_takeLaw) 236 = .ok (.iconst 5, 1) := by decide +kernel
theorem d11_takeLaw_237 : decode (mm_cc M11_takeLaw) 237 = .ok (.if_icmp .ne 13, 3) := by decide +kernel
theorem d11_takeLaw_240 : decode (mm_cc M11_takeLaw) 240 = .ok (.aload_n 0, 1) := by decide +kernel
theorem d11_takeLaw_241 : decode (mm_cc M11_takeLaw) 241 = .ok (.getfield 93, 3) := by decide +kernel
theorem d11_takeLaw_244 : decode (mm_cc M11_takeLaw) 244 = .ok (.iconst 5, 1) := by decide +kernel
theorem d11_takeLaw_245 : decode (mm_cc M11_takeLaw) 245 = .ok (.iconst 1, 1) := by decide +kernel
theorem d11_takeLaw_246 : decode (mm_cc M11_takeLaw) 246 = .ok (.iastore, 1) := by decide +kernel
theorem d11_takeLaw_247 : decode (mm_cc M11_takeLaw) 247 = .ok (.goto 58, 3) := by decide +kernel
theorem d11_takeLaw_250 : decode (mm_cc M11_takeLaw) 250 = .ok (.aload_n 0, 1) := by decide +kernel
theorem d11_takeLaw_251 : decode (mm_cc M11_takeLaw) 251 = .ok (.aload_n 0, 1) := by decide +kernel
theorem d11_takeLaw_252 : decode (mm_cc M11_takeLaw) 252 = .ok (.getfield 93, 3) := by decide +kernel
theorem d11_takeLaw_255 : decode (mm_cc M11_takeLaw) 255 = .ok (.iload_n 2, 1) := by decide +kernel
theorem d11_takeLaw_256 : decode (mm_cc M11_takeLaw) 256 = .ok (.iload_n 2, 1) := by decide +kernel
theorem d11_takeLaw_257 : decode (mm_cc M11_takeLaw) 257 = .ok (.iconst 1, 1) := by decide +kernel
theorem d11_takeLaw_258 : decode (mm_cc M11_takeLaw) 258 = .ok (.if_icmp .eq 8, 3) := by decide +kernel
theorem d11_takeLaw_261 : decode (mm_cc M11_takeLaw) 261 = .ok (.iload_n 2, 1) := by decide +kernel
theorem d11_takeLaw_262 : decode (mm_cc M11_takeLaw) 262 = .ok (.iconst 3, 1) := by decide +kernel
theorem d11_takeLaw_263 : decode (mm_cc M11_takeLaw) 263 = .ok (.if_icmp .ne 7, 3) := by decide +kernel
theorem d11_takeLaw_266 : decode (mm_cc M11_takeLaw) 266 = .ok (.iconst 0, 1) := by decide +kernel
theorem d11_takeLaw_267 : decode (mm_cc M11_takeLaw) 267 = .ok (.goto 4, 3) := by decide +kernel
theorem d11_takeLaw_270 : decode (mm_cc M11_takeLaw) 270 = .ok (.iconst 1, 1) := by decide +kernel
theorem d11_takeLaw_271 : decode (mm_cc M11_takeLaw) 271 = .ok (.iload_n 2, 1) := by decide +kernel
theorem d11_takeLaw_272 : decode (mm_cc M11_takeLaw) 272 = .ok (.ifCond .ne 8, 3) := by decide +kernel
theorem d11_takeLaw_275 : decode (mm_cc M11_takeLaw) 275 = .ok (.bipush 6, 2) := by decide +kernel
theorem d11_takeLaw_277 : decode (mm_cc M11_takeLaw) 277 = .ok (.goto 24, 3) := by decide +kernel
theorem d11_takeLaw_280 : decode (mm_cc M11_takeLaw) 280 = .ok (.iload_n 2, 1) := by decide +kernel
theorem d11_takeLaw_281 : decode (mm_cc M11_takeLaw) 281 = .ok (.iconst 1, 1) := by decide +kernel
theorem d11_takeLaw_282 : decode (mm_cc M11_takeLaw) 282 = .ok (.if_icmp .ne 7, 3) := by decide +kernel
theorem d11_takeLaw_285 : decode (mm_cc M11_takeLaw) 285 = .ok (.iconst 3, 1) := by decide +kernel
theorem d11_takeLaw_286 : decode (mm_cc M11_takeLaw) 286 = .ok (.goto 15, 3) := by decide +kernel
theorem d11_takeLaw_289 : decode (mm_cc M11_takeLaw) 289 = .ok (.iload_n 2, 1) := by decide +kernel
theorem d11_takeLaw_290 : decode (mm_cc M11_takeLaw) 290 = .ok (.iconst 4, 1) := by decide +kernel
theorem d11_takeLaw_291 : decode (mm_cc M11_takeLaw) 291 = .ok (.if_icmp .ne 8, 3) := by decide +kernel
theorem d11_takeLaw_294 : decode (mm_cc M11_takeLaw) 294 = .ok (.bipush 120, 2) := by decide +kernel
theorem d11_takeLaw_296 : decode (mm_cc M11_takeLaw) 296 = .ok (.goto 5, 3) := by decide +kernel
theorem d11_takeLaw_299 : decode (mm_cc M11_takeLaw) 299 = .ok (.bipush 100, 2) := by decide +kernel
theorem d11_takeLaw_301 : decode (mm_cc M11_takeLaw) 301 = .ok (.invokevirtual 219, 3) := by decide +kernel
theorem d11_takeLaw_304 : decode (mm_cc M11_takeLaw) 304 = .ok (.istore_n 3, 1) := by decide +kernel
theorem d11_takeLaw_305 : decode (mm_cc M11_takeLaw) 305 = .ok (.iload_n 3, 1) := by decide +kernel
theorem d11_takeLaw_306 : decode (mm_cc M11_takeLaw) 306 = .ok (.ifCond .le 7, 3) := by decide +kernel
theorem d11_takeLaw_309 : decode (mm_cc M11_takeLaw) 309 = .ok (.iload_n 3, 1) := by decide +kernel
theorem d11_takeLaw_310 : decode (mm_cc M11_takeLaw) 310 = .ok (.goto 7, 3) := by decide +kernel
theorem d11_takeLaw_313 : decode (mm_cc M11_takeLaw) 313 = .ok (.aload_n 0, 1) := by decide +kernel
theorem d11_takeLaw_314 : decode (mm_cc M11_takeLaw) 314 = .ok (.invokevirtual 238, 3) := by decide +kernel
theorem d11_takeLaw_317 : decode (mm_cc M11_takeLaw) 317 = .ok (.ireturn, 1) := by decide +kernel
theorem d11_takeLikes_0 : decode (mm_cc M11_takeLikes) 0 = .ok (.aload_n 0, 1) := by decide +kernel
theorem d11_takeLikes_1 : decode (mm_cc M11_takeLikes) 1 = .ok (.iconst 0, 1) := by decide +kernel
theorem d11_takeLikes_2 : decode (mm_cc M11_takeLikes) 2 = .ok (.aload_n 0, 1) := by decide +kernel
theorem d11_takeLikes_3 : decode (mm_cc M11_takeLikes) 3 = .ok (.getfield 223, 3) := by decide +kernel
theorem d11_takeLikes_6 : decode (mm_cc M11_takeLikes) 6 = .ok (.iconst 1, 1) := by decide +kernel
theorem d11_takeLikes_7 : decode (mm_cc M11_takeLikes) 7 = .ok (.isub, 1) := by decide +kernel
theorem d11_takeLikes_8 : decode (mm_cc M11_takeLikes) 8 = .ok (.invokevirtual 202, 3) := by decide +kernel
theorem d11_takeLikes_11 : decode (mm_cc M11_takeLikes) 11 = .ok (.istore_n 1, 1) := by decide +kernel
theorem d11_takeLikes_12 : decode (mm_cc M11_takeLikes) 12 = .ok (.iload_n 1, 1) := by decide +kernel
theorem d11_takeLikes_13 : decode (mm_cc M11_takeLikes) 13 = .ok (.ifCond .le 5, 3) := by decide +kernel
theorem d11_takeLikes_16 : decode (mm_cc M11_takeLikes) 16 = .ok (.iload_n 1, 1) := by decide +kernel
theorem d11_takeLikes_17 : decode (mm_cc M11_takeLikes) 17 = .ok (.ireturn, 1) := by decide +kernel
theorem d11_takeLikes_18 : decode (mm_cc M11_takeLikes) 18 = .ok (.bipush 6, 2) := by decide +kernel
theorem d11_takeLikes_20 : decode (mm_cc M11_takeLikes) 20 = .ok (.aload_n 0, 1) := by decide +kernel
theorem d11_takeLikes_21 : decode (mm_cc M11_takeLikes) 21 = .ok (.getfield 199, 3) := by decide +kernel
theorem d11_takeLikes_24 : decode (mm_cc M11_takeLikes) 24 = .ok (.imul, 1) := by decide +kernel
theorem d11_takeLikes_25 : decode (mm_cc M11_takeLikes) 25 = .ok (.istore_n 2, 1) := by decide +kernel
theorem d11_takeLikes_26 : decode (mm_cc M11_takeLikes) 26 = .ok (.aload_n 0, 1) := by decide +kernel
theorem d11_takeLikes_27 : decode (mm_cc M11_takeLikes) 27 = .ok (.iconst 0, 1) := by decide +kernel
theorem d11_takeLikes_28 : decode (mm_cc M11_takeLikes) 28 = .ok (.aload_n 0, 1) := by decide +kernel
theorem d11_takeLikes_29 : decode (mm_cc M11_takeLikes) 29 = .ok (.getfield 208, 3) := by decide +kernel
theorem d11_takeLikes_32 : decode (mm_cc M11_takeLikes) 32 = .ok (.iconst 1, 1) := by decide +kernel
theorem d11_takeLikes_33 : decode (mm_cc M11_takeLikes) 33 = .ok (.isub, 1) := by decide +kernel
theorem d11_takeLikes_34 : decode (mm_cc M11_takeLikes) 34 = .ok (.invokevirtual 202, 3) := by decide +kernel
theorem d11_takeLikes_37 : decode (mm_cc M11_takeLikes) 37 = .ok (.istore_n 1, 1) := by decide +kernel
theorem d11_takeLikes_38 : decode (mm_cc M11_takeLikes) 38 = .ok (.iload_n 1, 1) := by decide +kernel
theorem d11_takeLikes_39 : decode (mm_cc M11_takeLikes) 39 = .ok (.ifCond .le 5, 3) := by decide +kernel
theorem d11_takeLikes_42 : decode (mm_cc M11_takeLikes) 42 = .ok (.iload_n 1, 1) := by decide +kernel
theorem d11_takeLikes_43 : decode (mm_cc M11_takeLikes) 43 = .ok (.ireturn, 1) := by decide +kernel
theorem d11_takeLikes_44 : decode (mm_cc M11_takeLikes) 44 = .ok (.iload_n 2, 1) := by decide +kernel
theorem d11_takeLikes_45 : decode (mm_cc M11_takeLikes) 45 = .ok (.aload_n 0, 1) := by decide +kernel
theorem d11_takeLikes_46 : decode (mm_cc M11_takeLikes) 46 = .ok (.getfield 199, 3) := by decide +kernel
theorem d11_takeLikes_49 : decode (mm_cc M11_takeLikes) 49 = .ok (.iadd, 1) := by decide +kernel
theorem d11_takeLikes_50 : decode (mm_cc M11_takeLikes) 50 = .ok (.istore_n 2, 1) := by decide +kernel
theorem d11_takeLikes_51 : decode (mm_cc M11_takeLikes) 51 = .ok (.aload_n 0, 1) := by decide +kernel
theorem d11_takeLikes_52 : decode (mm_cc M11_takeLikes) 52 = .ok (.getfield 90, 3) := by decide +kernel
theorem d11_takeLikes_55 : decode (mm_cc M11_takeLikes) 55 = .ok (.iload_n 2, 1) := by decide +kernel
theorem d11_takeLikes_56 : decode (mm_cc M11_takeLikes) 56 = .ok (.iaload, 1) := by decide +kernel
theorem d11_takeLikes_57 : decode (mm_cc M11_takeLikes) 57 = .ok (.ifCond .lt 13, 3) := by decide +kernel
theorem d11_takeLikes_60 : decode (mm_cc M11_takeLikes) 60 = .ok (.aload_n 0, 1) := by decide +kernel
theorem d11_takeLikes_61 : decode (mm_cc M11_takeLikes) 61 = .ok (.iconst 4, 1) := by decide +kernel
theorem d11_takeLikes_62 : decode (mm_cc M11_takeLikes) 62 = .ok (.aload_n 0, 1) := by decide +kernel
theorem d11_takeLikes_63 : decode (mm_cc M11_takeLikes) 63 = .ok (.getfield 196, 3) := by decide +kernel
theorem d11_takeLikes_66 : decode (mm_cc M11_takeLikes) 66 = .ok (.invokevirtual 192, 3) := by decide +kernel
theorem d11_takeLikes_69 : decode (mm_cc M11_takeLikes) 69 = .ok (.ireturn, 1) := by decide +kernel
theorem d11_takeLikes_70 : decode (mm_cc M11_takeLikes) 70 = .ok (.aload_n 0, 1) := by decide +kernel
theorem d11_takeLikes_71 : decode (mm_cc M11_takeLikes) 71 = .ok (.dup, 1) := by decide +kernel
theorem d11_takeLikes_72 : decode (mm_cc M11_takeLikes) 72 = .ok (.getfield 226, 3) := by decide +kernel
theorem d11_takeLikes_75 : decode (mm_cc M11_takeLikes) 75 = .ok (.iconst 1, 1) := by decide +kernel
theorem d11_takeLikes_76 : decode (mm_cc M11_takeLikes) 76 = .ok (.iadd, 1) := by decide +kernel
theorem d11_takeLikes_77 : decode (mm_cc M11_takeLikes) 77 = .ok (.putfield 226, 3) := by decide +kernel
theorem d11_takeLikes_80 : decode (mm_cc M11_takeLikes) 80 = .ok (.aload_n 0, 1) := by decide +kernel
theorem d11_takeLikes_81 : decode (mm_cc M11_takeLikes) 81 = .ok (.aload_n 0, 1) := by decide +kernel
theorem d11_takeLikes_82 : decode (mm_cc M11_takeLikes) 82 = .ok (.getfield 90, 3) := by decide +kernel
theorem d11_takeLikes_85 : decode (mm_cc M11_takeLikes) 85 = .ok (.iload_n 2, 1) := by decide +kernel
theorem d11_takeLikes_86 : decode (mm_cc M11_takeLikes) 86 = .ok (.iconst 0, 1) := by decide +kernel
theorem d11_takeLikes_87 : decode (mm_cc M11_takeLikes) 87 = .ok (.bipush 99, 2) := by decide +kernel
theorem d11_takeLikes_89 : decode (mm_cc M11_takeLikes) 89 = .ok (.invokevirtual 219, 3) := by decide +kernel
theorem d11_takeLikes_92 : decode (mm_cc M11_takeLikes) 92 = .ok (.ireturn, 1) := by decide +kernel
theorem d11_takePerson_0 : decode (mm_cc M11_takePerson) 0 = .ok (.aload_n 0, 1) := by decide +kernel
theorem d11_takePerson_1 : decode (mm_cc M11_takePerson) 1 = .ok (.getfield 223, 3) := by decide +kernel
theorem d11_takePerson_4 : decode (mm_cc M11_takePerson) 4 = .ok (.istore_n 1, 1) := by decide +kernel
theorem d11_takePerson_5 : decode (mm_cc M11_takePerson) 5 = .ok (.aload_n 0, 1) := by decide +kernel
theorem d11_takePerson_6 : decode (mm_cc M11_takePerson) 6 = .ok (.dup, 1) := by decide +kernel
theorem d11_takePerson_7 : decode (mm_cc M11_takePerson) 7 = .ok (.getfield 223, 3) := by decide +kernel
theorem d11_takePerson_10 : decode (mm_cc M11_takePerson) 10 = .ok (.iconst 1, 1) := by decide +kernel
theorem d11_takePerson_11 : decode (mm_cc M11_takePerson) 11 = .ok (.iadd, 1) := by decide +kernel
theorem d11_takePerson_12 : decode (mm_cc M11_takePerson) 12 = .ok (.putfield 223, 3) := by decide +kernel
theorem d11_takePerson_15 : decode (mm_cc M11_takePerson) 15 = .ok (.iconst 0, 1) := by decide +kernel
theorem d11_takePerson_16 : decode (mm_cc M11_takePerson) 16 = .ok (.istore_n 2, 1) := by decide +kernel
theorem d11_takePerson_17 : decode (mm_cc M11_takePerson) 17 = .ok (.iload_n 2, 1) := by decide +kernel
theorem d11_takePerson_18 : decode (mm_cc M11_takePerson) 18 = .ok (.bipush 6, 2) := by decide +kernel
theorem d11_takePerson_20 : decode (mm_cc M11_takePerson) 20 = .ok (.if_icmp .ge 33, 3) := by decide +kernel
theorem d11_takePerson_23 : decode (mm_cc M11_takePerson) 23 = .ok (.aload_n 0, 1) := by decide +kernel
theorem d11_takePerson_24 : decode (mm_cc M11_takePerson) 24 = .ok (.getfield 87, 3) := by decide +kernel
theorem d11_takePerson_27 : decode (mm_cc M11_takePerson) 27 = .ok (.bipush 6, 2) := by decide +kernel
theorem d11_takePerson_29 : decode (mm_cc M11_takePerson) 29 = .ok (.iload_n 1, 1) := by decide +kernel
theorem d11_takePerson_30 : decode (mm_cc M11_takePerson) 30 = .ok (.imul, 1) := by decide +kernel
theorem d11_takePerson_31 : decode (mm_cc M11_takePerson) 31 = .ok (.iload_n 2, 1) := by decide +kernel
theorem d11_takePerson_32 : decode (mm_cc M11_takePerson) 32 = .ok (.iadd, 1) := by decide +kernel
theorem d11_takePerson_33 : decode (mm_cc M11_takePerson) 33 = .ok (.iconst 0, 1) := by decide +kernel
theorem d11_takePerson_34 : decode (mm_cc M11_takePerson) 34 = .ok (.iastore, 1) := by decide +kernel
theorem d11_takePerson_35 : decode (mm_cc M11_takePerson) 35 = .ok (.aload_n 0, 1) := by decide +kernel
theorem d11_takePerson_36 : decode (mm_cc M11_takePerson) 36 = .ok (.getfield 90, 3) := by decide +kernel
theorem d11_takePerson_39 : decode (mm_cc M11_takePerson) 39 = .ok (.bipush 6, 2) := by decide +kernel
theorem d11_takePerson_41 : decode (mm_cc M11_takePerson) 41 = .ok (.iload_n 1, 1) := by decide +kernel
theorem d11_takePerson_42 : decode (mm_cc M11_takePerson) 42 = .ok (.imul, 1) := by decide +kernel
theorem d11_takePerson_43 : decode (mm_cc M11_takePerson) 43 = .ok (.iload_n 2, 1) := by decide +kernel
theorem d11_takePerson_44 : decode (mm_cc M11_takePerson) 44 = .ok (.iadd, 1) := by decide +kernel
theorem d11_takePerson_45 : decode (mm_cc M11_takePerson) 45 = .ok (.iconst (-1), 1) := by decide +kernel
theorem d11_takePerson_46 : decode (mm_cc M11_takePerson) 46 = .ok (.iastore, 1) := by decide +kernel
theorem d11_takePerson_47 : decode (mm_cc M11_takePerson) 47 = .ok (.iinc 2 1, 3) := by decide +kernel
theorem d11_takePerson_50 : decode (mm_cc M11_takePerson) 50 = .ok (.goto (-33), 3) := by decide +kernel
theorem d11_takePerson_53 : decode (mm_cc M11_takePerson) 53 = .ok (.aload_n 0, 1) := by decide +kernel
theorem d11_takePerson_54 : decode (mm_cc M11_takePerson) 54 = .ok (.aload_n 0, 1) := by decide +kernel
theorem d11_takePerson_55 : decode (mm_cc M11_takePerson) 55 = .ok (.getfield 84, 3) := by decide +kernel
theorem d11_takePerson_58 : decode (mm_cc M11_takePerson) 58 = .ok (.iload_n 1, 1) := by decide +kernel
theorem d11_takePerson_59 : decode (mm_cc M11_takePerson) 59 = .ok (.iconst 0, 1) := by decide +kernel
theorem d11_takePerson_60 : decode (mm_cc M11_takePerson) 60 = .ok (.bipush 99, 2) := by decide +kernel
theorem d11_takePerson_62 : decode (mm_cc M11_takePerson) 62 = .ok (.invokevirtual 219, 3) := by decide +kernel
theorem d11_takePerson_65 : decode (mm_cc M11_takePerson) 65 = .ok (.istore_n 2, 1) := by decide +kernel
theorem d11_takePerson_66 : decode (mm_cc M11_takePerson) 66 = .ok (.iload_n 2, 1) := by decide +kernel
theorem d11_takePerson_67 : decode (mm_cc M11_takePerson) 67 = .ok (.ifCond .ne 98, 3) := by decide +kernel
theorem d11_takePerson_70 : decode (mm_cc M11_takePerson) 70 = .ok (.aload_n 0, 1) := by decide +kernel
theorem d11_takePerson_71 : decode (mm_cc M11_takePerson) 71 = .ok (.invokevirtual 166, 3) := by decide +kernel
theorem d11_takePerson_74 : decode (mm_cc M11_takePerson) 74 = .ok (.i2l, 1) := by decide +kernel
theorem d11_takePerson_75 : decode (mm_cc M11_takePerson) 75 = .ok (.ldc2_w 188, 3) := by decide +kernel
theorem d11_takePerson_78 : decode (mm_cc M11_takePerson) 78 = .ok (.ldc2_w 190, 3) := by decide +kernel
theorem d11_takePerson_81 : decode (mm_cc M11_takePerson) 81 = .ok (.invokestatic 136, 3) := by decide +kernel
theorem d11_takePerson_84 : decode (mm_cc M11_takePerson) 84 = .ok (.ifCond .eq 81, 3) := by decide +kernel
theorem d11_takePerson_87 : decode (mm_cc M11_takePerson) 87 = .ok (.aload_n 0, 1) := by decide +kernel
theorem d11_takePerson_88 : decode (mm_cc M11_takePerson) 88 = .ok (.iconst 0, 1) := by decide +kernel
theorem d11_takePerson_89 : decode (mm_cc M11_takePerson) 89 = .ok (.aload_n 0, 1) := by decide +kernel
theorem d11_takePerson_90 : decode (mm_cc M11_takePerson) 90 = .ok (.getfield 208, 3) := by decide +kernel
theorem d11_takePerson_93 : decode (mm_cc M11_takePerson) 93 = .ok (.iconst 1, 1) := by decide +kernel
theorem d11_takePerson_94 : decode (mm_cc M11_takePerson) 94 = .ok (.isub, 1) := by decide +kernel
theorem d11_takePerson_95 : decode (mm_cc M11_takePerson) 95 = .ok (.invokevirtual 202, 3) := by decide +kernel
theorem d11_takePerson_98 : decode (mm_cc M11_takePerson) 98 = .ok (.istore_n 2, 1) := by decide +kernel
theorem d11_takePerson_99 : decode (mm_cc M11_takePerson) 99 = .ok (.aload_n 0, 1) := by decide +kernel
theorem d11_takePerson_100 : decode (mm_cc M11_takePerson) 100 = .ok (.getfield 199, 3) := by decide +kernel
theorem d11_takePerson_103 : decode (mm_cc M11_takePerson) 103 = .ok (.istore_n 3, 1) := by decide +kernel
theorem d11_takePerson_104 : decode (mm_cc M11_takePerson) 104 = .ok (.iload_n 2, 1) := by decide +kernel
theorem d11_takePerson_105 : decode (mm_cc M11_takePerson) 105 = .ok (.ifCond .ne 29, 3) := by decide +kernel
theorem d11_takePerson_108 : decode (mm_cc M11_takePerson) 108 = .ok (.aload_n 0, 1) := by decide +kernel
theorem d11_takePerson_109 : decode (mm_cc M11_takePerson) 109 = .ok (.getfield 87, 3) := by decide +kernel
theorem d11_takePerson_112 : decode (mm_cc M11_takePerson) 112 = .ok (.bipush 6, 2) := by decide +kernel
theorem d11_takePerson_114 : decode (mm_cc M11_takePerson) 114 = .ok (.iload_n 1, 1) := by decide +kernel
theorem d11_takePerson_115 : decode (mm_cc M11_takePerson) 115 = .ok (.imul, 1) := by decide +kernel
theorem d11_takePerson_116 : decode (mm_cc M11_takePerson) 116 = .ok (.iload_n 3, 1) := by decide +kernel
theorem d11_takePerson_117 : decode (mm_cc M11_takePerson) 117 = .ok (.iadd, 1) := by decide +kernel
theorem d11_takePerson_118 : decode (mm_cc M11_takePerson) 118 = .ok (.iaload, 1) := by decide +kernel
theorem d11_takePerson_119 : decode (mm_cc M11_takePerson) 119 = .ok (.ifCond .le 15, 3) := by decide +kernel
theorem d11_takePerson_122 : decode (mm_cc M11_takePerson) 122 = .ok (.aload_n 0, 1) := by decide +kernel
theorem d11_takePerson_123 : decode (mm_cc M11_takePerson) 123 = .ok (.iconst 4, 1) := by decide +kernel
theorem d11_takePerson_124 : decode (mm_cc M11_takePerson) 124 = .ok (.aload_n 0, 1) := by decide +kernel
theorem d11_takePerson_125 : decode (mm_cc M11_takePerson) 125 = .ok (.getfield 196, 3) := by decide +kernel
theorem d11_takePerson_128 : decode (mm_cc M11_takePerson) 128 = .ok (.invokevirtual 192, 3) := by decide +kernel
theorem d11_takePerson_131 : decode (mm_cc M11_takePerson) 131 = .ok (.goto 4, 3) := by decide +kernel
theorem d11_takePerson_134 : decode (mm_cc M11_takePerson) 134 = .ok (.iload_n 2, 1) := by decide +kernel
theorem d11_takePerson_135 : decode (mm_cc M11_takePerson) 135 = .ok (.istore_n 2, 1) := by decide +kernel
theorem d11_takePerson_136 : decode (mm_cc M11_takePerson) 136 = .ok (.iload_n 2, 1) := by decide +kernel
theorem d11_takePerson_137 : decode (mm_cc M11_takePerson) 137 = .ok (.ifCond .le 7, 3) := by decide +kernel
theorem d11_takePerson_140 : decode (mm_cc M11_takePerson) 140 = .ok (.iload_n 2, 1) := by decide +kernel
theorem d11_takePerson_141 : decode (mm_cc M11_takePerson) 141 = .ok (.goto 20, 3) := by decide +kernel
theorem d11_takePerson_144 : decode (mm_cc M11_takePerson) 144 = .ok (.aload_n 0, 1) := by decide +kernel
theorem d11_takePerson_145 : decode (mm_cc M11_takePerson) 145 = .ok (.aload_n 0, 1) := by decide +kernel
theorem d11_takePerson_146 : decode (mm_cc M11_takePerson) 146 = .ok (.getfield 87, 3) := by decide +kernel
theorem d11_takePerson_149 : decode (mm_cc M11_takePerson) 149 = .ok (.bipush 6, 2) := by decide +kernel
theorem d11_takePerson_151 : decode (mm_cc M11_takePerson) 151 = .ok (.iload_n 1, 1) := by decide +kernel
theorem d11_takePerson_152 : decode (mm_cc M11_takePerson) 152 = .ok (.imul, 1) := by decide +kernel
theorem d11_takePerson_153 : decode (mm_cc M11_takePerson) 153 = .ok (.iload_n 3, 1) := by decide +kernel
theorem d11_takePerson_154 : decode (mm_cc M11_takePerson) 154 = .ok (.iadd, 1) := by decide +kernel
theorem d11_takePerson_155 : decode (mm_cc M11_takePerson) 155 = .ok (.iconst 1, 1) := by decide +kernel
theorem d11_takePerson_156 : decode (mm_cc M11_takePerson) 156 = .ok (.bipush 100, 2) := by decide +kernel
theorem d11_takePerson_158 : decode (mm_cc M11_takePerson) 158 = .ok (.invokevirtual 219, 3) := by decide +kernel
theorem d11_takePerson_161 : decode (mm_cc M11_takePerson) 161 = .ok (.istore_n 2, 1) := by decide +kernel
theorem d11_takePerson_162 : decode (mm_cc M11_takePerson) 162 = .ok (.goto (-96), 3) := by decide +kernel
theorem d11_takePerson_165 : decode (mm_cc M11_takePerson) 165 = .ok (.iload_n 2, 1) := by decide +kernel
theorem d11_takePerson_166 : decode (mm_cc M11_takePerson) 166 = .ok (.ireturn, 1) := by decide +kernel
theorem d11_takeTrade_0 : decode (mm_cc M11_takeTrade) 0 = .ok (.aload_n 0, 1) := by decide +kernel
theorem d11_takeTrade_1 : decode (mm_cc M11_takeTrade) 1 = .ok (.invokevirtual 205, 3) := by decide +kernel
theorem d11_takeTrade_4 : decode (mm_cc M11_takeTrade) 4 = .ok (.iconst 4, 1) := by decide +kernel
theorem d11_takeTrade_5 : decode (mm_cc M11_takeTrade) 5 = .ok (.aload_n 0, 1) := by decide +kernel
theorem d11_takeTrade_6 : decode (mm_cc M11_takeTrade) 6 = .ok (.getfield 208, 3) := by decide +kernel
theorem d11_takeTrade_9 : decode (mm_cc M11_takeTrade) 9 = .ok (.imul, 1) := by decide +kernel
theorem d11_takeTrade_10 : decode (mm_cc M11_takeTrade) 10 = .ok (.istore_n 1, 1) := by decide +kernel
theorem d11_takeTrade_11 : decode (mm_cc M11_takeTrade) 11 = .ok (.aload_n 0, 1) := by decide +kernel
theorem d11_takeTrade_12 : decode (mm_cc M11_takeTrade) 12 = .ok (.getfield 169, 3) := by decide +kernel
theorem d11_takeTrade_15 : decode (mm_cc M11_takeTrade) 15 = .ok (.bipush 112, 2) := by decide +kernel
theorem d11_takeTrade_17 : decode (mm_cc M11_takeTrade) 17 = .ok (.bipush 108, 2) := by decide +kernel
theorem d11_takeTrade_19 : decode (mm_cc M11_takeTrade) 19 = .ok (.bipush 97, 2) := by decide +kernel
theorem d11_takeTrade_21 : decode (mm_cc M11_takeTrade) 21 = .ok (.bipush 105, 2) := by decide +kernel
theorem d11_takeTrade_23 : decode (mm_cc M11_takeTrade) 23 = .ok (.invokestatic 211, 3) := by decide +kernel
theorem d11_takeTrade_26 : decode (mm_cc M11_takeTrade) 26 = .ok (.bipush 110, 2) := by decide +kernel
theorem d11_takeTrade_28 : decode (mm_cc M11_takeTrade) 28 = .ok (.invokestatic 215, 3) := by decide +kernel
theorem d11_takeTrade_31 : decode (mm_cc M11_takeTrade) 31 = .ok (.lcmp, 1) := by decide +kernel
theorem d11_takeTrade_32 : decode (mm_cc M11_takeTrade) 32 = .ok (.ifCond .ne 7, 3) := by decide +kernel
theorem d11_takeTrade_35 : decode (mm_cc M11_takeTrade) 35 = .ok (.iconst 0, 1) := by decide +kernel
theorem d11_takeTrade_36 : decode (mm_cc M11_takeTrade) 36 = .ok (.goto 98, 3) := by decide +kernel
theorem d11_takeTrade_39 : decode (mm_cc M11_takeTrade) 39 = .ok (.aload_n 0, 1) := by decide +kernel
theorem d11_takeTrade_40 : decode (mm_cc M11_takeTrade) 40 = .ok (.getfield 169, 3) := by decide +kernel
theorem d11_takeTrade_43 : decode (mm_cc M11_takeTrade) 43 = .ok (.bipush 98, 2) := by decide +kernel
theorem d11_takeTrade_45 : decode (mm_cc M11_takeTrade) 45 = .ok (.bipush 97, 2) := by decide +kernel
theorem d11_takeTrade_47 : decode (mm_cc M11_takeTrade) 47 = .ok (.bipush 99, 2) := by decide +kernel
theorem d11_takeTrade_49 : decode (mm_cc M11_takeTrade) 49 = .ok (.bipush 107, 2) := by decide +kernel
theorem d11_takeTrade_51 : decode (mm_cc M11_takeTrade) 51 = .ok (.invokestatic 211, 3) := by decide +kernel
theorem d11_takeTrade_54 : decode (mm_cc M11_takeTrade) 54 = .ok (.lcmp, 1) := by decide +kernel
theorem d11_takeTrade_55 : decode (mm_cc M11_takeTrade) 55 = .ok (.ifCond .ne 7, 3) := by decide +kernel
theorem d11_takeTrade_58 : decode (mm_cc M11_takeTrade) 58 = .ok (.iconst 1, 1) := by decide +kernel
theorem d11_takeTrade_59 : decode (mm_cc M11_takeTrade) 59 = .ok (.goto 75, 3) := by decide +kernel
theorem d11_takeTrade_62 : decode (mm_cc M11_takeTrade) 62 = .ok (.aload_n 0, 1) := by decide +kernel
theorem d11_takeTrade_63 : decode (mm_cc M11_takeTrade) 63 = .ok (.getfield 169, 3) := by decide +kernel
theorem d11_takeTrade_66 : decode (mm_cc M11_takeTrade) 66 = .ok (.bipush 104, 2) := by decide +kernel
theorem d11_takeTrade_68 : decode (mm_cc M11_takeTrade) 68 = .ok (.bipush 97, 2) := by decide +kernel
theorem d11_takeTrade_70 : decode (mm_cc M11_takeTrade) 70 = .ok (.bipush 108, 2) := by decide +kernel
theorem d11_takeTrade_72 : decode (mm_cc M11_takeTrade) 72 = .ok (.bipush 102, 2) := by decide +kernel
theorem d11_takeTrade_74 : decode (mm_cc M11_takeTrade) 74 = .ok (.invokestatic 211, 3) := by decide +kernel
theorem d11_takeTrade_77 : decode (mm_cc M11_takeTrade) 77 = .ok (.lcmp, 1) := by decide +kernel
theorem d11_takeTrade_78 : decode (mm_cc M11_takeTrade) 78 = .ok (.ifCond .ne 7, 3) := by decide +kernel
theorem d11_takeTrade_81 : decode (mm_cc M11_takeTrade) 81 = .ok (.iconst 2, 1) := by decide +kernel
theorem d11_takeTrade_82 : decode (mm_cc M11_takeTrade) 82 = .ok (.goto 52, 3) := by decide +kernel
theorem d11_takeTrade_85 : decode (mm_cc M11_takeTrade) 85 = .ok (.aload_n 0, 1) := by decide +kernel
theorem d11_takeTrade_86 : decode (mm_cc M11_takeTrade) 86 = .ok (.getfield 169, 3) := by decide +kernel
theorem d11_takeTrade_89 : decode (mm_cc M11_takeTrade) 89 = .ok (.bipush 102, 2) := by decide +kernel
theorem d11_takeTrade_91 : decode (mm_cc M11_takeTrade) 91 = .ok (.bipush 111, 2) := by decide +kernel
theorem d11_takeTrade_93 : decode (mm_cc M11_takeTrade) 93 = .ok (.bipush 114, 2) := by decide +kernel
theorem d11_takeTrade_95 : decode (mm_cc M11_takeTrade) 95 = .ok (.bipush 98, 2) := by decide +kernel
theorem d11_takeTrade_97 : decode (mm_cc M11_takeTrade) 97 = .ok (.invokestatic 211, 3) := by decide +kernel
theorem d11_takeTrade_100 : decode (mm_cc M11_takeTrade) 100 = .ok (.bipush 105, 2) := by decide +kernel
theorem d11_takeTrade_102 : decode (mm_cc M11_takeTrade) 102 = .ok (.invokestatic 215, 3) := by decide +kernel
theorem d11_takeTrade_105 : decode (mm_cc M11_takeTrade) 105 = .ok (.bipush 100, 2) := by decide +kernel
theorem d11_takeTrade_107 : decode (mm_cc M11_takeTrade) 107 = .ok (.invokestatic 215, 3) := by decide +kernel
theorem d11_takeTrade_110 : decode (mm_cc M11_takeTrade) 110 = .ok (.bipush 100, 2) := by decide +kernel
theorem d11_takeTrade_112 : decode (mm_cc M11_takeTrade) 112 = .ok (.invokestatic 215, 3) := by decide +kernel
theorem d11_takeTrade_115 : decode (mm_cc M11_takeTrade) 115 = .ok (.bipush 101, 2) := by decide +kernel
theorem d11_takeTrade_117 : decode (mm_cc M11_takeTrade) 117 = .ok (.invokestatic 215, 3) := by decide +kernel
theorem d11_takeTrade_120 : decode (mm_cc M11_takeTrade) 120 = .ok (.bipush 110, 2) := by decide +kernel
theorem d11_takeTrade_122 : decode (mm_cc M11_takeTrade) 122 = .ok (.invokestatic 215, 3) := by decide +kernel
theorem d11_takeTrade_125 : decode (mm_cc M11_takeTrade) 125 = .ok (.lcmp, 1) := by decide +kernel
theorem d11_takeTrade_126 : decode (mm_cc M11_takeTrade) 126 = .ok (.ifCond .ne 7, 3) := by decide +kernel
theorem d11_takeTrade_129 : decode (mm_cc M11_takeTrade) 129 = .ok (.iconst 3, 1) := by decide +kernel
theorem d11_takeTrade_130 : decode (mm_cc M11_takeTrade) 130 = .ok (.goto 4, 3) := by decide +kernel
theorem d11_takeTrade_133 : decode (mm_cc M11_takeTrade) 133 = .ok (.iconst (-1), 1) := by decide +kernel
theorem d11_takeTrade_134 : decode (mm_cc M11_takeTrade) 134 = .ok (.istore_n 2, 1) := by decide +kernel
theorem d11_takeTrade_135 : decode (mm_cc M11_takeTrade) 135 = .ok (.iload_n 2, 1) := by decide +kernel
theorem d11_takeTrade_136 : decode (mm_cc M11_takeTrade) 136 = .ok (.ifCond .ge 13, 3) := by decide +kernel
theorem d11_takeTrade_139 : decode (mm_cc M11_takeTrade) 139 = .ok (.aload_n 0, 1) := by decide +kernel
theorem d11_takeTrade_140 : decode (mm_cc M11_takeTrade) 140 = .ok (.iconst 1, 1) := by decide +kernel
theorem d11_takeTrade_141 : decode (mm_cc M11_takeTrade) 141 = .ok (.aload_n 0, 1) := by decide +kernel
theorem d11_takeTrade_142 : decode (mm_cc M11_takeTrade) 142 = .ok (.getfield 163, 3) := by decide +kernel
theorem d11_takeTrade_145 : decode (mm_cc M11_takeTrade) 145 = .ok (.invokevirtual 192, 3) := by decide +kernel
theorem d11_takeTrade_148 : decode (mm_cc M11_takeTrade) 148 = .ok (.ireturn, 1) := by decide +kernel
theorem d11_takeTrade_149 : decode (mm_cc M11_takeTrade) 149 = .ok (.aload_n 0, 1) := by decide +kernel
theorem d11_takeTrade_150 : decode (mm_cc M11_takeTrade) 150 = .ok (.aload_n 0, 1) := by decide +kernel
theorem d11_takeTrade_151 : decode (mm_cc M11_takeTrade) 151 = .ok (.getfield 173, 3) := by decide +kernel
theorem d11_takeTrade_154 : decode (mm_cc M11_takeTrade) 154 = .ok (.putfield 163, 3) := by decide +kernel
theorem d11_takeTrade_157 : decode (mm_cc M11_takeTrade) 157 = .ok (.aload_n 0, 1) := by decide +kernel
theorem d11_takeTrade_158 : decode (mm_cc M11_takeTrade) 158 = .ok (.getfield 81, 3) := by decide +kernel
theorem d11_takeTrade_161 : decode (mm_cc M11_takeTrade) 161 = .ok (.iload_n 1, 1) := by decide +kernel
theorem d11_takeTrade_162 : decode (mm_cc M11_takeTrade) 162 = .ok (.iload_n 2, 1) := by decide +kernel
theorem d11_takeTrade_163 : decode (mm_cc M11_takeTrade) 163 = .ok (.iastore, 1) := by decide +kernel
theorem d11_takeTrade_164 : decode (mm_cc M11_takeTrade) 164 = .ok (.aload_n 0, 1) := by decide +kernel
theorem d11_takeTrade_165 : decode (mm_cc M11_takeTrade) 165 = .ok (.getfield 81, 3) := by decide +kernel
theorem d11_takeTrade_168 : decode (mm_cc M11_takeTrade) 168 = .ok (.iload_n 1, 1) := by decide +kernel
theorem d11_takeTrade_169 : decode (mm_cc M11_takeTrade) 169 = .ok (.iconst 3, 1) := by decide +kernel
theorem d11_takeTrade_170 : decode (mm_cc M11_takeTrade) 170 = .ok (.iadd, 1) := by decide +kernel
theorem d11_takeTrade_171 : decode (mm_cc M11_takeTrade) 171 = .ok (.iconst (-1), 1) := by decide +kernel
theorem d11_takeTrade_172 : decode (mm_cc M11_takeTrade) 172 = .ok (.iastore, 1) := by decide +kernel
theorem d11_takeTrade_173 : decode (mm_cc M11_takeTrade) 173 = .ok (.aload_n 0, 1) := by decide +kernel
theorem d11_takeTrade_174 : decode (mm_cc M11_takeTrade) 174 = .ok (.aload_n 0, 1) := by decide +kernel
theorem d11_takeTrade_175 : decode (mm_cc M11_takeTrade) 175 = .ok (.getfield 81, 3) := by decide +kernel
theorem d11_takeTrade_178 : decode (mm_cc M11_takeTrade) 178 = .ok (.iload_n 1, 1) := by decide +kernel
theorem d11_takeTrade_179 : decode (mm_cc M11_takeTrade) 179 = .ok (.iconst 1, 1) := by decide +kernel
theorem d11_takeTrade_180 : decode (mm_cc M11_takeTrade) 180 = .ok (.iadd, 1) := by decide +kernel
theorem d11_takeTrade_181 : decode (mm_cc M11_takeTrade) 181 = .ok (.iconst 1, 1) := by decide +kernel
theorem d11_takeTrade_182 : decode (mm_cc M11_takeTrade) 182 = .ok (.bipush 9, 2) := by decide +kernel
theorem d11_takeTrade_184 : decode (mm_cc M11_takeTrade) 184 = .ok (.invokevirtual 219, 3) := by decide +kernel
theorem d11_takeTrade_187 : decode (mm_cc M11_takeTrade) 187 = .ok (.istore_n 3, 1) := by decide +kernel
theorem d11_takeTrade_188 : decode (mm_cc M11_takeTrade) 188 = .ok (.iload_n 3, 1) := by decide +kernel
theorem d11_takeTrade_189 : decode (mm_cc M11_takeTrade) 189 = .ok (.ifCond .le 7, 3) := by decide +kernel
theorem d11_takeTrade_192 : decode (mm_cc M11_takeTrade) 192 = .ok (.iload_n 3, 1) := by decide +kernel
theorem d11_takeTrade_193 : decode (mm_cc M11_takeTrade) 193 = .ok (.goto 17, 3) := by decide +kernel
theorem d11_takeTrade_196 : decode (mm_cc M11_takeTrade) 196 = .ok (.aload_n 0, 1) := by decide +kernel
theorem d11_takeTrade_197 : decode (mm_cc M11_takeTrade) 197 = .ok (.aload_n 0, 1) := by decide +kernel
theorem d11_takeTrade_198 : decode (mm_cc M11_takeTrade) 198 = .ok (.getfield 81, 3) := by decide +kernel
theorem d11_takeTrade_201 : decode (mm_cc M11_takeTrade) 201 = .ok (.iload_n 1, 1) := by decide +kernel
theorem d11_takeTrade_202 : decode (mm_cc M11_takeTrade) 202 = .ok (.iconst 2, 1) := by decide +kernel
theorem d11_takeTrade_203 : decode (mm_cc M11_takeTrade) 203 = .ok (.iadd, 1) := by decide +kernel
theorem d11_takeTrade_204 : decode (mm_cc M11_takeTrade) 204 = .ok (.iconst 0, 1) := by decide +kernel
theorem d11_takeTrade_205 : decode (mm_cc M11_takeTrade) 205 = .ok (.bipush 99, 2) := by decide +kernel
theorem d11_takeTrade_207 : decode (mm_cc M11_takeTrade) 207 = .ok (.invokevirtual 219, 3) := by decide +kernel
theorem d11_takeTrade_210 : decode (mm_cc M11_takeTrade) 210 = .ok (.istore_n 3, 1) := by decide +kernel
theorem d11_takeTrade_211 : decode (mm_cc M11_takeTrade) 211 = .ok (.iload_n 3, 1) := by decide +kernel
theorem d11_takeTrade_212 : decode (mm_cc M11_takeTrade) 212 = .ok (.ifCond .le 5, 3) := by decide +kernel
theorem d11_takeTrade_215 : decode (mm_cc M11_takeTrade) 215 = .ok (.iload_n 3, 1) := by decide +kernel
theorem d11_takeTrade_216 : decode (mm_cc M11_takeTrade) 216 = .ok (.ireturn, 1) := by decide +kernel
theorem d11_takeTrade_217 : decode (mm_cc M11_takeTrade) 217 = .ok (.aload_n 0, 1) := by decide +kernel
theorem d11_takeTrade_218 : decode (mm_cc M11_takeTrade) 218 = .ok (.invokevirtual 205, 3) := by decide +kernel
theorem d11_takeTrade_221 : decode (mm_cc M11_takeTrade) 221 = .ok (.aload_n 0, 1) := by decide +kernel
theorem d11_takeTrade_222 : decode (mm_cc M11_takeTrade) 222 = .ok (.getfield 169, 3) := by decide +kernel
theorem d11_takeTrade_225 : decode (mm_cc M11_takeTrade) 225 = .ok (.bipush 110, 2) := by decide +kernel
theorem d11_takeTrade_227 : decode (mm_cc M11_takeTrade) 227 = .ok (.bipush 101, 2) := by decide +kernel
theorem d11_takeTrade_229 : decode (mm_cc M11_takeTrade) 229 = .ok (.bipush 101, 2) := by decide +kernel
theorem d11_takeTrade_231 : decode (mm_cc M11_takeTrade) 231 = .ok (.bipush 100, 2) := by decide +kernel
theorem d11_takeTrade_233 : decode (mm_cc M11_takeTrade) 233 = .ok (.invokestatic 211, 3) := by decide +kernel
theorem d11_takeTrade_236 : decode (mm_cc M11_takeTrade) 236 = .ok (.bipush 115, 2) := by decide +kernel
theorem d11_takeTrade_238 : decode (mm_cc M11_takeTrade) 238 = .ok (.invokestatic 215, 3) := by decide +kernel
theorem d11_takeTrade_241 : decode (mm_cc M11_takeTrade) 241 = .ok (.lcmp, 1) := by decide +kernel
theorem d11_takeTrade_242 : decode (mm_cc M11_takeTrade) 242 = .ok (.ifCond .ne 30, 3) := by decide +kernel
theorem d11_takeTrade_245 : decode (mm_cc M11_takeTrade) 245 = .ok (.aload_n 0, 1) := by decide +kernel
theorem d11_takeTrade_246 : decode (mm_cc M11_takeTrade) 246 = .ok (.aload_n 0, 1) := by decide +kernel
theorem d11_takeTrade_247 : decode (mm_cc M11_takeTrade) 247 = .ok (.getfield 173, 3) := by decide +kernel
theorem d11_takeTrade_250 : decode (mm_cc M11_takeTrade) 250 = .ok (.putfield 163, 3) := by decide +kernel
theorem d11_takeTrade_253 : decode (mm_cc M11_takeTrade) 253 = .ok (.aload_n 0, 1) := by decide +kernel
theorem d11_takeTrade_254 : decode (mm_cc M11_takeTrade) 254 = .ok (.aload_n 0, 1) := by decide +kernel
theorem d11_takeTrade_255 : decode (mm_cc M11_takeTrade) 255 = .ok (.getfield 81, 3) := by decide +kernel
theorem d11_takeTrade_258 : decode (mm_cc M11_takeTrade) 258 = .ok (.iload_n 1, 1) := by decide +kernel
theorem d11_takeTrade_259 : decode (mm_cc M11_takeTrade) 259 = .ok (.iconst 3, 1) := by decide +kernel
theorem d11_takeTrade_260 : decode (mm_cc M11_takeTrade) 260 = .ok (.iadd, 1) := by decide +kernel
theorem d11_takeTrade_261 : decode (mm_cc M11_takeTrade) 261 = .ok (.iconst 0, 1) := by decide +kernel
theorem d11_takeTrade_262 : decode (mm_cc M11_takeTrade) 262 = .ok (.aload_n 0, 1) := by decide +kernel
theorem d11_takeTrade_263 : decode (mm_cc M11_takeTrade) 263 = .ok (.getfield 208, 3) := by decide +kernel
theorem d11_takeTrade_266 : decode (mm_cc M11_takeTrade) 266 = .ok (.iconst 1, 1) := by decide +kernel
theorem d11_takeTrade_267 : decode (mm_cc M11_takeTrade) 267 = .ok (.isub, 1) := by decide +kernel
theorem d11_takeTrade_268 : decode (mm_cc M11_takeTrade) 268 = .ok (.invokevirtual 219, 3) := by decide +kernel
theorem d11_takeTrade_271 : decode (mm_cc M11_takeTrade) 271 = .ok (.istore_n 3, 1) := by decide +kernel
theorem d11_takeTrade_272 : decode (mm_cc M11_takeTrade) 272 = .ok (.aload_n 0, 1) := by decide +kernel
theorem d11_takeTrade_273 : decode (mm_cc M11_takeTrade) 273 = .ok (.dup, 1) := by decide +kernel
theorem d11_takeTrade_274 : decode (mm_cc M11_takeTrade) 274 = .ok (.getfield 208, 3) := by decide +kernel
theorem d11_takeTrade_277 : decode (mm_cc M11_takeTrade) 277 = .ok (.iconst 1, 1) := by decide +kernel
theorem d11_takeTrade_278 : decode (mm_cc M11_takeTrade) 278 = .ok (.iadd, 1) := by decide +kernel
theorem d11_takeTrade_279 : decode (mm_cc M11_takeTrade) 279 = .ok (.putfield 208, 3) := by decide +kernel
theorem d11_takeTrade_282 : decode (mm_cc M11_takeTrade) 282 = .ok (.iload_n 3, 1) := by decide +kernel
theorem d11_takeTrade_283 : decode (mm_cc M11_takeTrade) 283 = .ok (.ireturn, 1) := by decide +kernel
theorem d11_yearNow_0 : decode (mm_cc M11_yearNow) 0 = .ok (.iconst 0, 1) := by decide +kernel
theorem d11_yearNow_1 : decode (mm_cc M11_yearNow) 1 = .ok (.istore_n 1, 1) := by decide +kernel
theorem d11_yearNow_2 : decode (mm_cc M11_yearNow) 2 = .ok (.iconst 0, 1) := by decide +kernel
theorem d11_yearNow_3 : decode (mm_cc M11_yearNow) 3 = .ok (.istore_n 2, 1) := by decide +kernel
theorem d11_yearNow_4 : decode (mm_cc M11_yearNow) 4 = .ok (.iload_n 2, 1) := by decide +kernel
theorem d11_yearNow_5 : decode (mm_cc M11_yearNow) 5 = .ok (.aload_n 0, 1) := by decide +kernel
theorem d11_yearNow_6 : decode (mm_cc M11_yearNow) 6 = .ok (.getfield 140, 3) := by decide +kernel
theorem d11_yearNow_9 : decode (mm_cc M11_yearNow) 9 = .ok (.if_icmp .ge 169, 3) := by decide +kernel
theorem d11_yearNow_12 : decode (mm_cc M11_yearNow) 12 = .ok (.aload_n 0, 1) := by decide +kernel
theorem d11_yearNow_13 : decode (mm_cc M11_yearNow) 13 = .ok (.getfield 41, 3) := by decide +kernel
theorem d11_yearNow_16 : decode (mm_cc M11_yearNow) 16 = .ok (.iload_n 2, 1) := by decide +kernel
theorem d11_yearNow_17 : decode (mm_cc M11_yearNow) 17 = .ok (.baload, 1) := by decide +kernel
theorem d11_yearNow_18 : decode (mm_cc M11_yearNow) 18 = .ok (.ifCond .eq 154, 3) := by decide +kernel
theorem d11_yearNow_21 : decode (mm_cc M11_yearNow) 21 = .ok (.aload_n 0, 1) := by decide +kernel
theorem d11_yearNow_22 : decode (mm_cc M11_yearNow) 22 = .ok (.getfield 51, 3) := by decide +kernel
theorem d11_yearNow_25 : decode (mm_cc M11_yearNow) 25 = .ok (.iload_n 2, 1) := by decide +kernel
theorem d11_yearNow_26 : decode (mm_cc M11_yearNow) 26 = .ok (.iaload, 1) := by decide +kernel
theorem d11_yearNow_27 : decode (mm_cc M11_yearNow) 27 = .ok (.istore_n 3, 1) := by decide +kernel
theorem d11_yearNow_28 : decode (mm_cc M11_yearNow) 28 = .ok (.aload_n 0, 1) := by decide +kernel
theorem d11_yearNow_29 : decode (mm_cc M11_yearNow) 29 = .ok (.getfield 63, 3) := by decide +kernel
theorem d11_yearNow_32 : decode (mm_cc M11_yearNow) 32 = .ok (.iload_n 2, 1) := by decide +kernel
theorem d11_yearNow_33 : decode (mm_cc M11_yearNow) 33 = .ok (.dup2, 1) := by decide +kernel
theorem d11_yearNow_34 : decode (mm_cc M11_yearNow) 34 = .ok (.iaload, 1) := by decide +kernel
theorem d11_yearNow_35 : decode (mm_cc M11_yearNow) 35 = .ok (.iload_n 3, 1) := by decide +kernel
theorem d11_yearNow_36 : decode (mm_cc M11_yearNow) 36 = .ok (.ifCond .ge 7, 3) := by decide +kernel
theorem d11_yearNow_39 : decode (mm_cc M11_yearNow) 39 = .ok (.iconst 0, 1) := by decide +kernel
theorem d11_yearNow_40 : decode (mm_cc M11_yearNow) 40 = .ok (.goto 28, 3) := by decide +kernel
theorem d11_yearNow_43 : decode (mm_cc M11_yearNow) 43 = .ok (.aload_n 0, 1) := by decide +kernel
theorem d11_yearNow_44 : decode (mm_cc M11_yearNow) 44 = .ok (.getfield 7, 3) := by decide +kernel
theorem d11_yearNow_47 : decode (mm_cc M11_yearNow) 47 = .ok (.iconst 4, 1) := by decide +kernel
theorem d11_yearNow_48 : decode (mm_cc M11_yearNow) 48 = .ok (.iload_n 3, 1) := by decide +kernel
theorem d11_yearNow_49 : decode (mm_cc M11_yearNow) 49 = .ok (.imul, 1) := by decide +kernel
theorem d11_yearNow_50 : decode (mm_cc M11_yearNow) 50 = .ok (.iconst 2, 1) := by decide +kernel
theorem d11_yearNow_51 : decode (mm_cc M11_yearNow) 51 = .ok (.iadd, 1) := by decide +kernel
theorem d11_yearNow_52 : decode (mm_cc M11_yearNow) 52 = .ok (.iaload, 1) := by decide +kernel
theorem d11_yearNow_53 : decode (mm_cc M11_yearNow) 53 = .ok (.aload_n 0, 1) := by decide +kernel
theorem d11_yearNow_54 : decode (mm_cc M11_yearNow) 54 = .ok (.getfield 45, 3) := by decide +kernel
theorem d11_yearNow_57 : decode (mm_cc M11_yearNow) 57 = .ok (.bipush 6, 2) := by decide +kernel
theorem d11_yearNow_59 : decode (mm_cc M11_yearNow) 59 = .ok (.iload_n 2, 1) := by decide +kernel
theorem d11_yearNow_60 : decode (mm_cc M11_yearNow) 60 = .ok (.imul, 1) := by decide +kernel
theorem d11_yearNow_61 : decode (mm_cc M11_yearNow) 61 = .ok (.iload_n 3, 1) := by decide +kernel
theorem d11_yearNow_62 : decode (mm_cc M11_yearNow) 62 = .ok (.iadd, 1) := by decide +kernel
theorem d11_yearNow_63 : decode (mm_cc M11_yearNow) 63 = .ok (.iaload, 1) := by decide +kernel
theorem d11_yearNow_64 : decode (mm_cc M11_yearNow) 64 = .ok (.imul, 1) := by decide +kernel
theorem d11_yearNow_65 : decode (mm_cc M11_yearNow) 65 = .ok (.bipush 100, 2) := by decide +kernel
theorem d11_yearNow_67 : decode (mm_cc M11_yearNow) 67 = .ok (.idiv, 1) := by decide +kernel
theorem d11_yearNow_68 : decode (mm_cc M11_yearNow) 68 = .ok (.iadd, 1) := by decide +kernel
theorem d11_yearNow_69 : decode (mm_cc M11_yearNow) 69 = .ok (.iastore, 1) := by decide +kernel
theorem d11_yearNow_70 : decode (mm_cc M11_yearNow) 70 = .ok (.iconst 0, 1) := by decide +kernel
theorem d11_yearNow_71 : decode (mm_cc M11_yearNow) 71 = .ok (.istore 4, 2) := by decide +kernel
theorem d11_yearNow_73 : decode (mm_cc M11_yearNow) 73 = .ok (.iload 4, 2) := by decide +kernel
theorem d11_yearNow_75 : decode (mm_cc M11_yearNow) 75 = .ok (.aload_n 0, 1) := by decide +kernel
theorem d11_yearNow_76 : decode (mm_cc M11_yearNow) 76 = .ok (.getfield 133, 3) := by decide +kernel
theorem d11_yearNow_79 : decode (mm_cc M11_yearNow) 79 = .ok (.if_icmp .ge 16, 3) := by decide +kernel
theorem d11_yearNow_82 : decode (mm_cc M11_yearNow) 82 = .ok (.aload_n 0, 1) := by decide +kernel
theorem d11_yearNow_83 : decode (mm_cc M11_yearNow) 83 = .ok (.iload_n 2, 1) := by decide +kernel
theorem d11_yearNow_84 : decode (mm_cc M11_yearNow) 84 = .ok (.iload 4, 2) := by decide +kernel
theorem d11_yearNow_86 : decode (mm_cc M11_yearNow) 86 = .ok (.invokevirtual 321, 3) := by decide +kernel
theorem d11_yearNow_89 : decode (mm_cc M11_yearNow) 89 = .ok (.iinc 4 1, 3) := by decide +kernel
theorem d11_yearNow_92 : decode (mm_cc M11_yearNow) 92 = .ok (.goto (-19), 3) := by decide +kernel
theorem d11_yearNow_95 : decode (mm_cc M11_yearNow) 95 = .ok (.aload_n 0, 1) := by decide +kernel
theorem d11_yearNow_96 : decode (mm_cc M11_yearNow) 96 = .ok (.getfield 38, 3) := by decide +kernel
theorem d11_yearNow_99 : decode (mm_cc M11_yearNow) 99 = .ok (.iload_n 2, 1) := by decide +kernel
theorem d11_yearNow_100 : decode (mm_cc M11_yearNow) 100 = .ok (.dup2, 1) := by decide +kernel
theorem d11_yearNow_101 : decode (mm_cc M11_yearNow) 101 = .ok (.iaload, 1) := by decide +kernel
theorem d11_yearNow_102 : decode (mm_cc M11_yearNow) 102 = .ok (.iconst 1, 1) := by decide +kernel
theorem d11_yearNow_103 : decode (mm_cc M11_yearNow) 103 = .ok (.iadd, 1) := by decide +kernel
theorem d11_yearNow_104 : decode (mm_cc M11_yearNow) 104 = .ok (.iastore, 1) := by decide +kernel
theorem d11_yearNow_105 : decode (mm_cc M11_yearNow) 105 = .ok (.aload_n 0, 1) := by decide +kernel
theorem d11_yearNow_106 : decode (mm_cc M11_yearNow) 106 = .ok (.getfield 38, 3) := by decide +kernel
theorem d11_yearNow_109 : decode (mm_cc M11_yearNow) 109 = .ok (.iload_n 2, 1) := by decide +kernel
theorem d11_yearNow_110 : decode (mm_cc M11_yearNow) 110 = .ok (.iaload, 1) := by decide +kernel
theorem d11_yearNow_111 : decode (mm_cc M11_yearNow) 111 = .ok (.aload_n 0, 1) := by decide +kernel
theorem d11_yearNow_112 : decode (mm_cc M11_yearNow) 112 = .ok (.getfield 35, 3) := by decide +kernel
theorem d11_yearNow_115 : decode (mm_cc M11_yearNow) 115 = .ok (.if_icmp .lt 14, 3) := by decide +kernel
theorem d11_yearNow_118 : decode (mm_cc M11_yearNow) 118 = .ok (.aload_n 0, 1) := by decide +kernel
theorem d11_yearNow_119 : decode (mm_cc M11_yearNow) 119 = .ok (.iload_n 2, 1) := by decide +kernel
theorem d11_yearNow_120 : decode (mm_cc M11_yearNow) 120 = .ok (.invokevirtual 324, 3) := by decide +kernel
theorem d11_yearNow_123 : decode (mm_cc M11_yearNow) 123 = .ok (.iload_n 1, 1) := by decide +kernel
theorem d11_yearNow_124 : decode (mm_cc M11_yearNow) 124 = .ok (.iconst 1, 1) := by decide +kernel
theorem d11_yearNow_125 : decode (mm_cc M11_yearNow) 125 = .ok (.iload_n 2, 1) := by decide +kernel
theorem d11_yearNow_126 : decode (mm_cc M11_yearNow) 126 = .ok (.ishl, 1) := by decide +kernel
theorem d11_yearNow_127 : decode (mm_cc M11_yearNow) 127 = .ok (.ior, 1) := by decide +kernel
theorem d11_yearNow_128 : decode (mm_cc M11_yearNow) 128 = .ok (.istore_n 1, 1) := by decide +kernel
theorem d11_yearNow_129 : decode (mm_cc M11_yearNow) 129 = .ok (.aload_n 0, 1) := by decide +kernel
theorem d11_yearNow_130 : decode (mm_cc M11_yearNow) 130 = .ok (.getfield 51, 3) := by decide +kernel
theorem d11_yearNow_133 : decode (mm_cc M11_yearNow) 133 = .ok (.iload_n 2, 1) := by decide +kernel
theorem d11_yearNow_134 : decode (mm_cc M11_yearNow) 134 = .ok (.aload_n 0, 1) := by decide +kernel
theorem d11_yearNow_135 : decode (mm_cc M11_yearNow) 135 = .ok (.getfield 51, 3) := by decide +kernel
theorem d11_yearNow_138 : decode (mm_cc M11_yearNow) 138 = .ok (.iload_n 2, 1) := by decide +kernel
theorem d11_yearNow_139 : decode (mm_cc M11_yearNow) 139 = .ok (.iaload, 1) := by decide +kernel
theorem d11_yearNow_140 : decode (mm_cc M11_yearNow) 140 = .ok (.ifCond .lt 26, 3) := by decide +kernel
theorem d11_yearNow_143 : decode (mm_cc M11_yearNow) 143 = .ok (.aload_n 0, 1) := by decide +kernel
theorem d11_yearNow_144 : decode (mm_cc M11_yearNow) 144 = .ok (.iload_n 2, 1) := by decide +kernel
theorem d11_yearNow_145 : decode (mm_cc M11_yearNow) 145 = .ok (.aload_n 0, 1) := by decide +kernel
theorem d11_yearNow_146 : decode (mm_cc M11_yearNow) 146 = .ok (.getfield 51, 3) := by decide +kernel
theorem d11_yearNow_149 : decode (mm_cc M11_yearNow) 149 = .ok (.iload_n 2, 1) := by decide +kernel
theorem d11_yearNow_150 : decode (mm_cc M11_yearNow) 150 = .ok (.iaload, 1) := by decide +kernel
theorem d11_yearNow_151 : decode (mm_cc M11_yearNow) 151 = .ok (.invokevirtual 143, 3) := by decide +kernel
theorem d11_yearNow_154 : decode (mm_cc M11_yearNow) 154 = .ok (.ifCond .eq 12, 3) := by decide +kernel
theorem d11_yearNow_157 : decode (mm_cc M11_yearNow) 157 = .ok (.aload_n 0, 1) := by decide +kernel
theorem d11_yearNow_158 : decode (mm_cc M11_yearNow) 158 = .ok (.getfield 51, 3) := by decide +kernel
theorem d11_yearNow_161 : decode (mm_cc M11_yearNow) 161 = .ok (.iload_n 2, 1) := by decide +kernel
theorem d11_yearNow_162 : decode (mm_cc M11_yearNow) 162 = .ok (.iaload, 1) := by decide +kernel
theorem d11_yearNow_163 : decode (mm_cc M11_yearNow) 163 = .ok (.goto 8, 3) := by decide +kernel
theorem d11_yearNow_166 : decode (mm_cc M11_yearNow) 166 = .ok (.aload_n 0, 1) := by decide +kernel
theorem d11_yearNow_167 : decode (mm_cc M11_yearNow) 167 = .ok (.iload_n 2, 1) := by decide +kernel
theorem d11_yearNow_168 : decode (mm_cc M11_yearNow) 168 = .ok (.invokevirtual 150, 3) := by decide +kernel
theorem d11_yearNow_171 : decode (mm_cc M11_yearNow) 171 = .ok (.iastore, 1) := by decide +kernel
theorem d11_yearNow_172 : decode (mm_cc M11_yearNow) 172 = .ok (.iinc 2 1, 3) := by decide +kernel
theorem d11_yearNow_175 : decode (mm_cc M11_yearNow) 175 = .ok (.goto (-171), 3) := by decide +kernel
theorem d11_yearNow_178 : decode (mm_cc M11_yearNow) 178 = .ok (.aload_n 0, 1) := by decide +kernel
theorem d11_yearNow_179 : decode (mm_cc M11_yearNow) 179 = .ok (.dup, 1) := by decide +kernel
theorem d11_yearNow_180 : decode (mm_cc M11_yearNow) 180 = .ok (.getfield 147, 3) := by decide +kernel
theorem d11_yearNow_183 : decode (mm_cc M11_yearNow) 183 = .ok (.iconst 1, 1) := by decide +kernel
theorem d11_yearNow_184 : decode (mm_cc M11_yearNow) 184 = .ok (.iadd, 1) := by decide +kernel
theorem d11_yearNow_185 : decode (mm_cc M11_yearNow) 185 = .ok (.putfield 147, 3) := by decide +kernel
theorem d11_yearNow_188 : decode (mm_cc M11_yearNow) 188 = .ok (.iconst 0, 1) := by decide +kernel
theorem d11_yearNow_189 : decode (mm_cc M11_yearNow) 189 = .ok (.istore_n 2, 1) := by decide +kernel
theorem d11_yearNow_190 : decode (mm_cc M11_yearNow) 190 = .ok (.iload_n 2, 1) := by decide +kernel
theorem d11_yearNow_191 : decode (mm_cc M11_yearNow) 191 = .ok (.aload_n 0, 1) := by decide +kernel
theorem d11_yearNow_192 : decode (mm_cc M11_yearNow) 192 = .ok (.getfield 140, 3) := by decide +kernel
theorem d11_yearNow_195 : decode (mm_cc M11_yearNow) 195 = .ok (.if_icmp .ge 23, 3) := by decide +kernel
theorem d11_yearNow_198 : decode (mm_cc M11_yearNow) 198 = .ok (.aload_n 0, 1) := by decide +kernel
theorem d11_yearNow_199 : decode (mm_cc M11_yearNow) 199 = .ok (.getfield 66, 3) := by decide +kernel
theorem d11_yearNow_202 : decode (mm_cc M11_yearNow) 202 = .ok (.iload_n 2, 1) := by decide +kernel
theorem d11_yearNow_203 : decode (mm_cc M11_yearNow) 203 = .ok (.iconst 0, 1) := by decide +kernel
theorem d11_yearNow_204 : decode (mm_cc M11_yearNow) 204 = .ok (.bastore, 1) := by decide +kernel
theorem d11_yearNow_205 : decode (mm_cc M11_yearNow) 205 = .ok (.aload_n 0, 1) := by decide +kernel
theorem d11_yearNow_206 : decode (mm_cc M11_yearNow) 206 = .ok (.getfield 69, 3) := by decide +kernel
theorem d11_yearNow_209 : decode (mm_cc M11_yearNow) 209 = .ok (.iload_n 2, 1) := by decide +kernel
theorem d11_yearNow_210 : decode (mm_cc M11_yearNow) 210 = .ok (.iconst 0, 1) := by decide +kernel
theorem d11_yearNow_211 : decode (mm_cc M11_yearNow) 211 = .ok (.bastore, 1) := by decide +kernel
theorem d11_yearNow_212 : decode (mm_cc M11_yearNow) 212 = .ok (.iinc 2 1, 3) := by decide +kernel
theorem d11_yearNow_215 : decode (mm_cc M11_yearNow) 215 = .ok (.goto (-25), 3) := by decide +kernel
theorem d11_yearNow_218 : decode (mm_cc M11_yearNow) 218 = .ok (.iload_n 1, 1) := by decide +kernel
theorem d11_yearNow_219 : decode (mm_cc M11_yearNow) 219 = .ok (.ireturn, 1) := by decide +kernel
theorem d2_bearChildren_0 : decode (mm_cc M2_bearChildren) 0 = .ok (.iconst 0, 1) := by decide +kernel
theorem d2_bearChildren_1 : decode (mm_cc M2_bearChildren) 1 = .ok (.istore_n 2, 1) := by decide +kernel
theorem d2_bearChildren_2 : decode (mm_cc M2_bearChildren) 2 = .ok (.iload_n 2, 1) := by decide +kernel
theorem d2_bearChildren_3 : decode (mm_cc M2_bearChildren) 3 = .ok (.aload_n 0, 1) := by decide +kernel
theorem d2_bearChildren_4 : decode (mm_cc M2_bearChildren) 4 = .ok (.getfield 9, 3) := by decide +kernel
theorem d2_bearChildren_7 : decode (mm_cc M2_bearChildren) 7 = .ok (.getfield 110, 3) := by decide +kernel
theorem d2_bearChildren_10 : decode (mm_cc M2_bearChildren) 10 = .ok (.if_icmp .ge 22, 3) := by decide +kernel
theorem d2_bearChildren_13 : decode (mm_cc M2_bearChildren) 13 = .ok (.iload_n 1, 1) := by decide +kernel
theorem d2_bearChildren_14 : decode (mm_cc M2_bearChildren) 14 = .ok (.iload_n 2, 1) := by decide +kernel
theorem d2_bearChildren_15 : decode (mm_cc M2_bearChildren) 15 = .ok (.invokestatic 113, 3) := by decide +kernel
theorem d2_bearChildren_18 : decode (mm_cc M2_bearChildren) 18 = .ok (.ifCond .eq 8, 3) := by decide +kernel
theorem d2_bearChildren_21 : decode (mm_cc M2_bearChildren) 21 = .ok (.aload_n 0, 1) := by decide +kernel
theorem d2_bearChildren_22 : decode (mm_cc M2_bearChildren) 22 = .ok (.iload_n 2, 1) := by decide +kernel
theorem d2_bearChildren_23 : decode (mm_cc M2_bearChildren) 23 = .ok (.invokevirtual 217, 3) := by decide +kernel
theorem d2_bearChildren_26 : decode (mm_cc M2_bearChildren) 26 = .ok (.iinc 2 1, 3) := by decide +kernel
theorem d2_bearChildren_29 : decode (mm_cc M2_bearChildren) 29 = .ok (.goto (-27), 3) := by decide +kernel
theorem d2_bearChildren_32 : decode (mm_cc M2_bearChildren) 32 = .ok (.return_, 1) := by decide +kernel
theorem d2_beginChange_0 : decode (mm_cc M2_beginChange) 0 = .ok (.aload_n 0, 1) := by decide +kernel
theorem d2_beginChange_1 : decode (mm_cc M2_beginChange) 1 = .ok (.iload_n 1, 1) := by decide +kernel
theorem d2_beginChange_2 : decode (mm_cc M2_beginChange) 2 = .ok (.iload_n 2, 1) := by decide +kernel
theorem d2_beginChange_3 : decode (mm_cc M2_beginChange) 3 = .ok (.invokevirtual 56, 3) := by decide +kernel
theorem d2_beginChange_6 : decode (mm_cc M2_beginChange) 6 = .ok (.ifCond .ne 6, 3) := by decide +kernel
theorem d2_beginChange_9 : decode (mm_cc M2_beginChange) 9 = .ok (.ldc 59, 2) := by decide +kernel
theorem d2_beginChange_11 : decode (mm_cc M2_beginChange) 11 = .ok (.ireturn, 1) := by decide +kernel
theorem d2_beginChange_12 : decode (mm_cc M2_beginChange) 12 = .ok (.iload_n 3, 1) := by decide +kernel
theorem d2_beginChange_13 : decode (mm_cc M2_beginChange) 13 = .ok (.iconst (-1), 1) := by decide +kernel
theorem d2_beginChange_14 : decode (mm_cc M2_beginChange) 14 = .ok (.if_icmp .ne 28, 3) := by decide +kernel
theorem d2_beginChange_17 : decode (mm_cc M2_beginChange) 17 = .ok (.iload 4, 2) := by decide +kernel
theorem d2_beginChange_19 : decode (mm_cc M2_beginChange) 19 = .ok (.iconst (-1), 1) := by decide +kernel
theorem d2_beginChange_20 : decode (mm_cc M2_beginChange) 20 = .ok (.if_icmp .ne 11, 3) := by decide +kernel
theorem d2_beginChange_23 : decode (mm_cc M2_beginChange) 23 = .ok (.aload_n 0, 1) := by decide +kernel
theorem d2_beginChange_24 : decode (mm_cc M2_beginChange) 24 = .ok (.iload_n 1, 1) := by decide +kernel
theorem d2_beginChange_25 : decode (mm_cc M2_beginChange) 25 = .ok (.invokevirtual 60, 3) := by decide +kernel
theorem d2_beginChange_28 : decode (mm_cc M2_beginChange) 28 = .ok (.ifCond .ne 6, 3) := by decide +kernel
theorem d2_beginChange_31 : decode (mm_cc M2_beginChange) 31 = .ok (.ldc 59, 2) := by decide +kernel
theorem d2_beginChange_33 : decode (mm_cc M2_beginChange) 33 = .ok (.ireturn, 1) := by decide +kernel
theorem d2_beginChange_34 : decode (mm_cc M2_beginChange) 34 = .ok (.aload_n 0, 1) := by decide +kernel
theorem d2_beginChange_35 : decode (mm_cc M2_beginChange) 35 = .ok (.iload_n 1, 1) := by decide +kernel
theorem d2_beginChange_36 : decode (mm_cc M2_beginChange) 36 = .ok (.iload_n 2, 1) := by decide +kernel
theorem d2_beginChange_37 : decode (mm_cc M2_beginChange) 37 = .ok (.invokevirtual 64, 3) := by decide +kernel
theorem d2_beginChange_40 : decode (mm_cc M2_beginChange) 40 = .ok (.iconst 0, 1) := by decide +kernel
theorem d2_beginChange_41 : decode (mm_cc M2_beginChange) 41 = .ok (.ireturn, 1) := by decide +kernel
theorem d2_beginChange_42 : decode (mm_cc M2_beginChange) 42 = .ok (.iload 4, 2) := by decide +kernel
theorem d2_beginChange_44 : decode (mm_cc M2_beginChange) 44 = .ok (.iconst (-1), 1) := by decide +kernel
theorem d2_beginChange_45 : decode (mm_cc M2_beginChange) 45 = .ok (.if_icmp .ne 13, 3) := by decide +kernel
theorem d2_beginChange_48 : decode (mm_cc M2_beginChange) 48 = .ok (.aload_n 0, 1) := by decide +kernel
theorem d2_beginChange_49 : decode (mm_cc M2_beginChange) 49 = .ok (.iload_n 1, 1) := by decide +kernel
theorem d2_beginChange_50 : decode (mm_cc M2_beginChange) 50 = .ok (.iload_n 2, 1) := by decide +kernel
theorem d2_beginChange_51 : decode (mm_cc M2_beginChange) 51 = .ok (.iload_n 3, 1) := by decide +kernel
theorem d2_beginChange_52 : decode (mm_cc M2_beginChange) 52 = .ok (.invokevirtual 68, 3) := by decide +kernel
theorem d2_beginChange_55 : decode (mm_cc M2_beginChange) 55 = .ok (.goto 10, 3) := by decide +kernel
theorem d2_beginChange_58 : decode (mm_cc M2_beginChange) 58 = .ok (.aload_n 0, 1) := by decide +kernel
theorem d2_beginChange_59 : decode (mm_cc M2_beginChange) 59 = .ok (.iload 4, 2) := by decide +kernel
theorem d2_beginChange_61 : decode (mm_cc M2_beginChange) 61 = .ok (.iload_n 3, 1) := by decide +kernel
theorem d2_beginChange_62 : decode (mm_cc M2_beginChange) 62 = .ok (.invokevirtual 72, 3) := by decide +kernel
theorem d2_beginChange_65 : decode (mm_cc M2_beginChange) 65 = .ok (.istore 5, 2) := by decide +kernel
theorem d2_beginChange_67 : decode (mm_cc M2_beginChange) 67 = .ok (.iload 5, 2) := by decide +kernel
theorem d2_beginChange_69 : decode (mm_cc M2_beginChange) 69 = .ok (.ifCond .eq 13, 3) := by decide +kernel
theorem d2_beginChange_72 : decode (mm_cc M2_beginChange) 72 = .ok (.aload_n 0, 1) := by decide +kernel
theorem d2_beginChange_73 : decode (mm_cc M2_beginChange) 73 = .ok (.iload_n 1, 1) := by decide +kernel
theorem d2_beginChange_74 : decode (mm_cc M2_beginChange) 74 = .ok (.iload 4, 2) := by decide +kernel
theorem d2_beginChange_76 : decode (mm_cc M2_beginChange) 76 = .ok (.invokevirtual 75, 3) := by decide +kernel
theorem d2_beginChange_79 : decode (mm_cc M2_beginChange) 79 = .ok (.goto 5, 3) := by decide +kernel
theorem d2_beginChange_82 : decode (mm_cc M2_beginChange) 82 = .ok (.ldc 59, 2) := by decide +kernel
theorem d2_beginChange_84 : decode (mm_cc M2_beginChange) 84 = .ok (.istore 6, 2) := by decide +kernel
theorem d2_beginChange_86 : decode (mm_cc M2_beginChange) 86 = .ok (.iload 6, 2) := by decide +kernel
theorem d2_beginChange_88 : decode (mm_cc M2_beginChange) 88 = .ok (.ldc 59, 2) := by decide +kernel
theorem d2_beginChange_90 : decode (mm_cc M2_beginChange) 90 = .ok (.if_icmp .ne 6, 3) := by decide +kernel
theorem d2_beginChange_93 : decode (mm_cc M2_beginChange) 93 = .ok (.ldc 59, 2) := by decide +kernel
theorem d2_beginChange_95 : decode (mm_cc M2_beginChange) 95 = .ok (.ireturn, 1) := by decide +kernel
theorem d2_beginChange_96 : decode (mm_cc M2_beginChange) 96 = .ok (.aload_n 0, 1) := by decide +kernel
theorem d2_beginChange_97 : decode (mm_cc M2_beginChange) 97 = .ok (.getfield 19, 3) := by decide +kernel
theorem d2_beginChange_100 : decode (mm_cc M2_beginChange) 100 = .ok (.dup, 1) := by decide +kernel
theorem d2_beginChange_101 : decode (mm_cc M2_beginChange) 101 = .ok (.getfield 78, 3) := by decide +kernel
theorem d2_beginChange_104 : decode (mm_cc M2_beginChange) 104 = .ok (.iload 6, 2) := by decide +kernel
theorem d2_beginChange_106 : decode (mm_cc M2_beginChange) 106 = .ok (.ior, 1) := by decide +kernel
theorem d2_beginChange_107 : decode (mm_cc M2_beginChange) 107 = .ok (.putfield 78, 3) := by decide +kernel
theorem d2_beginChange_110 : decode (mm_cc M2_beginChange) 110 = .ok (.aload_n 0, 1) := by decide +kernel
theorem d2_beginChange_111 : decode (mm_cc M2_beginChange) 111 = .ok (.getfield 19, 3) := by decide +kernel
theorem d2_beginChange_114 : decode (mm_cc M2_beginChange) 114 = .ok (.getfield 81, 3) := by decide +kernel
theorem d2_beginChange_117 : decode (mm_cc M2_beginChange) 117 = .ok (.iload 4, 2) := by decide +kernel
theorem d2_beginChange_119 : decode (mm_cc M2_beginChange) 119 = .ok (.iconst (-1), 1) := by decide +kernel
theorem d2_beginChange_120 : decode (mm_cc M2_beginChange) 120 = .ok (.if_icmp .ne 7, 3) := by decide +kernel
theorem d2_beginChange_123 : decode (mm_cc M2_beginChange) 123 = .ok (.iload_n 1, 1) := by decide +kernel
theorem d2_beginChange_124 : decode (mm_cc M2_beginChange) 124 = .ok (.goto 5, 3) := by decide +kernel
theorem d2_beginChange_127 : decode (mm_cc M2_beginChange) 127 = .ok (.iload 4, 2) := by decide +kernel
theorem d2_beginChange_129 : decode (mm_cc M2_beginChange) 129 = .ok (.iload_n 3, 1) := by decide +kernel
theorem d2_beginChange_130 : decode (mm_cc M2_beginChange) 130 = .ok (.invokevirtual 85, 3) := by decide +kernel
theorem d2_beginChange_133 : decode (mm_cc M2_beginChange) 133 = .ok (.aload_n 0, 1) := by decide +kernel
theorem d2_beginChange_134 : decode (mm_cc M2_beginChange) 134 = .ok (.iload_n 1, 1) := by decide +kernel
theorem d2_beginChange_135 : decode (mm_cc M2_beginChange) 135 = .ok (.iload_n 2, 1) := by decide +kernel
theorem d2_beginChange_136 : decode (mm_cc M2_beginChange) 136 = .ok (.invokevirtual 64, 3) := by decide +kernel
theorem d2_beginChange_139 : decode (mm_cc M2_beginChange) 139 = .ok (.iload 6, 2) := by decide +kernel
theorem d2_beginChange_141 : decode (mm_cc M2_beginChange) 141 = .ok (.ireturn, 1) := by decide +kernel
theorem d2_deadTrades_0 : decode (mm_cc M2_deadTrades) 0 = .ok (.iconst 0, 1) := by decide +kernel
theorem d2_deadTrades_1 : decode (mm_cc M2_deadTrades) 1 = .ok (.istore_n 1, 1) := by decide +kernel
theorem d2_deadTrades_2 : decode (mm_cc M2_deadTrades) 2 = .ok (.iconst 0, 1) := by decide +kernel
theorem d2_deadTrades_3 : decode (mm_cc M2_deadTrades) 3 = .ok (.istore_n 2, 1) := by decide +kernel
theorem d2_deadTrades_4 : decode (mm_cc M2_deadTrades) 4 = .ok (.iload_n 2, 1) := by decide +kernel
theorem d2_deadTrades_5 : decode (mm_cc M2_deadTrades) 5 = .ok (.aload_n 0, 1) := by decide +kernel
theorem d2_deadTrades_6 : decode (mm_cc M2_deadTrades) 6 = .ok (.getfield 9, 3) := by decide +kernel
theorem d2_deadTrades_9 : decode (mm_cc M2_deadTrades) 9 = .ok (.getfield 23, 3) := by decide +kernel
theorem d2_deadTrades_12 : decode (mm_cc M2_deadTrades) 12 = .ok (.if_icmp .ge 27, 3) := by decide +kernel
theorem d2_deadTrades_15 : decode (mm_cc M2_deadTrades) 15 = .ok (.aload_n 0, 1) := by decide +kernel
theorem d2_deadTrades_16 : decode (mm_cc M2_deadTrades) 16 = .ok (.getfield 19, 3) := by decide +kernel
theorem d2_deadTrades_19 : decode (mm_cc M2_deadTrades) 19 = .ok (.iload_n 2, 1) := by decide +kernel
theorem d2_deadTrades_20 : decode (mm_cc M2_deadTrades) 20 = .ok (.iconst 1, 1) := by decide +kernel
theorem d2_deadTrades_21 : decode (mm_cc M2_deadTrades) 21 = .ok (.invokevirtual 29, 3) := by decide +kernel
theorem d2_deadTrades_24 : decode (mm_cc M2_deadTrades) 24 = .ok (.ifCond .ne 9, 3) := by decide +kernel
theorem d2_deadTrades_27 : decode (mm_cc M2_deadTrades) 27 = .ok (.iload_n 1, 1) := by decide +kernel
theorem d2_deadTrades_28 : decode (mm_cc M2_deadTrades) 28 = .ok (.iconst 1, 1) := by decide +kernel
theorem d2_deadTrades_29 : decode (mm_cc M2_deadTrades) 29 = .ok (.iload_n 2, 1) := by decide +kernel
theorem d2_deadTrades_30 : decode (mm_cc M2_deadTrades) 30 = .ok (.ishl, 1) := by decide +kernel
theorem d2_deadTrades_31 : decode (mm_cc M2_deadTrades) 31 = .ok (.ior, 1) := by decide +kernel
theorem d2_deadTrades_32 : decode (mm_cc M2_deadTrades) 32 = .ok (.istore_n 1, 1) := by decide +kernel
theorem d2_deadTrades_33 : decode (mm_cc M2_deadTrades) 33 = .ok (.iinc 2 1, 3) := by decide +kernel
theorem d2_deadTrades_36 : decode (mm_cc M2_deadTrades) 36 = .ok (.goto (-32), 3) := by decide +kernel
theorem d2_deadTrades_39 : decode (mm_cc M2_deadTrades) 39 = .ok (.iload_n 1, 1) := by decide +kernel
theorem d2_deadTrades_40 : decode (mm_cc M2_deadTrades) 40 = .ok (.ireturn, 1) := by decide +kernel
theorem d2_leaveAside_0 : decode (mm_cc M2_leaveAside) 0 = .ok (.aload_n 0, 1) := by decide +kernel
theorem d2_leaveAside_1 : decode (mm_cc M2_leaveAside) 1 = .ok (.getfield 19, 3) := by decide +kernel
theorem d2_leaveAside_4 : decode (mm_cc M2_leaveAside) 4 = .ok (.iload_n 1, 1) := by decide +kernel
theorem d2_leaveAside_5 : decode (mm_cc M2_leaveAside) 5 = .ok (.iload_n 2, 1) := by decide +kernel
theorem d2_leaveAside_6 : decode (mm_cc M2_leaveAside) 6 = .ok (.invokevirtual 49, 3) := by decide +kernel
theorem d2_leaveAside_9 : decode (mm_cc M2_leaveAside) 9 = .ok (.ifCond .ne 33, 3) := by decide +kernel
theorem d2_leaveAside_12 : decode (mm_cc M2_leaveAside) 12 = .ok (.aload_n 0, 1) := by decide +kernel
theorem d2_leaveAside_13 : decode (mm_cc M2_leaveAside) 13 = .ok (.iload_n 1, 1) := by decide +kernel
theorem d2_leaveAside_14 : decode (mm_cc M2_leaveAside) 14 = .ok (.iload_n 2, 1) := by decide +kernel
theorem d2_leaveAside_15 : decode (mm_cc M2_leaveAside) 15 = .ok (.invokevirtual 195, 3) := by decide +kernel
theorem d2_leaveAside_18 : decode (mm_cc M2_leaveAside) 18 = .ok (.ifCond .eq 69, 3) := by decide +kernel
theorem d2_leaveAside_21 : decode (mm_cc M2_leaveAside) 21 = .ok (.aload_n 0, 1) := by decide +kernel
theorem d2_leaveAside_22 : decode (mm_cc M2_leaveAside) 22 = .ok (.iload_n 1, 1) := by decide +kernel
theorem d2_leaveAside_23 : decode (mm_cc M2_leaveAside) 23 = .ok (.invokevirtual 60, 3) := by decide +kernel
theorem d2_leaveAside_26 : decode (mm_cc M2_leaveAside) 26 = .ok (.ifCond .eq 61, 3) := by decide +kernel
theorem d2_leaveAside_29 : decode (mm_cc M2_leaveAside) 29 = .ok (.aload_n 0, 1) := by decide +kernel
theorem d2_leaveAside_30 : decode (mm_cc M2_leaveAside) 30 = .ok (.getfield 19, 3) := by decide +kernel
theorem d2_leaveAside_33 : decode (mm_cc M2_leaveAside) 33 = .ok (.iload_n 1, 1) := by decide +kernel
theorem d2_leaveAside_34 : decode (mm_cc M2_leaveAside) 34 = .ok (.iload_n 2, 1) := by decide +kernel
theorem d2_leaveAside_35 : decode (mm_cc M2_leaveAside) 35 = .ok (.iconst 1, 1) := by decide +kernel
theorem d2_leaveAside_36 : decode (mm_cc M2_leaveAside) 36 = .ok (.invokevirtual 127, 3) := by decide +kernel
theorem d2_leaveAside_39 : decode (mm_cc M2_leaveAside) 39 = .ok (.goto 48, 3) := by decide +kernel
theorem d2_leaveAside_42 : decode (mm_cc M2_leaveAside) 42 = .ok (.aload_n 0, 1) := by decide +kernel
theorem d2_leaveAside_43 : decode (mm_cc M2_leaveAside) 43 = .ok (.getfield 19, 3) := by decide +kernel
theorem d2_leaveAside_46 : decode (mm_cc M2_leaveAside) 46 = .ok (.getfield 147, 3) := by decide +kernel
theorem d2_leaveAside_49 : decode (mm_cc M2_leaveAside) 49 = .ok (.iload_n 1, 1) := by decide +kernel
theorem d2_leaveAside_50 : decode (mm_cc M2_leaveAside) 50 = .ok (.invokevirtual 96, 3) := by decide +kernel
theorem d2_leaveAside_53 : decode (mm_cc M2_leaveAside) 53 = .ok (.iload_n 2, 1) := by decide +kernel
theorem d2_leaveAside_54 : decode (mm_cc M2_leaveAside) 54 = .ok (.if_icmp .eq 33, 3) := by decide +kernel
theorem d2_leaveAside_57 : decode (mm_cc M2_leaveAside) 57 = .ok (.aload_n 0, 1) := by decide +kernel
theorem d2_leaveAside_58 : decode (mm_cc M2_leaveAside) 58 = .ok (.getfield 19, 3) := by decide +kernel
theorem d2_leaveAside_61 : decode (mm_cc M2_leaveAside) 61 = .ok (.iload_n 1, 1) := by decide +kernel
theorem d2_leaveAside_62 : decode (mm_cc M2_leaveAside) 62 = .ok (.iload_n 2, 1) := by decide +kernel
theorem d2_leaveAside_63 : decode (mm_cc M2_leaveAside) 63 = .ok (.iconst 1, 1) := by decide +kernel
theorem d2_leaveAside_64 : decode (mm_cc M2_leaveAside) 64 = .ok (.aload_n 0, 1) := by decide +kernel
theorem d2_leaveAside_65 : decode (mm_cc M2_leaveAside) 65 = .ok (.getfield 19, 3) := by decide +kernel
theorem d2_leaveAside_68 : decode (mm_cc M2_leaveAside) 68 = .ok (.iload_n 1, 1) := by decide +kernel
theorem d2_leaveAside_69 : decode (mm_cc M2_leaveAside) 69 = .ok (.iload_n 2, 1) := by decide +kernel
theorem d2_leaveAside_70 : decode (mm_cc M2_leaveAside) 70 = .ok (.invokevirtual 119, 3) := by decide +kernel
theorem d2_leaveAside_73 : decode (mm_cc M2_leaveAside) 73 = .ok (.aload_n 0, 1) := by decide +kernel
theorem d2_leaveAside_74 : decode (mm_cc M2_leaveAside) 74 = .ok (.getfield 15, 3) := by decide +kernel
theorem d2_leaveAside_77 : decode (mm_cc M2_leaveAside) 77 = .ok (.getfield 198, 3) := by decide +kernel
theorem d2_leaveAside_80 : decode (mm_cc M2_leaveAside) 80 = .ok (.isub, 1) := by decide +kernel
theorem d2_leaveAside_81 : decode (mm_cc M2_leaveAside) 81 = .ok (.invokestatic 183, 3) := by decide +kernel
theorem d2_leaveAside_84 : decode (mm_cc M2_leaveAside) 84 = .ok (.invokevirtual 127, 3) := by decide +kernel
theorem d2_leaveAside_87 : decode (mm_cc M2_leaveAside) 87 = .ok (.return_, 1) := by decide +kernel
theorem d3_fillCosts_0 : decode (mm_cc M3_fillCosts) 0 = .ok (.iconst 0, 1) := by decide +kernel
theorem d3_fillCosts_1 : decode (mm_cc M3_fillCosts) 1 = .ok (.istore_n 1, 1) := by decide +kernel
theorem d3_fillCosts_2 : decode (mm_cc M3_fillCosts) 2 = .ok (.iload_n 1, 1) := by decide +kernel
theorem d3_fillCosts_3 : decode (mm_cc M3_fillCosts) 3 = .ok (.aload_n 0, 1) := by decide +kernel
theorem d3_fillCosts_4 : decode (mm_cc M3_fillCosts) 4 = .ok (.getfield 33, 3) := by decide +kernel
theorem d3_fillCosts_7 : decode (mm_cc M3_fillCosts) 7 = .ok (.getfield 87, 3) := by decide +kernel
theorem d3_fillCosts_10 : decode (mm_cc M3_fillCosts) 10 = .ok (.if_icmp .ge 46, 3) := by decide +kernel
theorem d3_fillCosts_13 : decode (mm_cc M3_fillCosts) 13 = .ok (.iconst 0, 1) := by decide +kernel
theorem d3_fillCosts_14 : decode (mm_cc M3_fillCosts) 14 = .ok (.istore_n 2, 1) := by decide +kernel
theorem d3_fillCosts_15 : decode (mm_cc M3_fillCosts) 15 = .ok (.iload_n 2, 1) := by decide +kernel
theorem d3_fillCosts_16 : decode (mm_cc M3_fillCosts) 16 = .ok (.aload_n 0, 1) := by decide +kernel
theorem d3_fillCosts_17 : decode (mm_cc M3_fillCosts) 17 = .ok (.getfield 33, 3) := by decide +kernel
theorem d3_fillCosts_20 : decode (mm_cc M3_fillCosts) 20 = .ok (.getfield 78, 3) := by decide +kernel
theorem d3_fillCosts_23 : decode (mm_cc M3_fillCosts) 23 = .ok (.if_icmp .ge 27, 3) := by decide +kernel
theorem d3_fillCosts_26 : decode (mm_cc M3_fillCosts) 26 = .ok (.aload_n 0, 1) := by decide +kernel
theorem d3_fillCosts_27 : decode (mm_cc M3_fillCosts) 27 = .ok (.getfield 20, 3) := by decide +kernel
theorem d3_fillCosts_30 : decode (mm_cc M3_fillCosts) 30 = .ok (.iload_n 1, 1) := by decide +kernel
theorem d3_fillCosts_31 : decode (mm_cc M3_fillCosts) 31 = .ok (.iload_n 2, 1) := by decide +kernel
theorem d3_fillCosts_32 : decode (mm_cc M3_fillCosts) 32 = .ok (.invokestatic 90, 3) := by decide +kernel
theorem d3_fillCosts_35 : decode (mm_cc M3_fillCosts) 35 = .ok (.aload_n 0, 1) := by decide +kernel
theorem d3_fillCosts_36 : decode (mm_cc M3_fillCosts) 36 = .ok (.iload_n 1, 1) := by decide +kernel
theorem d3_fillCosts_37 : decode (mm_cc M3_fillCosts) 37 = .ok (.iload_n 2, 1) := by decide +kernel
theorem d3_fillCosts_38 : decode (mm_cc M3_fillCosts) 38 = .ok (.invokevirtual 94, 3) := by decide +kernel
theorem d3_fillCosts_41 : decode (mm_cc M3_fillCosts) 41 = .ok (.invokevirtual 83, 3) := by decide +kernel
theorem d3_fillCosts_44 : decode (mm_cc M3_fillCosts) 44 = .ok (.iinc 2 1, 3) := by decide +kernel
theorem d3_fillCosts_47 : decode (mm_cc M3_fillCosts) 47 = .ok (.goto (-32), 3) := by decide +kernel
theorem d3_fillCosts_50 : decode (mm_cc M3_fillCosts) 50 = .ok (.iinc 1 1, 3) := by decide +kernel
theorem d3_fillCosts_53 : decode (mm_cc M3_fillCosts) 53 = .ok (.goto (-51), 3) := by decide +kernel
theorem d3_fillCosts_56 : decode (mm_cc M3_fillCosts) 56 = .ok (.return_, 1) := by decide +kernel
theorem d3_fillSums_0 : decode (mm_cc M3_fillSums) 0 = .ok (.iconst 0, 1) := by decide +kernel
theorem d3_fillSums_1 : decode (mm_cc M3_fillSums) 1 = .ok (.istore_n 1, 1) := by decide +kernel
theorem d3_fillSums_2 : decode (mm_cc M3_fillSums) 2 = .ok (.iload_n 1, 1) := by decide +kernel
theorem d3_fillSums_3 : decode (mm_cc M3_fillSums) 3 = .ok (.aload_n 0, 1) := by decide +kernel
theorem d3_fillSums_4 : decode (mm_cc M3_fillSums) 4 = .ok (.getfield 29, 3) := by decide +kernel
theorem d3_fillSums_7 : decode (mm_cc M3_fillSums) 7 = .ok (.if_icmp .ge 40, 3) := by decide +kernel
theorem d3_fillSums_10 : decode (mm_cc M3_fillSums) 10 = .ok (.aload_n 0, 1) := by decide +kernel
theorem d3_fillSums_11 : decode (mm_cc M3_fillSums) 11 = .ok (.getfield 23, 3) := by decide +kernel
theorem d3_fillSums_14 : decode (mm_cc M3_fillSums) 14 = .ok (.aload_n 0, 1) := by decide +kernel
theorem d3_fillSums_15 : decode (mm_cc M3_fillSums) 15 = .ok (.getfield 33, 3) := by decide +kernel
theorem d3_fillSums_18 : decode (mm_cc M3_fillSums) 18 = .ok (.getfield 87, 3) := by decide +kernel
theorem d3_fillSums_21 : decode (mm_cc M3_fillSums) 21 = .ok (.aload_n 0, 1) := by decide +kernel
theorem d3_fillSums_22 : decode (mm_cc M3_fillSums) 22 = .ok (.getfield 29, 3) := by decide +kernel
theorem d3_fillSums_25 : decode (mm_cc M3_fillSums) 25 = .ok (.imul, 1) := by decide +kernel
theorem d3_fillSums_26 : decode (mm_cc M3_fillSums) 26 = .ok (.iload_n 1, 1) := by decide +kernel
theorem d3_fillSums_27 : decode (mm_cc M3_fillSums) 27 = .ok (.iadd, 1) := by decide +kernel
theorem d3_fillSums_28 : decode (mm_cc M3_fillSums) 28 = .ok (.iload_n 1, 1) := by decide +kernel
theorem d3_fillSums_29 : decode (mm_cc M3_fillSums) 29 = .ok (.ifCond .ne 7, 3) := by decide +kernel
theorem d3_fillSums_32 : decode (mm_cc M3_fillSums) 32 = .ok (.iconst 0, 1) := by decide +kernel
theorem d3_fillSums_33 : decode (mm_cc M3_fillSums) 33 = .ok (.goto 5, 3) := by decide +kernel
theorem d3_fillSums_36 : decode (mm_cc M3_fillSums) 36 = .ok (.ldc 74, 2) := by decide +kernel
theorem d3_fillSums_38 : decode (mm_cc M3_fillSums) 38 = .ok (.invokevirtual 83, 3) := by decide +kernel
theorem d3_fillSums_41 : decode (mm_cc M3_fillSums) 41 = .ok (.iinc 1 1, 3) := by decide +kernel
theorem d3_fillSums_44 : decode (mm_cc M3_fillSums) 44 = .ok (.goto (-42), 3) := by decide +kernel
theorem d3_fillSums_47 : decode (mm_cc M3_fillSums) 47 = .ok (.aload_n 0, 1) := by decide +kernel
theorem d3_fillSums_48 : decode (mm_cc M3_fillSums) 48 = .ok (.getfield 33, 3) := by decide +kernel
theorem d3_fillSums_51 : decode (mm_cc M3_fillSums) 51 = .ok (.getfield 87, 3) := by decide +kernel
theorem d3_fillSums_54 : decode (mm_cc M3_fillSums) 54 = .ok (.iconst 1, 1) := by decide +kernel
theorem d3_fillSums_55 : decode (mm_cc M3_fillSums) 55 = .ok (.isub, 1) := by decide +kernel
theorem d3_fillSums_56 : decode (mm_cc M3_fillSums) 56 = .ok (.istore_n 1, 1) := by decide +kernel
theorem d3_fillSums_57 : decode (mm_cc M3_fillSums) 57 = .ok (.iload_n 1, 1) := by decide +kernel
theorem d3_fillSums_58 : decode (mm_cc M3_fillSums) 58 = .ok (.ifCond .lt 83, 3) := by decide +kernel
theorem d3_fillSums_61 : decode (mm_cc M3_fillSums) 61 = .ok (.iconst 0, 1) := by decide +kernel
theorem d3_fillSums_62 : decode (mm_cc M3_fillSums) 62 = .ok (.istore_n 2, 1) := by decide +kernel
theorem d3_fillSums_63 : decode (mm_cc M3_fillSums) 63 = .ok (.iload_n 2, 1) := by decide +kernel
theorem d3_fillSums_64 : decode (mm_cc M3_fillSums) 64 = .ok (.aload_n 0, 1) := by decide +kernel
theorem d3_fillSums_65 : decode (mm_cc M3_fillSums) 65 = .ok (.getfield 29, 3) := by decide +kernel
theorem d3_fillSums_68 : decode (mm_cc M3_fillSums) 68 = .ok (.if_icmp .ge 67, 3) := by decide +kernel
theorem d3_fillSums_71 : decode (mm_cc M3_fillSums) 71 = .ok (.aload_n 0, 1) := by decide +kernel
theorem d3_fillSums_72 : decode (mm_cc M3_fillSums) 72 = .ok (.iload_n 1, 1) := by decide +kernel
theorem d3_fillSums_73 : decode (mm_cc M3_fillSums) 73 = .ok (.iload_n 2, 1) := by decide +kernel
theorem d3_fillSums_74 : decode (mm_cc M3_fillSums) 74 = .ok (.iconst (-1), 1) := by decide +kernel
theorem d3_fillSums_75 : decode (mm_cc M3_fillSums) 75 = .ok (.invokevirtual 117, 3) := by decide +kernel
theorem d3_fillSums_78 : decode (mm_cc M3_fillSums) 78 = .ok (.istore_n 3, 1) := by decide +kernel
theorem d3_fillSums_79 : decode (mm_cc M3_fillSums) 79 = .ok (.iconst 0, 1) := by decide +kernel
theorem d3_fillSums_80 : decode (mm_cc M3_fillSums) 80 = .ok (.istore 4, 2) := by decide +kernel
theorem d3_fillSums_82 : decode (mm_cc M3_fillSums) 82 = .ok (.iload 4, 2) := by decide +kernel
theorem d3_fillSums_84 : decode (mm_cc M3_fillSums) 84 = .ok (.aload_n 0, 1) := by decide +kernel
theorem d3_fillSums_85 : decode (mm_cc M3_fillSums) 85 = .ok (.getfield 33, 3) := by decide +kernel
theorem d3_fillSums_88 : decode (mm_cc M3_fillSums) 88 = .ok (.getfield 78, 3) := by decide +kernel
theorem d3_fillSums_91 : decode (mm_cc M3_fillSums) 91 = .ok (.if_icmp .ge 22, 3) := by decide +kernel
theorem d3_fillSums_94 : decode (mm_cc M3_fillSums) 94 = .ok (.iload_n 3, 1) := by decide +kernel
theorem d3_fillSums_95 : decode (mm_cc M3_fillSums) 95 = .ok (.aload_n 0, 1) := by decide +kernel
theorem d3_fillSums_96 : decode (mm_cc M3_fillSums) 96 = .ok (.iload_n 1, 1) := by decide +kernel
theorem d3_fillSums_97 : decode (mm_cc M3_fillSums) 97 = .ok (.iload_n 2, 1) := by decide +kernel
theorem d3_fillSums_98 : decode (mm_cc M3_fillSums) 98 = .ok (.iload 4, 2) := by decide +kernel
theorem d3_fillSums_100 : decode (mm_cc M3_fillSums) 100 = .ok (.invokevirtual 117, 3) := by decide +kernel
theorem d3_fillSums_103 : decode (mm_cc M3_fillSums) 103 = .ok (.invokestatic 121, 3) := by decide +kernel
theorem d3_fillSums_106 : decode (mm_cc M3_fillSums) 106 = .ok (.istore_n 3, 1) := by decide +kernel
theorem d3_fillSums_107 : decode (mm_cc M3_fillSums) 107 = .ok (.iinc 4 1, 3) := by decide +kernel
theorem d3_fillSums_110 : decode (mm_cc M3_fillSums) 110 = .ok (.goto (-28), 3) := by decide +kernel
theorem d3_fillSums_113 : decode (mm_cc M3_fillSums) 113 = .ok (.aload_n 0, 1) := by decide +kernel
theorem d3_fillSums_114 : decode (mm_cc M3_fillSums) 114 = .ok (.getfield 23, 3) := by decide +kernel
theorem d3_fillSums_117 : decode (mm_cc M3_fillSums) 117 = .ok (.iload_n 1, 1) := by decide +kernel
theorem d3_fillSums_118 : decode (mm_cc M3_fillSums) 118 = .ok (.aload_n 0, 1) := by decide +kernel
theorem d3_fillSums_119 : decode (mm_cc M3_fillSums) 119 = .ok (.getfield 29, 3) := by decide +kernel
theorem d3_fillSums_122 : decode (mm_cc M3_fillSums) 122 = .ok (.imul, 1) := by decide +kernel
theorem d3_fillSums_123 : decode (mm_cc M3_fillSums) 123 = .ok (.iload_n 2, 1) := by decide +kernel
theorem d3_fillSums_124 : decode (mm_cc M3_fillSums) 124 = .ok (.iadd, 1) := by decide +kernel
theorem d3_fillSums_125 : decode (mm_cc M3_fillSums) 125 = .ok (.iload_n 3, 1) := by decide +kernel
theorem d3_fillSums_126 : decode (mm_cc M3_fillSums) 126 = .ok (.invokevirtual 83, 3) := by decide +kernel
theorem d3_fillSums_129 : decode (mm_cc M3_fillSums) 129 = .ok (.iinc 2 1, 3) := by decide +kernel
theorem d3_fillSums_132 : decode (mm_cc M3_fillSums) 132 = .ok (.goto (-69), 3) := by decide +kernel
theorem d3_fillSums_135 : decode (mm_cc M3_fillSums) 135 = .ok (.iinc 1 (-1), 3) := by decide +kernel
theorem d3_fillSums_138 : decode (mm_cc M3_fillSums) 138 = .ok (.goto (-81), 3) := by decide +kernel
theorem d3_fillSums_141 : decode (mm_cc M3_fillSums) 141 = .ok (.return_, 1) := by decide +kernel
theorem d3_giveTrades_0 : decode (mm_cc M3_giveTrades) 0 = .ok (.aload_n 0, 1) := by decide +kernel
theorem d3_giveTrades_1 : decode (mm_cc M3_giveTrades) 1 = .ok (.getfield 29, 3) := by decide +kernel
theorem d3_giveTrades_4 : decode (mm_cc M3_giveTrades) 4 = .ok (.iconst 1, 1) := by decide +kernel
theorem d3_giveTrades_5 : decode (mm_cc M3_giveTrades) 5 = .ok (.isub, 1) := by decide +kernel
theorem d3_giveTrades_6 : decode (mm_cc M3_giveTrades) 6 = .ok (.istore_n 1, 1) := by decide +kernel
theorem d3_giveTrades_7 : decode (mm_cc M3_giveTrades) 7 = .ok (.iconst 0, 1) := by decide +kernel
theorem d3_giveTrades_8 : decode (mm_cc M3_giveTrades) 8 = .ok (.istore_n 2, 1) := by decide +kernel
theorem d3_giveTrades_9 : decode (mm_cc M3_giveTrades) 9 = .ok (.iload_n 2, 1) := by decide +kernel
theorem d3_giveTrades_10 : decode (mm_cc M3_giveTrades) 10 = .ok (.aload_n 0, 1) := by decide +kernel
theorem d3_giveTrades_11 : decode (mm_cc M3_giveTrades) 11 = .ok (.getfield 33, 3) := by decide +kernel
theorem d3_giveTrades_14 : decode (mm_cc M3_giveTrades) 14 = .ok (.getfield 87, 3) := by decide +kernel
theorem d3_giveTrades_17 : decode (mm_cc M3_giveTrades) 17 = .ok (.if_icmp .ge 92, 3) := by decide +kernel
theorem d3_giveTrades_20 : decode (mm_cc M3_giveTrades) 20 = .ok (.aload_n 0, 1) := by decide +kernel
theorem d3_giveTrades_21 : decode (mm_cc M3_giveTrades) 21 = .ok (.getfield 23, 3) := by decide +kernel
theorem d3_giveTrades_24 : decode (mm_cc M3_giveTrades) 24 = .ok (.iload_n 2, 1) := by decide +kernel
theorem d3_giveTrades_25 : decode (mm_cc M3_giveTrades) 25 = .ok (.aload_n 0, 1) := by decide +kernel
theorem d3_giveTrades_26 : decode (mm_cc M3_giveTrades) 26 = .ok (.getfield 29, 3) := by decide +kernel
theorem d3_giveTrades_29 : decode (mm_cc M3_giveTrades) 29 = .ok (.imul, 1) := by decide +kernel
theorem d3_giveTrades_30 : decode (mm_cc M3_giveTrades) 30 = .ok (.iload_n 1, 1) := by decide +kernel
theorem d3_giveTrades_31 : decode (mm_cc M3_giveTrades) 31 = .ok (.iadd, 1) := by decide +kernel
theorem d3_giveTrades_32 : decode (mm_cc M3_giveTrades) 32 = .ok (.invokevirtual 71, 3) := by decide +kernel
theorem d3_giveTrades_35 : decode (mm_cc M3_giveTrades) 35 = .ok (.istore_n 3, 1) := by decide +kernel
theorem d3_giveTrades_36 : decode (mm_cc M3_giveTrades) 36 = .ok (.iconst 0, 1) := by decide +kernel
theorem d3_giveTrades_37 : decode (mm_cc M3_giveTrades) 37 = .ok (.istore 4, 2) := by decide +kernel
theorem d3_giveTrades_39 : decode (mm_cc M3_giveTrades) 39 = .ok (.iload 4, 2) := by decide +kernel
theorem d3_giveTrades_41 : decode (mm_cc M3_giveTrades) 41 = .ok (.aload_n 0, 1) := by decide +kernel
theorem d3_giveTrades_42 : decode (mm_cc M3_giveTrades) 42 = .ok (.getfield 33, 3) := by decide +kernel
theorem d3_giveTrades_45 : decode (mm_cc M3_giveTrades) 45 = .ok (.getfield 78, 3) := by decide +kernel
theorem d3_giveTrades_48 : decode (mm_cc M3_giveTrades) 48 = .ok (.if_icmp .ge 21, 3) := by decide +kernel
theorem d3_giveTrades_51 : decode (mm_cc M3_giveTrades) 51 = .ok (.aload_n 0, 1) := by decide +kernel
theorem d3_giveTrades_52 : decode (mm_cc M3_giveTrades) 52 = .ok (.iload_n 2, 1) := by decide +kernel
theorem d3_giveTrades_53 : decode (mm_cc M3_giveTrades) 53 = .ok (.iload_n 1, 1) := by decide +kernel
theorem d3_giveTrades_54 : decode (mm_cc M3_giveTrades) 54 = .ok (.iload 4, 2) := by decide +kernel
theorem d3_giveTrades_56 : decode (mm_cc M3_giveTrades) 56 = .ok (.invokevirtual 117, 3) := by decide +kernel
theorem d3_giveTrades_59 : decode (mm_cc M3_giveTrades) 59 = .ok (.iload_n 3, 1) := by decide +kernel
theorem d3_giveTrades_60 : decode (mm_cc M3_giveTrades) 60 = .ok (.if_icmp .eq 9, 3) := by decide +kernel
theorem d3_giveTrades_63 : decode (mm_cc M3_giveTrades) 63 = .ok (.iinc 4 1, 3) := by decide +kernel
theorem d3_giveTrades_66 : decode (mm_cc M3_giveTrades) 66 = .ok (.goto (-27), 3) := by decide +kernel
theorem d3_giveTrades_69 : decode (mm_cc M3_giveTrades) 69 = .ok (.iload 4, 2) := by decide +kernel
theorem d3_giveTrades_71 : decode (mm_cc M3_giveTrades) 71 = .ok (.aload_n 0, 1) := by decide +kernel
theorem d3_giveTrades_72 : decode (mm_cc M3_giveTrades) 72 = .ok (.getfield 33, 3) := by decide +kernel
theorem d3_giveTrades_75 : decode (mm_cc M3_giveTrades) 75 = .ok (.getfield 78, 3) := by decide +kernel
theorem d3_giveTrades_78 : decode (mm_cc M3_giveTrades) 78 = .ok (.if_icmp .ge 25, 3) := by decide +kernel
theorem d3_giveTrades_81 : decode (mm_cc M3_giveTrades) 81 = .ok (.aload_n 0, 1) := by decide +kernel
theorem d3_giveTrades_82 : decode (mm_cc M3_giveTrades) 82 = .ok (.getfield 26, 3) := by decide +kernel
theorem d3_giveTrades_85 : decode (mm_cc M3_giveTrades) 85 = .ok (.iload_n 2, 1) := by decide +kernel
theorem d3_giveTrades_86 : decode (mm_cc M3_giveTrades) 86 = .ok (.iload 4, 2) := by decide +kernel
theorem d3_giveTrades_88 : decode (mm_cc M3_giveTrades) 88 = .ok (.invokevirtual 83, 3) := by decide +kernel
theorem d3_giveTrades_91 : decode (mm_cc M3_giveTrades) 91 = .ok (.iload_n 1, 1) := by decide +kernel
theorem d3_giveTrades_92 : decode (mm_cc M3_giveTrades) 92 = .ok (.aload_n 0, 1) := by decide +kernel
theorem d3_giveTrades_93 : decode (mm_cc M3_giveTrades) 93 = .ok (.getfield 14, 3) := by decide +kernel
theorem d3_giveTrades_96 : decode (mm_cc M3_giveTrades) 96 = .ok (.iload 4, 2) := by decide +kernel
theorem d3_giveTrades_98 : decode (mm_cc M3_giveTrades) 98 = .ok (.invokevirtual 71, 3) := by decide +kernel
theorem d3_giveTrades_101 : decode (mm_cc M3_giveTrades) 101 = .ok (.isub, 1) := by decide +kernel
theorem d3_giveTrades_102 : decode (mm_cc M3_giveTrades) 102 = .ok (.istore_n 1, 1) := by decide +kernel
theorem d3_giveTrades_103 : decode (mm_cc M3_giveTrades) 103 = .ok (.iinc 2 1, 3) := by decide +kernel
theorem d3_giveTrades_106 : decode (mm_cc M3_giveTrades) 106 = .ok (.goto (-97), 3) := by decide +kernel
theorem d3_giveTrades_109 : decode (mm_cc M3_giveTrades) 109 = .ok (.return_, 1) := by decide +kernel
theorem d5_fillGains_0 : decode (mm_cc M5_fillGains) 0 = .ok (.iconst 0, 1) := by decide +kernel
theorem d5_fillGains_1 : decode (mm_cc M5_fillGains) 1 = .ok (.istore_n 1, 1) := by decide +kernel
theorem d5_fillGains_2 : decode (mm_cc M5_fillGains) 2 = .ok (.iload_n 1, 1) := by decide +kernel
theorem d5_fillGains_3 : decode (mm_cc M5_fillGains) 3 = .ok (.bipush 8, 2) := by decide +kernel
theorem d5_fillGains_5 : decode (mm_cc M5_fillGains) 5 = .ok (.if_icmp .ge 71, 3) := by decide +kernel
theorem d5_fillGains_8 : decode (mm_cc M5_fillGains) 8 = .ok (.aload_n 0, 1) := by decide +kernel
theorem d5_fillGains_9 : decode (mm_cc M5_fillGains) 9 = .ok (.getfield 36, 3) := by decide +kernel
theorem d5_fillGains_12 : decode (mm_cc M5_fillGains) 12 = .ok (.getfield 62, 3) := by decide +kernel
theorem d5_fillGains_15 : decode (mm_cc M5_fillGains) 15 = .ok (.iload_n 1, 1) := by decide +kernel
theorem d5_fillGains_16 : decode (mm_cc M5_fillGains) 16 = .ok (.invokevirtual 66, 3) := by decide +kernel
theorem d5_fillGains_19 : decode (mm_cc M5_fillGains) 19 = .ok (.ifCond .eq 25, 3) := by decide +kernel
theorem d5_fillGains_22 : decode (mm_cc M5_fillGains) 22 = .ok (.aload_n 0, 1) := by decide +kernel
theorem d5_fillGains_23 : decode (mm_cc M5_fillGains) 23 = .ok (.getfield 36, 3) := by decide +kernel
theorem d5_fillGains_26 : decode (mm_cc M5_fillGains) 26 = .ok (.getfield 62, 3) := by decide +kernel
theorem d5_fillGains_29 : decode (mm_cc M5_fillGains) 29 = .ok (.getfield 72, 3) := by decide +kernel
theorem d5_fillGains_32 : decode (mm_cc M5_fillGains) 32 = .ok (.iload_n 1, 1) := by decide +kernel
theorem d5_fillGains_33 : decode (mm_cc M5_fillGains) 33 = .ok (.invokevirtual 75, 3) := by decide +kernel
theorem d5_fillGains_36 : decode (mm_cc M5_fillGains) 36 = .ok (.iconst (-1), 1) := by decide +kernel
theorem d5_fillGains_37 : decode (mm_cc M5_fillGains) 37 = .ok (.if_icmp .ne 7, 3) := by decide +kernel
theorem d5_fillGains_40 : decode (mm_cc M5_fillGains) 40 = .ok (.iconst 1, 1) := by decide +kernel
theorem d5_fillGains_41 : decode (mm_cc M5_fillGains) 41 = .ok (.goto 4, 3) := by decide +kernel
theorem d5_fillGains_44 : decode (mm_cc M5_fillGains) 44 = .ok (.iconst 0, 1) := by decide +kernel
theorem d5_fillGains_45 : decode (mm_cc M5_fillGains) 45 = .ok (.istore_n 2, 1) := by decide +kernel
theorem d5_fillGains_46 : decode (mm_cc M5_fillGains) 46 = .ok (.aload_n 0, 1) := by decide +kernel
theorem d5_fillGains_47 : decode (mm_cc M5_fillGains) 47 = .ok (.getfield 14, 3) := by decide +kernel
theorem d5_fillGains_50 : decode (mm_cc M5_fillGains) 50 = .ok (.iload_n 1, 1) := by decide +kernel
theorem d5_fillGains_51 : decode (mm_cc M5_fillGains) 51 = .ok (.iload_n 2, 1) := by decide +kernel
theorem d5_fillGains_52 : decode (mm_cc M5_fillGains) 52 = .ok (.ifCond .eq 14, 3) := by decide +kernel
theorem d5_fillGains_55 : decode (mm_cc M5_fillGains) 55 = .ok (.aload_n 0, 1) := by decide +kernel
theorem d5_fillGains_56 : decode (mm_cc M5_fillGains) 56 = .ok (.getfield 36, 3) := by decide +kernel
theorem d5_fillGains_59 : decode (mm_cc M5_fillGains) 59 = .ok (.iload_n 1, 1) := by decide +kernel
theorem d5_fillGains_60 : decode (mm_cc M5_fillGains) 60 = .ok (.invokevirtual 79, 3) := by decide +kernel
theorem d5_fillGains_63 : decode (mm_cc M5_fillGains) 63 = .ok (.goto 4, 3) := by decide +kernel
theorem d5_fillGains_66 : decode (mm_cc M5_fillGains) 66 = .ok (.iconst (-1), 1) := by decide +kernel
theorem d5_fillGains_67 : decode (mm_cc M5_fillGains) 67 = .ok (.invokevirtual 54, 3) := by decide +kernel
theorem d5_fillGains_70 : decode (mm_cc M5_fillGains) 70 = .ok (.iinc 1 1, 3) := by decide +kernel
theorem d5_fillGains_73 : decode (mm_cc M5_fillGains) 73 = .ok (.goto (-71), 3) := by decide +kernel
theorem d5_fillGains_76 : decode (mm_cc M5_fillGains) 76 = .ok (.iconst 0, 1) := by decide +kernel
theorem d5_fillGains_77 : decode (mm_cc M5_fillGains) 77 = .ok (.istore_n 1, 1) := by decide +kernel
theorem d5_fillGains_78 : decode (mm_cc M5_fillGains) 78 = .ok (.iload_n 1, 1) := by decide +kernel
theorem d5_fillGains_79 : decode (mm_cc M5_fillGains) 79 = .ok (.bipush 8, 2) := by decide +kernel
theorem d5_fillGains_81 : decode (mm_cc M5_fillGains) 81 = .ok (.if_icmp .ge 57, 3) := by decide +kernel
theorem d5_fillGains_84 : decode (mm_cc M5_fillGains) 84 = .ok (.iconst 0, 1) := by decide +kernel
theorem d5_fillGains_85 : decode (mm_cc M5_fillGains) 85 = .ok (.istore_n 2, 1) := by decide +kernel
theorem d5_fillGains_86 : decode (mm_cc M5_fillGains) 86 = .ok (.iload_n 2, 1) := by decide +kernel
theorem d5_fillGains_87 : decode (mm_cc M5_fillGains) 87 = .ok (.bipush 8, 2) := by decide +kernel
theorem d5_fillGains_89 : decode (mm_cc M5_fillGains) 89 = .ok (.if_icmp .ge 43, 3) := by decide +kernel
theorem d5_fillGains_92 : decode (mm_cc M5_fillGains) 92 = .ok (.aload_n 0, 1) := by decide +kernel
theorem d5_fillGains_93 : decode (mm_cc M5_fillGains) 93 = .ok (.getfield 20, 3) := by decide +kernel
theorem d5_fillGains_96 : decode (mm_cc M5_fillGains) 96 = .ok (.iload_n 1, 1) := by decide +kernel
theorem d5_fillGains_97 : decode (mm_cc M5_fillGains) 97 = .ok (.bipush 8, 2) := by decide +kernel
theorem d5_fillGains_99 : decode (mm_cc M5_fillGains) 99 = .ok (.imul, 1) := by decide +kernel
theorem d5_fillGains_100 : decode (mm_cc M5_fillGains) 100 = .ok (.iload_n 2, 1) := by decide +kernel
theorem d5_fillGains_101 : decode (mm_cc M5_fillGains) 101 = .ok (.iadd, 1) := by decide +kernel
theorem d5_fillGains_102 : decode (mm_cc M5_fillGains) 102 = .ok (.aload_n 0, 1) := by decide +kernel
theorem d5_fillGains_103 : decode (mm_cc M5_fillGains) 103 = .ok (.iload_n 1, 1) := by decide +kernel
theorem d5_fillGains_104 : decode (mm_cc M5_fillGains) 104 = .ok (.aload_n 0, 1) := by decide +kernel
theorem d5_fillGains_105 : decode (mm_cc M5_fillGains) 105 = .ok (.getfield 14, 3) := by decide +kernel
theorem d5_fillGains_108 : decode (mm_cc M5_fillGains) 108 = .ok (.iload_n 1, 1) := by decide +kernel
theorem d5_fillGains_109 : decode (mm_cc M5_fillGains) 109 = .ok (.invokevirtual 75, 3) := by decide +kernel
theorem d5_fillGains_112 : decode (mm_cc M5_fillGains) 112 = .ok (.aload_n 0, 1) := by decide +kernel
theorem d5_fillGains_113 : decode (mm_cc M5_fillGains) 113 = .ok (.getfield 14, 3) := by decide +kernel
theorem d5_fillGains_116 : decode (mm_cc M5_fillGains) 116 = .ok (.iload_n 2, 1) := by decide +kernel
theorem d5_fillGains_117 : decode (mm_cc M5_fillGains) 117 = .ok (.invokevirtual 75, 3) := by decide +kernel
theorem d5_fillGains_120 : decode (mm_cc M5_fillGains) 120 = .ok (.invokevirtual 82, 3) := by decide +kernel
theorem d5_fillGains_123 : decode (mm_cc M5_fillGains) 123 = .ok (.invokevirtual 54, 3) := by decide +kernel
theorem d5_fillGains_126 : decode (mm_cc M5_fillGains) 126 = .ok (.iinc 2 1, 3) := by decide +kernel
theorem d5_fillGains_129 : decode (mm_cc M5_fillGains) 129 = .ok (.goto (-43), 3) := by decide +kernel
theorem d5_fillGains_132 : decode (mm_cc M5_fillGains) 132 = .ok (.iinc 1 1, 3) := by decide +kernel
theorem d5_fillGains_135 : decode (mm_cc M5_fillGains) 135 = .ok (.goto (-57), 3) := by decide +kernel
theorem d5_fillGains_138 : decode (mm_cc M5_fillGains) 138 = .ok (.return_, 1) := by decide +kernel
theorem d8_makersOf_0 : decode (mm_cc M8_makersOf) 0 = .ok (.aload_n 2, 1) := by decide +kernel
theorem d8_makersOf_1 : decode (mm_cc M8_makersOf) 1 = .ok (.aload_n 0, 1) := by decide +kernel
theorem d8_makersOf_2 : decode (mm_cc M8_makersOf) 2 = .ok (.getfield 14, 3) := by decide +kernel
theorem d8_makersOf_5 : decode (mm_cc M8_makersOf) 5 = .ok (.iload_n 1, 1) := by decide +kernel
theorem d8_makersOf_6 : decode (mm_cc M8_makersOf) 6 = .ok (.invokevirtual 55, 3) := by decide +kernel
theorem d8_makersOf_9 : decode (mm_cc M8_makersOf) 9 = .ok (.aload_n 0, 1) := by decide +kernel
theorem d8_makersOf_10 : decode (mm_cc M8_makersOf) 10 = .ok (.getfield 20, 3) := by decide +kernel
theorem d8_makersOf_13 : decode (mm_cc M8_makersOf) 13 = .ok (.iload_n 1, 1) := by decide +kernel
theorem d8_makersOf_14 : decode (mm_cc M8_makersOf) 14 = .ok (.invokevirtual 55, 3) := by decide +kernel
theorem d8_makersOf_17 : decode (mm_cc M8_makersOf) 17 = .ok (.invokevirtual 59, 3) := by decide +kernel
theorem d8_makersOf_20 : decode (mm_cc M8_makersOf) 20 = .ok (.ireturn, 1) := by decide +kernel
theorem d9_tellLike_0 : decode (mm_cc M9_tellLike) 0 = .ok (.aload_n 0, 1) := by decide +kernel
theorem d9_tellLike_1 : decode (mm_cc M9_tellLike) 1 = .ok (.aload_n 0, 1) := by decide +kernel
theorem d9_tellLike_2 : decode (mm_cc M9_tellLike) 2 = .ok (.getfield 9, 3) := by decide +kernel
theorem d9_tellLike_5 : decode (mm_cc M9_tellLike) 5 = .ok (.bipush 40, 2) := by decide +kernel
theorem d9_tellLike_7 : decode (mm_cc M9_tellLike) 7 = .ok (.if_icmp .ge 7, 3) := by decide +kernel
theorem d9_tellLike_10 : decode (mm_cc M9_tellLike) 10 = .ok (.iconst 1, 1) := by decide +kernel
theorem d9_tellLike_11 : decode (mm_cc M9_tellLike) 11 = .ok (.goto 4, 3) := by decide +kernel
theorem d9_tellLike_14 : decode (mm_cc M9_tellLike) 14 = .ok (.iconst 0, 1) := by decide +kernel
theorem d9_tellLike_15 : decode (mm_cc M9_tellLike) 15 = .ok (.invokevirtual 83, 3) := by decide +kernel
theorem d9_tellLike_18 : decode (mm_cc M9_tellLike) 18 = .ok (.aload_n 0, 1) := by decide +kernel
theorem d9_tellLike_19 : decode (mm_cc M9_tellLike) 19 = .ok (.getfield 19, 3) := by decide +kernel
theorem d9_tellLike_22 : decode (mm_cc M9_tellLike) 22 = .ok (.iconst 0, 1) := by decide +kernel
theorem d9_tellLike_23 : decode (mm_cc M9_tellLike) 23 = .ok (.aload_n 0, 1) := by decide +kernel
theorem d9_tellLike_24 : decode (mm_cc M9_tellLike) 24 = .ok (.getfield 23, 3) := by decide +kernel
theorem d9_tellLike_27 : decode (mm_cc M9_tellLike) 27 = .ok (.getfield 54, 3) := by decide +kernel
theorem d9_tellLike_30 : decode (mm_cc M9_tellLike) 30 = .ok (.iconst 1, 1) := by decide +kernel
theorem d9_tellLike_31 : decode (mm_cc M9_tellLike) 31 = .ok (.isub, 1) := by decide +kernel
theorem d9_tellLike_32 : decode (mm_cc M9_tellLike) 32 = .ok (.invokevirtual 106, 3) := by decide +kernel
theorem d9_tellLike_35 : decode (mm_cc M9_tellLike) 35 = .ok (.istore_n 1, 1) := by decide +kernel
theorem d9_tellLike_36 : decode (mm_cc M9_tellLike) 36 = .ok (.aload_n 0, 1) := by decide +kernel
theorem d9_tellLike_37 : decode (mm_cc M9_tellLike) 37 = .ok (.getfield 19, 3) := by decide +kernel
theorem d9_tellLike_40 : decode (mm_cc M9_tellLike) 40 = .ok (.getfield 70, 3) := by decide +kernel
theorem d9_tellLike_43 : decode (mm_cc M9_tellLike) 43 = .ok (.istore_n 2, 1) := by decide +kernel
theorem d9_tellLike_44 : decode (mm_cc M9_tellLike) 44 = .ok (.aload_n 0, 1) := by decide +kernel
theorem d9_tellLike_45 : decode (mm_cc M9_tellLike) 45 = .ok (.getfield 19, 3) := by decide +kernel
theorem d9_tellLike_48 : decode (mm_cc M9_tellLike) 48 = .ok (.iconst 0, 1) := by decide +kernel
theorem d9_tellLike_49 : decode (mm_cc M9_tellLike) 49 = .ok (.aload_n 0, 1) := by decide +kernel
theorem d9_tellLike_50 : decode (mm_cc M9_tellLike) 50 = .ok (.getfield 23, 3) := by decide +kernel
theorem d9_tellLike_53 : decode (mm_cc M9_tellLike) 53 = .ok (.getfield 80, 3) := by decide +kernel
theorem d9_tellLike_56 : decode (mm_cc M9_tellLike) 56 = .ok (.iconst 1, 1) := by decide +kernel
theorem d9_tellLike_57 : decode (mm_cc M9_tellLike) 57 = .ok (.isub, 1) := by decide +kernel
theorem d9_tellLike_58 : decode (mm_cc M9_tellLike) 58 = .ok (.invokevirtual 106, 3) := by decide +kernel
theorem d9_tellLike_61 : decode (mm_cc M9_tellLike) 61 = .ok (.istore_n 3, 1) := by decide +kernel
theorem d9_tellLike_62 : decode (mm_cc M9_tellLike) 62 = .ok (.lconst 1, 1) := by decide +kernel
theorem d9_tellLike_63 : decode (mm_cc M9_tellLike) 63 = .ok (.iconst 0, 1) := by decide +kernel
theorem d9_tellLike_64 : decode (mm_cc M9_tellLike) 64 = .ok (.iload_n 1, 1) := by decide +kernel
theorem d9_tellLike_65 : decode (mm_cc M9_tellLike) 65 = .ok (.iload_n 3, 1) := by decide +kernel
theorem d9_tellLike_66 : decode (mm_cc M9_tellLike) 66 = .ok (.invokestatic 150, 3) := by decide +kernel
theorem d9_tellLike_69 : decode (mm_cc M9_tellLike) 69 = .ok (.invokestatic 153, 3) := by decide +kernel
theorem d9_tellLike_72 : decode (mm_cc M9_tellLike) 72 = .ok (.lshl, 1) := by decide +kernel
theorem d9_tellLike_73 : decode (mm_cc M9_tellLike) 73 = .ok (.lstore 4, 2) := by decide +kernel
theorem d9_tellLike_75 : decode (mm_cc M9_tellLike) 75 = .ok (.aload_n 0, 1) := by decide +kernel
theorem d9_tellLike_76 : decode (mm_cc M9_tellLike) 76 = .ok (.getfield 19, 3) := by decide +kernel
theorem d9_tellLike_79 : decode (mm_cc M9_tellLike) 79 = .ok (.invokevirtual 39, 3) := by decide +kernel
theorem d9_tellLike_82 : decode (mm_cc M9_tellLike) 82 = .ok (.ifCond .eq 24, 3) := by decide +kernel
theorem d9_tellLike_85 : decode (mm_cc M9_tellLike) 85 = .ok (.aload_n 0, 1) := by decide +kernel
theorem d9_tellLike_86 : decode (mm_cc M9_tellLike) 86 = .ok (.getfield 15, 3) := by decide +kernel
theorem d9_tellLike_89 : decode (mm_cc M9_tellLike) 89 = .ok (.lload 4, 2) := by decide +kernel
theorem d9_tellLike_91 : decode (mm_cc M9_tellLike) 91 = .ok (.land, 1) := by decide +kernel
theorem d9_tellLike_92 : decode (mm_cc M9_tellLike) 92 = .ok (.lconst 0, 1) := by decide +kernel
theorem d9_tellLike_93 : decode (mm_cc M9_tellLike) 93 = .ok (.lcmp, 1) := by decide +kernel
theorem d9_tellLike_94 : decode (mm_cc M9_tellLike) 94 = .ok (.ifCond .eq 12, 3) := by decide +kernel
theorem d9_tellLike_97 : decode (mm_cc M9_tellLike) 97 = .ok (.aload_n 0, 1) := by decide +kernel
theorem d9_tellLike_98 : decode (mm_cc M9_tellLike) 98 = .ok (.getfield 19, 3) := by decide +kernel
theorem d9_tellLike_101 : decode (mm_cc M9_tellLike) 101 = .ok (.iconst 4, 1) := by decide +kernel
theorem d9_tellLike_102 : decode (mm_cc M9_tellLike) 102 = .ok (.iload_n 2, 1) := by decide +kernel
theorem d9_tellLike_103 : decode (mm_cc M9_tellLike) 103 = .ok (.invokevirtual 73, 3) := by decide +kernel
theorem d9_tellLike_106 : decode (mm_cc M9_tellLike) 106 = .ok (.aload_n 0, 1) := by decide +kernel
theorem d9_tellLike_107 : decode (mm_cc M9_tellLike) 107 = .ok (.dup, 1) := by decide +kernel
theorem d9_tellLike_108 : decode (mm_cc M9_tellLike) 108 = .ok (.getfield 15, 3) := by decide +kernel
theorem d9_tellLike_111 : decode (mm_cc M9_tellLike) 111 = .ok (.lload 4, 2) := by decide +kernel
theorem d9_tellLike_113 : decode (mm_cc M9_tellLike) 113 = .ok (.lor, 1) := by decide +kernel
theorem d9_tellLike_114 : decode (mm_cc M9_tellLike) 114 = .ok (.putfield 15, 3) := by decide +kernel
theorem d9_tellLike_117 : decode (mm_cc M9_tellLike) 117 = .ok (.aload_n 0, 1) := by decide +kernel
theorem d9_tellLike_118 : decode (mm_cc M9_tellLike) 118 = .ok (.getfield 23, 3) := by decide +kernel
theorem d9_tellLike_121 : decode (mm_cc M9_tellLike) 121 = .ok (.getfield 158, 3) := by decide +kernel
theorem d9_tellLike_124 : decode (mm_cc M9_tellLike) 124 = .ok (.iload_n 1, 1) := by decide +kernel
theorem d9_tellLike_125 : decode (mm_cc M9_tellLike) 125 = .ok (.iload_n 3, 1) := by decide +kernel
theorem d9_tellLike_126 : decode (mm_cc M9_tellLike) 126 = .ok (.invokestatic 150, 3) := by decide +kernel
theorem d9_tellLike_129 : decode (mm_cc M9_tellLike) 129 = .ok (.aload_n 0, 1) := by decide +kernel
theorem d9_tellLike_130 : decode (mm_cc M9_tellLike) 130 = .ok (.getfield 19, 3) := by decide +kernel
theorem d9_tellLike_133 : decode (mm_cc M9_tellLike) 133 = .ok (.iconst 0, 1) := by decide +kernel
theorem d9_tellLike_134 : decode (mm_cc M9_tellLike) 134 = .ok (.bipush 99, 2) := by decide +kernel
theorem d9_tellLike_136 : decode (mm_cc M9_tellLike) 136 = .ok (.invokevirtual 106, 3) := by decide +kernel
theorem d9_tellLike_139 : decode (mm_cc M9_tellLike) 139 = .ok (.invokevirtual 95, 3) := by decide +kernel
theorem d9_tellLike_142 : decode (mm_cc M9_tellLike) 142 = .ok (.aload_n 0, 1) := by decide +kernel
theorem d9_tellLike_143 : decode (mm_cc M9_tellLike) 143 = .ok (.dup, 1) := by decide +kernel
theorem d9_tellLike_144 : decode (mm_cc M9_tellLike) 144 = .ok (.getfield 9, 3) := by decide +kernel
theorem d9_tellLike_147 : decode (mm_cc M9_tellLike) 147 = .ok (.iconst 1, 1) := by decide +kernel
theorem d9_tellLike_148 : decode (mm_cc M9_tellLike) 148 = .ok (.iadd, 1) := by decide +kernel
theorem d9_tellLike_149 : decode (mm_cc M9_tellLike) 149 = .ok (.putfield 9, 3) := by decide +kernel
theorem d9_tellLike_152 : decode (mm_cc M9_tellLike) 152 = .ok (.return_, 1) := by decide +kernel
theorem d9_tellSkill_0 : decode (mm_cc M9_tellSkill) 0 = .ok (.aload_n 0, 1) := by decide +kernel
theorem d9_tellSkill_1 : decode (mm_cc M9_tellSkill) 1 = .ok (.getfield 19, 3) := by decide +kernel
theorem d9_tellSkill_4 : decode (mm_cc M9_tellSkill) 4 = .ok (.getfield 70, 3) := by decide +kernel
theorem d9_tellSkill_7 : decode (mm_cc M9_tellSkill) 7 = .ok (.istore_n 2, 1) := by decide +kernel
theorem d9_tellSkill_8 : decode (mm_cc M9_tellSkill) 8 = .ok (.aload_n 0, 1) := by decide +kernel
theorem d9_tellSkill_9 : decode (mm_cc M9_tellSkill) 9 = .ok (.getfield 19, 3) := by decide +kernel
theorem d9_tellSkill_12 : decode (mm_cc M9_tellSkill) 12 = .ok (.iconst 0, 1) := by decide +kernel
theorem d9_tellSkill_13 : decode (mm_cc M9_tellSkill) 13 = .ok (.aload_n 0, 1) := by decide +kernel
theorem d9_tellSkill_14 : decode (mm_cc M9_tellSkill) 14 = .ok (.getfield 23, 3) := by decide +kernel
theorem d9_tellSkill_17 : decode (mm_cc M9_tellSkill) 17 = .ok (.getfield 80, 3) := by decide +kernel
theorem d9_tellSkill_20 : decode (mm_cc M9_tellSkill) 20 = .ok (.iconst 1, 1) := by decide +kernel
theorem d9_tellSkill_21 : decode (mm_cc M9_tellSkill) 21 = .ok (.isub, 1) := by decide +kernel
theorem d9_tellSkill_22 : decode (mm_cc M9_tellSkill) 22 = .ok (.invokevirtual 106, 3) := by decide +kernel
theorem d9_tellSkill_25 : decode (mm_cc M9_tellSkill) 25 = .ok (.istore_n 3, 1) := by decide +kernel
theorem d9_tellSkill_26 : decode (mm_cc M9_tellSkill) 26 = .ok (.aload_n 0, 1) := by decide +kernel
theorem d9_tellSkill_27 : decode (mm_cc M9_tellSkill) 27 = .ok (.getfield 27, 3) := by decide +kernel
theorem d9_tellSkill_30 : decode (mm_cc M9_tellSkill) 30 = .ok (.iload_n 1, 1) := by decide +kernel
theorem d9_tellSkill_31 : decode (mm_cc M9_tellSkill) 31 = .ok (.iload_n 3, 1) := by decide +kernel
theorem d9_tellSkill_32 : decode (mm_cc M9_tellSkill) 32 = .ok (.invokevirtual 142, 3) := by decide +kernel
theorem d9_tellSkill_35 : decode (mm_cc M9_tellSkill) 35 = .ok (.ifCond .eq 12, 3) := by decide +kernel
theorem d9_tellSkill_38 : decode (mm_cc M9_tellSkill) 38 = .ok (.aload_n 0, 1) := by decide +kernel
theorem d9_tellSkill_39 : decode (mm_cc M9_tellSkill) 39 = .ok (.getfield 19, 3) := by decide +kernel
theorem d9_tellSkill_42 : decode (mm_cc M9_tellSkill) 42 = .ok (.iconst 4, 1) := by decide +kernel
theorem d9_tellSkill_43 : decode (mm_cc M9_tellSkill) 43 = .ok (.iload_n 2, 1) := by decide +kernel
theorem d9_tellSkill_44 : decode (mm_cc M9_tellSkill) 44 = .ok (.invokevirtual 73, 3) := by decide +kernel
theorem d9_tellSkill_47 : decode (mm_cc M9_tellSkill) 47 = .ok (.aload_n 0, 1) := by decide +kernel
theorem d9_tellSkill_48 : decode (mm_cc M9_tellSkill) 48 = .ok (.getfield 27, 3) := by decide +kernel
theorem d9_tellSkill_51 : decode (mm_cc M9_tellSkill) 51 = .ok (.iload_n 1, 1) := by decide +kernel
theorem d9_tellSkill_52 : decode (mm_cc M9_tellSkill) 52 = .ok (.iload_n 3, 1) := by decide +kernel
theorem d9_tellSkill_53 : decode (mm_cc M9_tellSkill) 53 = .ok (.aload_n 0, 1) := by decide +kernel
theorem d9_tellSkill_54 : decode (mm_cc M9_tellSkill) 54 = .ok (.getfield 19, 3) := by decide +kernel
theorem d9_tellSkill_57 : decode (mm_cc M9_tellSkill) 57 = .ok (.iconst 1, 1) := by decide +kernel
theorem d9_tellSkill_58 : decode (mm_cc M9_tellSkill) 58 = .ok (.bipush 100, 2) := by decide +kernel
theorem d9_tellSkill_60 : decode (mm_cc M9_tellSkill) 60 = .ok (.invokevirtual 106, 3) := by decide +kernel
theorem d9_tellSkill_63 : decode (mm_cc M9_tellSkill) 63 = .ok (.invokevirtual 146, 3) := by decide +kernel
theorem d9_tellSkill_66 : decode (mm_cc M9_tellSkill) 66 = .ok (.return_, 1) := by decide +kernel
theorem d10_change_0 : decode (mm_cc M10_change) 0 = .ok (.aload_n 0, 1) := by decide +kernel
theorem d10_change_1 : decode (mm_cc M10_change) 1 = .ok (.iload_n 1, 1) := by decide +kernel
theorem d10_change_2 : decode (mm_cc M10_change) 2 = .ok (.iload_n 2, 1) := by decide +kernel
theorem d10_change_3 : decode (mm_cc M10_change) 3 = .ok (.invokevirtual 270, 3) := by decide +kernel
theorem d10_change_6 : decode (mm_cc M10_change) 6 = .ok (.ifCond .eq 23, 3) := by decide +kernel
theorem d10_change_9 : decode (mm_cc M10_change) 9 = .ok (.iload_n 3, 1) := by decide +kernel
theorem d10_change_10 : decode (mm_cc M10_change) 10 = .ok (.iconst (-1), 1) := by decide +kernel
theorem d10_change_11 : decode (mm_cc M10_change) 11 = .ok (.if_icmp .eq 14, 3) := by decide +kernel
theorem d10_change_14 : decode (mm_cc M10_change) 14 = .ok (.aload_n 0, 1) := by decide +kernel
theorem d10_change_15 : decode (mm_cc M10_change) 15 = .ok (.getfield 19, 3) := by decide +kernel
theorem d10_change_18 : decode (mm_cc M10_change) 18 = .ok (.iload_n 3, 1) := by decide +kernel
theorem d10_change_19 : decode (mm_cc M10_change) 19 = .ok (.invokevirtual 216, 3) := by decide +kernel
theorem d10_change_22 : decode (mm_cc M10_change) 22 = .ok (.ifCond .eq 7, 3) := by decide +kernel
theorem d10_change_25 : decode (mm_cc M10_change) 25 = .ok (.iconst 1, 1) := by decide +kernel
theorem d10_change_26 : decode (mm_cc M10_change) 26 = .ok (.goto 4, 3) := by decide +kernel
theorem d10_change_29 : decode (mm_cc M10_change) 29 = .ok (.iconst 0, 1) := by decide +kernel
theorem d10_change_30 : decode (mm_cc M10_change) 30 = .ok (.istore 5, 2) := by decide +kernel
theorem d10_change_32 : decode (mm_cc M10_change) 32 = .ok (.iload 4, 2) := by decide +kernel
theorem d10_change_34 : decode (mm_cc M10_change) 34 = .ok (.iconst (-1), 1) := by decide +kernel
theorem d10_change_35 : decode (mm_cc M10_change) 35 = .ok (.if_icmp .eq 21, 3) := by decide +kernel
theorem d10_change_38 : decode (mm_cc M10_change) 38 = .ok (.aload_n 0, 1) := by decide +kernel
theorem d10_change_39 : decode (mm_cc M10_change) 39 = .ok (.getfield 19, 3) := by decide +kernel
theorem d10_change_42 : decode (mm_cc M10_change) 42 = .ok (.iload 4, 2) := by decide +kernel
theorem d10_change_44 : decode (mm_cc M10_change) 44 = .ok (.invokevirtual 241, 3) := by decide +kernel
theorem d10_change_47 : decode (mm_cc M10_change) 47 = .ok (.ifCond .eq 13, 3) := by decide +kernel
theorem d10_change_50 : decode (mm_cc M10_change) 50 = .ok (.iload 4, 2) := by decide +kernel
theorem d10_change_52 : decode (mm_cc M10_change) 52 = .ok (.iload_n 1, 1) := by decide +kernel
theorem d10_change_53 : decode (mm_cc M10_change) 53 = .ok (.if_icmp .eq 7, 3) := by decide +kernel
theorem d10_change_56 : decode (mm_cc M10_change) 56 = .ok (.iconst 1, 1) := by decide +kernel
theorem d10_change_57 : decode (mm_cc M10_change) 57 = .ok (.goto 4, 3) := by decide +kernel
theorem d10_change_60 : decode (mm_cc M10_change) 60 = .ok (.iconst 0, 1) := by decide +kernel
theorem d10_change_61 : decode (mm_cc M10_change) 61 = .ok (.istore 6, 2) := by decide +kernel
theorem d10_change_63 : decode (mm_cc M10_change) 63 = .ok (.iload 5, 2) := by decide +kernel
theorem d10_change_65 : decode (mm_cc M10_change) 65 = .ok (.ifCond .eq 23, 3) := by decide +kernel
theorem d10_change_68 : decode (mm_cc M10_change) 68 = .ok (.iload 6, 2) := by decide +kernel
theorem d10_change_70 : decode (mm_cc M10_change) 70 = .ok (.ifCond .eq 18, 3) := by decide +kernel
theorem d10_change_73 : decode (mm_cc M10_change) 73 = .ok (.aload_n 0, 1) := by decide +kernel
theorem d10_change_74 : decode (mm_cc M10_change) 74 = .ok (.getfield 91, 3) := by decide +kernel
theorem d10_change_77 : decode (mm_cc M10_change) 77 = .ok (.iload_n 1, 1) := by decide +kernel
theorem d10_change_78 : decode (mm_cc M10_change) 78 = .ok (.iload_n 2, 1) := by decide +kernel
theorem d10_change_79 : decode (mm_cc M10_change) 79 = .ok (.iload_n 3, 1) := by decide +kernel
theorem d10_change_80 : decode (mm_cc M10_change) 80 = .ok (.iload 4, 2) := by decide +kernel
theorem d10_change_82 : decode (mm_cc M10_change) 82 = .ok (.invokevirtual 279, 3) := by decide +kernel
theorem d10_change_85 : decode (mm_cc M10_change) 85 = .ok (.goto 5, 3) := by decide +kernel
theorem d10_change_88 : decode (mm_cc M10_change) 88 = .ok (.ldc 220, 2) := by decide +kernel
theorem d10_change_90 : decode (mm_cc M10_change) 90 = .ok (.ireturn, 1) := by decide +kernel
theorem d10_makers_0 : decode (mm_cc M10_makers) 0 = .ok (.iload_n 1, 1) := by decide +kernel
theorem d10_makers_1 : decode (mm_cc M10_makers) 1 = .ok (.iconst 0, 1) := by decide +kernel
theorem d10_makers_2 : decode (mm_cc M10_makers) 2 = .ok (.aload_n 0, 1) := by decide +kernel
theorem d10_makers_3 : decode (mm_cc M10_makers) 3 = .ok (.getfield 73, 3) := by decide +kernel
theorem d10_makers_6 : decode (mm_cc M10_makers) 6 = .ok (.getfield 206, 3) := by decide +kernel
theorem d10_makers_9 : decode (mm_cc M10_makers) 9 = .ok (.iconst 1, 1) := by decide +kernel
theorem d10_makers_10 : decode (mm_cc M10_makers) 10 = .ok (.isub, 1) := by decide +kernel
theorem d10_makers_11 : decode (mm_cc M10_makers) 11 = .ok (.invokestatic 120, 3) := by decide +kernel
theorem d10_makers_14 : decode (mm_cc M10_makers) 14 = .ok (.ifCond .eq 18, 3) := by decide +kernel
theorem d10_makers_17 : decode (mm_cc M10_makers) 17 = .ok (.aload_n 0, 1) := by decide +kernel
theorem d10_makers_18 : decode (mm_cc M10_makers) 18 = .ok (.getfield 73, 3) := by decide +kernel
theorem d10_makers_21 : decode (mm_cc M10_makers) 21 = .ok (.iload_n 1, 1) := by decide +kernel
theorem d10_makers_22 : decode (mm_cc M10_makers) 22 = .ok (.aload_n 0, 1) := by decide +kernel
theorem d10_makers_23 : decode (mm_cc M10_makers) 23 = .ok (.getfield 42, 3) := by decide +kernel
theorem d10_makers_26 : decode (mm_cc M10_makers) 26 = .ok (.invokevirtual 333, 3) := by decide +kernel
theorem d10_makers_29 : decode (mm_cc M10_makers) 29 = .ok (.goto 5, 3) := by decide +kernel
theorem d10_makers_32 : decode (mm_cc M10_makers) 32 = .ok (.ldc 220, 2) := by decide +kernel
theorem d10_makers_34 : decode (mm_cc M10_makers) 34 = .ok (.ireturn, 1) := by decide +kernel
theorem d10_told_0 : decode (mm_cc M10_told) 0 = .ok (.iload_n 1, 1) := by decide +kernel
theorem d10_told_1 : decode (mm_cc M10_told) 1 = .ok (.tableswitch 191 0 13 #[71, 79, 87, 95, 103, 111, 119, 127, 135, 143, 159, 167, 175, 183], 71) := by decide +kernel
theorem d10_told_72 : decode (mm_cc M10_told) 72 = .ok (.aload_n 0, 1) := by decide +kernel
theorem d10_told_73 : decode (mm_cc M10_told) 73 = .ok (.getfield 19, 3) := by decide +kernel
theorem d10_told_76 : decode (mm_cc M10_told) 76 = .ok (.getfield 178, 3) := by decide +kernel
theorem d10_told_79 : decode (mm_cc M10_told) 79 = .ok (.ireturn, 1) := by decide +kernel
theorem d10_told_80 : decode (mm_cc M10_told) 80 = .ok (.aload_n 0, 1) := by decide +kernel
theorem d10_told_81 : decode (mm_cc M10_told) 81 = .ok (.getfield 19, 3) := by decide +kernel
theorem d10_told_84 : decode (mm_cc M10_told) 84 = .ok (.getfield 164, 3) := by decide +kernel
theorem d10_told_87 : decode (mm_cc M10_told) 87 = .ok (.ireturn, 1) := by decide +kernel
theorem d10_told_88 : decode (mm_cc M10_told) 88 = .ok (.aload_n 0, 1) := by decide +kernel
theorem d10_told_89 : decode (mm_cc M10_told) 89 = .ok (.getfield 42, 3) := by decide +kernel
theorem d10_told_92 : decode (mm_cc M10_told) 92 = .ok (.getfield 181, 3) := by decide +kernel
theorem d10_told_95 : decode (mm_cc M10_told) 95 = .ok (.ireturn, 1) := by decide +kernel
theorem d10_told_96 : decode (mm_cc M10_told) 96 = .ok (.aload_n 0, 1) := by decide +kernel
theorem d10_told_97 : decode (mm_cc M10_told) 97 = .ok (.getfield 42, 3) := by decide +kernel
theorem d10_told_100 : decode (mm_cc M10_told) 100 = .ok (.getfield 184, 3) := by decide +kernel
theorem d10_told_103 : decode (mm_cc M10_told) 103 = .ok (.ireturn, 1) := by decide +kernel
theorem d10_told_104 : decode (mm_cc M10_told) 104 = .ok (.aload_n 0, 1) := by decide +kernel
theorem d10_told_105 : decode (mm_cc M10_told) 105 = .ok (.getfield 29, 3) := by decide +kernel
theorem d10_told_108 : decode (mm_cc M10_told) 108 = .ok (.getfield 187, 3) := by decide +kernel
theorem d10_told_111 : decode (mm_cc M10_told) 111 = .ok (.ireturn, 1) := by decide +kernel
theorem d10_told_112 : decode (mm_cc M10_told) 112 = .ok (.aload_n 0, 1) := by decide +kernel
theorem d10_told_113 : decode (mm_cc M10_told) 113 = .ok (.getfield 29, 3) := by decide +kernel
theorem d10_told_116 : decode (mm_cc M10_told) 116 = .ok (.getfield 190, 3) := by decide +kernel
theorem d10_told_119 : decode (mm_cc M10_told) 119 = .ok (.ireturn, 1) := by decide +kernel
theorem d10_told_120 : decode (mm_cc M10_told) 120 = .ok (.aload_n 0, 1) := by decide +kernel
theorem d10_told_121 : decode (mm_cc M10_told) 121 = .ok (.getfield 29, 3) := by decide +kernel
theorem d10_told_124 : decode (mm_cc M10_told) 124 = .ok (.getfield 193, 3) := by decide +kernel
theorem d10_told_127 : decode (mm_cc M10_told) 127 = .ok (.ireturn, 1) := by decide +kernel
theorem d10_told_128 : decode (mm_cc M10_told) 128 = .ok (.aload_n 0, 1) := by decide +kernel
theorem d10_told_129 : decode (mm_cc M10_told) 129 = .ok (.getfield 29, 3) := by decide +kernel
theorem d10_told_132 : decode (mm_cc M10_told) 132 = .ok (.getfield 196, 3) := by decide +kernel
theorem d10_told_135 : decode (mm_cc M10_told) 135 = .ok (.ireturn, 1) := by decide +kernel
theorem d10_told_136 : decode (mm_cc M10_told) 136 = .ok (.aload_n 0, 1) := by decide +kernel
theorem d10_told_137 : decode (mm_cc M10_told) 137 = .ok (.getfield 29, 3) := by decide +kernel
theorem d10_told_140 : decode (mm_cc M10_told) 140 = .ok (.getfield 199, 3) := by decide +kernel
theorem d10_told_143 : decode (mm_cc M10_told) 143 = .ok (.ireturn, 1) := by decide +kernel
theorem d10_told_144 : decode (mm_cc M10_told) 144 = .ok (.aload_n 0, 1) := by decide +kernel
theorem d10_told_145 : decode (mm_cc M10_told) 145 = .ok (.getfield 29, 3) := by decide +kernel
theorem d10_told_148 : decode (mm_cc M10_told) 148 = .ok (.getfield 202, 3) := by decide +kernel
theorem d10_told_151 : decode (mm_cc M10_told) 151 = .ok (.ifCond .eq 7, 3) := by decide +kernel
theorem d10_told_154 : decode (mm_cc M10_told) 154 = .ok (.iconst 1, 1) := by decide +kernel
theorem d10_told_155 : decode (mm_cc M10_told) 155 = .ok (.goto 4, 3) := by decide +kernel
theorem d10_told_158 : decode (mm_cc M10_told) 158 = .ok (.iconst 0, 1) := by decide +kernel
theorem d10_told_159 : decode (mm_cc M10_told) 159 = .ok (.ireturn, 1) := by decide +kernel
theorem d10_told_160 : decode (mm_cc M10_told) 160 = .ok (.aload_n 0, 1) := by decide +kernel
theorem d10_told_161 : decode (mm_cc M10_told) 161 = .ok (.getfield 10, 3) := by decide +kernel
theorem d10_told_164 : decode (mm_cc M10_told) 164 = .ok (.getfield 125, 3) := by decide +kernel
theorem d10_told_167 : decode (mm_cc M10_told) 167 = .ok (.ireturn, 1) := by decide +kernel
theorem d10_told_168 : decode (mm_cc M10_told) 168 = .ok (.aload_n 0, 1) := by decide +kernel
theorem d10_told_169 : decode (mm_cc M10_told) 169 = .ok (.getfield 73, 3) := by decide +kernel
theorem d10_told_172 : decode (mm_cc M10_told) 172 = .ok (.getfield 206, 3) := by decide +kernel
theorem d10_told_175 : decode (mm_cc M10_told) 175 = .ok (.ireturn, 1) := by decide +kernel
theorem d10_told_176 : decode (mm_cc M10_told) 176 = .ok (.aload_n 0, 1) := by decide +kernel
theorem d10_told_177 : decode (mm_cc M10_told) 177 = .ok (.getfield 73, 3) := by decide +kernel
theorem d10_told_180 : decode (mm_cc M10_told) 180 = .ok (.getfield 209, 3) := by decide +kernel
theorem d10_told_183 : decode (mm_cc M10_told) 183 = .ok (.ireturn, 1) := by decide +kernel
theorem d10_told_184 : decode (mm_cc M10_told) 184 = .ok (.aload_n 0, 1) := by decide +kernel
theorem d10_told_185 : decode (mm_cc M10_told) 185 = .ok (.getfield 91, 3) := by decide +kernel
theorem d10_told_188 : decode (mm_cc M10_told) 188 = .ok (.invokevirtual 212, 3) := by decide +kernel
theorem d10_told_191 : decode (mm_cc M10_told) 191 = .ok (.ireturn, 1) := by decide +kernel
theorem d10_told_192 : decode (mm_cc M10_told) 192 = .ok (.ldc 124, 2) := by decide +kernel
theorem d10_told_194 : decode (mm_cc M10_told) 194 = .ok (.ireturn, 1) := by decide +kernel
theorem d11_change_0 : decode (mm_cc M11_change) 0 = .ok (.aload_n 0, 1) := by decide +kernel
theorem d11_change_1 : decode (mm_cc M11_change) 1 = .ok (.iload_n 1, 1) := by decide +kernel
theorem d11_change_2 : decode (mm_cc M11_change) 2 = .ok (.invokevirtual 272, 3) := by decide +kernel
theorem d11_change_5 : decode (mm_cc M11_change) 5 = .ok (.ifCond .eq 24, 3) := by decide +kernel
theorem d11_change_8 : decode (mm_cc M11_change) 8 = .ok (.aload_n 0, 1) := by decide +kernel
theorem d11_change_9 : decode (mm_cc M11_change) 9 = .ok (.iload_n 2, 1) := by decide +kernel
theorem d11_change_10 : decode (mm_cc M11_change) 10 = .ok (.invokevirtual 267, 3) := by decide +kernel
theorem d11_change_13 : decode (mm_cc M11_change) 13 = .ok (.ifCond .eq 16, 3) := by decide +kernel
theorem d11_change_16 : decode (mm_cc M11_change) 16 = .ok (.iload_n 3, 1) := by decide +kernel
theorem d11_change_17 : decode (mm_cc M11_change) 17 = .ok (.iconst (-1), 1) := by decide +kernel
theorem d11_change_18 : decode (mm_cc M11_change) 18 = .ok (.if_icmp .eq 15, 3) := by decide +kernel
theorem d11_change_21 : decode (mm_cc M11_change) 21 = .ok (.aload_n 0, 1) := by decide +kernel
theorem d11_change_22 : decode (mm_cc M11_change) 22 = .ok (.iload_n 3, 1) := by decide +kernel
theorem d11_change_23 : decode (mm_cc M11_change) 23 = .ok (.invokevirtual 267, 3) := by decide +kernel
theorem d11_change_26 : decode (mm_cc M11_change) 26 = .ok (.ifCond .ne 7, 3) := by decide +kernel
theorem d11_change_29 : decode (mm_cc M11_change) 29 = .ok (.ldc_w 271, 3) := by decide +kernel
theorem d11_change_32 : decode (mm_cc M11_change) 32 = .ok (.ireturn, 1) := by decide +kernel
theorem d11_change_33 : decode (mm_cc M11_change) 33 = .ok (.iload 4, 2) := by decide +kernel
theorem d11_change_35 : decode (mm_cc M11_change) 35 = .ok (.iconst (-1), 1) := by decide +kernel
theorem d11_change_36 : decode (mm_cc M11_change) 36 = .ok (.if_icmp .eq 22, 3) := by decide +kernel
theorem d11_change_39 : decode (mm_cc M11_change) 39 = .ok (.aload_n 0, 1) := by decide +kernel
theorem d11_change_40 : decode (mm_cc M11_change) 40 = .ok (.iload 4, 2) := by decide +kernel
theorem d11_change_42 : decode (mm_cc M11_change) 42 = .ok (.invokevirtual 272, 3) := by decide +kernel
theorem d11_change_45 : decode (mm_cc M11_change) 45 = .ok (.ifCond .eq 9, 3) := by decide +kernel
theorem d11_change_48 : decode (mm_cc M11_change) 48 = .ok (.iload 4, 2) := by decide +kernel
theorem d11_change_50 : decode (mm_cc M11_change) 50 = .ok (.iload_n 1, 1) := by decide +kernel
theorem d11_change_51 : decode (mm_cc M11_change) 51 = .ok (.if_icmp .ne 7, 3) := by decide +kernel
theorem d11_change_54 : decode (mm_cc M11_change) 54 = .ok (.ldc_w 271, 3) := by decide +kernel
theorem d11_change_57 : decode (mm_cc M11_change) 57 = .ok (.ireturn, 1) := by decide +kernel
theorem d11_change_58 : decode (mm_cc M11_change) 58 = .ok (.aload_n 0, 1) := by decide +kernel
theorem d11_change_59 : decode (mm_cc M11_change) 59 = .ok (.iload_n 1, 1) := by decide +kernel
theorem d11_change_60 : decode (mm_cc M11_change) 60 = .ok (.iload_n 2, 1) := by decide +kernel
theorem d11_change_61 : decode (mm_cc M11_change) 61 = .ok (.iload_n 3, 1) := by decide +kernel
theorem d11_change_62 : decode (mm_cc M11_change) 62 = .ok (.iload 4, 2) := by decide +kernel
theorem d11_change_64 : decode (mm_cc M11_change) 64 = .ok (.invokevirtual 297, 3) := by decide +kernel
theorem d11_change_67 : decode (mm_cc M11_change) 67 = .ok (.ireturn, 1) := by decide +kernel
theorem d11_changed_0 : decode (mm_cc M11_changed) 0 = .ok (.iload_n 1, 1) := by decide +kernel
theorem d11_changed_1 : decode (mm_cc M11_changed) 1 = .ok (.iconst (-1), 1) := by decide +kernel
theorem d11_changed_2 : decode (mm_cc M11_changed) 2 = .ok (.if_icmp .eq 15, 3) := by decide +kernel
theorem d11_changed_5 : decode (mm_cc M11_changed) 5 = .ok (.aload_n 0, 1) := by decide +kernel
theorem d11_changed_6 : decode (mm_cc M11_changed) 6 = .ok (.iload_n 1, 1) := by decide +kernel
theorem d11_changed_7 : decode (mm_cc M11_changed) 7 = .ok (.invokevirtual 272, 3) := by decide +kernel
theorem d11_changed_10 : decode (mm_cc M11_changed) 10 = .ok (.ifCond .ne 7, 3) := by decide +kernel
theorem d11_changed_13 : decode (mm_cc M11_changed) 13 = .ok (.ldc_w 271, 3) := by decide +kernel
theorem d11_changed_16 : decode (mm_cc M11_changed) 16 = .ok (.ireturn, 1) := by decide +kernel
theorem d11_changed_17 : decode (mm_cc M11_changed) 17 = .ok (.aload_n 0, 1) := by decide +kernel
theorem d11_changed_18 : decode (mm_cc M11_changed) 18 = .ok (.invokevirtual 365, 3) := by decide +kernel
theorem d11_changed_21 : decode (mm_cc M11_changed) 21 = .ok (.ifCond .ne 5, 3) := by decide +kernel
theorem d11_changed_24 : decode (mm_cc M11_changed) 24 = .ok (.iconst (-1), 1) := by decide +kernel
theorem d11_changed_25 : decode (mm_cc M11_changed) 25 = .ok (.ireturn, 1) := by decide +kernel
theorem d11_changed_26 : decode (mm_cc M11_changed) 26 = .ok (.iload_n 1, 1) := by decide +kernel
theorem d11_changed_27 : decode (mm_cc M11_changed) 27 = .ok (.iconst (-1), 1) := by decide +kernel
theorem d11_changed_28 : decode (mm_cc M11_changed) 28 = .ok (.if_icmp .ne 15, 3) := by decide +kernel
theorem d11_changed_31 : decode (mm_cc M11_changed) 31 = .ok (.aload_n 0, 1) := by decide +kernel
theorem d11_changed_32 : decode (mm_cc M11_changed) 32 = .ok (.getfield 96, 3) := by decide +kernel
theorem d11_changed_35 : decode (mm_cc M11_changed) 35 = .ok (.aload_n 0, 1) := by decide +kernel
theorem d11_changed_36 : decode (mm_cc M11_changed) 36 = .ok (.getfield 355, 3) := by decide +kernel
theorem d11_changed_39 : decode (mm_cc M11_changed) 39 = .ok (.iconst 1, 1) := by decide +kernel
theorem d11_changed_40 : decode (mm_cc M11_changed) 40 = .ok (.isub, 1) := by decide +kernel
theorem d11_changed_41 : decode (mm_cc M11_changed) 41 = .ok (.iaload, 1) := by decide +kernel
theorem d11_changed_42 : decode (mm_cc M11_changed) 42 = .ok (.ireturn, 1) := by decide +kernel
theorem d11_changed_43 : decode (mm_cc M11_changed) 43 = .ok (.aload_n 0, 1) := by decide +kernel
theorem d11_changed_44 : decode (mm_cc M11_changed) 44 = .ok (.getfield 355, 3) := by decide +kernel
theorem d11_changed_47 : decode (mm_cc M11_changed) 47 = .ok (.iconst 1, 1) := by decide +kernel
theorem d11_changed_48 : decode (mm_cc M11_changed) 48 = .ok (.isub, 1) := by decide +kernel
theorem d11_changed_49 : decode (mm_cc M11_changed) 49 = .ok (.istore_n 2, 1) := by decide +kernel
theorem d11_changed_50 : decode (mm_cc M11_changed) 50 = .ok (.iconst (-1), 1) := by decide +kernel
theorem d11_changed_51 : decode (mm_cc M11_changed) 51 = .ok (.istore_n 3, 1) := by decide +kernel
theorem d11_changed_52 : decode (mm_cc M11_changed) 52 = .ok (.iconst 0, 1) := by decide +kernel
theorem d11_changed_53 : decode (mm_cc M11_changed) 53 = .ok (.istore 4, 2) := by decide +kernel
theorem d11_changed_55 : decode (mm_cc M11_changed) 55 = .ok (.iload 4, 2) := by decide +kernel
theorem d11_changed_57 : decode (mm_cc M11_changed) 57 = .ok (.iload_n 1, 1) := by decide +kernel
theorem d11_changed_58 : decode (mm_cc M11_changed) 58 = .ok (.if_icmp .gt 98, 3) := by decide +kernel
theorem d11_changed_61 : decode (mm_cc M11_changed) 61 = .ok (.iconst (-1), 1) := by decide +kernel
theorem d11_changed_62 : decode (mm_cc M11_changed) 62 = .ok (.istore_n 3, 1) := by decide +kernel
theorem d11_changed_63 : decode (mm_cc M11_changed) 63 = .ok (.aload_n 0, 1) := by decide +kernel
theorem d11_changed_64 : decode (mm_cc M11_changed) 64 = .ok (.getfield 133, 3) := by decide +kernel
theorem d11_changed_67 : decode (mm_cc M11_changed) 67 = .ok (.iconst 1, 1) := by decide +kernel
theorem d11_changed_68 : decode (mm_cc M11_changed) 68 = .ok (.isub, 1) := by decide +kernel
theorem d11_changed_69 : decode (mm_cc M11_changed) 69 = .ok (.istore 5, 2) := by decide +kernel
theorem d11_changed_71 : decode (mm_cc M11_changed) 71 = .ok (.iload 5, 2) := by decide +kernel
theorem d11_changed_73 : decode (mm_cc M11_changed) 73 = .ok (.ifCond .lt 60, 3) := by decide +kernel
theorem d11_changed_76 : decode (mm_cc M11_changed) 76 = .ok (.aload_n 0, 1) := by decide +kernel
theorem d11_changed_77 : decode (mm_cc M11_changed) 77 = .ok (.iload 4, 2) := by decide +kernel
theorem d11_changed_79 : decode (mm_cc M11_changed) 79 = .ok (.iload_n 2, 1) := by decide +kernel
theorem d11_changed_80 : decode (mm_cc M11_changed) 80 = .ok (.iload 5, 2) := by decide +kernel
theorem d11_changed_82 : decode (mm_cc M11_changed) 82 = .ok (.invokevirtual 358, 3) := by decide +kernel
theorem d11_changed_85 : decode (mm_cc M11_changed) 85 = .ok (.aload_n 0, 1) := by decide +kernel
theorem d11_changed_86 : decode (mm_cc M11_changed) 86 = .ok (.getfield 96, 3) := by decide +kernel
theorem d11_changed_89 : decode (mm_cc M11_changed) 89 = .ok (.sipush 256, 3) := by decide +kernel
theorem d11_changed_92 : decode (mm_cc M11_changed) 92 = .ok (.iload 4, 2) := by decide +kernel
theorem d11_changed_94 : decode (mm_cc M11_changed) 94 = .ok (.imul, 1) := by decide +kernel
theorem d11_changed_95 : decode (mm_cc M11_changed) 95 = .ok (.iload_n 2, 1) := by decide +kernel
theorem d11_changed_96 : decode (mm_cc M11_changed) 96 = .ok (.iadd, 1) := by decide +kernel
theorem d11_changed_97 : decode (mm_cc M11_changed) 97 = .ok (.iaload, 1) := by decide +kernel
theorem d11_changed_98 : decode (mm_cc M11_changed) 98 = .ok (.if_icmp .ne 27, 3) := by decide +kernel
theorem d11_changed_101 : decode (mm_cc M11_changed) 101 = .ok (.aload_n 0, 1) := by decide +kernel
theorem d11_changed_102 : decode (mm_cc M11_changed) 102 = .ok (.getfield 96, 3) := by decide +kernel
theorem d11_changed_105 : decode (mm_cc M11_changed) 105 = .ok (.sipush 256, 3) := by decide +kernel
theorem d11_changed_108 : decode (mm_cc M11_changed) 108 = .ok (.iload 4, 2) := by decide +kernel
theorem d11_changed_110 : decode (mm_cc M11_changed) 110 = .ok (.imul, 1) := by decide +kernel
theorem d11_changed_111 : decode (mm_cc M11_changed) 111 = .ok (.iload_n 2, 1) := by decide +kernel
theorem d11_changed_112 : decode (mm_cc M11_changed) 112 = .ok (.iadd, 1) := by decide +kernel
theorem d11_changed_113 : decode (mm_cc M11_changed) 113 = .ok (.iaload, 1) := by decide +kernel
theorem d11_changed_114 : decode (mm_cc M11_changed) 114 = .ok (.ldc_w 354, 3) := by decide +kernel
theorem d11_changed_117 : decode (mm_cc M11_changed) 117 = .ok (.if_icmp .ge 8, 3) := by decide +kernel
theorem d11_changed_120 : decode (mm_cc M11_changed) 120 = .ok (.iload 5, 2) := by decide +kernel
theorem d11_changed_122 : decode (mm_cc M11_changed) 122 = .ok (.goto 4, 3) := by decide +kernel
theorem d11_changed_125 : decode (mm_cc M11_changed) 125 = .ok (.iload_n 3, 1) := by decide +kernel
theorem d11_changed_126 : decode (mm_cc M11_changed) 126 = .ok (.istore_n 3, 1) := by decide +kernel
theorem d11_changed_127 : decode (mm_cc M11_changed) 127 = .ok (.iinc 5 (-1), 3) := by decide +kernel
theorem d11_changed_130 : decode (mm_cc M11_changed) 130 = .ok (.goto (-59), 3) := by decide +kernel
theorem d11_changed_133 : decode (mm_cc M11_changed) 133 = .ok (.iload_n 2, 1) := by decide +kernel
theorem d11_changed_134 : decode (mm_cc M11_changed) 134 = .ok (.iload_n 3, 1) := by decide +kernel
theorem d11_changed_135 : decode (mm_cc M11_changed) 135 = .ok (.ifCond .ge 7, 3) := by decide +kernel
theorem d11_changed_138 : decode (mm_cc M11_changed) 138 = .ok (.iconst 0, 1) := by decide +kernel
theorem d11_changed_139 : decode (mm_cc M11_changed) 139 = .ok (.goto 9, 3) := by decide +kernel
theorem d11_changed_142 : decode (mm_cc M11_changed) 142 = .ok (.aload_n 0, 1) := by decide +kernel
theorem d11_changed_143 : decode (mm_cc M11_changed) 143 = .ok (.getfield 99, 3) := by decide +kernel
theorem d11_changed_146 : decode (mm_cc M11_changed) 146 = .ok (.iload_n 3, 1) := by decide +kernel
theorem d11_changed_147 : decode (mm_cc M11_changed) 147 = .ok (.iaload, 1) := by decide +kernel
theorem d11_changed_148 : decode (mm_cc M11_changed) 148 = .ok (.isub, 1) := by decide +kernel
theorem d11_changed_149 : decode (mm_cc M11_changed) 149 = .ok (.istore_n 2, 1) := by decide +kernel
theorem d11_changed_150 : decode (mm_cc M11_changed) 150 = .ok (.iinc 4 1, 3) := by decide +kernel
theorem d11_changed_153 : decode (mm_cc M11_changed) 153 = .ok (.goto (-98), 3) := by decide +kernel
theorem d11_changed_156 : decode (mm_cc M11_changed) 156 = .ok (.iload_n 3, 1) := by decide +kernel
theorem d11_changed_157 : decode (mm_cc M11_changed) 157 = .ok (.ireturn, 1) := by decide +kernel
theorem d11_drawYear_0 : decode (mm_cc M11_drawYear) 0 = .ok (.iconst 0, 1) := by decide +kernel
theorem d11_drawYear_1 : decode (mm_cc M11_drawYear) 1 = .ok (.istore_n 2, 1) := by decide +kernel
theorem d11_drawYear_2 : decode (mm_cc M11_drawYear) 2 = .ok (.iload_n 2, 1) := by decide +kernel
theorem d11_drawYear_3 : decode (mm_cc M11_drawYear) 3 = .ok (.aload_n 0, 1) := by decide +kernel
theorem d11_drawYear_4 : decode (mm_cc M11_drawYear) 4 = .ok (.getfield 140, 3) := by decide +kernel
theorem d11_drawYear_7 : decode (mm_cc M11_drawYear) 7 = .ok (.if_icmp .ge 76, 3) := by decide +kernel
theorem d11_drawYear_10 : decode (mm_cc M11_drawYear) 10 = .ok (.aload_n 0, 1) := by decide +kernel
theorem d11_drawYear_11 : decode (mm_cc M11_drawYear) 11 = .ok (.getfield 41, 3) := by decide +kernel
theorem d11_drawYear_14 : decode (mm_cc M11_drawYear) 14 = .ok (.iload_n 2, 1) := by decide +kernel
theorem d11_drawYear_15 : decode (mm_cc M11_drawYear) 15 = .ok (.baload, 1) := by decide +kernel
theorem d11_drawYear_16 : decode (mm_cc M11_drawYear) 16 = .ok (.ifCond .eq 61, 3) := by decide +kernel
theorem d11_drawYear_19 : decode (mm_cc M11_drawYear) 19 = .ok (.aload_n 0, 1) := by decide +kernel
theorem d11_drawYear_20 : decode (mm_cc M11_drawYear) 20 = .ok (.getfield 54, 3) := by decide +kernel
theorem d11_drawYear_23 : decode (mm_cc M11_drawYear) 23 = .ok (.iload_n 2, 1) := by decide +kernel
theorem d11_drawYear_24 : decode (mm_cc M11_drawYear) 24 = .ok (.iaload, 1) := by decide +kernel
theorem d11_drawYear_25 : decode (mm_cc M11_drawYear) 25 = .ok (.ifCond .ge 52, 3) := by decide +kernel
theorem d11_drawYear_28 : decode (mm_cc M11_drawYear) 28 = .ok (.aload_n 0, 1) := by decide +kernel
theorem d11_drawYear_29 : decode (mm_cc M11_drawYear) 29 = .ok (.bipush 100, 2) := by decide +kernel
theorem d11_drawYear_31 : decode (mm_cc M11_drawYear) 31 = .ok (.invokevirtual 311, 3) := by decide +kernel
theorem d11_drawYear_34 : decode (mm_cc M11_drawYear) 34 = .ok (.iload_n 1, 1) := by decide +kernel
theorem d11_drawYear_35 : decode (mm_cc M11_drawYear) 35 = .ok (.if_icmp .ge 42, 3) := by decide +kernel
theorem d11_drawYear_38 : decode (mm_cc M11_drawYear) 38 = .ok (.aload_n 0, 1) := by decide +kernel
theorem d11_drawYear_39 : decode (mm_cc M11_drawYear) 39 = .ok (.aload_n 0, 1) := by decide +kernel
theorem d11_drawYear_40 : decode (mm_cc M11_drawYear) 40 = .ok (.getfield 133, 3) := by decide +kernel
theorem d11_drawYear_43 : decode (mm_cc M11_drawYear) 43 = .ok (.invokevirtual 311, 3) := by decide +kernel
theorem d11_drawYear_46 : decode (mm_cc M11_drawYear) 46 = .ok (.istore_n 3, 1) := by decide +kernel
theorem d11_drawYear_47 : decode (mm_cc M11_drawYear) 47 = .ok (.aload_n 0, 1) := by decide +kernel
theorem d11_drawYear_48 : decode (mm_cc M11_drawYear) 48 = .ok (.iload_n 2, 1) := by decide +kernel
theorem d11_drawYear_49 : decode (mm_cc M11_drawYear) 49 = .ok (.iload_n 3, 1) := by decide +kernel
theorem d11_drawYear_50 : decode (mm_cc M11_drawYear) 50 = .ok (.aload_n 0, 1) := by decide +kernel
theorem d11_drawYear_51 : decode (mm_cc M11_drawYear) 51 = .ok (.iload_n 2, 1) := by decide +kernel
theorem d11_drawYear_52 : decode (mm_cc M11_drawYear) 52 = .ok (.invokevirtual 281, 3) := by decide +kernel
theorem d11_drawYear_55 : decode (mm_cc M11_drawYear) 55 = .ok (.aload_n 0, 1) := by decide +kernel
theorem d11_drawYear_56 : decode (mm_cc M11_drawYear) 56 = .ok (.getfield 22, 3) := by decide +kernel
theorem d11_drawYear_59 : decode (mm_cc M11_drawYear) 59 = .ok (.if_icmp .ge 7, 3) := by decide +kernel
theorem d11_drawYear_62 : decode (mm_cc M11_drawYear) 62 = .ok (.iconst (-1), 1) := by decide +kernel
theorem d11_drawYear_63 : decode (mm_cc M11_drawYear) 63 = .ok (.goto 8, 3) := by decide +kernel
theorem d11_drawYear_66 : decode (mm_cc M11_drawYear) 66 = .ok (.aload_n 0, 1) := by decide +kernel
theorem d11_drawYear_67 : decode (mm_cc M11_drawYear) 67 = .ok (.iload_n 2, 1) := by decide +kernel
theorem d11_drawYear_68 : decode (mm_cc M11_drawYear) 68 = .ok (.invokevirtual 333, 3) := by decide +kernel
theorem d11_drawYear_71 : decode (mm_cc M11_drawYear) 71 = .ok (.iconst (-1), 1) := by decide +kernel
theorem d11_drawYear_72 : decode (mm_cc M11_drawYear) 72 = .ok (.invokevirtual 297, 3) := by decide +kernel
theorem d11_drawYear_75 : decode (mm_cc M11_drawYear) 75 = .ok (.istore 4, 2) := by decide +kernel
theorem d11_drawYear_77 : decode (mm_cc M11_drawYear) 77 = .ok (.iinc 2 1, 3) := by decide +kernel
theorem d11_drawYear_80 : decode (mm_cc M11_drawYear) 80 = .ok (.goto (-78), 3) := by decide +kernel
theorem d11_drawYear_83 : decode (mm_cc M11_drawYear) 83 = .ok (.aload_n 0, 1) := by decide +kernel
theorem d11_drawYear_84 : decode (mm_cc M11_drawYear) 84 = .ok (.invokevirtual 330, 3) := by decide +kernel
theorem d11_drawYear_87 : decode (mm_cc M11_drawYear) 87 = .ok (.istore_n 2, 1) := by decide +kernel
theorem d11_drawYear_88 : decode (mm_cc M11_drawYear) 88 = .ok (.iconst 0, 1) := by decide +kernel
theorem d11_drawYear_89 : decode (mm_cc M11_drawYear) 89 = .ok (.istore_n 3, 1) := by decide +kernel
theorem d11_drawYear_90 : decode (mm_cc M11_drawYear) 90 = .ok (.iload_n 3, 1) := by decide +kernel
theorem d11_drawYear_91 : decode (mm_cc M11_drawYear) 91 = .ok (.aload_n 0, 1) := by decide +kernel
theorem d11_drawYear_92 : decode (mm_cc M11_drawYear) 92 = .ok (.getfield 140, 3) := by decide +kernel
theorem d11_drawYear_95 : decode (mm_cc M11_drawYear) 95 = .ok (.if_icmp .ge 90, 3) := by decide +kernel
theorem d11_drawYear_98 : decode (mm_cc M11_drawYear) 98 = .ok (.iload_n 2, 1) := by decide +kernel
theorem d11_drawYear_99 : decode (mm_cc M11_drawYear) 99 = .ok (.iload_n 3, 1) := by decide +kernel
theorem d11_drawYear_100 : decode (mm_cc M11_drawYear) 100 = .ok (.invokestatic 294, 3) := by decide +kernel
theorem d11_drawYear_103 : decode (mm_cc M11_drawYear) 103 = .ok (.ifCond .eq 76, 3) := by decide +kernel
theorem d11_drawYear_106 : decode (mm_cc M11_drawYear) 106 = .ok (.aload_n 0, 1) := by decide +kernel
theorem d11_drawYear_107 : decode (mm_cc M11_drawYear) 107 = .ok (.aload_n 0, 1) := by decide +kernel
theorem d11_drawYear_108 : decode (mm_cc M11_drawYear) 108 = .ok (.getfield 133, 3) := by decide +kernel
theorem d11_drawYear_111 : decode (mm_cc M11_drawYear) 111 = .ok (.invokevirtual 311, 3) := by decide +kernel
theorem d11_drawYear_114 : decode (mm_cc M11_drawYear) 114 = .ok (.istore 4, 2) := by decide +kernel
theorem d11_drawYear_116 : decode (mm_cc M11_drawYear) 116 = .ok (.aload_n 0, 1) := by decide +kernel
theorem d11_drawYear_117 : decode (mm_cc M11_drawYear) 117 = .ok (.getfield 41, 3) := by decide +kernel
theorem d11_drawYear_120 : decode (mm_cc M11_drawYear) 120 = .ok (.iload_n 3, 1) := by decide +kernel
theorem d11_drawYear_121 : decode (mm_cc M11_drawYear) 121 = .ok (.iconst 1, 1) := by decide +kernel
theorem d11_drawYear_122 : decode (mm_cc M11_drawYear) 122 = .ok (.bastore, 1) := by decide +kernel
theorem d11_drawYear_123 : decode (mm_cc M11_drawYear) 123 = .ok (.aload_n 0, 1) := by decide +kernel
theorem d11_drawYear_124 : decode (mm_cc M11_drawYear) 124 = .ok (.getfield 38, 3) := by decide +kernel
theorem d11_drawYear_127 : decode (mm_cc M11_drawYear) 127 = .ok (.iload_n 3, 1) := by decide +kernel
theorem d11_drawYear_128 : decode (mm_cc M11_drawYear) 128 = .ok (.iconst 0, 1) := by decide +kernel
theorem d11_drawYear_129 : decode (mm_cc M11_drawYear) 129 = .ok (.iastore, 1) := by decide +kernel
theorem d11_drawYear_130 : decode (mm_cc M11_drawYear) 130 = .ok (.aload_n 0, 1) := by decide +kernel
theorem d11_drawYear_131 : decode (mm_cc M11_drawYear) 131 = .ok (.getfield 63, 3) := by decide +kernel
theorem d11_drawYear_134 : decode (mm_cc M11_drawYear) 134 = .ok (.iload_n 3, 1) := by decide +kernel
theorem d11_drawYear_135 : decode (mm_cc M11_drawYear) 135 = .ok (.iconst 0, 1) := by decide +kernel
theorem d11_drawYear_136 : decode (mm_cc M11_drawYear) 136 = .ok (.iastore, 1) := by decide +kernel
theorem d11_drawYear_137 : decode (mm_cc M11_drawYear) 137 = .ok (.aload_n 0, 1) := by decide +kernel
theorem d11_drawYear_138 : decode (mm_cc M11_drawYear) 138 = .ok (.getfield 45, 3) := by decide +kernel
theorem d11_drawYear_141 : decode (mm_cc M11_drawYear) 141 = .ok (.bipush 6, 2) := by decide +kernel
theorem d11_drawYear_143 : decode (mm_cc M11_drawYear) 143 = .ok (.iload_n 3, 1) := by decide +kernel
theorem d11_drawYear_144 : decode (mm_cc M11_drawYear) 144 = .ok (.imul, 1) := by decide +kernel
theorem d11_drawYear_145 : decode (mm_cc M11_drawYear) 145 = .ok (.iload 4, 2) := by decide +kernel
theorem d11_drawYear_147 : decode (mm_cc M11_drawYear) 147 = .ok (.iadd, 1) := by decide +kernel
theorem d11_drawYear_148 : decode (mm_cc M11_drawYear) 148 = .ok (.aload_n 0, 1) := by decide +kernel
theorem d11_drawYear_149 : decode (mm_cc M11_drawYear) 149 = .ok (.getfield 7, 3) := by decide +kernel
theorem d11_drawYear_152 : decode (mm_cc M11_drawYear) 152 = .ok (.iconst 4, 1) := by decide +kernel
theorem d11_drawYear_153 : decode (mm_cc M11_drawYear) 153 = .ok (.iload 4, 2) := by decide +kernel
theorem d11_drawYear_155 : decode (mm_cc M11_drawYear) 155 = .ok (.imul, 1) := by decide +kernel
theorem d11_drawYear_156 : decode (mm_cc M11_drawYear) 156 = .ok (.iaload, 1) := by decide +kernel
theorem d11_drawYear_157 : decode (mm_cc M11_drawYear) 157 = .ok (.iconst 3, 1) := by decide +kernel
theorem d11_drawYear_158 : decode (mm_cc M11_drawYear) 158 = .ok (.if_icmp .ne 7, 3) := by decide +kernel
theorem d11_drawYear_161 : decode (mm_cc M11_drawYear) 161 = .ok (.iconst 0, 1) := by decide +kernel
theorem d11_drawYear_162 : decode (mm_cc M11_drawYear) 162 = .ok (.goto 5, 3) := by decide +kernel
theorem d11_drawYear_165 : decode (mm_cc M11_drawYear) 165 = .ok (.bipush 50, 2) := by decide +kernel
theorem d11_drawYear_167 : decode (mm_cc M11_drawYear) 167 = .ok (.iastore, 1) := by decide +kernel
theorem d11_drawYear_168 : decode (mm_cc M11_drawYear) 168 = .ok (.aload_n 0, 1) := by decide +kernel
theorem d11_drawYear_169 : decode (mm_cc M11_drawYear) 169 = .ok (.getfield 51, 3) := by decide +kernel
theorem d11_drawYear_172 : decode (mm_cc M11_drawYear) 172 = .ok (.iload_n 3, 1) := by decide +kernel
theorem d11_drawYear_173 : decode (mm_cc M11_drawYear) 173 = .ok (.aload_n 0, 1) := by decide +kernel
theorem d11_drawYear_174 : decode (mm_cc M11_drawYear) 174 = .ok (.iload_n 3, 1) := by decide +kernel
theorem d11_drawYear_175 : decode (mm_cc M11_drawYear) 175 = .ok (.invokevirtual 150, 3) := by decide +kernel
theorem d11_drawYear_178 : decode (mm_cc M11_drawYear) 178 = .ok (.iastore, 1) := by decide +kernel
theorem d11_drawYear_179 : decode (mm_cc M11_drawYear) 179 = .ok (.iinc 3 1, 3) := by decide +kernel
theorem d11_drawYear_182 : decode (mm_cc M11_drawYear) 182 = .ok (.goto (-92), 3) := by decide +kernel
theorem d11_drawYear_185 : decode (mm_cc M11_drawYear) 185 = .ok (.return_, 1) := by decide +kernel
theorem d11_findRing_0 : decode (mm_cc M11_findRing) 0 = .ok (.iconst 0, 1) := by decide +kernel
theorem d11_findRing_1 : decode (mm_cc M11_findRing) 1 = .ok (.istore_n 1, 1) := by decide +kernel
theorem d11_findRing_2 : decode (mm_cc M11_findRing) 2 = .ok (.aload_n 0, 1) := by decide +kernel
theorem d11_findRing_3 : decode (mm_cc M11_findRing) 3 = .ok (.iconst 0, 1) := by decide +kernel
theorem d11_findRing_4 : decode (mm_cc M11_findRing) 4 = .ok (.putfield 375, 3) := by decide +kernel
theorem d11_findRing_7 : decode (mm_cc M11_findRing) 7 = .ok (.bipush 8, 2) := by decide +kernel
theorem d11_findRing_9 : decode (mm_cc M11_findRing) 9 = .ok (.istore_n 2, 1) := by decide +kernel
theorem d11_findRing_10 : decode (mm_cc M11_findRing) 10 = .ok (.iconst 2, 1) := by decide +kernel
theorem d11_findRing_11 : decode (mm_cc M11_findRing) 11 = .ok (.istore_n 3, 1) := by decide +kernel
theorem d11_findRing_12 : decode (mm_cc M11_findRing) 12 = .ok (.iload_n 3, 1) := by decide +kernel
theorem d11_findRing_13 : decode (mm_cc M11_findRing) 13 = .ok (.iconst 4, 1) := by decide +kernel
theorem d11_findRing_14 : decode (mm_cc M11_findRing) 14 = .ok (.if_icmp .gt 93, 3) := by decide +kernel
theorem d11_findRing_17 : decode (mm_cc M11_findRing) 17 = .ok (.iload_n 2, 1) := by decide +kernel
theorem d11_findRing_18 : decode (mm_cc M11_findRing) 18 = .ok (.bipush 8, 2) := by decide +kernel
theorem d11_findRing_20 : decode (mm_cc M11_findRing) 20 = .ok (.imul, 1) := by decide +kernel
theorem d11_findRing_21 : decode (mm_cc M11_findRing) 21 = .ok (.istore_n 2, 1) := by decide +kernel
theorem d11_findRing_22 : decode (mm_cc M11_findRing) 22 = .ok (.iconst 0, 1) := by decide +kernel
theorem d11_findRing_23 : decode (mm_cc M11_findRing) 23 = .ok (.istore 4, 2) := by decide +kernel
theorem d11_findRing_25 : decode (mm_cc M11_findRing) 25 = .ok (.iload 4, 2) := by decide +kernel
theorem d11_findRing_27 : decode (mm_cc M11_findRing) 27 = .ok (.iload_n 2, 1) := by decide +kernel
theorem d11_findRing_28 : decode (mm_cc M11_findRing) 28 = .ok (.if_icmp .ge 73, 3) := by decide +kernel
theorem d11_findRing_31 : decode (mm_cc M11_findRing) 31 = .ok (.aload_n 0, 1) := by decide +kernel
theorem d11_findRing_32 : decode (mm_cc M11_findRing) 32 = .ok (.iload 4, 2) := by decide +kernel
theorem d11_findRing_34 : decode (mm_cc M11_findRing) 34 = .ok (.iload_n 3, 1) := by decide +kernel
theorem d11_findRing_35 : decode (mm_cc M11_findRing) 35 = .ok (.invokevirtual 378, 3) := by decide +kernel
theorem d11_findRing_38 : decode (mm_cc M11_findRing) 38 = .ok (.ifCond .eq 11, 3) := by decide +kernel
theorem d11_findRing_41 : decode (mm_cc M11_findRing) 41 = .ok (.aload_n 0, 1) := by decide +kernel
theorem d11_findRing_42 : decode (mm_cc M11_findRing) 42 = .ok (.iload_n 3, 1) := by decide +kernel
theorem d11_findRing_43 : decode (mm_cc M11_findRing) 43 = .ok (.invokevirtual 381, 3) := by decide +kernel
theorem d11_findRing_46 : decode (mm_cc M11_findRing) 46 = .ok (.goto 4, 3) := by decide +kernel
theorem d11_findRing_49 : decode (mm_cc M11_findRing) 49 = .ok (.iconst 0, 1) := by decide +kernel
theorem d11_findRing_50 : decode (mm_cc M11_findRing) 50 = .ok (.istore 5, 2) := by decide +kernel
theorem d11_findRing_52 : decode (mm_cc M11_findRing) 52 = .ok (.iload 5, 2) := by decide +kernel
theorem d11_findRing_54 : decode (mm_cc M11_findRing) 54 = .ok (.iload_n 1, 1) := by decide +kernel
theorem d11_findRing_55 : decode (mm_cc M11_findRing) 55 = .ok (.if_icmp .le 40, 3) := by decide +kernel
theorem d11_findRing_58 : decode (mm_cc M11_findRing) 58 = .ok (.iload 5, 2) := by decide +kernel
theorem d11_findRing_60 : decode (mm_cc M11_findRing) 60 = .ok (.istore_n 1, 1) := by decide +kernel
theorem d11_findRing_61 : decode (mm_cc M11_findRing) 61 = .ok (.aload_n 0, 1) := by decide +kernel
theorem d11_findRing_62 : decode (mm_cc M11_findRing) 62 = .ok (.iload_n 3, 1) := by decide +kernel
theorem d11_findRing_63 : decode (mm_cc M11_findRing) 63 = .ok (.putfield 375, 3) := by decide +kernel
theorem d11_findRing_66 : decode (mm_cc M11_findRing) 66 = .ok (.iconst 0, 1) := by decide +kernel
theorem d11_findRing_67 : decode (mm_cc M11_findRing) 67 = .ok (.istore 6, 2) := by decide +kernel
theorem d11_findRing_69 : decode (mm_cc M11_findRing) 69 = .ok (.iload 6, 2) := by decide +kernel
theorem d11_findRing_71 : decode (mm_cc M11_findRing) 71 = .ok (.iload_n 3, 1) := by decide +kernel
theorem d11_findRing_72 : decode (mm_cc M11_findRing) 72 = .ok (.if_icmp .ge 23, 3) := by decide +kernel
theorem d11_findRing_75 : decode (mm_cc M11_findRing) 75 = .ok (.aload_n 0, 1) := by decide +kernel
theorem d11_findRing_76 : decode (mm_cc M11_findRing) 76 = .ok (.getfield 105, 3) := by decide +kernel
theorem d11_findRing_79 : decode (mm_cc M11_findRing) 79 = .ok (.iload 6, 2) := by decide +kernel
theorem d11_findRing_81 : decode (mm_cc M11_findRing) 81 = .ok (.aload_n 0, 1) := by decide +kernel
theorem d11_findRing_82 : decode (mm_cc M11_findRing) 82 = .ok (.getfield 102, 3) := by decide +kernel
theorem d11_findRing_85 : decode (mm_cc M11_findRing) 85 = .ok (.iload 6, 2) := by decide +kernel
theorem d11_findRing_87 : decode (mm_cc M11_findRing) 87 = .ok (.iaload, 1) := by decide +kernel
theorem d11_findRing_88 : decode (mm_cc M11_findRing) 88 = .ok (.iastore, 1) := by decide +kernel
theorem d11_findRing_89 : decode (mm_cc M11_findRing) 89 = .ok (.iinc 6 1, 3) := by decide +kernel
theorem d11_findRing_92 : decode (mm_cc M11_findRing) 92 = .ok (.goto (-23), 3) := by decide +kernel
theorem d11_findRing_95 : decode (mm_cc M11_findRing) 95 = .ok (.iinc 4 1, 3) := by decide +kernel
theorem d11_findRing_98 : decode (mm_cc M11_findRing) 98 = .ok (.goto (-73), 3) := by decide +kernel
theorem d11_findRing_101 : decode (mm_cc M11_findRing) 101 = .ok (.iinc 3 1, 3) := by decide +kernel
theorem d11_findRing_104 : decode (mm_cc M11_findRing) 104 = .ok (.goto (-92), 3) := by decide +kernel
theorem d11_findRing_107 : decode (mm_cc M11_findRing) 107 = .ok (.iload_n 1, 1) := by decide +kernel
theorem d11_findRing_108 : decode (mm_cc M11_findRing) 108 = .ok (.ireturn, 1) := by decide +kernel
theorem d11_laws_0 : decode (mm_cc M11_laws) 0 = .ok (.aload_n 0, 1) := by decide +kernel
theorem d11_laws_1 : decode (mm_cc M11_laws) 1 = .ok (.getfield 157, 3) := by decide +kernel
theorem d11_laws_4 : decode (mm_cc M11_laws) 4 = .ok (.sipush 200, 3) := by decide +kernel
theorem d11_laws_7 : decode (mm_cc M11_laws) 7 = .ok (.if_icmp .le 6, 3) := by decide +kernel
theorem d11_laws_10 : decode (mm_cc M11_laws) 10 = .ok (.ldc 250, 2) := by decide +kernel
theorem d11_laws_12 : decode (mm_cc M11_laws) 12 = .ok (.ireturn, 1) := by decide +kernel
theorem d11_laws_13 : decode (mm_cc M11_laws) 13 = .ok (.aload_n 0, 1) := by decide +kernel
theorem d11_laws_14 : decode (mm_cc M11_laws) 14 = .ok (.iconst (-1), 1) := by decide +kernel
theorem d11_laws_15 : decode (mm_cc M11_laws) 15 = .ok (.putfield 78, 3) := by decide +kernel
theorem d11_laws_18 : decode (mm_cc M11_laws) 18 = .ok (.aload_n 0, 1) := by decide +kernel
theorem d11_laws_19 : decode (mm_cc M11_laws) 19 = .ok (.iconst 0, 1) := by decide +kernel
theorem d11_laws_20 : decode (mm_cc M11_laws) 20 = .ok (.putfield 163, 3) := by decide +kernel
theorem d11_laws_23 : decode (mm_cc M11_laws) 23 = .ok (.iconst 0, 1) := by decide +kernel
theorem d11_laws_24 : decode (mm_cc M11_laws) 24 = .ok (.istore_n 1, 1) := by decide +kernel
theorem d11_laws_25 : decode (mm_cc M11_laws) 25 = .ok (.iload_n 1, 1) := by decide +kernel
theorem d11_laws_26 : decode (mm_cc M11_laws) 26 = .ok (.bipush 6, 2) := by decide +kernel
theorem d11_laws_28 : decode (mm_cc M11_laws) 28 = .ok (.if_icmp .ge 16, 3) := by decide +kernel
theorem d11_laws_31 : decode (mm_cc M11_laws) 31 = .ok (.aload_n 0, 1) := by decide +kernel
theorem d11_laws_32 : decode (mm_cc M11_laws) 32 = .ok (.getfield 93, 3) := by decide +kernel
theorem d11_laws_35 : decode (mm_cc M11_laws) 35 = .ok (.iload_n 1, 1) := by decide +kernel
theorem d11_laws_36 : decode (mm_cc M11_laws) 36 = .ok (.iconst (-1), 1) := by decide +kernel
theorem d11_laws_37 : decode (mm_cc M11_laws) 37 = .ok (.iastore, 1) := by decide +kernel
theorem d11_laws_38 : decode (mm_cc M11_laws) 38 = .ok (.iinc 1 1, 3) := by decide +kernel
theorem d11_laws_41 : decode (mm_cc M11_laws) 41 = .ok (.goto (-16), 3) := by decide +kernel
theorem d11_laws_44 : decode (mm_cc M11_laws) 44 = .ok (.iconst 0, 1) := by decide +kernel
theorem d11_laws_45 : decode (mm_cc M11_laws) 45 = .ok (.istore_n 1, 1) := by decide +kernel
theorem d11_laws_46 : decode (mm_cc M11_laws) 46 = .ok (.iconst 0, 1) := by decide +kernel
theorem d11_laws_47 : decode (mm_cc M11_laws) 47 = .ok (.istore_n 2, 1) := by decide +kernel
theorem d11_laws_48 : decode (mm_cc M11_laws) 48 = .ok (.iload_n 1, 1) := by decide +kernel
theorem d11_laws_49 : decode (mm_cc M11_laws) 49 = .ok (.ifCond .ne 21, 3) := by decide +kernel
theorem d11_laws_52 : decode (mm_cc M11_laws) 52 = .ok (.aload_n 0, 1) := by decide +kernel
theorem d11_laws_53 : decode (mm_cc M11_laws) 53 = .ok (.invokevirtual 166, 3) := by decide +kernel
theorem d11_laws_56 : decode (mm_cc M11_laws) 56 = .ok (.ifCond .lt 14, 3) := by decide +kernel
theorem d11_laws_59 : decode (mm_cc M11_laws) 59 = .ok (.aload_n 0, 1) := by decide +kernel
theorem d11_laws_60 : decode (mm_cc M11_laws) 60 = .ok (.invokevirtual 251, 3) := by decide +kernel
theorem d11_laws_63 : decode (mm_cc M11_laws) 63 = .ok (.istore_n 1, 1) := by decide +kernel
theorem d11_laws_64 : decode (mm_cc M11_laws) 64 = .ok (.iinc 2 1, 3) := by decide +kernel
theorem d11_laws_67 : decode (mm_cc M11_laws) 67 = .ok (.goto (-19), 3) := by decide +kernel
theorem d11_laws_70 : decode (mm_cc M11_laws) 70 = .ok (.aload_n 0, 1) := by decide +kernel
theorem d11_laws_71 : decode (mm_cc M11_laws) 71 = .ok (.iconst 0, 1) := by decide +kernel
theorem d11_laws_72 : decode (mm_cc M11_laws) 72 = .ok (.putfield 157, 3) := by decide +kernel
theorem d11_laws_75 : decode (mm_cc M11_laws) 75 = .ok (.iload_n 1, 1) := by decide +kernel
theorem d11_laws_76 : decode (mm_cc M11_laws) 76 = .ok (.ifCond .le 8, 3) := by decide +kernel
theorem d11_laws_79 : decode (mm_cc M11_laws) 79 = .ok (.bipush (-10), 2) := by decide +kernel
theorem d11_laws_81 : decode (mm_cc M11_laws) 81 = .ok (.iload_n 1, 1) := by decide +kernel
theorem d11_laws_82 : decode (mm_cc M11_laws) 82 = .ok (.isub, 1) := by decide +kernel
theorem d11_laws_83 : decode (mm_cc M11_laws) 83 = .ok (.ireturn, 1) := by decide +kernel
theorem d11_laws_84 : decode (mm_cc M11_laws) 84 = .ok (.aload_n 0, 1) := by decide +kernel
theorem d11_laws_85 : decode (mm_cc M11_laws) 85 = .ok (.aload_n 0, 1) := by decide +kernel
theorem d11_laws_86 : decode (mm_cc M11_laws) 86 = .ok (.getfield 93, 3) := by decide +kernel
theorem d11_laws_89 : decode (mm_cc M11_laws) 89 = .ok (.iconst 0, 1) := by decide +kernel
theorem d11_laws_90 : decode (mm_cc M11_laws) 90 = .ok (.iaload, 1) := by decide +kernel
theorem d11_laws_91 : decode (mm_cc M11_laws) 91 = .ok (.ifCond .ge 7, 3) := by decide +kernel
theorem d11_laws_94 : decode (mm_cc M11_laws) 94 = .ok (.iconst 2, 1) := by decide +kernel
theorem d11_laws_95 : decode (mm_cc M11_laws) 95 = .ok (.goto 9, 3) := by decide +kernel
theorem d11_laws_98 : decode (mm_cc M11_laws) 98 = .ok (.aload_n 0, 1) := by decide +kernel
theorem d11_laws_99 : decode (mm_cc M11_laws) 99 = .ok (.getfield 93, 3) := by decide +kernel
theorem d11_laws_102 : decode (mm_cc M11_laws) 102 = .ok (.iconst 0, 1) := by decide +kernel
theorem d11_laws_103 : decode (mm_cc M11_laws) 103 = .ok (.iaload, 1) := by decide +kernel
theorem d11_laws_104 : decode (mm_cc M11_laws) 104 = .ok (.putfield 22, 3) := by decide +kernel
theorem d11_laws_107 : decode (mm_cc M11_laws) 107 = .ok (.aload_n 0, 1) := by decide +kernel
theorem d11_laws_108 : decode (mm_cc M11_laws) 108 = .ok (.aload_n 0, 1) := by decide +kernel
theorem d11_laws_109 : decode (mm_cc M11_laws) 109 = .ok (.getfield 93, 3) := by decide +kernel
theorem d11_laws_112 : decode (mm_cc M11_laws) 112 = .ok (.iconst 1, 1) := by decide +kernel
theorem d11_laws_113 : decode (mm_cc M11_laws) 113 = .ok (.iaload, 1) := by decide +kernel
theorem d11_laws_114 : decode (mm_cc M11_laws) 114 = .ok (.ifCond .ge 7, 3) := by decide +kernel
theorem d11_laws_117 : decode (mm_cc M11_laws) 117 = .ok (.iconst 2, 1) := by decide +kernel
theorem d11_laws_118 : decode (mm_cc M11_laws) 118 = .ok (.goto 9, 3) := by decide +kernel
theorem d11_laws_121 : decode (mm_cc M11_laws) 121 = .ok (.aload_n 0, 1) := by decide +kernel
theorem d11_laws_122 : decode (mm_cc M11_laws) 122 = .ok (.getfield 93, 3) := by decide +kernel
theorem d11_laws_125 : decode (mm_cc M11_laws) 125 = .ok (.iconst 1, 1) := by decide +kernel
theorem d11_laws_126 : decode (mm_cc M11_laws) 126 = .ok (.iaload, 1) := by decide +kernel
theorem d11_laws_127 : decode (mm_cc M11_laws) 127 = .ok (.putfield 26, 3) := by decide +kernel
theorem d11_laws_130 : decode (mm_cc M11_laws) 130 = .ok (.aload_n 0, 1) := by decide +kernel
theorem d11_laws_131 : decode (mm_cc M11_laws) 131 = .ok (.aload_n 0, 1) := by decide +kernel
theorem d11_laws_132 : decode (mm_cc M11_laws) 132 = .ok (.getfield 93, 3) := by decide +kernel
theorem d11_laws_135 : decode (mm_cc M11_laws) 135 = .ok (.iconst 2, 1) := by decide +kernel
theorem d11_laws_136 : decode (mm_cc M11_laws) 136 = .ok (.iaload, 1) := by decide +kernel
theorem d11_laws_137 : decode (mm_cc M11_laws) 137 = .ok (.ifCond .ge 8, 3) := by decide +kernel
theorem d11_laws_140 : decode (mm_cc M11_laws) 140 = .ok (.bipush 25, 2) := by decide +kernel
theorem d11_laws_142 : decode (mm_cc M11_laws) 142 = .ok (.goto 9, 3) := by decide +kernel
theorem d11_laws_145 : decode (mm_cc M11_laws) 145 = .ok (.aload_n 0, 1) := by decide +kernel
theorem d11_laws_146 : decode (mm_cc M11_laws) 146 = .ok (.getfield 93, 3) := by decide +kernel
theorem d11_laws_149 : decode (mm_cc M11_laws) 149 = .ok (.iconst 2, 1) := by decide +kernel
theorem d11_laws_150 : decode (mm_cc M11_laws) 150 = .ok (.iaload, 1) := by decide +kernel
theorem d11_laws_151 : decode (mm_cc M11_laws) 151 = .ok (.putfield 29, 3) := by decide +kernel
theorem d11_laws_154 : decode (mm_cc M11_laws) 154 = .ok (.aload_n 0, 1) := by decide +kernel
theorem d11_laws_155 : decode (mm_cc M11_laws) 155 = .ok (.aload_n 0, 1) := by decide +kernel
theorem d11_laws_156 : decode (mm_cc M11_laws) 156 = .ok (.getfield 93, 3) := by decide +kernel
theorem d11_laws_159 : decode (mm_cc M11_laws) 159 = .ok (.iconst 3, 1) := by decide +kernel
theorem d11_laws_160 : decode (mm_cc M11_laws) 160 = .ok (.iaload, 1) := by decide +kernel
theorem d11_laws_161 : decode (mm_cc M11_laws) 161 = .ok (.ifCond .ge 7, 3) := by decide +kernel
theorem d11_laws_164 : decode (mm_cc M11_laws) 164 = .ok (.iconst 5, 1) := by decide +kernel
theorem d11_laws_165 : decode (mm_cc M11_laws) 165 = .ok (.goto 9, 3) := by decide +kernel
theorem d11_laws_168 : decode (mm_cc M11_laws) 168 = .ok (.aload_n 0, 1) := by decide +kernel
theorem d11_laws_169 : decode (mm_cc M11_laws) 169 = .ok (.getfield 93, 3) := by decide +kernel
theorem d11_laws_172 : decode (mm_cc M11_laws) 172 = .ok (.iconst 3, 1) := by decide +kernel
theorem d11_laws_173 : decode (mm_cc M11_laws) 173 = .ok (.iaload, 1) := by decide +kernel
theorem d11_laws_174 : decode (mm_cc M11_laws) 174 = .ok (.putfield 32, 3) := by decide +kernel
theorem d11_laws_177 : decode (mm_cc M11_laws) 177 = .ok (.aload_n 0, 1) := by decide +kernel
theorem d11_laws_178 : decode (mm_cc M11_laws) 178 = .ok (.aload_n 0, 1) := by decide +kernel
theorem d11_laws_179 : decode (mm_cc M11_laws) 179 = .ok (.getfield 93, 3) := by decide +kernel
theorem d11_laws_182 : decode (mm_cc M11_laws) 182 = .ok (.iconst 4, 1) := by decide +kernel
theorem d11_laws_183 : decode (mm_cc M11_laws) 183 = .ok (.iaload, 1) := by decide +kernel
theorem d11_laws_184 : decode (mm_cc M11_laws) 184 = .ok (.ifCond .ge 8, 3) := by decide +kernel
theorem d11_laws_187 : decode (mm_cc M11_laws) 187 = .ok (.bipush 70, 2) := by decide +kernel
theorem d11_laws_189 : decode (mm_cc M11_laws) 189 = .ok (.goto 9, 3) := by decide +kernel
theorem d11_laws_192 : decode (mm_cc M11_laws) 192 = .ok (.aload_n 0, 1) := by decide +kernel
theorem d11_laws_193 : decode (mm_cc M11_laws) 193 = .ok (.getfield 93, 3) := by decide +kernel
theorem d11_laws_196 : decode (mm_cc M11_laws) 196 = .ok (.iconst 4, 1) := by decide +kernel
theorem d11_laws_197 : decode (mm_cc M11_laws) 197 = .ok (.iaload, 1) := by decide +kernel
theorem d11_laws_198 : decode (mm_cc M11_laws) 198 = .ok (.putfield 35, 3) := by decide +kernel
theorem d11_laws_201 : decode (mm_cc M11_laws) 201 = .ok (.aload_n 0, 1) := by decide +kernel
theorem d11_laws_202 : decode (mm_cc M11_laws) 202 = .ok (.aload_n 0, 1) := by decide +kernel
theorem d11_laws_203 : decode (mm_cc M11_laws) 203 = .ok (.getfield 93, 3) := by decide +kernel
theorem d11_laws_206 : decode (mm_cc M11_laws) 206 = .ok (.iconst 5, 1) := by decide +kernel
theorem d11_laws_207 : decode (mm_cc M11_laws) 207 = .ok (.iaload, 1) := by decide +kernel
theorem d11_laws_208 : decode (mm_cc M11_laws) 208 = .ok (.ifCond .le 7, 3) := by decide +kernel
theorem d11_laws_211 : decode (mm_cc M11_laws) 211 = .ok (.iconst 1, 1) := by decide +kernel
theorem d11_laws_212 : decode (mm_cc M11_laws) 212 = .ok (.goto 4, 3) := by decide +kernel
theorem d11_laws_215 : decode (mm_cc M11_laws) 215 = .ok (.iconst 0, 1) := by decide +kernel
theorem d11_laws_216 : decode (mm_cc M11_laws) 216 = .ok (.putfield 254, 3) := by decide +kernel
theorem d11_laws_219 : decode (mm_cc M11_laws) 219 = .ok (.iload_n 2, 1) := by decide +kernel
theorem d11_laws_220 : decode (mm_cc M11_laws) 220 = .ok (.ireturn, 1) := by decide +kernel
theorem d11_takeClause_0 : decode (mm_cc M11_takeClause) 0 = .ok (.aload_n 0, 1) := by decide +kernel
theorem d11_takeClause_1 : decode (mm_cc M11_takeClause) 1 = .ok (.invokevirtual 205, 3) := by decide +kernel
theorem d11_takeClause_4 : decode (mm_cc M11_takeClause) 4 = .ok (.aload_n 0, 1) := by decide +kernel
theorem d11_takeClause_5 : decode (mm_cc M11_takeClause) 5 = .ok (.getfield 169, 3) := by decide +kernel
theorem d11_takeClause_8 : decode (mm_cc M11_takeClause) 8 = .ok (.bipush 116, 2) := by decide +kernel
theorem d11_takeClause_10 : decode (mm_cc M11_takeClause) 10 = .ok (.bipush 114, 2) := by decide +kernel
theorem d11_takeClause_12 : decode (mm_cc M11_takeClause) 12 = .ok (.bipush 97, 2) := by decide +kernel
theorem d11_takeClause_14 : decode (mm_cc M11_takeClause) 14 = .ok (.bipush 100, 2) := by decide +kernel
theorem d11_takeClause_16 : decode (mm_cc M11_takeClause) 16 = .ok (.invokestatic 211, 3) := by decide +kernel
theorem d11_takeClause_19 : decode (mm_cc M11_takeClause) 19 = .ok (.bipush 101, 2) := by decide +kernel
theorem d11_takeClause_21 : decode (mm_cc M11_takeClause) 21 = .ok (.invokestatic 215, 3) := by decide +kernel
theorem d11_takeClause_24 : decode (mm_cc M11_takeClause) 24 = .ok (.lcmp, 1) := by decide +kernel
theorem d11_takeClause_25 : decode (mm_cc M11_takeClause) 25 = .ok (.ifCond .ne 7, 3) := by decide +kernel
theorem d11_takeClause_28 : decode (mm_cc M11_takeClause) 28 = .ok (.iconst 0, 1) := by decide +kernel
theorem d11_takeClause_29 : decode (mm_cc M11_takeClause) 29 = .ok (.goto 65, 3) := by decide +kernel
theorem d11_takeClause_32 : decode (mm_cc M11_takeClause) 32 = .ok (.aload_n 0, 1) := by decide +kernel
theorem d11_takeClause_33 : decode (mm_cc M11_takeClause) 33 = .ok (.getfield 169, 3) := by decide +kernel
theorem d11_takeClause_36 : decode (mm_cc M11_takeClause) 36 = .ok (.bipush 112, 2) := by decide +kernel
theorem d11_takeClause_38 : decode (mm_cc M11_takeClause) 38 = .ok (.bipush 101, 2) := by decide +kernel
theorem d11_takeClause_40 : decode (mm_cc M11_takeClause) 40 = .ok (.bipush 114, 2) := by decide +kernel
theorem d11_takeClause_42 : decode (mm_cc M11_takeClause) 42 = .ok (.bipush 115, 2) := by decide +kernel
theorem d11_takeClause_44 : decode (mm_cc M11_takeClause) 44 = .ok (.invokestatic 211, 3) := by decide +kernel
theorem d11_takeClause_47 : decode (mm_cc M11_takeClause) 47 = .ok (.bipush 111, 2) := by decide +kernel
theorem d11_takeClause_49 : decode (mm_cc M11_takeClause) 49 = .ok (.invokestatic 215, 3) := by decide +kernel
theorem d11_takeClause_52 : decode (mm_cc M11_takeClause) 52 = .ok (.bipush 110, 2) := by decide +kernel
theorem d11_takeClause_54 : decode (mm_cc M11_takeClause) 54 = .ok (.invokestatic 215, 3) := by decide +kernel
theorem d11_takeClause_57 : decode (mm_cc M11_takeClause) 57 = .ok (.lcmp, 1) := by decide +kernel
theorem d11_takeClause_58 : decode (mm_cc M11_takeClause) 58 = .ok (.ifCond .ne 7, 3) := by decide +kernel
theorem d11_takeClause_61 : decode (mm_cc M11_takeClause) 61 = .ok (.iconst 1, 1) := by decide +kernel
theorem d11_takeClause_62 : decode (mm_cc M11_takeClause) 62 = .ok (.goto 32, 3) := by decide +kernel
theorem d11_takeClause_65 : decode (mm_cc M11_takeClause) 65 = .ok (.aload_n 0, 1) := by decide +kernel
theorem d11_takeClause_66 : decode (mm_cc M11_takeClause) 66 = .ok (.getfield 169, 3) := by decide +kernel
theorem d11_takeClause_69 : decode (mm_cc M11_takeClause) 69 = .ok (.bipush 108, 2) := by decide +kernel
theorem d11_takeClause_71 : decode (mm_cc M11_takeClause) 71 = .ok (.bipush 105, 2) := by decide +kernel
theorem d11_takeClause_73 : decode (mm_cc M11_takeClause) 73 = .ok (.bipush 107, 2) := by decide +kernel
theorem d11_takeClause_75 : decode (mm_cc M11_takeClause) 75 = .ok (.bipush 101, 2) := by decide +kernel
theorem d11_takeClause_77 : decode (mm_cc M11_takeClause) 77 = .ok (.invokestatic 211, 3) := by decide +kernel
theorem d11_takeClause_80 : decode (mm_cc M11_takeClause) 80 = .ok (.bipush 115, 2) := by decide +kernel
theorem d11_takeClause_82 : decode (mm_cc M11_takeClause) 82 = .ok (.invokestatic 215, 3) := by decide +kernel
theorem d11_takeClause_85 : decode (mm_cc M11_takeClause) 85 = .ok (.lcmp, 1) := by decide +kernel
theorem d11_takeClause_86 : decode (mm_cc M11_takeClause) 86 = .ok (.ifCond .ne 7, 3) := by decide +kernel
theorem d11_takeClause_89 : decode (mm_cc M11_takeClause) 89 = .ok (.iconst 2, 1) := by decide +kernel
theorem d11_takeClause_90 : decode (mm_cc M11_takeClause) 90 = .ok (.goto 4, 3) := by decide +kernel
theorem d11_takeClause_93 : decode (mm_cc M11_takeClause) 93 = .ok (.iconst (-1), 1) := by decide +kernel
theorem d11_takeClause_94 : decode (mm_cc M11_takeClause) 94 = .ok (.istore_n 1, 1) := by decide +kernel
theorem d11_takeClause_95 : decode (mm_cc M11_takeClause) 95 = .ok (.iload_n 1, 1) := by decide +kernel
theorem d11_takeClause_96 : decode (mm_cc M11_takeClause) 96 = .ok (.ifCond .lt 14, 3) := by decide +kernel
theorem d11_takeClause_99 : decode (mm_cc M11_takeClause) 99 = .ok (.iload_n 1, 1) := by decide +kernel
theorem d11_takeClause_100 : decode (mm_cc M11_takeClause) 100 = .ok (.ifCond .ne 20, 3) := by decide +kernel
theorem d11_takeClause_103 : decode (mm_cc M11_takeClause) 103 = .ok (.aload_n 0, 1) := by decide +kernel
theorem d11_takeClause_104 : decode (mm_cc M11_takeClause) 104 = .ok (.getfield 223, 3) := by decide +kernel
theorem d11_takeClause_107 : decode (mm_cc M11_takeClause) 107 = .ok (.ifCond .le 13, 3) := by decide +kernel
theorem d11_takeClause_110 : decode (mm_cc M11_takeClause) 110 = .ok (.aload_n 0, 1) := by decide +kernel
theorem d11_takeClause_111 : decode (mm_cc M11_takeClause) 111 = .ok (.iconst 1, 1) := by decide +kernel
theorem d11_takeClause_112 : decode (mm_cc M11_takeClause) 112 = .ok (.aload_n 0, 1) := by decide +kernel
theorem d11_takeClause_113 : decode (mm_cc M11_takeClause) 113 = .ok (.getfield 163, 3) := by decide +kernel
theorem d11_takeClause_116 : decode (mm_cc M11_takeClause) 116 = .ok (.invokevirtual 192, 3) := by decide +kernel
theorem d11_takeClause_119 : decode (mm_cc M11_takeClause) 119 = .ok (.ireturn, 1) := by decide +kernel
theorem d11_takeClause_120 : decode (mm_cc M11_takeClause) 120 = .ok (.iload_n 1, 1) := by decide +kernel
theorem d11_takeClause_121 : decode (mm_cc M11_takeClause) 121 = .ok (.ifCond .ne 15, 3) := by decide +kernel
theorem d11_takeClause_124 : decode (mm_cc M11_takeClause) 124 = .ok (.aload_n 0, 1) := by decide +kernel
theorem d11_takeClause_125 : decode (mm_cc M11_takeClause) 125 = .ok (.getfield 208, 3) := by decide +kernel
theorem d11_takeClause_128 : decode (mm_cc M11_takeClause) 128 = .ok (.bipush 6, 2) := by decide +kernel
theorem d11_takeClause_130 : decode (mm_cc M11_takeClause) 130 = .ok (.if_icmp .ne 42, 3) := by decide +kernel
theorem d11_takeClause_133 : decode (mm_cc M11_takeClause) 133 = .ok (.goto 29, 3) := by decide +kernel
theorem d11_takeClause_136 : decode (mm_cc M11_takeClause) 136 = .ok (.iload_n 1, 1) := by decide +kernel
theorem d11_takeClause_137 : decode (mm_cc M11_takeClause) 137 = .ok (.iconst 1, 1) := by decide +kernel
theorem d11_takeClause_138 : decode (mm_cc M11_takeClause) 138 = .ok (.if_icmp .ne 15, 3) := by decide +kernel
theorem d11_takeClause_141 : decode (mm_cc M11_takeClause) 141 = .ok (.aload_n 0, 1) := by decide +kernel
theorem d11_takeClause_142 : decode (mm_cc M11_takeClause) 142 = .ok (.getfield 223, 3) := by decide +kernel
theorem d11_takeClause_145 : decode (mm_cc M11_takeClause) 145 = .ok (.bipush 8, 2) := by decide +kernel
theorem d11_takeClause_147 : decode (mm_cc M11_takeClause) 147 = .ok (.if_icmp .ne 25, 3) := by decide +kernel
theorem d11_takeClause_150 : decode (mm_cc M11_takeClause) 150 = .ok (.goto 12, 3) := by decide +kernel
theorem d11_takeClause_153 : decode (mm_cc M11_takeClause) 153 = .ok (.aload_n 0, 1) := by decide +kernel
theorem d11_takeClause_154 : decode (mm_cc M11_takeClause) 154 = .ok (.getfield 226, 3) := by decide +kernel
theorem d11_takeClause_157 : decode (mm_cc M11_takeClause) 157 = .ok (.bipush 40, 2) := by decide +kernel
theorem d11_takeClause_159 : decode (mm_cc M11_takeClause) 159 = .ok (.if_icmp .ne 13, 3) := by decide +kernel
theorem d11_takeClause_162 : decode (mm_cc M11_takeClause) 162 = .ok (.aload_n 0, 1) := by decide +kernel
theorem d11_takeClause_163 : decode (mm_cc M11_takeClause) 163 = .ok (.iconst 3, 1) := by decide +kernel
theorem d11_takeClause_164 : decode (mm_cc M11_takeClause) 164 = .ok (.aload_n 0, 1) := by decide +kernel
theorem d11_takeClause_165 : decode (mm_cc M11_takeClause) 165 = .ok (.getfield 163, 3) := by decide +kernel
theorem d11_takeClause_168 : decode (mm_cc M11_takeClause) 168 = .ok (.invokevirtual 192, 3) := by decide +kernel
theorem d11_takeClause_171 : decode (mm_cc M11_takeClause) 171 = .ok (.ireturn, 1) := by decide +kernel
theorem d11_takeClause_172 : decode (mm_cc M11_takeClause) 172 = .ok (.aload_n 0, 1) := by decide +kernel
theorem d11_takeClause_173 : decode (mm_cc M11_takeClause) 173 = .ok (.aload_n 0, 1) := by decide +kernel
theorem d11_takeClause_174 : decode (mm_cc M11_takeClause) 174 = .ok (.getfield 173, 3) := by decide +kernel
theorem d11_takeClause_177 : decode (mm_cc M11_takeClause) 177 = .ok (.putfield 163, 3) := by decide +kernel
theorem d11_takeClause_180 : decode (mm_cc M11_takeClause) 180 = .ok (.iload_n 1, 1) := by decide +kernel
theorem d11_takeClause_181 : decode (mm_cc M11_takeClause) 181 = .ok (.ifCond .ne 10, 3) := by decide +kernel
theorem d11_takeClause_184 : decode (mm_cc M11_takeClause) 184 = .ok (.aload_n 0, 1) := by decide +kernel
theorem d11_takeClause_185 : decode (mm_cc M11_takeClause) 185 = .ok (.invokevirtual 229, 3) := by decide +kernel
theorem d11_takeClause_188 : decode (mm_cc M11_takeClause) 188 = .ok (.goto 19, 3) := by decide +kernel
theorem d11_takeClause_191 : decode (mm_cc M11_takeClause) 191 = .ok (.iload_n 1, 1) := by decide +kernel
theorem d11_takeClause_192 : decode (mm_cc M11_takeClause) 192 = .ok (.iconst 1, 1) := by decide +kernel
theorem d11_takeClause_193 : decode (mm_cc M11_takeClause) 193 = .ok (.if_icmp .ne 10, 3) := by decide +kernel
theorem d11_takeClause_196 : decode (mm_cc M11_takeClause) 196 = .ok (.aload_n 0, 1) := by decide +kernel
theorem d11_takeClause_197 : decode (mm_cc M11_takeClause) 197 = .ok (.invokevirtual 232, 3) := by decide +kernel
theorem d11_takeClause_200 : decode (mm_cc M11_takeClause) 200 = .ok (.goto 7, 3) := by decide +kernel
theorem d11_takeClause_203 : decode (mm_cc M11_takeClause) 203 = .ok (.aload_n 0, 1) := by decide +kernel
theorem d11_takeClause_204 : decode (mm_cc M11_takeClause) 204 = .ok (.invokevirtual 235, 3) := by decide +kernel
theorem d11_takeClause_207 : decode (mm_cc M11_takeClause) 207 = .ok (.istore_n 2, 1) := by decide +kernel
theorem d11_takeClause_208 : decode (mm_cc M11_takeClause) 208 = .ok (.iload_n 2, 1) := by decide +kernel
theorem d11_takeClause_209 : decode (mm_cc M11_takeClause) 209 = .ok (.ifCond .le 7, 3) := by decide +kernel
theorem d11_takeClause_212 : decode (mm_cc M11_takeClause) 212 = .ok (.iload_n 2, 1) := by decide +kernel
theorem d11_takeClause_213 : decode (mm_cc M11_takeClause) 213 = .ok (.goto 7, 3) := by decide +kernel
theorem d11_takeClause_216 : decode (mm_cc M11_takeClause) 216 = .ok (.aload_n 0, 1) := by decide +kernel
theorem d11_takeClause_217 : decode (mm_cc M11_takeClause) 217 = .ok (.invokevirtual 238, 3) := by decide +kernel
theorem d11_takeClause_220 : decode (mm_cc M11_takeClause) 220 = .ok (.ireturn, 1) := by decide +kernel
theorem d11_till_0 : decode (mm_cc M11_till) 0 = .ok (.aload_n 0, 1) := by decide +kernel
theorem d11_till_1 : decode (mm_cc M11_till) 1 = .ok (.iload_n 1, 1) := by decide +kernel
theorem d11_till_2 : decode (mm_cc M11_till) 2 = .ok (.invokevirtual 267, 3) := by decide +kernel
theorem d11_till_5 : decode (mm_cc M11_till) 5 = .ok (.ifCond .ne 7, 3) := by decide +kernel
theorem d11_till_8 : decode (mm_cc M11_till) 8 = .ok (.ldc_w 271, 3) := by decide +kernel
theorem d11_till_11 : decode (mm_cc M11_till) 11 = .ok (.ireturn, 1) := by decide +kernel
theorem d11_till_12 : decode (mm_cc M11_till) 12 = .ok (.aload_n 0, 1) := by decide +kernel
theorem d11_till_13 : decode (mm_cc M11_till) 13 = .ok (.iconst 2, 1) := by decide +kernel
theorem d11_till_14 : decode (mm_cc M11_till) 14 = .ok (.invokevirtual 348, 3) := by decide +kernel
theorem d11_till_17 : decode (mm_cc M11_till) 17 = .ok (.iconst 0, 1) := by decide +kernel
theorem d11_till_18 : decode (mm_cc M11_till) 18 = .ok (.istore_n 2, 1) := by decide +kernel
theorem d11_till_19 : decode (mm_cc M11_till) 19 = .ok (.iload_n 2, 1) := by decide +kernel
theorem d11_till_20 : decode (mm_cc M11_till) 20 = .ok (.sipush 200, 3) := by decide +kernel
theorem d11_till_23 : decode (mm_cc M11_till) 23 = .ok (.if_icmp .ge 24, 3) := by decide +kernel
theorem d11_till_26 : decode (mm_cc M11_till) 26 = .ok (.aload_n 0, 1) := by decide +kernel
theorem d11_till_27 : decode (mm_cc M11_till) 27 = .ok (.iload_n 1, 1) := by decide +kernel
theorem d11_till_28 : decode (mm_cc M11_till) 28 = .ok (.bipush 50, 2) := by decide +kernel
theorem d11_till_30 : decode (mm_cc M11_till) 30 = .ok (.invokevirtual 258, 3) := by decide +kernel
theorem d11_till_33 : decode (mm_cc M11_till) 33 = .ok (.ifCond .eq 14, 3) := by decide +kernel
theorem d11_till_36 : decode (mm_cc M11_till) 36 = .ok (.aload_n 0, 1) := by decide +kernel
theorem d11_till_37 : decode (mm_cc M11_till) 37 = .ok (.invokevirtual 330, 3) := by decide +kernel
theorem d11_till_40 : decode (mm_cc M11_till) 40 = .ok (.istore_n 3, 1) := by decide +kernel
theorem d11_till_41 : decode (mm_cc M11_till) 41 = .ok (.iinc 2 1, 3) := by decide +kernel
theorem d11_till_44 : decode (mm_cc M11_till) 44 = .ok (.goto (-25), 3) := by decide +kernel
theorem d11_till_47 : decode (mm_cc M11_till) 47 = .ok (.aload_n 0, 1) := by decide +kernel
theorem d11_till_48 : decode (mm_cc M11_till) 48 = .ok (.iconst 2, 1) := by decide +kernel
theorem d11_till_49 : decode (mm_cc M11_till) 49 = .ok (.invokevirtual 351, 3) := by decide +kernel
theorem d11_till_52 : decode (mm_cc M11_till) 52 = .ok (.iload_n 2, 1) := by decide +kernel
theorem d11_till_53 : decode (mm_cc M11_till) 53 = .ok (.ireturn, 1) := by decide +kernel
theorem d11_year_0 : decode (mm_cc M11_year) 0 = .ok (.iload_n 1, 1) := by decide +kernel
theorem d11_year_1 : decode (mm_cc M11_year) 1 = .ok (.i2l, 1) := by decide +kernel
theorem d11_year_2 : decode (mm_cc M11_year) 2 = .ok (.lconst 1, 1) := by decide +kernel
theorem d11_year_3 : decode (mm_cc M11_year) 3 = .ok (.ldc2_w 328, 3) := by decide +kernel
theorem d11_year_6 : decode (mm_cc M11_year) 6 = .ok (.invokestatic 136, 3) := by decide +kernel
theorem d11_year_9 : decode (mm_cc M11_year) 9 = .ok (.ifCond .ne 6, 3) := by decide +kernel
theorem d11_year_12 : decode (mm_cc M11_year) 12 = .ok (.ldc 156, 2) := by decide +kernel
theorem d11_year_14 : decode (mm_cc M11_year) 14 = .ok (.ireturn, 1) := by decide +kernel
theorem d11_year_15 : decode (mm_cc M11_year) 15 = .ok (.iconst 0, 1) := by decide +kernel
theorem d11_year_16 : decode (mm_cc M11_year) 16 = .ok (.istore_n 2, 1) := by decide +kernel
theorem d11_year_17 : decode (mm_cc M11_year) 17 = .ok (.iload_n 2, 1) := by decide +kernel
theorem d11_year_18 : decode (mm_cc M11_year) 18 = .ok (.iload_n 1, 1) := by decide +kernel
theorem d11_year_19 : decode (mm_cc M11_year) 19 = .ok (.if_icmp .ge 14, 3) := by decide +kernel
theorem d11_year_22 : decode (mm_cc M11_year) 22 = .ok (.aload_n 0, 1) := by decide +kernel
theorem d11_year_23 : decode (mm_cc M11_year) 23 = .ok (.invokevirtual 330, 3) := by decide +kernel
theorem d11_year_26 : decode (mm_cc M11_year) 26 = .ok (.istore_n 3, 1) := by decide +kernel
theorem d11_year_27 : decode (mm_cc M11_year) 27 = .ok (.iinc 2 1, 3) := by decide +kernel
theorem d11_year_30 : decode (mm_cc M11_year) 30 = .ok (.goto (-13), 3) := by decide +kernel
theorem d11_year_33 : decode (mm_cc M11_year) 33 = .ok (.aload_n 0, 1) := by decide +kernel
theorem d11_year_34 : decode (mm_cc M11_year) 34 = .ok (.invokevirtual 261, 3) := by decide +kernel
theorem d11_year_37 : decode (mm_cc M11_year) 37 = .ok (.ireturn, 1) := by decide +kernel
theorem d2_passYearOf_0 : decode (mm_cc M2_passYearOf) 0 = .ok (.aload_n 0, 1) := by decide +kernel
theorem d2_passYearOf_1 : decode (mm_cc M2_passYearOf) 1 = .ok (.getfield 19, 3) := by decide +kernel
theorem d2_passYearOf_4 : decode (mm_cc M2_passYearOf) 4 = .ok (.getfield 147, 3) := by decide +kernel
theorem d2_passYearOf_7 : decode (mm_cc M2_passYearOf) 7 = .ok (.iload_n 1, 1) := by decide +kernel
theorem d2_passYearOf_8 : decode (mm_cc M2_passYearOf) 8 = .ok (.invokevirtual 96, 3) := by decide +kernel
theorem d2_passYearOf_11 : decode (mm_cc M2_passYearOf) 11 = .ok (.istore_n 2, 1) := by decide +kernel
theorem d2_passYearOf_12 : decode (mm_cc M2_passYearOf) 12 = .ok (.aload_n 0, 1) := by decide +kernel
theorem d2_passYearOf_13 : decode (mm_cc M2_passYearOf) 13 = .ok (.getfield 9, 3) := by decide +kernel
theorem d2_passYearOf_16 : decode (mm_cc M2_passYearOf) 16 = .ok (.getfield 150, 3) := by decide +kernel
theorem d2_passYearOf_19 : decode (mm_cc M2_passYearOf) 19 = .ok (.iload_n 2, 1) := by decide +kernel
theorem d2_passYearOf_20 : decode (mm_cc M2_passYearOf) 20 = .ok (.invokevirtual 96, 3) := by decide +kernel
theorem d2_passYearOf_23 : decode (mm_cc M2_passYearOf) 23 = .ok (.aload_n 0, 1) := by decide +kernel
theorem d2_passYearOf_24 : decode (mm_cc M2_passYearOf) 24 = .ok (.getfield 19, 3) := by decide +kernel
theorem d2_passYearOf_27 : decode (mm_cc M2_passYearOf) 27 = .ok (.iload_n 1, 1) := by decide +kernel
theorem d2_passYearOf_28 : decode (mm_cc M2_passYearOf) 28 = .ok (.iload_n 2, 1) := by decide +kernel
theorem d2_passYearOf_29 : decode (mm_cc M2_passYearOf) 29 = .ok (.invokevirtual 119, 3) := by decide +kernel
theorem d2_passYearOf_32 : decode (mm_cc M2_passYearOf) 32 = .ok (.imul, 1) := by decide +kernel
theorem d2_passYearOf_33 : decode (mm_cc M2_passYearOf) 33 = .ok (.bipush 100, 2) := by decide +kernel
theorem d2_passYearOf_35 : decode (mm_cc M2_passYearOf) 35 = .ok (.idiv, 1) := by decide +kernel
theorem d2_passYearOf_36 : decode (mm_cc M2_passYearOf) 36 = .ok (.istore_n 3, 1) := by decide +kernel
theorem d2_passYearOf_37 : decode (mm_cc M2_passYearOf) 37 = .ok (.aload_n 0, 1) := by decide +kernel
theorem d2_passYearOf_38 : decode (mm_cc M2_passYearOf) 38 = .ok (.getfield 19, 3) := by decide +kernel
theorem d2_passYearOf_41 : decode (mm_cc M2_passYearOf) 41 = .ok (.getfield 153, 3) := by decide +kernel
theorem d2_passYearOf_44 : decode (mm_cc M2_passYearOf) 44 = .ok (.iload_n 1, 1) := by decide +kernel
theorem d2_passYearOf_45 : decode (mm_cc M2_passYearOf) 45 = .ok (.aload_n 0, 1) := by decide +kernel
theorem d2_passYearOf_46 : decode (mm_cc M2_passYearOf) 46 = .ok (.getfield 19, 3) := by decide +kernel
theorem d2_passYearOf_49 : decode (mm_cc M2_passYearOf) 49 = .ok (.getfield 153, 3) := by decide +kernel
theorem d2_passYearOf_52 : decode (mm_cc M2_passYearOf) 52 = .ok (.iload_n 1, 1) := by decide +kernel
theorem d2_passYearOf_53 : decode (mm_cc M2_passYearOf) 53 = .ok (.invokevirtual 96, 3) := by decide +kernel
theorem d2_passYearOf_56 : decode (mm_cc M2_passYearOf) 56 = .ok (.iload_n 3, 1) := by decide +kernel
theorem d2_passYearOf_57 : decode (mm_cc M2_passYearOf) 57 = .ok (.iadd, 1) := by decide +kernel
theorem d2_passYearOf_58 : decode (mm_cc M2_passYearOf) 58 = .ok (.invokevirtual 85, 3) := by decide +kernel
theorem d2_passYearOf_61 : decode (mm_cc M2_passYearOf) 61 = .ok (.iconst 0, 1) := by decide +kernel
theorem d2_passYearOf_62 : decode (mm_cc M2_passYearOf) 62 = .ok (.istore 4, 2) := by decide +kernel
theorem d2_passYearOf_64 : decode (mm_cc M2_passYearOf) 64 = .ok (.iload 4, 2) := by decide +kernel
theorem d2_passYearOf_66 : decode (mm_cc M2_passYearOf) 66 = .ok (.aload_n 0, 1) := by decide +kernel
theorem d2_passYearOf_67 : decode (mm_cc M2_passYearOf) 67 = .ok (.getfield 9, 3) := by decide +kernel
theorem d2_passYearOf_70 : decode (mm_cc M2_passYearOf) 70 = .ok (.getfield 23, 3) := by decide +kernel
theorem d2_passYearOf_73 : decode (mm_cc M2_passYearOf) 73 = .ok (.if_icmp .ge 96, 3) := by decide +kernel
theorem d2_passYearOf_76 : decode (mm_cc M2_passYearOf) 76 = .ok (.aload_n 0, 1) := by decide +kernel
theorem d2_passYearOf_77 : decode (mm_cc M2_passYearOf) 77 = .ok (.getfield 19, 3) := by decide +kernel
theorem d2_passYearOf_80 : decode (mm_cc M2_passYearOf) 80 = .ok (.getfield 81, 3) := by decide +kernel
theorem d2_passYearOf_83 : decode (mm_cc M2_passYearOf) 83 = .ok (.iload_n 1, 1) := by decide +kernel
theorem d2_passYearOf_84 : decode (mm_cc M2_passYearOf) 84 = .ok (.invokevirtual 96, 3) := by decide +kernel
theorem d2_passYearOf_87 : decode (mm_cc M2_passYearOf) 87 = .ok (.iload 4, 2) := by decide +kernel
theorem d2_passYearOf_89 : decode (mm_cc M2_passYearOf) 89 = .ok (.if_icmp .ne 7, 3) := by decide +kernel
theorem d2_passYearOf_92 : decode (mm_cc M2_passYearOf) 92 = .ok (.iconst 1, 1) := by decide +kernel
theorem d2_passYearOf_93 : decode (mm_cc M2_passYearOf) 93 = .ok (.goto 4, 3) := by decide +kernel
theorem d2_passYearOf_96 : decode (mm_cc M2_passYearOf) 96 = .ok (.iconst 0, 1) := by decide +kernel
theorem d2_passYearOf_97 : decode (mm_cc M2_passYearOf) 97 = .ok (.istore 5, 2) := by decide +kernel
theorem d2_passYearOf_99 : decode (mm_cc M2_passYearOf) 99 = .ok (.aload_n 0, 1) := by decide +kernel
theorem d2_passYearOf_100 : decode (mm_cc M2_passYearOf) 100 = .ok (.getfield 19, 3) := by decide +kernel
theorem d2_passYearOf_103 : decode (mm_cc M2_passYearOf) 103 = .ok (.getfield 93, 3) := by decide +kernel
theorem d2_passYearOf_106 : decode (mm_cc M2_passYearOf) 106 = .ok (.iload_n 1, 1) := by decide +kernel
theorem d2_passYearOf_107 : decode (mm_cc M2_passYearOf) 107 = .ok (.invokevirtual 96, 3) := by decide +kernel
theorem d2_passYearOf_110 : decode (mm_cc M2_passYearOf) 110 = .ok (.iload 4, 2) := by decide +kernel
theorem d2_passYearOf_112 : decode (mm_cc M2_passYearOf) 112 = .ok (.if_icmp .ne 7, 3) := by decide +kernel
theorem d2_passYearOf_115 : decode (mm_cc M2_passYearOf) 115 = .ok (.iconst 1, 1) := by decide +kernel
theorem d2_passYearOf_116 : decode (mm_cc M2_passYearOf) 116 = .ok (.goto 4, 3) := by decide +kernel
theorem d2_passYearOf_119 : decode (mm_cc M2_passYearOf) 119 = .ok (.iconst 0, 1) := by decide +kernel
theorem d2_passYearOf_120 : decode (mm_cc M2_passYearOf) 120 = .ok (.istore 6, 2) := by decide +kernel
theorem d2_passYearOf_122 : decode (mm_cc M2_passYearOf) 122 = .ok (.iload 5, 2) := by decide +kernel
theorem d2_passYearOf_124 : decode (mm_cc M2_passYearOf) 124 = .ok (.ifCond .eq 10, 3) := by decide +kernel
theorem d2_passYearOf_127 : decode (mm_cc M2_passYearOf) 127 = .ok (.aload_n 0, 1) := by decide +kernel
theorem d2_passYearOf_128 : decode (mm_cc M2_passYearOf) 128 = .ok (.iload_n 1, 1) := by decide +kernel
theorem d2_passYearOf_129 : decode (mm_cc M2_passYearOf) 129 = .ok (.iload 4, 2) := by decide +kernel
theorem d2_passYearOf_131 : decode (mm_cc M2_passYearOf) 131 = .ok (.invokevirtual 156, 3) := by decide +kernel
theorem d2_passYearOf_134 : decode (mm_cc M2_passYearOf) 134 = .ok (.iload 6, 2) := by decide +kernel
theorem d2_passYearOf_136 : decode (mm_cc M2_passYearOf) 136 = .ok (.ifCond .eq 10, 3) := by decide +kernel
theorem d2_passYearOf_139 : decode (mm_cc M2_passYearOf) 139 = .ok (.aload_n 0, 1) := by decide +kernel
theorem d2_passYearOf_140 : decode (mm_cc M2_passYearOf) 140 = .ok (.iload_n 1, 1) := by decide +kernel
theorem d2_passYearOf_141 : decode (mm_cc M2_passYearOf) 141 = .ok (.iload 4, 2) := by decide +kernel
theorem d2_passYearOf_143 : decode (mm_cc M2_passYearOf) 143 = .ok (.invokevirtual 159, 3) := by decide +kernel
theorem d2_passYearOf_146 : decode (mm_cc M2_passYearOf) 146 = .ok (.iload 5, 2) := by decide +kernel
theorem d2_passYearOf_148 : decode (mm_cc M2_passYearOf) 148 = .ok (.ifCond .ne 15, 3) := by decide +kernel
theorem d2_passYearOf_151 : decode (mm_cc M2_passYearOf) 151 = .ok (.iload 6, 2) := by decide +kernel
theorem d2_passYearOf_153 : decode (mm_cc M2_passYearOf) 153 = .ok (.ifCond .ne 10, 3) := by decide +kernel
theorem d2_passYearOf_156 : decode (mm_cc M2_passYearOf) 156 = .ok (.aload_n 0, 1) := by decide +kernel
theorem d2_passYearOf_157 : decode (mm_cc M2_passYearOf) 157 = .ok (.iload_n 1, 1) := by decide +kernel
theorem d2_passYearOf_158 : decode (mm_cc M2_passYearOf) 158 = .ok (.iload 4, 2) := by decide +kernel
theorem d2_passYearOf_160 : decode (mm_cc M2_passYearOf) 160 = .ok (.invokevirtual 162, 3) := by decide +kernel
theorem d2_passYearOf_163 : decode (mm_cc M2_passYearOf) 163 = .ok (.iinc 4 1, 3) := by decide +kernel
theorem d2_passYearOf_166 : decode (mm_cc M2_passYearOf) 166 = .ok (.goto (-102), 3) := by decide +kernel
theorem d2_passYearOf_169 : decode (mm_cc M2_passYearOf) 169 = .ok (.aload_n 0, 1) := by decide +kernel
theorem d2_passYearOf_170 : decode (mm_cc M2_passYearOf) 170 = .ok (.getfield 19, 3) := by decide +kernel
theorem d2_passYearOf_173 : decode (mm_cc M2_passYearOf) 173 = .ok (.getfield 165, 3) := by decide +kernel
theorem d2_passYearOf_176 : decode (mm_cc M2_passYearOf) 176 = .ok (.iload_n 1, 1) := by decide +kernel
theorem d2_passYearOf_177 : decode (mm_cc M2_passYearOf) 177 = .ok (.aload_n 0, 1) := by decide +kernel
theorem d2_passYearOf_178 : decode (mm_cc M2_passYearOf) 178 = .ok (.getfield 19, 3) := by decide +kernel
theorem d2_passYearOf_181 : decode (mm_cc M2_passYearOf) 181 = .ok (.getfield 165, 3) := by decide +kernel
theorem d2_passYearOf_184 : decode (mm_cc M2_passYearOf) 184 = .ok (.iload_n 1, 1) := by decide +kernel
theorem d2_passYearOf_185 : decode (mm_cc M2_passYearOf) 185 = .ok (.invokevirtual 96, 3) := by decide +kernel
theorem d2_passYearOf_188 : decode (mm_cc M2_passYearOf) 188 = .ok (.iconst 1, 1) := by decide +kernel
theorem d2_passYearOf_189 : decode (mm_cc M2_passYearOf) 189 = .ok (.iadd, 1) := by decide +kernel
theorem d2_passYearOf_190 : decode (mm_cc M2_passYearOf) 190 = .ok (.invokevirtual 85, 3) := by decide +kernel
theorem d2_passYearOf_193 : decode (mm_cc M2_passYearOf) 193 = .ok (.aload_n 0, 1) := by decide +kernel
theorem d2_passYearOf_194 : decode (mm_cc M2_passYearOf) 194 = .ok (.getfield 19, 3) := by decide +kernel
theorem d2_passYearOf_197 : decode (mm_cc M2_passYearOf) 197 = .ok (.getfield 165, 3) := by decide +kernel
theorem d2_passYearOf_200 : decode (mm_cc M2_passYearOf) 200 = .ok (.iload_n 1, 1) := by decide +kernel
theorem d2_passYearOf_201 : decode (mm_cc M2_passYearOf) 201 = .ok (.invokevirtual 96, 3) := by decide +kernel
theorem d2_passYearOf_204 : decode (mm_cc M2_passYearOf) 204 = .ok (.aload_n 0, 1) := by decide +kernel
theorem d2_passYearOf_205 : decode (mm_cc M2_passYearOf) 205 = .ok (.getfield 15, 3) := by decide +kernel
theorem d2_passYearOf_208 : decode (mm_cc M2_passYearOf) 208 = .ok (.getfield 168, 3) := by decide +kernel
theorem d2_passYearOf_211 : decode (mm_cc M2_passYearOf) 211 = .ok (.if_icmp .lt 31, 3) := by decide +kernel
theorem d2_passYearOf_214 : decode (mm_cc M2_passYearOf) 214 = .ok (.aload_n 0, 1) := by decide +kernel
theorem d2_passYearOf_215 : decode (mm_cc M2_passYearOf) 215 = .ok (.getfield 19, 3) := by decide +kernel
theorem d2_passYearOf_218 : decode (mm_cc M2_passYearOf) 218 = .ok (.iload_n 1, 1) := by decide +kernel
theorem d2_passYearOf_219 : decode (mm_cc M2_passYearOf) 219 = .ok (.invokevirtual 171, 3) := by decide +kernel
theorem d2_passYearOf_222 : decode (mm_cc M2_passYearOf) 222 = .ok (.aload_n 0, 1) := by decide +kernel
theorem d2_passYearOf_223 : decode (mm_cc M2_passYearOf) 223 = .ok (.getfield 19, 3) := by decide +kernel
theorem d2_passYearOf_226 : decode (mm_cc M2_passYearOf) 226 = .ok (.dup, 1) := by decide +kernel
theorem d2_passYearOf_227 : decode (mm_cc M2_passYearOf) 227 = .ok (.getfield 134, 3) := by decide +kernel
theorem d2_passYearOf_230 : decode (mm_cc M2_passYearOf) 230 = .ok (.iconst 1, 1) := by decide +kernel
theorem d2_passYearOf_231 : decode (mm_cc M2_passYearOf) 231 = .ok (.iload_n 1, 1) := by decide +kernel
theorem d2_passYearOf_232 : decode (mm_cc M2_passYearOf) 232 = .ok (.ishl, 1) := by decide +kernel
theorem d2_passYearOf_233 : decode (mm_cc M2_passYearOf) 233 = .ok (.iconst (-1), 1) := by decide +kernel
theorem d2_passYearOf_234 : decode (mm_cc M2_passYearOf) 234 = .ok (.ixor, 1) := by decide +kernel
theorem d2_passYearOf_235 : decode (mm_cc M2_passYearOf) 235 = .ok (.iand, 1) := by decide +kernel
theorem d2_passYearOf_236 : decode (mm_cc M2_passYearOf) 236 = .ok (.putfield 134, 3) := by decide +kernel
theorem d2_passYearOf_239 : decode (mm_cc M2_passYearOf) 239 = .ok (.goto 34, 3) := by decide +kernel
theorem d2_passYearOf_242 : decode (mm_cc M2_passYearOf) 242 = .ok (.aload_n 0, 1) := by decide +kernel
theorem d2_passYearOf_243 : decode (mm_cc M2_passYearOf) 243 = .ok (.getfield 19, 3) := by decide +kernel
theorem d2_passYearOf_246 : decode (mm_cc M2_passYearOf) 246 = .ok (.iload_n 1, 1) := by decide +kernel
theorem d2_passYearOf_247 : decode (mm_cc M2_passYearOf) 247 = .ok (.iload_n 2, 1) := by decide +kernel
theorem d2_passYearOf_248 : decode (mm_cc M2_passYearOf) 248 = .ok (.invokevirtual 49, 3) := by decide +kernel
theorem d2_passYearOf_251 : decode (mm_cc M2_passYearOf) 251 = .ok (.ifCond .ne 22, 3) := by decide +kernel
theorem d2_passYearOf_254 : decode (mm_cc M2_passYearOf) 254 = .ok (.aload_n 0, 1) := by decide +kernel
theorem d2_passYearOf_255 : decode (mm_cc M2_passYearOf) 255 = .ok (.getfield 19, 3) := by decide +kernel
theorem d2_passYearOf_258 : decode (mm_cc M2_passYearOf) 258 = .ok (.getfield 147, 3) := by decide +kernel
theorem d2_passYearOf_261 : decode (mm_cc M2_passYearOf) 261 = .ok (.iload_n 1, 1) := by decide +kernel
theorem d2_passYearOf_262 : decode (mm_cc M2_passYearOf) 262 = .ok (.aload_n 0, 1) := by decide +kernel
theorem d2_passYearOf_263 : decode (mm_cc M2_passYearOf) 263 = .ok (.getfield 19, 3) := by decide +kernel
theorem d2_passYearOf_266 : decode (mm_cc M2_passYearOf) 266 = .ok (.iload_n 1, 1) := by decide +kernel
theorem d2_passYearOf_267 : decode (mm_cc M2_passYearOf) 267 = .ok (.invokevirtual 174, 3) := by decide +kernel
theorem d2_passYearOf_270 : decode (mm_cc M2_passYearOf) 270 = .ok (.invokevirtual 85, 3) := by decide +kernel
theorem d2_passYearOf_273 : decode (mm_cc M2_passYearOf) 273 = .ok (.return_, 1) := by decide +kernel
theorem d2_tryDrawnChange_0 : decode (mm_cc M2_tryDrawnChange) 0 = .ok (.aload_n 0, 1) := by decide +kernel
theorem d2_tryDrawnChange_1 : decode (mm_cc M2_tryDrawnChange) 1 = .ok (.getfield 19, 3) := by decide +kernel
theorem d2_tryDrawnChange_4 : decode (mm_cc M2_tryDrawnChange) 4 = .ok (.aload_n 0, 1) := by decide +kernel
theorem d2_tryDrawnChange_5 : decode (mm_cc M2_tryDrawnChange) 5 = .ok (.getfield 9, 3) := by decide +kernel
theorem d2_tryDrawnChange_8 : decode (mm_cc M2_tryDrawnChange) 8 = .ok (.getfield 23, 3) := by decide +kernel
theorem d2_tryDrawnChange_11 : decode (mm_cc M2_tryDrawnChange) 11 = .ok (.invokevirtual 137, 3) := by decide +kernel
theorem d2_tryDrawnChange_14 : decode (mm_cc M2_tryDrawnChange) 14 = .ok (.istore_n 2, 1) := by decide +kernel
theorem d2_tryDrawnChange_15 : decode (mm_cc M2_tryDrawnChange) 15 = .ok (.aload_n 0, 1) := by decide +kernel
theorem d2_tryDrawnChange_16 : decode (mm_cc M2_tryDrawnChange) 16 = .ok (.iload_n 1, 1) := by decide +kernel
theorem d2_tryDrawnChange_17 : decode (mm_cc M2_tryDrawnChange) 17 = .ok (.invokevirtual 60, 3) := by decide +kernel
theorem d2_tryDrawnChange_20 : decode (mm_cc M2_tryDrawnChange) 20 = .ok (.ifCond .eq 7, 3) := by decide +kernel
theorem d2_tryDrawnChange_23 : decode (mm_cc M2_tryDrawnChange) 23 = .ok (.iconst (-1), 1) := by decide +kernel
theorem d2_tryDrawnChange_24 : decode (mm_cc M2_tryDrawnChange) 24 = .ok (.goto 8, 3) := by decide +kernel
theorem d2_tryDrawnChange_27 : decode (mm_cc M2_tryDrawnChange) 27 = .ok (.aload_n 0, 1) := by decide +kernel
theorem d2_tryDrawnChange_28 : decode (mm_cc M2_tryDrawnChange) 28 = .ok (.iload_n 1, 1) := by decide +kernel
theorem d2_tryDrawnChange_29 : decode (mm_cc M2_tryDrawnChange) 29 = .ok (.invokevirtual 210, 3) := by decide +kernel
theorem d2_tryDrawnChange_32 : decode (mm_cc M2_tryDrawnChange) 32 = .ok (.istore_n 3, 1) := by decide +kernel
theorem d2_tryDrawnChange_33 : decode (mm_cc M2_tryDrawnChange) 33 = .ok (.aload_n 0, 1) := by decide +kernel
theorem d2_tryDrawnChange_34 : decode (mm_cc M2_tryDrawnChange) 34 = .ok (.iload_n 1, 1) := by decide +kernel
theorem d2_tryDrawnChange_35 : decode (mm_cc M2_tryDrawnChange) 35 = .ok (.iload_n 2, 1) := by decide +kernel
theorem d2_tryDrawnChange_36 : decode (mm_cc M2_tryDrawnChange) 36 = .ok (.iload_n 3, 1) := by decide +kernel
theorem d2_tryDrawnChange_37 : decode (mm_cc M2_tryDrawnChange) 37 = .ok (.iconst (-1), 1) := by decide +kernel
theorem d2_tryDrawnChange_38 : decode (mm_cc M2_tryDrawnChange) 38 = .ok (.invokevirtual 213, 3) := by decide +kernel
theorem d2_tryDrawnChange_41 : decode (mm_cc M2_tryDrawnChange) 41 = .ok (.pop, 1) := by decide +kernel
theorem d2_tryDrawnChange_42 : decode (mm_cc M2_tryDrawnChange) 42 = .ok (.return_, 1) := by decide +kernel
theorem d3_solve_0 : decode (mm_cc M3_solve) 0 = .ok (.aload_n 0, 1) := by decide +kernel
theorem d3_solve_1 : decode (mm_cc M3_solve) 1 = .ok (.getfield 26, 3) := by decide +kernel
theorem d3_solve_4 : decode (mm_cc M3_solve) 4 = .ok (.iconst (-1), 1) := by decide +kernel
theorem d3_solve_5 : decode (mm_cc M3_solve) 5 = .ok (.invokevirtual 44, 3) := by decide +kernel
theorem d3_solve_8 : decode (mm_cc M3_solve) 8 = .ok (.aload_n 0, 1) := by decide +kernel
theorem d3_solve_9 : decode (mm_cc M3_solve) 9 = .ok (.invokevirtual 47, 3) := by decide +kernel
theorem d3_solve_12 : decode (mm_cc M3_solve) 12 = .ok (.aload_n 0, 1) := by decide +kernel
theorem d3_solve_13 : decode (mm_cc M3_solve) 13 = .ok (.getfield 37, 3) := by decide +kernel
theorem d3_solve_16 : decode (mm_cc M3_solve) 16 = .ok (.getfield 51, 3) := by decide +kernel
theorem d3_solve_19 : decode (mm_cc M3_solve) 19 = .ok (.invokestatic 56, 3) := by decide +kernel
theorem d3_solve_22 : decode (mm_cc M3_solve) 22 = .ok (.if_icmp .le 5, 3) := by decide +kernel
theorem d3_solve_25 : decode (mm_cc M3_solve) 25 = .ok (.iconst (-1), 1) := by decide +kernel
theorem d3_solve_26 : decode (mm_cc M3_solve) 26 = .ok (.ireturn, 1) := by decide +kernel
theorem d3_solve_27 : decode (mm_cc M3_solve) 27 = .ok (.aload_n 0, 1) := by decide +kernel
theorem d3_solve_28 : decode (mm_cc M3_solve) 28 = .ok (.invokevirtual 62, 3) := by decide +kernel
theorem d3_solve_31 : decode (mm_cc M3_solve) 31 = .ok (.aload_n 0, 1) := by decide +kernel
theorem d3_solve_32 : decode (mm_cc M3_solve) 32 = .ok (.invokevirtual 65, 3) := by decide +kernel
theorem d3_solve_35 : decode (mm_cc M3_solve) 35 = .ok (.aload_n 0, 1) := by decide +kernel
theorem d3_solve_36 : decode (mm_cc M3_solve) 36 = .ok (.invokevirtual 68, 3) := by decide +kernel
theorem d3_solve_39 : decode (mm_cc M3_solve) 39 = .ok (.aload_n 0, 1) := by decide +kernel
theorem d3_solve_40 : decode (mm_cc M3_solve) 40 = .ok (.getfield 23, 3) := by decide +kernel
theorem d3_solve_43 : decode (mm_cc M3_solve) 43 = .ok (.aload_n 0, 1) := by decide +kernel
theorem d3_solve_44 : decode (mm_cc M3_solve) 44 = .ok (.getfield 29, 3) := by decide +kernel
theorem d3_solve_47 : decode (mm_cc M3_solve) 47 = .ok (.iconst 1, 1) := by decide +kernel
theorem d3_solve_48 : decode (mm_cc M3_solve) 48 = .ok (.isub, 1) := by decide +kernel
theorem d3_solve_49 : decode (mm_cc M3_solve) 49 = .ok (.invokevirtual 71, 3) := by decide +kernel
theorem d3_solve_52 : decode (mm_cc M3_solve) 52 = .ok (.istore_n 1, 1) := by decide +kernel
theorem d3_solve_53 : decode (mm_cc M3_solve) 53 = .ok (.iload_n 1, 1) := by decide +kernel
theorem d3_solve_54 : decode (mm_cc M3_solve) 54 = .ok (.ldc 74, 2) := by decide +kernel
theorem d3_solve_56 : decode (mm_cc M3_solve) 56 = .ok (.if_icmp .lt 5, 3) := by decide +kernel
theorem d3_solve_59 : decode (mm_cc M3_solve) 59 = .ok (.iconst (-1), 1) := by decide +kernel
theorem d3_solve_60 : decode (mm_cc M3_solve) 60 = .ok (.ireturn, 1) := by decide +kernel
theorem d3_solve_61 : decode (mm_cc M3_solve) 61 = .ok (.aload_n 0, 1) := by decide +kernel
theorem d3_solve_62 : decode (mm_cc M3_solve) 62 = .ok (.invokevirtual 75, 3) := by decide +kernel
theorem d3_solve_65 : decode (mm_cc M3_solve) 65 = .ok (.iload_n 1, 1) := by decide +kernel
theorem d3_solve_66 : decode (mm_cc M3_solve) 66 = .ok (.ireturn, 1) := by decide +kernel
theorem d4_sees_0 : decode (mm_cc M4_sees) 0 = .ok (.aload_n 0, 1) := by decide +kernel
theorem d4_sees_1 : decode (mm_cc M4_sees) 1 = .ok (.getfield 24, 3) := by decide +kernel
theorem d4_sees_4 : decode (mm_cc M4_sees) 4 = .ok (.iconst 1, 1) := by decide +kernel
theorem d4_sees_5 : decode (mm_cc M4_sees) 5 = .ok (.if_icmp .ne 19, 3) := by decide +kernel
theorem d4_sees_8 : decode (mm_cc M4_sees) 8 = .ok (.aload_n 0, 1) := by decide +kernel
theorem d4_sees_9 : decode (mm_cc M4_sees) 9 = .ok (.getfield 30, 3) := by decide +kernel
theorem d4_sees_12 : decode (mm_cc M4_sees) 12 = .ok (.aload_n 0, 1) := by decide +kernel
theorem d4_sees_13 : decode (mm_cc M4_sees) 13 = .ok (.getfield 27, 3) := by decide +kernel
theorem d4_sees_16 : decode (mm_cc M4_sees) 16 = .ok (.isub, 1) := by decide +kernel
theorem d4_sees_17 : decode (mm_cc M4_sees) 17 = .ok (.aload_n 1, 1) := by decide +kernel
theorem d4_sees_18 : decode (mm_cc M4_sees) 18 = .ok (.invokevirtual 53, 3) := by decide +kernel
theorem d4_sees_21 : decode (mm_cc M4_sees) 21 = .ok (.if_icmp .eq 5, 3) := by decide +kernel
theorem d4_sees_24 : decode (mm_cc M4_sees) 24 = .ok (.iconst 0, 1) := by decide +kernel
theorem d4_sees_25 : decode (mm_cc M4_sees) 25 = .ok (.ireturn, 1) := by decide +kernel
theorem d4_sees_26 : decode (mm_cc M4_sees) 26 = .ok (.iconst 0, 1) := by decide +kernel
theorem d4_sees_27 : decode (mm_cc M4_sees) 27 = .ok (.istore_n 2, 1) := by decide +kernel
theorem d4_sees_28 : decode (mm_cc M4_sees) 28 = .ok (.iload_n 2, 1) := by decide +kernel
theorem d4_sees_29 : decode (mm_cc M4_sees) 29 = .ok (.aload_n 1, 1) := by decide +kernel
theorem d4_sees_30 : decode (mm_cc M4_sees) 30 = .ok (.invokevirtual 53, 3) := by decide +kernel
theorem d4_sees_33 : decode (mm_cc M4_sees) 33 = .ok (.if_icmp .ge 32, 3) := by decide +kernel
theorem d4_sees_36 : decode (mm_cc M4_sees) 36 = .ok (.aload_n 0, 1) := by decide +kernel
theorem d4_sees_37 : decode (mm_cc M4_sees) 37 = .ok (.getfield 14, 3) := by decide +kernel
theorem d4_sees_40 : decode (mm_cc M4_sees) 40 = .ok (.aload_n 0, 1) := by decide +kernel
theorem d4_sees_41 : decode (mm_cc M4_sees) 41 = .ok (.getfield 27, 3) := by decide +kernel
theorem d4_sees_44 : decode (mm_cc M4_sees) 44 = .ok (.iload_n 2, 1) := by decide +kernel
theorem d4_sees_45 : decode (mm_cc M4_sees) 45 = .ok (.iadd, 1) := by decide +kernel
theorem d4_sees_46 : decode (mm_cc M4_sees) 46 = .ok (.invokevirtual 46, 3) := by decide +kernel
theorem d4_sees_49 : decode (mm_cc M4_sees) 49 = .ok (.aload_n 1, 1) := by decide +kernel
theorem d4_sees_50 : decode (mm_cc M4_sees) 50 = .ok (.iload_n 2, 1) := by decide +kernel
theorem d4_sees_51 : decode (mm_cc M4_sees) 51 = .ok (.invokevirtual 58, 3) := by decide +kernel
theorem d4_sees_54 : decode (mm_cc M4_sees) 54 = .ok (.if_icmp .eq 5, 3) := by decide +kernel
theorem d4_sees_57 : decode (mm_cc M4_sees) 57 = .ok (.iconst 0, 1) := by decide +kernel
theorem d4_sees_58 : decode (mm_cc M4_sees) 58 = .ok (.ireturn, 1) := by decide +kernel
theorem d4_sees_59 : decode (mm_cc M4_sees) 59 = .ok (.iinc 2 1, 3) := by decide +kernel
theorem d4_sees_62 : decode (mm_cc M4_sees) 62 = .ok (.goto (-34), 3) := by decide +kernel
theorem d4_sees_65 : decode (mm_cc M4_sees) 65 = .ok (.iconst 1, 1) := by decide +kernel
theorem d4_sees_66 : decode (mm_cc M4_sees) 66 = .ok (.ireturn, 1) := by decide +kernel
theorem d8_countFits_0 : decode (mm_cc M8_countFits) 0 = .ok (.iconst 0, 1) := by decide +kernel
theorem d8_countFits_1 : decode (mm_cc M8_countFits) 1 = .ok (.istore_n 3, 1) := by decide +kernel
theorem d8_countFits_2 : decode (mm_cc M8_countFits) 2 = .ok (.iload_n 3, 1) := by decide +kernel
theorem d8_countFits_3 : decode (mm_cc M8_countFits) 3 = .ok (.aload_n 0, 1) := by decide +kernel
theorem d8_countFits_4 : decode (mm_cc M8_countFits) 4 = .ok (.getfield 35, 3) := by decide +kernel
theorem d8_countFits_7 : decode (mm_cc M8_countFits) 7 = .ok (.if_icmp .ge 23, 3) := by decide +kernel
theorem d8_countFits_10 : decode (mm_cc M8_countFits) 10 = .ok (.aload_n 0, 1) := by decide +kernel
theorem d8_countFits_11 : decode (mm_cc M8_countFits) 11 = .ok (.getfield 23, 3) := by decide +kernel
theorem d8_countFits_14 : decode (mm_cc M8_countFits) 14 = .ok (.iload_n 3, 1) := by decide +kernel
theorem d8_countFits_15 : decode (mm_cc M8_countFits) 15 = .ok (.aload_n 0, 1) := by decide +kernel
theorem d8_countFits_16 : decode (mm_cc M8_countFits) 16 = .ok (.iload_n 3, 1) := by decide +kernel
theorem d8_countFits_17 : decode (mm_cc M8_countFits) 17 = .ok (.aload_n 2, 1) := by decide +kernel
theorem d8_countFits_18 : decode (mm_cc M8_countFits) 18 = .ok (.invokevirtual 65, 3) := by decide +kernel
theorem d8_countFits_21 : decode (mm_cc M8_countFits) 21 = .ok (.invokevirtual 51, 3) := by decide +kernel
theorem d8_countFits_24 : decode (mm_cc M8_countFits) 24 = .ok (.iinc 3 1, 3) := by decide +kernel
theorem d8_countFits_27 : decode (mm_cc M8_countFits) 27 = .ok (.goto (-25), 3) := by decide +kernel
theorem d8_countFits_30 : decode (mm_cc M8_countFits) 30 = .ok (.aload_n 0, 1) := by decide +kernel
theorem d8_countFits_31 : decode (mm_cc M8_countFits) 31 = .ok (.iconst 0, 1) := by decide +kernel
theorem d8_countFits_32 : decode (mm_cc M8_countFits) 32 = .ok (.putfield 42, 3) := by decide +kernel
theorem d8_countFits_35 : decode (mm_cc M8_countFits) 35 = .ok (.aload_n 0, 1) := by decide +kernel
theorem d8_countFits_36 : decode (mm_cc M8_countFits) 36 = .ok (.iconst 0, 1) := by decide +kernel
theorem d8_countFits_37 : decode (mm_cc M8_countFits) 37 = .ok (.putfield 45, 3) := by decide +kernel
theorem d8_countFits_40 : decode (mm_cc M8_countFits) 40 = .ok (.aload_n 0, 1) := by decide +kernel
theorem d8_countFits_41 : decode (mm_cc M8_countFits) 41 = .ok (.aload_n 2, 1) := by decide +kernel
theorem d8_countFits_42 : decode (mm_cc M8_countFits) 42 = .ok (.getfield 69, 3) := by decide +kernel
theorem d8_countFits_45 : decode (mm_cc M8_countFits) 45 = .ok (.putfield 48, 3) := by decide +kernel
theorem d8_countFits_48 : decode (mm_cc M8_countFits) 48 = .ok (.iconst 0, 1) := by decide +kernel
theorem d8_countFits_49 : decode (mm_cc M8_countFits) 49 = .ok (.istore_n 3, 1) := by decide +kernel
theorem d8_countFits_50 : decode (mm_cc M8_countFits) 50 = .ok (.iload_n 3, 1) := by decide +kernel
theorem d8_countFits_51 : decode (mm_cc M8_countFits) 51 = .ok (.sipush 256, 3) := by decide +kernel
theorem d8_countFits_54 : decode (mm_cc M8_countFits) 54 = .ok (.if_icmp .ge 43, 3) := by decide +kernel
theorem d8_countFits_57 : decode (mm_cc M8_countFits) 57 = .ok (.iload_n 3, 1) := by decide +kernel
theorem d8_countFits_58 : decode (mm_cc M8_countFits) 58 = .ok (.aload_n 2, 1) := by decide +kernel
theorem d8_countFits_59 : decode (mm_cc M8_countFits) 59 = .ok (.getfield 69, 3) := by decide +kernel
theorem d8_countFits_62 : decode (mm_cc M8_countFits) 62 = .ok (.iconst (-1), 1) := by decide +kernel
theorem d8_countFits_63 : decode (mm_cc M8_countFits) 63 = .ok (.ixor, 1) := by decide +kernel
theorem d8_countFits_64 : decode (mm_cc M8_countFits) 64 = .ok (.iand, 1) := by decide +kernel
theorem d8_countFits_65 : decode (mm_cc M8_countFits) 65 = .ok (.ifCond .ne 26, 3) := by decide +kernel
theorem d8_countFits_68 : decode (mm_cc M8_countFits) 68 = .ok (.iload_n 3, 1) := by decide +kernel
theorem d8_countFits_69 : decode (mm_cc M8_countFits) 69 = .ok (.invokestatic 72, 3) := by decide +kernel
theorem d8_countFits_72 : decode (mm_cc M8_countFits) 72 = .ok (.iload_n 1, 1) := by decide +kernel
theorem d8_countFits_73 : decode (mm_cc M8_countFits) 73 = .ok (.if_icmp .ne 18, 3) := by decide +kernel
theorem d8_countFits_76 : decode (mm_cc M8_countFits) 76 = .ok (.aload_n 0, 1) := by decide +kernel
theorem d8_countFits_77 : decode (mm_cc M8_countFits) 77 = .ok (.dup, 1) := by decide +kernel
theorem d8_countFits_78 : decode (mm_cc M8_countFits) 78 = .ok (.getfield 45, 3) := by decide +kernel
theorem d8_countFits_81 : decode (mm_cc M8_countFits) 81 = .ok (.iconst 1, 1) := by decide +kernel
theorem d8_countFits_82 : decode (mm_cc M8_countFits) 82 = .ok (.iadd, 1) := by decide +kernel
theorem d8_countFits_83 : decode (mm_cc M8_countFits) 83 = .ok (.putfield 45, 3) := by decide +kernel
theorem d8_countFits_86 : decode (mm_cc M8_countFits) 86 = .ok (.aload_n 0, 1) := by decide +kernel
theorem d8_countFits_87 : decode (mm_cc M8_countFits) 87 = .ok (.iload_n 3, 1) := by decide +kernel
theorem d8_countFits_88 : decode (mm_cc M8_countFits) 88 = .ok (.invokevirtual 77, 3) := by decide +kernel
theorem d8_countFits_91 : decode (mm_cc M8_countFits) 91 = .ok (.iinc 3 1, 3) := by decide +kernel
theorem d8_countFits_94 : decode (mm_cc M8_countFits) 94 = .ok (.goto (-44), 3) := by decide +kernel
theorem d8_countFits_97 : decode (mm_cc M8_countFits) 97 = .ok (.return_, 1) := by decide +kernel
theorem d9_tellPerson_0 : decode (mm_cc M9_tellPerson) 0 = .ok (.aload_n 0, 1) := by decide +kernel
theorem d9_tellPerson_1 : decode (mm_cc M9_tellPerson) 1 = .ok (.aload_n 0, 1) := by decide +kernel
theorem d9_tellPerson_2 : decode (mm_cc M9_tellPerson) 2 = .ok (.getfield 23, 3) := by decide +kernel
theorem d9_tellPerson_5 : decode (mm_cc M9_tellPerson) 5 = .ok (.getfield 54, 3) := by decide +kernel
theorem d9_tellPerson_8 : decode (mm_cc M9_tellPerson) 8 = .ok (.bipush 8, 2) := by decide +kernel
theorem d9_tellPerson_10 : decode (mm_cc M9_tellPerson) 10 = .ok (.if_icmp .ge 7, 3) := by decide +kernel
theorem d9_tellPerson_13 : decode (mm_cc M9_tellPerson) 13 = .ok (.iconst 1, 1) := by decide +kernel
theorem d9_tellPerson_14 : decode (mm_cc M9_tellPerson) 14 = .ok (.goto 4, 3) := by decide +kernel
theorem d9_tellPerson_17 : decode (mm_cc M9_tellPerson) 17 = .ok (.iconst 0, 1) := by decide +kernel
theorem d9_tellPerson_18 : decode (mm_cc M9_tellPerson) 18 = .ok (.invokevirtual 83, 3) := by decide +kernel
theorem d9_tellPerson_21 : decode (mm_cc M9_tellPerson) 21 = .ok (.aload_n 0, 1) := by decide +kernel
theorem d9_tellPerson_22 : decode (mm_cc M9_tellPerson) 22 = .ok (.getfield 23, 3) := by decide +kernel
theorem d9_tellPerson_25 : decode (mm_cc M9_tellPerson) 25 = .ok (.getfield 54, 3) := by decide +kernel
theorem d9_tellPerson_28 : decode (mm_cc M9_tellPerson) 28 = .ok (.istore_n 1, 1) := by decide +kernel
theorem d9_tellPerson_29 : decode (mm_cc M9_tellPerson) 29 = .ok (.aload_n 0, 1) := by decide +kernel
theorem d9_tellPerson_30 : decode (mm_cc M9_tellPerson) 30 = .ok (.getfield 27, 3) := by decide +kernel
theorem d9_tellPerson_33 : decode (mm_cc M9_tellPerson) 33 = .ok (.getfield 125, 3) := by decide +kernel
theorem d9_tellPerson_36 : decode (mm_cc M9_tellPerson) 36 = .ok (.iload_n 1, 1) := by decide +kernel
theorem d9_tellPerson_37 : decode (mm_cc M9_tellPerson) 37 = .ok (.aload_n 0, 1) := by decide +kernel
theorem d9_tellPerson_38 : decode (mm_cc M9_tellPerson) 38 = .ok (.getfield 19, 3) := by decide +kernel
theorem d9_tellPerson_41 : decode (mm_cc M9_tellPerson) 41 = .ok (.iconst 0, 1) := by decide +kernel
theorem d9_tellPerson_42 : decode (mm_cc M9_tellPerson) 42 = .ok (.bipush 99, 2) := by decide +kernel
theorem d9_tellPerson_44 : decode (mm_cc M9_tellPerson) 44 = .ok (.invokevirtual 106, 3) := by decide +kernel
theorem d9_tellPerson_47 : decode (mm_cc M9_tellPerson) 47 = .ok (.invokevirtual 95, 3) := by decide +kernel
theorem d9_tellPerson_50 : decode (mm_cc M9_tellPerson) 50 = .ok (.iconst 0, 1) := by decide +kernel
theorem d9_tellPerson_51 : decode (mm_cc M9_tellPerson) 51 = .ok (.istore_n 2, 1) := by decide +kernel
theorem d9_tellPerson_52 : decode (mm_cc M9_tellPerson) 52 = .ok (.iload_n 2, 1) := by decide +kernel
theorem d9_tellPerson_53 : decode (mm_cc M9_tellPerson) 53 = .ok (.sipush 500, 3) := by decide +kernel
theorem d9_tellPerson_56 : decode (mm_cc M9_tellPerson) 56 = .ok (.if_icmp .ge 35, 3) := by decide +kernel
theorem d9_tellPerson_59 : decode (mm_cc M9_tellPerson) 59 = .ok (.aload_n 0, 1) := by decide +kernel
theorem d9_tellPerson_60 : decode (mm_cc M9_tellPerson) 60 = .ok (.getfield 19, 3) := by decide +kernel
theorem d9_tellPerson_63 : decode (mm_cc M9_tellPerson) 63 = .ok (.invokevirtual 39, 3) := by decide +kernel
theorem d9_tellPerson_66 : decode (mm_cc M9_tellPerson) 66 = .ok (.ifCond .eq 25, 3) := by decide +kernel
theorem d9_tellPerson_69 : decode (mm_cc M9_tellPerson) 69 = .ok (.aload_n 0, 1) := by decide +kernel
theorem d9_tellPerson_70 : decode (mm_cc M9_tellPerson) 70 = .ok (.getfield 19, 3) := by decide +kernel
theorem d9_tellPerson_73 : decode (mm_cc M9_tellPerson) 73 = .ok (.getfield 45, 3) := by decide +kernel
theorem d9_tellPerson_76 : decode (mm_cc M9_tellPerson) 76 = .ok (.iconst 2, 1) := by decide +kernel
theorem d9_tellPerson_77 : decode (mm_cc M9_tellPerson) 77 = .ok (.if_icmp .ne 14, 3) := by decide +kernel
theorem d9_tellPerson_80 : decode (mm_cc M9_tellPerson) 80 = .ok (.aload_n 0, 1) := by decide +kernel
theorem d9_tellPerson_81 : decode (mm_cc M9_tellPerson) 81 = .ok (.iload_n 1, 1) := by decide +kernel
theorem d9_tellPerson_82 : decode (mm_cc M9_tellPerson) 82 = .ok (.invokevirtual 128, 3) := by decide +kernel
theorem d9_tellPerson_85 : decode (mm_cc M9_tellPerson) 85 = .ok (.iinc 2 1, 3) := by decide +kernel
theorem d9_tellPerson_88 : decode (mm_cc M9_tellPerson) 88 = .ok (.goto (-36), 3) := by decide +kernel
theorem d9_tellPerson_91 : decode (mm_cc M9_tellPerson) 91 = .ok (.aload_n 0, 1) := by decide +kernel
theorem d9_tellPerson_92 : decode (mm_cc M9_tellPerson) 92 = .ok (.getfield 27, 3) := by decide +kernel
theorem d9_tellPerson_95 : decode (mm_cc M9_tellPerson) 95 = .ok (.dup, 1) := by decide +kernel
theorem d9_tellPerson_96 : decode (mm_cc M9_tellPerson) 96 = .ok (.getfield 132, 3) := by decide +kernel
theorem d9_tellPerson_99 : decode (mm_cc M9_tellPerson) 99 = .ok (.iconst 1, 1) := by decide +kernel
theorem d9_tellPerson_100 : decode (mm_cc M9_tellPerson) 100 = .ok (.iload_n 1, 1) := by decide +kernel
theorem d9_tellPerson_101 : decode (mm_cc M9_tellPerson) 101 = .ok (.ishl, 1) := by decide +kernel
theorem d9_tellPerson_102 : decode (mm_cc M9_tellPerson) 102 = .ok (.ior, 1) := by decide +kernel
theorem d9_tellPerson_103 : decode (mm_cc M9_tellPerson) 103 = .ok (.putfield 132, 3) := by decide +kernel
theorem d9_tellPerson_106 : decode (mm_cc M9_tellPerson) 106 = .ok (.aload_n 0, 1) := by decide +kernel
theorem d9_tellPerson_107 : decode (mm_cc M9_tellPerson) 107 = .ok (.getfield 27, 3) := by decide +kernel
theorem d9_tellPerson_110 : decode (mm_cc M9_tellPerson) 110 = .ok (.getfield 135, 3) := by decide +kernel
theorem d9_tellPerson_113 : decode (mm_cc M9_tellPerson) 113 = .ok (.iload_n 1, 1) := by decide +kernel
theorem d9_tellPerson_114 : decode (mm_cc M9_tellPerson) 114 = .ok (.aload_n 0, 1) := by decide +kernel
theorem d9_tellPerson_115 : decode (mm_cc M9_tellPerson) 115 = .ok (.getfield 27, 3) := by decide +kernel
theorem d9_tellPerson_118 : decode (mm_cc M9_tellPerson) 118 = .ok (.iload_n 1, 1) := by decide +kernel
theorem d9_tellPerson_119 : decode (mm_cc M9_tellPerson) 119 = .ok (.invokevirtual 138, 3) := by decide +kernel
theorem d9_tellPerson_122 : decode (mm_cc M9_tellPerson) 122 = .ok (.invokevirtual 95, 3) := by decide +kernel
theorem d9_tellPerson_125 : decode (mm_cc M9_tellPerson) 125 = .ok (.aload_n 0, 1) := by decide +kernel
theorem d9_tellPerson_126 : decode (mm_cc M9_tellPerson) 126 = .ok (.getfield 23, 3) := by decide +kernel
theorem d9_tellPerson_129 : decode (mm_cc M9_tellPerson) 129 = .ok (.dup, 1) := by decide +kernel
theorem d9_tellPerson_130 : decode (mm_cc M9_tellPerson) 130 = .ok (.getfield 54, 3) := by decide +kernel
theorem d9_tellPerson_133 : decode (mm_cc M9_tellPerson) 133 = .ok (.iconst 1, 1) := by decide +kernel
theorem d9_tellPerson_134 : decode (mm_cc M9_tellPerson) 134 = .ok (.iadd, 1) := by decide +kernel
theorem d9_tellPerson_135 : decode (mm_cc M9_tellPerson) 135 = .ok (.putfield 54, 3) := by decide +kernel
theorem d9_tellPerson_138 : decode (mm_cc M9_tellPerson) 138 = .ok (.return_, 1) := by decide +kernel
theorem d10_changed_0 : decode (mm_cc M10_changed) 0 = .ok (.iload_n 1, 1) := by decide +kernel
theorem d10_changed_1 : decode (mm_cc M10_changed) 1 = .ok (.iconst (-1), 1) := by decide +kernel
theorem d10_changed_2 : decode (mm_cc M10_changed) 2 = .ok (.if_icmp .eq 17, 3) := by decide +kernel
theorem d10_changed_5 : decode (mm_cc M10_changed) 5 = .ok (.aload_n 0, 1) := by decide +kernel
theorem d10_changed_6 : decode (mm_cc M10_changed) 6 = .ok (.getfield 19, 3) := by decide +kernel
theorem d10_changed_9 : decode (mm_cc M10_changed) 9 = .ok (.iload_n 1, 1) := by decide +kernel
theorem d10_changed_10 : decode (mm_cc M10_changed) 10 = .ok (.invokevirtual 241, 3) := by decide +kernel
theorem d10_changed_13 : decode (mm_cc M10_changed) 13 = .ok (.ifCond .ne 6, 3) := by decide +kernel
theorem d10_changed_16 : decode (mm_cc M10_changed) 16 = .ok (.ldc 220, 2) := by decide +kernel
theorem d10_changed_18 : decode (mm_cc M10_changed) 18 = .ok (.ireturn, 1) := by decide +kernel
theorem d10_changed_19 : decode (mm_cc M10_changed) 19 = .ok (.aload_n 0, 1) := by decide +kernel
theorem d10_changed_20 : decode (mm_cc M10_changed) 20 = .ok (.getfield 103, 3) := by decide +kernel
theorem d10_changed_23 : decode (mm_cc M10_changed) 23 = .ok (.invokevirtual 304, 3) := by decide +kernel
theorem d10_changed_26 : decode (mm_cc M10_changed) 26 = .ok (.istore_n 2, 1) := by decide +kernel
theorem d10_changed_27 : decode (mm_cc M10_changed) 27 = .ok (.iload_n 1, 1) := by decide +kernel
theorem d10_changed_28 : decode (mm_cc M10_changed) 28 = .ok (.iconst (-1), 1) := by decide +kernel
theorem d10_changed_29 : decode (mm_cc M10_changed) 29 = .ok (.if_icmp .eq 8, 3) := by decide +kernel
theorem d10_changed_32 : decode (mm_cc M10_changed) 32 = .ok (.iload_n 2, 1) := by decide +kernel
theorem d10_changed_33 : decode (mm_cc M10_changed) 33 = .ok (.iconst (-1), 1) := by decide +kernel
theorem d10_changed_34 : decode (mm_cc M10_changed) 34 = .ok (.if_icmp .ne 5, 3) := by decide +kernel
theorem d10_changed_37 : decode (mm_cc M10_changed) 37 = .ok (.iload_n 2, 1) := by decide +kernel
theorem d10_changed_38 : decode (mm_cc M10_changed) 38 = .ok (.ireturn, 1) := by decide +kernel
theorem d10_changed_39 : decode (mm_cc M10_changed) 39 = .ok (.aload_n 0, 1) := by decide +kernel
theorem d10_changed_40 : decode (mm_cc M10_changed) 40 = .ok (.getfield 103, 3) := by decide +kernel
theorem d10_changed_43 : decode (mm_cc M10_changed) 43 = .ok (.getfield 307, 3) := by decide +kernel
theorem d10_changed_46 : decode (mm_cc M10_changed) 46 = .ok (.iload_n 1, 1) := by decide +kernel
theorem d10_changed_47 : decode (mm_cc M10_changed) 47 = .ok (.invokevirtual 224, 3) := by decide +kernel
theorem d10_changed_50 : decode (mm_cc M10_changed) 50 = .ok (.ireturn, 1) := by decide +kernel
theorem d10_fits_0 : decode (mm_cc M10_fits) 0 = .ok (.iload_n 1, 1) := by decide +kernel
theorem d10_fits_1 : decode (mm_cc M10_fits) 1 = .ok (.iconst 0, 1) := by decide +kernel
theorem d10_fits_2 : decode (mm_cc M10_fits) 2 = .ok (.bipush 8, 2) := by decide +kernel
theorem d10_fits_4 : decode (mm_cc M10_fits) 4 = .ok (.invokestatic 120, 3) := by decide +kernel
theorem d10_fits_7 : decode (mm_cc M10_fits) 7 = .ok (.ifCond .eq 12, 3) := by decide +kernel
theorem d10_fits_10 : decode (mm_cc M10_fits) 10 = .ok (.iload_n 2, 1) := by decide +kernel
theorem d10_fits_11 : decode (mm_cc M10_fits) 11 = .ok (.iconst 0, 1) := by decide +kernel
theorem d10_fits_12 : decode (mm_cc M10_fits) 12 = .ok (.iconst 2, 1) := by decide +kernel
theorem d10_fits_13 : decode (mm_cc M10_fits) 13 = .ok (.invokestatic 120, 3) := by decide +kernel
theorem d10_fits_16 : decode (mm_cc M10_fits) 16 = .ok (.ifCond .ne 6, 3) := by decide +kernel
theorem d10_fits_19 : decode (mm_cc M10_fits) 19 = .ok (.ldc 124, 2) := by decide +kernel
theorem d10_fits_21 : decode (mm_cc M10_fits) 21 = .ok (.ireturn, 1) := by decide +kernel
theorem d10_fits_22 : decode (mm_cc M10_fits) 22 = .ok (.aload_n 0, 1) := by decide +kernel
theorem d10_fits_23 : decode (mm_cc M10_fits) 23 = .ok (.getfield 73, 3) := by decide +kernel
theorem d10_fits_26 : decode (mm_cc M10_fits) 26 = .ok (.iload_n 1, 1) := by decide +kernel
theorem d10_fits_27 : decode (mm_cc M10_fits) 27 = .ok (.aload_n 0, 1) := by decide +kernel
theorem d10_fits_28 : decode (mm_cc M10_fits) 28 = .ok (.getfield 42, 3) := by decide +kernel
theorem d10_fits_31 : decode (mm_cc M10_fits) 31 = .ok (.invokevirtual 337, 3) := by decide +kernel
theorem d10_fits_34 : decode (mm_cc M10_fits) 34 = .ok (.iload_n 2, 1) := by decide +kernel
theorem d10_fits_35 : decode (mm_cc M10_fits) 35 = .ok (.ifCond .ne 11, 3) := by decide +kernel
theorem d10_fits_38 : decode (mm_cc M10_fits) 38 = .ok (.aload_n 0, 1) := by decide +kernel
theorem d10_fits_39 : decode (mm_cc M10_fits) 39 = .ok (.getfield 73, 3) := by decide +kernel
theorem d10_fits_42 : decode (mm_cc M10_fits) 42 = .ok (.getfield 341, 3) := by decide +kernel
theorem d10_fits_45 : decode (mm_cc M10_fits) 45 = .ok (.ireturn, 1) := by decide +kernel
theorem d10_fits_46 : decode (mm_cc M10_fits) 46 = .ok (.iload_n 2, 1) := by decide +kernel
theorem d10_fits_47 : decode (mm_cc M10_fits) 47 = .ok (.iconst 1, 1) := by decide +kernel
theorem d10_fits_48 : decode (mm_cc M10_fits) 48 = .ok (.if_icmp .ne 25, 3) := by decide +kernel
theorem d10_fits_51 : decode (mm_cc M10_fits) 51 = .ok (.aload_n 0, 1) := by decide +kernel
theorem d10_fits_52 : decode (mm_cc M10_fits) 52 = .ok (.getfield 73, 3) := by decide +kernel
theorem d10_fits_55 : decode (mm_cc M10_fits) 55 = .ok (.getfield 341, 3) := by decide +kernel
theorem d10_fits_58 : decode (mm_cc M10_fits) 58 = .ok (.ifCond .le 13, 3) := by decide +kernel
theorem d10_fits_61 : decode (mm_cc M10_fits) 61 = .ok (.aload_n 0, 1) := by decide +kernel
theorem d10_fits_62 : decode (mm_cc M10_fits) 62 = .ok (.getfield 73, 3) := by decide +kernel
theorem d10_fits_65 : decode (mm_cc M10_fits) 65 = .ok (.getfield 344, 3) := by decide +kernel
theorem d10_fits_68 : decode (mm_cc M10_fits) 68 = .ok (.goto 4, 3) := by decide +kernel
theorem d10_fits_71 : decode (mm_cc M10_fits) 71 = .ok (.iconst (-1), 1) := by decide +kernel
theorem d10_fits_72 : decode (mm_cc M10_fits) 72 = .ok (.ireturn, 1) := by decide +kernel
theorem d10_fits_73 : decode (mm_cc M10_fits) 73 = .ok (.aload_n 0, 1) := by decide +kernel
theorem d10_fits_74 : decode (mm_cc M10_fits) 74 = .ok (.getfield 73, 3) := by decide +kernel
theorem d10_fits_77 : decode (mm_cc M10_fits) 77 = .ok (.getfield 347, 3) := by decide +kernel
theorem d10_fits_80 : decode (mm_cc M10_fits) 80 = .ok (.ifCond .le 25, 3) := by decide +kernel
theorem d10_fits_83 : decode (mm_cc M10_fits) 83 = .ok (.ldc_w 350, 3) := by decide +kernel
theorem d10_fits_86 : decode (mm_cc M10_fits) 86 = .ok (.aload_n 0, 1) := by decide +kernel
theorem d10_fits_87 : decode (mm_cc M10_fits) 87 = .ok (.getfield 73, 3) := by decide +kernel
theorem d10_fits_90 : decode (mm_cc M10_fits) 90 = .ok (.getfield 341, 3) := by decide +kernel
theorem d10_fits_93 : decode (mm_cc M10_fits) 93 = .ok (.imul, 1) := by decide +kernel
theorem d10_fits_94 : decode (mm_cc M10_fits) 94 = .ok (.aload_n 0, 1) := by decide +kernel
theorem d10_fits_95 : decode (mm_cc M10_fits) 95 = .ok (.getfield 73, 3) := by decide +kernel
theorem d10_fits_98 : decode (mm_cc M10_fits) 98 = .ok (.getfield 347, 3) := by decide +kernel
theorem d10_fits_101 : decode (mm_cc M10_fits) 101 = .ok (.idiv, 1) := by decide +kernel
theorem d10_fits_102 : decode (mm_cc M10_fits) 102 = .ok (.goto 4, 3) := by decide +kernel
theorem d10_fits_105 : decode (mm_cc M10_fits) 105 = .ok (.iconst 0, 1) := by decide +kernel
theorem d10_fits_106 : decode (mm_cc M10_fits) 106 = .ok (.ireturn, 1) := by decide +kernel
theorem d11_compared_0 : decode (mm_cc M11_compared) 0 = .ok (.iload_n 1, 1) := by decide +kernel
theorem d11_compared_1 : decode (mm_cc M11_compared) 1 = .ok (.iload_n 2, 1) := by decide +kernel
theorem d11_compared_2 : decode (mm_cc M11_compared) 2 = .ok (.invokestatic 340, 3) := by decide +kernel
theorem d11_compared_5 : decode (mm_cc M11_compared) 5 = .ok (.ifCond .eq 15, 3) := by decide +kernel
theorem d11_compared_8 : decode (mm_cc M11_compared) 8 = .ok (.iload_n 3, 1) := by decide +kernel
theorem d11_compared_9 : decode (mm_cc M11_compared) 9 = .ok (.i2l, 1) := by decide +kernel
theorem d11_compared_10 : decode (mm_cc M11_compared) 10 = .ok (.lconst 1, 1) := by decide +kernel
theorem d11_compared_11 : decode (mm_cc M11_compared) 11 = .ok (.ldc2_w 346, 3) := by decide +kernel
theorem d11_compared_14 : decode (mm_cc M11_compared) 14 = .ok (.invokestatic 136, 3) := by decide +kernel
theorem d11_compared_17 : decode (mm_cc M11_compared) 17 = .ok (.ifCond .ne 6, 3) := by decide +kernel
theorem d11_compared_20 : decode (mm_cc M11_compared) 20 = .ok (.ldc 156, 2) := by decide +kernel
theorem d11_compared_22 : decode (mm_cc M11_compared) 22 = .ok (.ireturn, 1) := by decide +kernel
theorem d11_compared_23 : decode (mm_cc M11_compared) 23 = .ok (.aload_n 0, 1) := by decide +kernel
theorem d11_compared_24 : decode (mm_cc M11_compared) 24 = .ok (.getfield 133, 3) := by decide +kernel
theorem d11_compared_27 : decode (mm_cc M11_compared) 27 = .ok (.ifCond .ne 6, 3) := by decide +kernel
theorem d11_compared_30 : decode (mm_cc M11_compared) 30 = .ok (.ldc 250, 2) := by decide +kernel
theorem d11_compared_32 : decode (mm_cc M11_compared) 32 = .ok (.ireturn, 1) := by decide +kernel
theorem d11_compared_33 : decode (mm_cc M11_compared) 33 = .ok (.aload_n 0, 1) := by decide +kernel
theorem d11_compared_34 : decode (mm_cc M11_compared) 34 = .ok (.getfield 22, 3) := by decide +kernel
theorem d11_compared_37 : decode (mm_cc M11_compared) 37 = .ok (.istore 4, 2) := by decide +kernel
theorem d11_compared_39 : decode (mm_cc M11_compared) 39 = .ok (.aload_n 0, 1) := by decide +kernel
theorem d11_compared_40 : decode (mm_cc M11_compared) 40 = .ok (.iconst 2, 1) := by decide +kernel
theorem d11_compared_41 : decode (mm_cc M11_compared) 41 = .ok (.invokevirtual 348, 3) := by decide +kernel
theorem d11_compared_44 : decode (mm_cc M11_compared) 44 = .ok (.aload_n 0, 1) := by decide +kernel
theorem d11_compared_45 : decode (mm_cc M11_compared) 45 = .ok (.iload_n 3, 1) := by decide +kernel
theorem d11_compared_46 : decode (mm_cc M11_compared) 46 = .ok (.putfield 22, 3) := by decide +kernel
theorem d11_compared_49 : decode (mm_cc M11_compared) 49 = .ok (.iconst 0, 1) := by decide +kernel
theorem d11_compared_50 : decode (mm_cc M11_compared) 50 = .ok (.istore 5, 2) := by decide +kernel
theorem d11_compared_52 : decode (mm_cc M11_compared) 52 = .ok (.iload 5, 2) := by decide +kernel
theorem d11_compared_54 : decode (mm_cc M11_compared) 54 = .ok (.iload_n 1, 1) := by decide +kernel
theorem d11_compared_55 : decode (mm_cc M11_compared) 55 = .ok (.if_icmp .ge 14, 3) := by decide +kernel
theorem d11_compared_58 : decode (mm_cc M11_compared) 58 = .ok (.aload_n 0, 1) := by decide +kernel
theorem d11_compared_59 : decode (mm_cc M11_compared) 59 = .ok (.iload_n 2, 1) := by decide +kernel
theorem d11_compared_60 : decode (mm_cc M11_compared) 60 = .ok (.invokevirtual 343, 3) := by decide +kernel
theorem d11_compared_63 : decode (mm_cc M11_compared) 63 = .ok (.iinc 5 1, 3) := by decide +kernel
theorem d11_compared_66 : decode (mm_cc M11_compared) 66 = .ok (.goto (-14), 3) := by decide +kernel
theorem d11_compared_69 : decode (mm_cc M11_compared) 69 = .ok (.aload_n 0, 1) := by decide +kernel
theorem d11_compared_70 : decode (mm_cc M11_compared) 70 = .ok (.invokevirtual 264, 3) := by decide +kernel
theorem d11_compared_73 : decode (mm_cc M11_compared) 73 = .ok (.invokestatic 278, 3) := by decide +kernel
theorem d11_compared_76 : decode (mm_cc M11_compared) 76 = .ok (.istore 5, 2) := by decide +kernel
theorem d11_compared_78 : decode (mm_cc M11_compared) 78 = .ok (.aload_n 0, 1) := by decide +kernel
theorem d11_compared_79 : decode (mm_cc M11_compared) 79 = .ok (.iconst 2, 1) := by decide +kernel
theorem d11_compared_80 : decode (mm_cc M11_compared) 80 = .ok (.invokevirtual 351, 3) := by decide +kernel
theorem d11_compared_83 : decode (mm_cc M11_compared) 83 = .ok (.aload_n 0, 1) := by decide +kernel
theorem d11_compared_84 : decode (mm_cc M11_compared) 84 = .ok (.iload 4, 2) := by decide +kernel
theorem d11_compared_86 : decode (mm_cc M11_compared) 86 = .ok (.putfield 22, 3) := by decide +kernel
theorem d11_compared_89 : decode (mm_cc M11_compared) 89 = .ok (.iload 5, 2) := by decide +kernel
theorem d11_compared_91 : decode (mm_cc M11_compared) 91 = .ok (.ireturn, 1) := by decide +kernel
theorem d11_drift_0 : decode (mm_cc M11_drift) 0 = .ok (.iload_n 1, 1) := by decide +kernel
theorem d11_drift_1 : decode (mm_cc M11_drift) 1 = .ok (.iload_n 2, 1) := by decide +kernel
theorem d11_drift_2 : decode (mm_cc M11_drift) 2 = .ok (.invokestatic 340, 3) := by decide +kernel
theorem d11_drift_5 : decode (mm_cc M11_drift) 5 = .ok (.ifCond .ne 6, 3) := by decide +kernel
theorem d11_drift_8 : decode (mm_cc M11_drift) 8 = .ok (.ldc 156, 2) := by decide +kernel
theorem d11_drift_10 : decode (mm_cc M11_drift) 10 = .ok (.ireturn, 1) := by decide +kernel
theorem d11_drift_11 : decode (mm_cc M11_drift) 11 = .ok (.aload_n 0, 1) := by decide +kernel
theorem d11_drift_12 : decode (mm_cc M11_drift) 12 = .ok (.getfield 133, 3) := by decide +kernel
theorem d11_drift_15 : decode (mm_cc M11_drift) 15 = .ok (.ifCond .ne 6, 3) := by decide +kernel
theorem d11_drift_18 : decode (mm_cc M11_drift) 18 = .ok (.ldc 250, 2) := by decide +kernel
theorem d11_drift_20 : decode (mm_cc M11_drift) 20 = .ok (.ireturn, 1) := by decide +kernel
theorem d11_drift_21 : decode (mm_cc M11_drift) 21 = .ok (.iconst 0, 1) := by decide +kernel
theorem d11_drift_22 : decode (mm_cc M11_drift) 22 = .ok (.istore_n 3, 1) := by decide +kernel
theorem d11_drift_23 : decode (mm_cc M11_drift) 23 = .ok (.iload_n 3, 1) := by decide +kernel
theorem d11_drift_24 : decode (mm_cc M11_drift) 24 = .ok (.iload_n 1, 1) := by decide +kernel
theorem d11_drift_25 : decode (mm_cc M11_drift) 25 = .ok (.if_icmp .ge 14, 3) := by decide +kernel
theorem d11_drift_28 : decode (mm_cc M11_drift) 28 = .ok (.aload_n 0, 1) := by decide +kernel
theorem d11_drift_29 : decode (mm_cc M11_drift) 29 = .ok (.iload_n 2, 1) := by decide +kernel
theorem d11_drift_30 : decode (mm_cc M11_drift) 30 = .ok (.invokevirtual 343, 3) := by decide +kernel
theorem d11_drift_33 : decode (mm_cc M11_drift) 33 = .ok (.iinc 3 1, 3) := by decide +kernel
theorem d11_drift_36 : decode (mm_cc M11_drift) 36 = .ok (.goto (-13), 3) := by decide +kernel
theorem d11_drift_39 : decode (mm_cc M11_drift) 39 = .ok (.aload_n 0, 1) := by decide +kernel
theorem d11_drift_40 : decode (mm_cc M11_drift) 40 = .ok (.invokevirtual 264, 3) := by decide +kernel
theorem d11_drift_43 : decode (mm_cc M11_drift) 43 = .ok (.ireturn, 1) := by decide +kernel
theorem d11_ring_0 : decode (mm_cc M11_ring) 0 = .ok (.iload_n 1, 1) := by decide +kernel
theorem d11_ring_1 : decode (mm_cc M11_ring) 1 = .ok (.i2l, 1) := by decide +kernel
theorem d11_ring_2 : decode (mm_cc M11_ring) 2 = .ok (.lconst 0, 1) := by decide +kernel
theorem d11_ring_3 : decode (mm_cc M11_ring) 3 = .ok (.ldc2_w 384, 3) := by decide +kernel
theorem d11_ring_6 : decode (mm_cc M11_ring) 6 = .ok (.invokestatic 136, 3) := by decide +kernel
theorem d11_ring_9 : decode (mm_cc M11_ring) 9 = .ok (.ifCond .ne 6, 3) := by decide +kernel
theorem d11_ring_12 : decode (mm_cc M11_ring) 12 = .ok (.ldc 156, 2) := by decide +kernel
theorem d11_ring_14 : decode (mm_cc M11_ring) 14 = .ok (.ireturn, 1) := by decide +kernel
theorem d11_ring_15 : decode (mm_cc M11_ring) 15 = .ok (.aload_n 0, 1) := by decide +kernel
theorem d11_ring_16 : decode (mm_cc M11_ring) 16 = .ok (.invokevirtual 386, 3) := by decide +kernel
theorem d11_ring_19 : decode (mm_cc M11_ring) 19 = .ok (.istore_n 2, 1) := by decide +kernel
theorem d11_ring_20 : decode (mm_cc M11_ring) 20 = .ok (.iload_n 1, 1) := by decide +kernel
theorem d11_ring_21 : decode (mm_cc M11_ring) 21 = .ok (.ifCond .ne 7, 3) := by decide +kernel
theorem d11_ring_24 : decode (mm_cc M11_ring) 24 = .ok (.iload_n 2, 1) := by decide +kernel
theorem d11_ring_25 : decode (mm_cc M11_ring) 25 = .ok (.goto 37, 3) := by decide +kernel
theorem d11_ring_28 : decode (mm_cc M11_ring) 28 = .ok (.iload_n 1, 1) := by decide +kernel
theorem d11_ring_29 : decode (mm_cc M11_ring) 29 = .ok (.iconst 1, 1) := by decide +kernel
theorem d11_ring_30 : decode (mm_cc M11_ring) 30 = .ok (.if_icmp .ne 10, 3) := by decide +kernel
theorem d11_ring_33 : decode (mm_cc M11_ring) 33 = .ok (.aload_n 0, 1) := by decide +kernel
theorem d11_ring_34 : decode (mm_cc M11_ring) 34 = .ok (.getfield 375, 3) := by decide +kernel
theorem d11_ring_37 : decode (mm_cc M11_ring) 37 = .ok (.goto 25, 3) := by decide +kernel
theorem d11_ring_40 : decode (mm_cc M11_ring) 40 = .ok (.iload_n 1, 1) := by decide +kernel
theorem d11_ring_41 : decode (mm_cc M11_ring) 41 = .ok (.iconst 2, 1) := by decide +kernel
theorem d11_ring_42 : decode (mm_cc M11_ring) 42 = .ok (.isub, 1) := by decide +kernel
theorem d11_ring_43 : decode (mm_cc M11_ring) 43 = .ok (.aload_n 0, 1) := by decide +kernel
theorem d11_ring_44 : decode (mm_cc M11_ring) 44 = .ok (.getfield 375, 3) := by decide +kernel
theorem d11_ring_47 : decode (mm_cc M11_ring) 47 = .ok (.if_icmp .ge 14, 3) := by decide +kernel
theorem d11_ring_50 : decode (mm_cc M11_ring) 50 = .ok (.aload_n 0, 1) := by decide +kernel
theorem d11_ring_51 : decode (mm_cc M11_ring) 51 = .ok (.getfield 105, 3) := by decide +kernel
theorem d11_ring_54 : decode (mm_cc M11_ring) 54 = .ok (.iload_n 1, 1) := by decide +kernel
theorem d11_ring_55 : decode (mm_cc M11_ring) 55 = .ok (.iconst 2, 1) := by decide +kernel
theorem d11_ring_56 : decode (mm_cc M11_ring) 56 = .ok (.isub, 1) := by decide +kernel
theorem d11_ring_57 : decode (mm_cc M11_ring) 57 = .ok (.iaload, 1) := by decide +kernel
theorem d11_ring_58 : decode (mm_cc M11_ring) 58 = .ok (.goto 4, 3) := by decide +kernel
theorem d11_ring_61 : decode (mm_cc M11_ring) 61 = .ok (.iconst (-1), 1) := by decide +kernel
theorem d11_ring_62 : decode (mm_cc M11_ring) 62 = .ok (.ireturn, 1) := by decide +kernel
theorem d11_town_0 : decode (mm_cc M11_town) 0 = .ok (.aload_n 0, 1) := by decide +kernel
theorem d11_town_1 : decode (mm_cc M11_town) 1 = .ok (.iconst (-1), 1) := by decide +kernel
theorem d11_town_2 : decode (mm_cc M11_town) 2 = .ok (.putfield 78, 3) := by decide +kernel
theorem d11_town_5 : decode (mm_cc M11_town) 5 = .ok (.aload_n 0, 1) := by decide +kernel
theorem d11_town_6 : decode (mm_cc M11_town) 6 = .ok (.iconst 0, 1) := by decide +kernel
theorem d11_town_7 : decode (mm_cc M11_town) 7 = .ok (.putfield 163, 3) := by decide +kernel
theorem d11_town_10 : decode (mm_cc M11_town) 10 = .ok (.aload_n 0, 1) := by decide +kernel
theorem d11_town_11 : decode (mm_cc M11_town) 11 = .ok (.iconst 0, 1) := by decide +kernel
theorem d11_town_12 : decode (mm_cc M11_town) 12 = .ok (.putfield 208, 3) := by decide +kernel
theorem d11_town_15 : decode (mm_cc M11_town) 15 = .ok (.aload_n 0, 1) := by decide +kernel
theorem d11_town_16 : decode (mm_cc M11_town) 16 = .ok (.iconst 0, 1) := by decide +kernel
theorem d11_town_17 : decode (mm_cc M11_town) 17 = .ok (.putfield 223, 3) := by decide +kernel
theorem d11_town_20 : decode (mm_cc M11_town) 20 = .ok (.aload_n 0, 1) := by decide +kernel
theorem d11_town_21 : decode (mm_cc M11_town) 21 = .ok (.iconst 0, 1) := by decide +kernel
theorem d11_town_22 : decode (mm_cc M11_town) 22 = .ok (.putfield 226, 3) := by decide +kernel
theorem d11_town_25 : decode (mm_cc M11_town) 25 = .ok (.iconst 0, 1) := by decide +kernel
theorem d11_town_26 : decode (mm_cc M11_town) 26 = .ok (.istore_n 1, 1) := by decide +kernel
theorem d11_town_27 : decode (mm_cc M11_town) 27 = .ok (.iload_n 1, 1) := by decide +kernel
theorem d11_town_28 : decode (mm_cc M11_town) 28 = .ok (.ifCond .ne 18, 3) := by decide +kernel
theorem d11_town_31 : decode (mm_cc M11_town) 31 = .ok (.aload_n 0, 1) := by decide +kernel
theorem d11_town_32 : decode (mm_cc M11_town) 32 = .ok (.invokevirtual 166, 3) := by decide +kernel
theorem d11_town_35 : decode (mm_cc M11_town) 35 = .ok (.ifCond .lt 11, 3) := by decide +kernel
theorem d11_town_38 : decode (mm_cc M11_town) 38 = .ok (.aload_n 0, 1) := by decide +kernel
theorem d11_town_39 : decode (mm_cc M11_town) 39 = .ok (.invokevirtual 241, 3) := by decide +kernel
theorem d11_town_42 : decode (mm_cc M11_town) 42 = .ok (.istore_n 1, 1) := by decide +kernel
theorem d11_town_43 : decode (mm_cc M11_town) 43 = .ok (.goto (-16), 3) := by decide +kernel
theorem d11_town_46 : decode (mm_cc M11_town) 46 = .ok (.aload_n 0, 1) := by decide +kernel
theorem d11_town_47 : decode (mm_cc M11_town) 47 = .ok (.iconst 0, 1) := by decide +kernel
theorem d11_town_48 : decode (mm_cc M11_town) 48 = .ok (.putfield 157, 3) := by decide +kernel
theorem d11_town_51 : decode (mm_cc M11_town) 51 = .ok (.iload_n 1, 1) := by decide +kernel
theorem d11_town_52 : decode (mm_cc M11_town) 52 = .ok (.ifCond .le 8, 3) := by decide +kernel
theorem d11_town_55 : decode (mm_cc M11_town) 55 = .ok (.bipush (-10), 2) := by decide +kernel
theorem d11_town_57 : decode (mm_cc M11_town) 57 = .ok (.iload_n 1, 1) := by decide +kernel
theorem d11_town_58 : decode (mm_cc M11_town) 58 = .ok (.isub, 1) := by decide +kernel
theorem d11_town_59 : decode (mm_cc M11_town) 59 = .ok (.ireturn, 1) := by decide +kernel
theorem d11_town_60 : decode (mm_cc M11_town) 60 = .ok (.aload_n 0, 1) := by decide +kernel
theorem d11_town_61 : decode (mm_cc M11_town) 61 = .ok (.aload_n 0, 1) := by decide +kernel
theorem d11_town_62 : decode (mm_cc M11_town) 62 = .ok (.getfield 208, 3) := by decide +kernel
theorem d11_town_65 : decode (mm_cc M11_town) 65 = .ok (.putfield 133, 3) := by decide +kernel
theorem d11_town_68 : decode (mm_cc M11_town) 68 = .ok (.aload_n 0, 1) := by decide +kernel
theorem d11_town_69 : decode (mm_cc M11_town) 69 = .ok (.aload_n 0, 1) := by decide +kernel
theorem d11_town_70 : decode (mm_cc M11_town) 70 = .ok (.getfield 223, 3) := by decide +kernel
theorem d11_town_73 : decode (mm_cc M11_town) 73 = .ok (.putfield 140, 3) := by decide +kernel
theorem d11_town_76 : decode (mm_cc M11_town) 76 = .ok (.iconst 0, 1) := by decide +kernel
theorem d11_town_77 : decode (mm_cc M11_town) 77 = .ok (.istore_n 2, 1) := by decide +kernel
theorem d11_town_78 : decode (mm_cc M11_town) 78 = .ok (.iload_n 2, 1) := by decide +kernel
theorem d11_town_79 : decode (mm_cc M11_town) 79 = .ok (.bipush 24, 2) := by decide +kernel
theorem d11_town_81 : decode (mm_cc M11_town) 81 = .ok (.if_icmp .ge 21, 3) := by decide +kernel
theorem d11_town_84 : decode (mm_cc M11_town) 84 = .ok (.aload_n 0, 1) := by decide +kernel
theorem d11_town_85 : decode (mm_cc M11_town) 85 = .ok (.getfield 7, 3) := by decide +kernel
theorem d11_town_88 : decode (mm_cc M11_town) 88 = .ok (.iload_n 2, 1) := by decide +kernel
theorem d11_town_89 : decode (mm_cc M11_town) 89 = .ok (.aload_n 0, 1) := by decide +kernel
theorem d11_town_90 : decode (mm_cc M11_town) 90 = .ok (.getfield 81, 3) := by decide +kernel
theorem d11_town_93 : decode (mm_cc M11_town) 93 = .ok (.iload_n 2, 1) := by decide +kernel
theorem d11_town_94 : decode (mm_cc M11_town) 94 = .ok (.iaload, 1) := by decide +kernel
theorem d11_town_95 : decode (mm_cc M11_town) 95 = .ok (.iastore, 1) := by decide +kernel
theorem d11_town_96 : decode (mm_cc M11_town) 96 = .ok (.iinc 2 1, 3) := by decide +kernel
theorem d11_town_99 : decode (mm_cc M11_town) 99 = .ok (.goto (-21), 3) := by decide +kernel
theorem d11_town_102 : decode (mm_cc M11_town) 102 = .ok (.iconst 0, 1) := by decide +kernel
theorem d11_town_103 : decode (mm_cc M11_town) 103 = .ok (.istore_n 2, 1) := by decide +kernel
theorem d11_town_104 : decode (mm_cc M11_town) 104 = .ok (.iload_n 2, 1) := by decide +kernel
theorem d11_town_105 : decode (mm_cc M11_town) 105 = .ok (.bipush 48, 2) := by decide +kernel
theorem d11_town_107 : decode (mm_cc M11_town) 107 = .ok (.if_icmp .ge 75, 3) := by decide +kernel
theorem d11_town_110 : decode (mm_cc M11_town) 110 = .ok (.aload_n 0, 1) := by decide +kernel
theorem d11_town_111 : decode (mm_cc M11_town) 111 = .ok (.getfield 13, 3) := by decide +kernel
theorem d11_town_114 : decode (mm_cc M11_town) 114 = .ok (.iload_n 2, 1) := by decide +kernel
theorem d11_town_115 : decode (mm_cc M11_town) 115 = .ok (.bipush 6, 2) := by decide +kernel
theorem d11_town_117 : decode (mm_cc M11_town) 117 = .ok (.idiv, 1) := by decide +kernel
theorem d11_town_118 : decode (mm_cc M11_town) 118 = .ok (.aload_n 0, 1) := by decide +kernel
theorem d11_town_119 : decode (mm_cc M11_town) 119 = .ok (.getfield 84, 3) := by decide +kernel
theorem d11_town_122 : decode (mm_cc M11_town) 122 = .ok (.iload_n 2, 1) := by decide +kernel
theorem d11_town_123 : decode (mm_cc M11_town) 123 = .ok (.bipush 6, 2) := by decide +kernel
theorem d11_town_125 : decode (mm_cc M11_town) 125 = .ok (.idiv, 1) := by decide +kernel
theorem d11_town_126 : decode (mm_cc M11_town) 126 = .ok (.iaload, 1) := by decide +kernel
theorem d11_town_127 : decode (mm_cc M11_town) 127 = .ok (.iastore, 1) := by decide +kernel
theorem d11_town_128 : decode (mm_cc M11_town) 128 = .ok (.aload_n 0, 1) := by decide +kernel
theorem d11_town_129 : decode (mm_cc M11_town) 129 = .ok (.getfield 16, 3) := by decide +kernel
theorem d11_town_132 : decode (mm_cc M11_town) 132 = .ok (.iload_n 2, 1) := by decide +kernel
theorem d11_town_133 : decode (mm_cc M11_town) 133 = .ok (.aload_n 0, 1) := by decide +kernel
theorem d11_town_134 : decode (mm_cc M11_town) 134 = .ok (.getfield 87, 3) := by decide +kernel
theorem d11_town_137 : decode (mm_cc M11_town) 137 = .ok (.iload_n 2, 1) := by decide +kernel
theorem d11_town_138 : decode (mm_cc M11_town) 138 = .ok (.iaload, 1) := by decide +kernel
theorem d11_town_139 : decode (mm_cc M11_town) 139 = .ok (.iastore, 1) := by decide +kernel
theorem d11_town_140 : decode (mm_cc M11_town) 140 = .ok (.aload_n 0, 1) := by decide +kernel
theorem d11_town_141 : decode (mm_cc M11_town) 141 = .ok (.getfield 19, 3) := by decide +kernel
theorem d11_town_144 : decode (mm_cc M11_town) 144 = .ok (.iload_n 2, 1) := by decide +kernel
theorem d11_town_145 : decode (mm_cc M11_town) 145 = .ok (.iload_n 2, 1) := by decide +kernel
theorem d11_town_146 : decode (mm_cc M11_town) 146 = .ok (.bipush 6, 2) := by decide +kernel
theorem d11_town_148 : decode (mm_cc M11_town) 148 = .ok (.idiv, 1) := by decide +kernel
theorem d11_town_149 : decode (mm_cc M11_town) 149 = .ok (.aload_n 0, 1) := by decide +kernel
theorem d11_town_150 : decode (mm_cc M11_town) 150 = .ok (.getfield 140, 3) := by decide +kernel
theorem d11_town_153 : decode (mm_cc M11_town) 153 = .ok (.if_icmp .ge 21, 3) := by decide +kernel
theorem d11_town_156 : decode (mm_cc M11_town) 156 = .ok (.aload_n 0, 1) := by decide +kernel
theorem d11_town_157 : decode (mm_cc M11_town) 157 = .ok (.getfield 90, 3) := by decide +kernel
theorem d11_town_160 : decode (mm_cc M11_town) 160 = .ok (.iload_n 2, 1) := by decide +kernel
theorem d11_town_161 : decode (mm_cc M11_town) 161 = .ok (.iaload, 1) := by decide +kernel
theorem d11_town_162 : decode (mm_cc M11_town) 162 = .ok (.ifCond .le 12, 3) := by decide +kernel
theorem d11_town_165 : decode (mm_cc M11_town) 165 = .ok (.aload_n 0, 1) := by decide +kernel
theorem d11_town_166 : decode (mm_cc M11_town) 166 = .ok (.getfield 90, 3) := by decide +kernel
theorem d11_town_169 : decode (mm_cc M11_town) 169 = .ok (.iload_n 2, 1) := by decide +kernel
theorem d11_town_170 : decode (mm_cc M11_town) 170 = .ok (.iaload, 1) := by decide +kernel
theorem d11_town_171 : decode (mm_cc M11_town) 171 = .ok (.goto 4, 3) := by decide +kernel
theorem d11_town_174 : decode (mm_cc M11_town) 174 = .ok (.iconst 0, 1) := by decide +kernel
theorem d11_town_175 : decode (mm_cc M11_town) 175 = .ok (.iastore, 1) := by decide +kernel
theorem d11_town_176 : decode (mm_cc M11_town) 176 = .ok (.iinc 2 1, 3) := by decide +kernel
theorem d11_town_179 : decode (mm_cc M11_town) 179 = .ok (.goto (-75), 3) := by decide +kernel
theorem d11_town_182 : decode (mm_cc M11_town) 182 = .ok (.iconst 0, 1) := by decide +kernel
theorem d11_town_183 : decode (mm_cc M11_town) 183 = .ok (.istore_n 2, 1) := by decide +kernel
theorem d11_town_184 : decode (mm_cc M11_town) 184 = .ok (.iload_n 2, 1) := by decide +kernel
theorem d11_town_185 : decode (mm_cc M11_town) 185 = .ok (.bipush 6, 2) := by decide +kernel
theorem d11_town_187 : decode (mm_cc M11_town) 187 = .ok (.if_icmp .ge 16, 3) := by decide +kernel
theorem d11_town_190 : decode (mm_cc M11_town) 190 = .ok (.aload_n 0, 1) := by decide +kernel
theorem d11_town_191 : decode (mm_cc M11_town) 191 = .ok (.getfield 72, 3) := by decide +kernel
theorem d11_town_194 : decode (mm_cc M11_town) 194 = .ok (.iload_n 2, 1) := by decide +kernel
theorem d11_town_195 : decode (mm_cc M11_town) 195 = .ok (.iconst 0, 1) := by decide +kernel
theorem d11_town_196 : decode (mm_cc M11_town) 196 = .ok (.iastore, 1) := by decide +kernel
theorem d11_town_197 : decode (mm_cc M11_town) 197 = .ok (.iinc 2 1, 3) := by decide +kernel
theorem d11_town_200 : decode (mm_cc M11_town) 200 = .ok (.goto (-16), 3) := by decide +kernel
theorem d11_town_203 : decode (mm_cc M11_town) 203 = .ok (.aload_n 0, 1) := by decide +kernel
theorem d11_town_204 : decode (mm_cc M11_town) 204 = .ok (.iconst 0, 1) := by decide +kernel
theorem d11_town_205 : decode (mm_cc M11_town) 205 = .ok (.putfield 244, 3) := by decide +kernel
theorem d11_town_208 : decode (mm_cc M11_town) 208 = .ok (.aload_n 0, 1) := by decide +kernel
theorem d11_town_209 : decode (mm_cc M11_town) 209 = .ok (.iconst 0, 1) := by decide +kernel
theorem d11_town_210 : decode (mm_cc M11_town) 210 = .ok (.putfield 247, 3) := by decide +kernel
theorem d11_town_213 : decode (mm_cc M11_town) 213 = .ok (.aload_n 0, 1) := by decide +kernel
theorem d11_town_214 : decode (mm_cc M11_town) 214 = .ok (.getfield 126, 3) := by decide +kernel
theorem d11_town_217 : decode (mm_cc M11_town) 217 = .ok (.iconst 0, 1) := by decide +kernel
theorem d11_town_218 : decode (mm_cc M11_town) 218 = .ok (.iconst 0, 1) := by decide +kernel
theorem d11_town_219 : decode (mm_cc M11_town) 219 = .ok (.bastore, 1) := by decide +kernel
theorem d11_town_220 : decode (mm_cc M11_town) 220 = .ok (.aload_n 0, 1) := by decide +kernel
theorem d11_town_221 : decode (mm_cc M11_town) 221 = .ok (.getfield 126, 3) := by decide +kernel
theorem d11_town_224 : decode (mm_cc M11_town) 224 = .ok (.iconst 1, 1) := by decide +kernel
theorem d11_town_225 : decode (mm_cc M11_town) 225 = .ok (.iconst 0, 1) := by decide +kernel
theorem d11_town_226 : decode (mm_cc M11_town) 226 = .ok (.bastore, 1) := by decide +kernel
theorem d11_town_227 : decode (mm_cc M11_town) 227 = .ok (.aload_n 0, 1) := by decide +kernel
theorem d11_town_228 : decode (mm_cc M11_town) 228 = .ok (.iconst 0, 1) := by decide +kernel
theorem d11_town_229 : decode (mm_cc M11_town) 229 = .ok (.putfield 147, 3) := by decide +kernel
theorem d11_town_232 : decode (mm_cc M11_town) 232 = .ok (.aload_n 0, 1) := by decide +kernel
theorem d11_town_233 : decode (mm_cc M11_town) 233 = .ok (.invokevirtual 129, 3) := by decide +kernel
theorem d11_town_236 : decode (mm_cc M11_town) 236 = .ok (.istore_n 2, 1) := by decide +kernel
theorem d11_town_237 : decode (mm_cc M11_town) 237 = .ok (.aload_n 0, 1) := by decide +kernel
theorem d11_town_238 : decode (mm_cc M11_town) 238 = .ok (.getfield 140, 3) := by decide +kernel
theorem d11_town_241 : decode (mm_cc M11_town) 241 = .ok (.ireturn, 1) := by decide +kernel
theorem d2_passYear_0 : decode (mm_cc M2_passYear) 0 = .ok (.iconst 0, 1) := by decide +kernel
theorem d2_passYear_1 : decode (mm_cc M2_passYear) 1 = .ok (.istore_n 1, 1) := by decide +kernel
theorem d2_passYear_2 : decode (mm_cc M2_passYear) 2 = .ok (.iload_n 1, 1) := by decide +kernel
theorem d2_passYear_3 : decode (mm_cc M2_passYear) 3 = .ok (.aload_n 0, 1) := by decide +kernel
theorem d2_passYear_4 : decode (mm_cc M2_passYear) 4 = .ok (.getfield 9, 3) := by decide +kernel
theorem d2_passYear_7 : decode (mm_cc M2_passYear) 7 = .ok (.getfield 110, 3) := by decide +kernel
theorem d2_passYear_10 : decode (mm_cc M2_passYear) 10 = .ok (.if_icmp .ge 25, 3) := by decide +kernel
theorem d2_passYear_13 : decode (mm_cc M2_passYear) 13 = .ok (.aload_n 0, 1) := by decide +kernel
theorem d2_passYear_14 : decode (mm_cc M2_passYear) 14 = .ok (.getfield 19, 3) := by decide +kernel
theorem d2_passYear_17 : decode (mm_cc M2_passYear) 17 = .ok (.iload_n 1, 1) := by decide +kernel
theorem d2_passYear_18 : decode (mm_cc M2_passYear) 18 = .ok (.invokevirtual 90, 3) := by decide +kernel
theorem d2_passYear_21 : decode (mm_cc M2_passYear) 21 = .ok (.ifCond .eq 8, 3) := by decide +kernel
theorem d2_passYear_24 : decode (mm_cc M2_passYear) 24 = .ok (.aload_n 0, 1) := by decide +kernel
theorem d2_passYear_25 : decode (mm_cc M2_passYear) 25 = .ok (.iload_n 1, 1) := by decide +kernel
theorem d2_passYear_26 : decode (mm_cc M2_passYear) 26 = .ok (.invokevirtual 140, 3) := by decide +kernel
theorem d2_passYear_29 : decode (mm_cc M2_passYear) 29 = .ok (.iinc 1 1, 3) := by decide +kernel
theorem d2_passYear_32 : decode (mm_cc M2_passYear) 32 = .ok (.goto (-30), 3) := by decide +kernel
theorem d2_passYear_35 : decode (mm_cc M2_passYear) 35 = .ok (.aload_n 0, 1) := by decide +kernel
theorem d2_passYear_36 : decode (mm_cc M2_passYear) 36 = .ok (.getfield 19, 3) := by decide +kernel
theorem d2_passYear_39 : decode (mm_cc M2_passYear) 39 = .ok (.dup, 1) := by decide +kernel
theorem d2_passYear_40 : decode (mm_cc M2_passYear) 40 = .ok (.getfield 144, 3) := by decide +kernel
theorem d2_passYear_43 : decode (mm_cc M2_passYear) 43 = .ok (.iconst 1, 1) := by decide +kernel
theorem d2_passYear_44 : decode (mm_cc M2_passYear) 44 = .ok (.iadd, 1) := by decide +kernel
theorem d2_passYear_45 : decode (mm_cc M2_passYear) 45 = .ok (.putfield 144, 3) := by decide +kernel
theorem d2_passYear_48 : decode (mm_cc M2_passYear) 48 = .ok (.aload_n 0, 1) := by decide +kernel
theorem d2_passYear_49 : decode (mm_cc M2_passYear) 49 = .ok (.getfield 19, 3) := by decide +kernel
theorem d2_passYear_52 : decode (mm_cc M2_passYear) 52 = .ok (.iconst 0, 1) := by decide +kernel
theorem d2_passYear_53 : decode (mm_cc M2_passYear) 53 = .ok (.putfield 78, 3) := by decide +kernel
theorem d2_passYear_56 : decode (mm_cc M2_passYear) 56 = .ok (.aload_n 0, 1) := by decide +kernel
theorem d2_passYear_57 : decode (mm_cc M2_passYear) 57 = .ok (.getfield 19, 3) := by decide +kernel
theorem d2_passYear_60 : decode (mm_cc M2_passYear) 60 = .ok (.iconst 0, 1) := by decide +kernel
theorem d2_passYear_61 : decode (mm_cc M2_passYear) 61 = .ok (.putfield 131, 3) := by decide +kernel
theorem d2_passYear_64 : decode (mm_cc M2_passYear) 64 = .ok (.return_, 1) := by decide +kernel
theorem d7_opens_0 : decode (mm_cc M7_opens) 0 = .ok (.aload_n 1, 1) := by decide +kernel
theorem d7_opens_1 : decode (mm_cc M7_opens) 1 = .ok (.aload_n 2, 1) := by decide +kernel
theorem d7_opens_2 : decode (mm_cc M7_opens) 2 = .ok (.invokevirtual 80, 3) := by decide +kernel
theorem d7_opens_5 : decode (mm_cc M7_opens) 5 = .ok (.ifCond .ne 5, 3) := by decide +kernel
theorem d7_opens_8 : decode (mm_cc M7_opens) 8 = .ok (.iconst 0, 1) := by decide +kernel
theorem d7_opens_9 : decode (mm_cc M7_opens) 9 = .ok (.ireturn, 1) := by decide +kernel
theorem d7_opens_10 : decode (mm_cc M7_opens) 10 = .ok (.aload_n 0, 1) := by decide +kernel
theorem d7_opens_11 : decode (mm_cc M7_opens) 11 = .ok (.getfield 34, 3) := by decide +kernel
theorem d7_opens_14 : decode (mm_cc M7_opens) 14 = .ok (.iload_n 3, 1) := by decide +kernel
theorem d7_opens_15 : decode (mm_cc M7_opens) 15 = .ok (.iand, 1) := by decide +kernel
theorem d7_opens_16 : decode (mm_cc M7_opens) 16 = .ok (.ifCond .eq 12, 3) := by decide +kernel
theorem d7_opens_19 : decode (mm_cc M7_opens) 19 = .ok (.aload_n 1, 1) := by decide +kernel
theorem d7_opens_20 : decode (mm_cc M7_opens) 20 = .ok (.iconst 3, 1) := by decide +kernel
theorem d7_opens_21 : decode (mm_cc M7_opens) 21 = .ok (.aload_n 1, 1) := by decide +kernel
theorem d7_opens_22 : decode (mm_cc M7_opens) 22 = .ok (.getfield 70, 3) := by decide +kernel
theorem d7_opens_25 : decode (mm_cc M7_opens) 25 = .ok (.invokevirtual 73, 3) := by decide +kernel
theorem d7_opens_28 : decode (mm_cc M7_opens) 28 = .ok (.aload_n 0, 1) := by decide +kernel
theorem d7_opens_29 : decode (mm_cc M7_opens) 29 = .ok (.dup, 1) := by decide +kernel
theorem d7_opens_30 : decode (mm_cc M7_opens) 30 = .ok (.getfield 34, 3) := by decide +kernel
theorem d7_opens_33 : decode (mm_cc M7_opens) 33 = .ok (.iload_n 3, 1) := by decide +kernel
theorem d7_opens_34 : decode (mm_cc M7_opens) 34 = .ok (.ior, 1) := by decide +kernel
theorem d7_opens_35 : decode (mm_cc M7_opens) 35 = .ok (.putfield 34, 3) := by decide +kernel
theorem d7_opens_38 : decode (mm_cc M7_opens) 38 = .ok (.aload_n 1, 1) := by decide +kernel
theorem d7_opens_39 : decode (mm_cc M7_opens) 39 = .ok (.invokevirtual 84, 3) := by decide +kernel
theorem d7_opens_42 : decode (mm_cc M7_opens) 42 = .ok (.iconst 1, 1) := by decide +kernel
theorem d7_opens_43 : decode (mm_cc M7_opens) 43 = .ok (.ireturn, 1) := by decide +kernel
theorem d9_kindHere_0 : decode (mm_cc M9_kindHere) 0 = .ok (.aload_n 0, 1) := by decide +kernel
theorem d9_kindHere_1 : decode (mm_cc M9_kindHere) 1 = .ok (.getfield 19, 3) := by decide +kernel
theorem d9_kindHere_4 : decode (mm_cc M9_kindHere) 4 = .ok (.ldc 117, 2) := by decide +kernel
theorem d9_kindHere_6 : decode (mm_cc M9_kindHere) 6 = .ok (.invokevirtual 50, 3) := by decide +kernel
theorem d9_kindHere_9 : decode (mm_cc M9_kindHere) 9 = .ok (.ifCond .eq 5, 3) := by decide +kernel
theorem d9_kindHere_12 : decode (mm_cc M9_kindHere) 12 = .ok (.iconst 0, 1) := by decide +kernel
theorem d9_kindHere_13 : decode (mm_cc M9_kindHere) 13 = .ok (.ireturn, 1) := by decide +kernel
theorem d9_kindHere_14 : decode (mm_cc M9_kindHere) 14 = .ok (.aload_n 0, 1) := by decide +kernel
theorem d9_kindHere_15 : decode (mm_cc M9_kindHere) 15 = .ok (.getfield 19, 3) := by decide +kernel
theorem d9_kindHere_18 : decode (mm_cc M9_kindHere) 18 = .ok (.ldc 119, 2) := by decide +kernel
theorem d9_kindHere_20 : decode (mm_cc M9_kindHere) 20 = .ok (.invokevirtual 50, 3) := by decide +kernel
theorem d9_kindHere_23 : decode (mm_cc M9_kindHere) 23 = .ok (.ifCond .eq 5, 3) := by decide +kernel
theorem d9_kindHere_26 : decode (mm_cc M9_kindHere) 26 = .ok (.iconst 1, 1) := by decide +kernel
theorem d9_kindHere_27 : decode (mm_cc M9_kindHere) 27 = .ok (.ireturn, 1) := by decide +kernel
theorem d9_kindHere_28 : decode (mm_cc M9_kindHere) 28 = .ok (.aload_n 0, 1) := by decide +kernel
theorem d9_kindHere_29 : decode (mm_cc M9_kindHere) 29 = .ok (.getfield 19, 3) := by decide +kernel
theorem d9_kindHere_32 : decode (mm_cc M9_kindHere) 32 = .ok (.ldc 121, 2) := by decide +kernel
theorem d9_kindHere_34 : decode (mm_cc M9_kindHere) 34 = .ok (.invokevirtual 50, 3) := by decide +kernel
theorem d9_kindHere_37 : decode (mm_cc M9_kindHere) 37 = .ok (.ifCond .eq 5, 3) := by decide +kernel
theorem d9_kindHere_40 : decode (mm_cc M9_kindHere) 40 = .ok (.iconst 2, 1) := by decide +kernel
theorem d9_kindHere_41 : decode (mm_cc M9_kindHere) 41 = .ok (.ireturn, 1) := by decide +kernel
theorem d9_kindHere_42 : decode (mm_cc M9_kindHere) 42 = .ok (.aload_n 0, 1) := by decide +kernel
theorem d9_kindHere_43 : decode (mm_cc M9_kindHere) 43 = .ok (.getfield 19, 3) := by decide +kernel
theorem d9_kindHere_46 : decode (mm_cc M9_kindHere) 46 = .ok (.ldc 123, 2) := by decide +kernel
theorem d9_kindHere_48 : decode (mm_cc M9_kindHere) 48 = .ok (.invokevirtual 50, 3) := by decide +kernel
theorem d9_kindHere_51 : decode (mm_cc M9_kindHere) 51 = .ok (.ifCond .ne 18, 3) := by decide +kernel
theorem d9_kindHere_54 : decode (mm_cc M9_kindHere) 54 = .ok (.aload_n 0, 1) := by decide +kernel
theorem d9_kindHere_55 : decode (mm_cc M9_kindHere) 55 = .ok (.getfield 19, 3) := by decide +kernel
theorem d9_kindHere_58 : decode (mm_cc M9_kindHere) 58 = .ok (.iconst 1, 1) := by decide +kernel
theorem d9_kindHere_59 : decode (mm_cc M9_kindHere) 59 = .ok (.aload_n 0, 1) := by decide +kernel
theorem d9_kindHere_60 : decode (mm_cc M9_kindHere) 60 = .ok (.getfield 19, 3) := by decide +kernel
theorem d9_kindHere_63 : decode (mm_cc M9_kindHere) 63 = .ok (.getfield 70, 3) := by decide +kernel
theorem d9_kindHere_66 : decode (mm_cc M9_kindHere) 66 = .ok (.invokevirtual 73, 3) := by decide +kernel
theorem d9_kindHere_69 : decode (mm_cc M9_kindHere) 69 = .ok (.iconst 3, 1) := by decide +kernel
theorem d9_kindHere_70 : decode (mm_cc M9_kindHere) 70 = .ok (.ireturn, 1) := by decide +kernel
theorem d10_till_0 : decode (mm_cc M10_till) 0 = .ok (.aload_n 0, 1) := by decide +kernel
theorem d10_till_1 : decode (mm_cc M10_till) 1 = .ok (.getfield 19, 3) := by decide +kernel
theorem d10_till_4 : decode (mm_cc M10_till) 4 = .ok (.iload_n 1, 1) := by decide +kernel
theorem d10_till_5 : decode (mm_cc M10_till) 5 = .ok (.invokevirtual 216, 3) := by decide +kernel
theorem d10_till_8 : decode (mm_cc M10_till) 8 = .ok (.ifCond .ne 6, 3) := by decide +kernel
theorem d10_till_11 : decode (mm_cc M10_till) 11 = .ok (.ldc 220, 2) := by decide +kernel
theorem d10_till_13 : decode (mm_cc M10_till) 13 = .ok (.ireturn, 1) := by decide +kernel
theorem d10_till_14 : decode (mm_cc M10_till) 14 = .ok (.aload_n 0, 1) := by decide +kernel
theorem d10_till_15 : decode (mm_cc M10_till) 15 = .ok (.getfield 52, 3) := by decide +kernel
theorem d10_till_18 : decode (mm_cc M10_till) 18 = .ok (.aload_n 0, 1) := by decide +kernel
theorem d10_till_19 : decode (mm_cc M10_till) 19 = .ok (.getfield 42, 3) := by decide +kernel
theorem d10_till_22 : decode (mm_cc M10_till) 22 = .ok (.invokevirtual 154, 3) := by decide +kernel
theorem d10_till_25 : decode (mm_cc M10_till) 25 = .ok (.aload_n 0, 1) := by decide +kernel
theorem d10_till_26 : decode (mm_cc M10_till) 26 = .ok (.getfield 36, 3) := by decide +kernel
theorem d10_till_29 : decode (mm_cc M10_till) 29 = .ok (.aload_n 0, 1) := by decide +kernel
theorem d10_till_30 : decode (mm_cc M10_till) 30 = .ok (.getfield 29, 3) := by decide +kernel
theorem d10_till_33 : decode (mm_cc M10_till) 33 = .ok (.invokevirtual 172, 3) := by decide +kernel
theorem d10_till_36 : decode (mm_cc M10_till) 36 = .ok (.iconst 0, 1) := by decide +kernel
theorem d10_till_37 : decode (mm_cc M10_till) 37 = .ok (.istore_n 2, 1) := by decide +kernel
theorem d10_till_38 : decode (mm_cc M10_till) 38 = .ok (.iload_n 2, 1) := by decide +kernel
theorem d10_till_39 : decode (mm_cc M10_till) 39 = .ok (.sipush 200, 3) := by decide +kernel
theorem d10_till_42 : decode (mm_cc M10_till) 42 = .ok (.if_icmp .ge 29, 3) := by decide +kernel
theorem d10_till_45 : decode (mm_cc M10_till) 45 = .ok (.aload_n 0, 1) := by decide +kernel
theorem d10_till_46 : decode (mm_cc M10_till) 46 = .ok (.getfield 52, 3) := by decide +kernel
theorem d10_till_49 : decode (mm_cc M10_till) 49 = .ok (.iload_n 1, 1) := by decide +kernel
theorem d10_till_50 : decode (mm_cc M10_till) 50 = .ok (.bipush 50, 2) := by decide +kernel
theorem d10_till_52 : decode (mm_cc M10_till) 52 = .ok (.invokevirtual 237, 3) := by decide +kernel
theorem d10_till_55 : decode (mm_cc M10_till) 55 = .ok (.ifCond .eq 16, 3) := by decide +kernel
theorem d10_till_58 : decode (mm_cc M10_till) 58 = .ok (.aload_n 0, 1) := by decide +kernel
theorem d10_till_59 : decode (mm_cc M10_till) 59 = .ok (.getfield 95, 3) := by decide +kernel
theorem d10_till_62 : decode (mm_cc M10_till) 62 = .ok (.invokevirtual 293, 3) := by decide +kernel
theorem d10_till_65 : decode (mm_cc M10_till) 65 = .ok (.iinc 2 1, 3) := by decide +kernel
theorem d10_till_68 : decode (mm_cc M10_till) 68 = .ok (.goto (-30), 3) := by decide +kernel
theorem d10_till_71 : decode (mm_cc M10_till) 71 = .ok (.iload_n 2, 1) := by decide +kernel
theorem d10_till_72 : decode (mm_cc M10_till) 72 = .ok (.ireturn, 1) := by decide +kernel
theorem d10_year_0 : decode (mm_cc M10_year) 0 = .ok (.iload_n 1, 1) := by decide +kernel
theorem d10_year_1 : decode (mm_cc M10_year) 1 = .ok (.iconst 1, 1) := by decide +kernel
theorem d10_year_2 : decode (mm_cc M10_year) 2 = .ok (.bipush 99, 2) := by decide +kernel
theorem d10_year_4 : decode (mm_cc M10_year) 4 = .ok (.invokestatic 120, 3) := by decide +kernel
theorem d10_year_7 : decode (mm_cc M10_year) 7 = .ok (.ifCond .ne 6, 3) := by decide +kernel
theorem d10_year_10 : decode (mm_cc M10_year) 10 = .ok (.ldc 124, 2) := by decide +kernel
theorem d10_year_12 : decode (mm_cc M10_year) 12 = .ok (.ireturn, 1) := by decide +kernel
theorem d10_year_13 : decode (mm_cc M10_year) 13 = .ok (.iconst 0, 1) := by decide +kernel
theorem d10_year_14 : decode (mm_cc M10_year) 14 = .ok (.istore_n 2, 1) := by decide +kernel
theorem d10_year_15 : decode (mm_cc M10_year) 15 = .ok (.iload_n 2, 1) := by decide +kernel
theorem d10_year_16 : decode (mm_cc M10_year) 16 = .ok (.iload_n 1, 1) := by decide +kernel
theorem d10_year_17 : decode (mm_cc M10_year) 17 = .ok (.if_icmp .ge 16, 3) := by decide +kernel
theorem d10_year_20 : decode (mm_cc M10_year) 20 = .ok (.aload_n 0, 1) := by decide +kernel
theorem d10_year_21 : decode (mm_cc M10_year) 21 = .ok (.getfield 91, 3) := by decide +kernel
theorem d10_year_24 : decode (mm_cc M10_year) 24 = .ok (.invokevirtual 293, 3) := by decide +kernel
theorem d10_year_27 : decode (mm_cc M10_year) 27 = .ok (.iinc 2 1, 3) := by decide +kernel
theorem d10_year_30 : decode (mm_cc M10_year) 30 = .ok (.goto (-15), 3) := by decide +kernel
theorem d10_year_33 : decode (mm_cc M10_year) 33 = .ok (.aload_n 0, 1) := by decide +kernel
theorem d10_year_34 : decode (mm_cc M10_year) 34 = .ok (.getfield 42, 3) := by decide +kernel
theorem d10_year_37 : decode (mm_cc M10_year) 37 = .ok (.getfield 181, 3) := by decide +kernel
theorem d10_year_40 : decode (mm_cc M10_year) 40 = .ok (.ireturn, 1) := by decide +kernel
theorem d2_passDrawnYears_0 : decode (mm_cc M2_passDrawnYears) 0 = .ok (.iconst 0, 1) := by decide +kernel
theorem d2_passDrawnYears_1 : decode (mm_cc M2_passDrawnYears) 1 = .ok (.istore_n 3, 1) := by decide +kernel
theorem d2_passDrawnYears_2 : decode (mm_cc M2_passDrawnYears) 2 = .ok (.iload_n 3, 1) := by decide +kernel
theorem d2_passDrawnYears_3 : decode (mm_cc M2_passDrawnYears) 3 = .ok (.iload_n 1, 1) := by decide +kernel
theorem d2_passDrawnYears_4 : decode (mm_cc M2_passDrawnYears) 4 = .ok (.if_icmp .ge 106, 3) := by decide +kernel
theorem d2_passDrawnYears_7 : decode (mm_cc M2_passDrawnYears) 7 = .ok (.iconst 0, 1) := by decide +kernel
theorem d2_passDrawnYears_8 : decode (mm_cc M2_passDrawnYears) 8 = .ok (.istore 4, 2) := by decide +kernel
theorem d2_passDrawnYears_10 : decode (mm_cc M2_passDrawnYears) 10 = .ok (.iload 4, 2) := by decide +kernel
theorem d2_passDrawnYears_12 : decode (mm_cc M2_passDrawnYears) 12 = .ok (.aload_n 0, 1) := by decide +kernel
theorem d2_passDrawnYears_13 : decode (mm_cc M2_passDrawnYears) 13 = .ok (.getfield 9, 3) := by decide +kernel
theorem d2_passDrawnYears_16 : decode (mm_cc M2_passDrawnYears) 16 = .ok (.getfield 110, 3) := by decide +kernel
theorem d2_passDrawnYears_19 : decode (mm_cc M2_passDrawnYears) 19 = .ok (.if_icmp .ge 56, 3) := by decide +kernel
theorem d2_passDrawnYears_22 : decode (mm_cc M2_passDrawnYears) 22 = .ok (.aload_n 0, 1) := by decide +kernel
theorem d2_passDrawnYears_23 : decode (mm_cc M2_passDrawnYears) 23 = .ok (.getfield 19, 3) := by decide +kernel
theorem d2_passDrawnYears_26 : decode (mm_cc M2_passDrawnYears) 26 = .ok (.iload 4, 2) := by decide +kernel
theorem d2_passDrawnYears_28 : decode (mm_cc M2_passDrawnYears) 28 = .ok (.invokevirtual 90, 3) := by decide +kernel
theorem d2_passDrawnYears_31 : decode (mm_cc M2_passDrawnYears) 31 = .ok (.ifCond .eq 38, 3) := by decide +kernel
theorem d2_passDrawnYears_34 : decode (mm_cc M2_passDrawnYears) 34 = .ok (.aload_n 0, 1) := by decide +kernel
theorem d2_passDrawnYears_35 : decode (mm_cc M2_passDrawnYears) 35 = .ok (.getfield 19, 3) := by decide +kernel
theorem d2_passDrawnYears_38 : decode (mm_cc M2_passDrawnYears) 38 = .ok (.getfield 93, 3) := by decide +kernel
theorem d2_passDrawnYears_41 : decode (mm_cc M2_passDrawnYears) 41 = .ok (.iload 4, 2) := by decide +kernel
theorem d2_passDrawnYears_43 : decode (mm_cc M2_passDrawnYears) 43 = .ok (.invokevirtual 96, 3) := by decide +kernel
theorem d2_passDrawnYears_46 : decode (mm_cc M2_passDrawnYears) 46 = .ok (.iconst (-1), 1) := by decide +kernel
theorem d2_passDrawnYears_47 : decode (mm_cc M2_passDrawnYears) 47 = .ok (.if_icmp .ne 22, 3) := by decide +kernel
theorem d2_passDrawnYears_50 : decode (mm_cc M2_passDrawnYears) 50 = .ok (.aload_n 0, 1) := by decide +kernel
theorem d2_passDrawnYears_51 : decode (mm_cc M2_passDrawnYears) 51 = .ok (.getfield 19, 3) := by decide +kernel
theorem d2_passDrawnYears_54 : decode (mm_cc M2_passDrawnYears) 54 = .ok (.bipush 100, 2) := by decide +kernel
theorem d2_passDrawnYears_56 : decode (mm_cc M2_passDrawnYears) 56 = .ok (.invokevirtual 137, 3) := by decide +kernel
theorem d2_passDrawnYears_59 : decode (mm_cc M2_passDrawnYears) 59 = .ok (.iload_n 2, 1) := by decide +kernel
theorem d2_passDrawnYears_60 : decode (mm_cc M2_passDrawnYears) 60 = .ok (.if_icmp .ge 9, 3) := by decide +kernel
theorem d2_passDrawnYears_63 : decode (mm_cc M2_passDrawnYears) 63 = .ok (.aload_n 0, 1) := by decide +kernel
theorem d2_passDrawnYears_64 : decode (mm_cc M2_passDrawnYears) 64 = .ok (.iload 4, 2) := by decide +kernel
theorem d2_passDrawnYears_66 : decode (mm_cc M2_passDrawnYears) 66 = .ok (.invokevirtual 201, 3) := by decide +kernel
theorem d2_passDrawnYears_69 : decode (mm_cc M2_passDrawnYears) 69 = .ok (.iinc 4 1, 3) := by decide +kernel
theorem d2_passDrawnYears_72 : decode (mm_cc M2_passDrawnYears) 72 = .ok (.goto (-62), 3) := by decide +kernel
theorem d2_passDrawnYears_75 : decode (mm_cc M2_passDrawnYears) 75 = .ok (.aload_n 0, 1) := by decide +kernel
theorem d2_passDrawnYears_76 : decode (mm_cc M2_passDrawnYears) 76 = .ok (.getfield 19, 3) := by decide +kernel
theorem d2_passDrawnYears_79 : decode (mm_cc M2_passDrawnYears) 79 = .ok (.getfield 134, 3) := by decide +kernel
theorem d2_passDrawnYears_82 : decode (mm_cc M2_passDrawnYears) 82 = .ok (.istore 4, 2) := by decide +kernel
theorem d2_passDrawnYears_84 : decode (mm_cc M2_passDrawnYears) 84 = .ok (.aload_n 0, 1) := by decide +kernel
theorem d2_passDrawnYears_85 : decode (mm_cc M2_passDrawnYears) 85 = .ok (.invokevirtual 204, 3) := by decide +kernel
theorem d2_passDrawnYears_88 : decode (mm_cc M2_passDrawnYears) 88 = .ok (.aload_n 0, 1) := by decide +kernel
theorem d2_passDrawnYears_89 : decode (mm_cc M2_passDrawnYears) 89 = .ok (.iload 4, 2) := by decide +kernel
theorem d2_passDrawnYears_91 : decode (mm_cc M2_passDrawnYears) 91 = .ok (.aload_n 0, 1) := by decide +kernel
theorem d2_passDrawnYears_92 : decode (mm_cc M2_passDrawnYears) 92 = .ok (.getfield 19, 3) := by decide +kernel
theorem d2_passDrawnYears_95 : decode (mm_cc M2_passDrawnYears) 95 = .ok (.getfield 134, 3) := by decide +kernel
theorem d2_passDrawnYears_98 : decode (mm_cc M2_passDrawnYears) 98 = .ok (.iconst (-1), 1) := by decide +kernel
theorem d2_passDrawnYears_99 : decode (mm_cc M2_passDrawnYears) 99 = .ok (.ixor, 1) := by decide +kernel
theorem d2_passDrawnYears_100 : decode (mm_cc M2_passDrawnYears) 100 = .ok (.iand, 1) := by decide +kernel
theorem d2_passDrawnYears_101 : decode (mm_cc M2_passDrawnYears) 101 = .ok (.invokevirtual 207, 3) := by decide +kernel
theorem d2_passDrawnYears_104 : decode (mm_cc M2_passDrawnYears) 104 = .ok (.iinc 3 1, 3) := by decide +kernel
theorem d2_passDrawnYears_107 : decode (mm_cc M2_passDrawnYears) 107 = .ok (.goto (-105), 3) := by decide +kernel
theorem d2_passDrawnYears_110 : decode (mm_cc M2_passDrawnYears) 110 = .ok (.return_, 1) := by decide +kernel
theorem d7_readClause_0 : decode (mm_cc M7_readClause) 0 = .ok (.aload_n 0, 1) := by decide +kernel
theorem d7_readClause_1 : decode (mm_cc M7_readClause) 1 = .ok (.aload_n 1, 1) := by decide +kernel
theorem d7_readClause_2 : decode (mm_cc M7_readClause) 2 = .ok (.ldc 56, 2) := by decide +kernel
theorem d7_readClause_4 : decode (mm_cc M7_readClause) 4 = .ok (.iconst 1, 1) := by decide +kernel
theorem d7_readClause_5 : decode (mm_cc M7_readClause) 5 = .ok (.invokevirtual 57, 3) := by decide +kernel
theorem d7_readClause_8 : decode (mm_cc M7_readClause) 8 = .ok (.ifCond .eq 17, 3) := by decide +kernel
theorem d7_readClause_11 : decode (mm_cc M7_readClause) 11 = .ok (.aload_n 0, 1) := by decide +kernel
theorem d7_readClause_12 : decode (mm_cc M7_readClause) 12 = .ok (.aload_n 1, 1) := by decide +kernel
theorem d7_readClause_13 : decode (mm_cc M7_readClause) 13 = .ok (.iconst 1, 1) := by decide +kernel
theorem d7_readClause_14 : decode (mm_cc M7_readClause) 14 = .ok (.bipush 6, 2) := by decide +kernel
theorem d7_readClause_16 : decode (mm_cc M7_readClause) 16 = .ok (.invokevirtual 61, 3) := by decide +kernel
theorem d7_readClause_19 : decode (mm_cc M7_readClause) 19 = .ok (.putfield 14, 3) := by decide +kernel
theorem d7_readClause_22 : decode (mm_cc M7_readClause) 22 = .ok (.goto 133, 3) := by decide +kernel
theorem d7_readClause_25 : decode (mm_cc M7_readClause) 25 = .ok (.aload_n 0, 1) := by decide +kernel
theorem d7_readClause_26 : decode (mm_cc M7_readClause) 26 = .ok (.aload_n 1, 1) := by decide +kernel
theorem d7_readClause_27 : decode (mm_cc M7_readClause) 27 = .ok (.ldc 65, 2) := by decide +kernel
theorem d7_readClause_29 : decode (mm_cc M7_readClause) 29 = .ok (.iconst 2, 1) := by decide +kernel
theorem d7_readClause_30 : decode (mm_cc M7_readClause) 30 = .ok (.invokevirtual 57, 3) := by decide +kernel
theorem d7_readClause_33 : decode (mm_cc M7_readClause) 33 = .ok (.ifCond .eq 16, 3) := by decide +kernel
theorem d7_readClause_36 : decode (mm_cc M7_readClause) 36 = .ok (.aload_n 0, 1) := by decide +kernel
theorem d7_readClause_37 : decode (mm_cc M7_readClause) 37 = .ok (.aload_n 1, 1) := by decide +kernel
theorem d7_readClause_38 : decode (mm_cc M7_readClause) 38 = .ok (.iconst 0, 1) := by decide +kernel
theorem d7_readClause_39 : decode (mm_cc M7_readClause) 39 = .ok (.iconst 3, 1) := by decide +kernel
theorem d7_readClause_40 : decode (mm_cc M7_readClause) 40 = .ok (.invokevirtual 61, 3) := by decide +kernel
theorem d7_readClause_43 : decode (mm_cc M7_readClause) 43 = .ok (.putfield 18, 3) := by decide +kernel
theorem d7_readClause_46 : decode (mm_cc M7_readClause) 46 = .ok (.goto 109, 3) := by decide +kernel
theorem d7_readClause_49 : decode (mm_cc M7_readClause) 49 = .ok (.aload_n 0, 1) := by decide +kernel
theorem d7_readClause_50 : decode (mm_cc M7_readClause) 50 = .ok (.aload_n 1, 1) := by decide +kernel
theorem d7_readClause_51 : decode (mm_cc M7_readClause) 51 = .ok (.ldc 66, 2) := by decide +kernel
theorem d7_readClause_53 : decode (mm_cc M7_readClause) 53 = .ok (.iconst 4, 1) := by decide +kernel
theorem d7_readClause_54 : decode (mm_cc M7_readClause) 54 = .ok (.invokevirtual 57, 3) := by decide +kernel
theorem d7_readClause_57 : decode (mm_cc M7_readClause) 57 = .ok (.ifCond .eq 17, 3) := by decide +kernel
theorem d7_readClause_60 : decode (mm_cc M7_readClause) 60 = .ok (.aload_n 0, 1) := by decide +kernel
theorem d7_readClause_61 : decode (mm_cc M7_readClause) 61 = .ok (.aload_n 1, 1) := by decide +kernel
theorem d7_readClause_62 : decode (mm_cc M7_readClause) 62 = .ok (.iconst 1, 1) := by decide +kernel
theorem d7_readClause_63 : decode (mm_cc M7_readClause) 63 = .ok (.bipush 100, 2) := by decide +kernel
theorem d7_readClause_65 : decode (mm_cc M7_readClause) 65 = .ok (.invokevirtual 61, 3) := by decide +kernel
theorem d7_readClause_68 : decode (mm_cc M7_readClause) 68 = .ok (.putfield 21, 3) := by decide +kernel
theorem d7_readClause_71 : decode (mm_cc M7_readClause) 71 = .ok (.goto 84, 3) := by decide +kernel
theorem d7_readClause_74 : decode (mm_cc M7_readClause) 74 = .ok (.aload_n 0, 1) := by decide +kernel
theorem d7_readClause_75 : decode (mm_cc M7_readClause) 75 = .ok (.aload_n 1, 1) := by decide +kernel
theorem d7_readClause_76 : decode (mm_cc M7_readClause) 76 = .ok (.ldc 67, 2) := by decide +kernel
theorem d7_readClause_78 : decode (mm_cc M7_readClause) 78 = .ok (.bipush 8, 2) := by decide +kernel
theorem d7_readClause_80 : decode (mm_cc M7_readClause) 80 = .ok (.invokevirtual 57, 3) := by decide +kernel
theorem d7_readClause_83 : decode (mm_cc M7_readClause) 83 = .ok (.ifCond .eq 17, 3) := by decide +kernel
theorem d7_readClause_86 : decode (mm_cc M7_readClause) 86 = .ok (.aload_n 0, 1) := by decide +kernel
theorem d7_readClause_87 : decode (mm_cc M7_readClause) 87 = .ok (.aload_n 1, 1) := by decide +kernel
theorem d7_readClause_88 : decode (mm_cc M7_readClause) 88 = .ok (.iconst 0, 1) := by decide +kernel
theorem d7_readClause_89 : decode (mm_cc M7_readClause) 89 = .ok (.bipush 100, 2) := by decide +kernel
theorem d7_readClause_91 : decode (mm_cc M7_readClause) 91 = .ok (.invokevirtual 61, 3) := by decide +kernel
theorem d7_readClause_94 : decode (mm_cc M7_readClause) 94 = .ok (.putfield 24, 3) := by decide +kernel
theorem d7_readClause_97 : decode (mm_cc M7_readClause) 97 = .ok (.goto 58, 3) := by decide +kernel
theorem d7_readClause_100 : decode (mm_cc M7_readClause) 100 = .ok (.aload_n 0, 1) := by decide +kernel
theorem d7_readClause_101 : decode (mm_cc M7_readClause) 101 = .ok (.aload_n 1, 1) := by decide +kernel
theorem d7_readClause_102 : decode (mm_cc M7_readClause) 102 = .ok (.ldc 68, 2) := by decide +kernel
theorem d7_readClause_104 : decode (mm_cc M7_readClause) 104 = .ok (.bipush 16, 2) := by decide +kernel
theorem d7_readClause_106 : decode (mm_cc M7_readClause) 106 = .ok (.invokevirtual 57, 3) := by decide +kernel
theorem d7_readClause_109 : decode (mm_cc M7_readClause) 109 = .ok (.ifCond .eq 17, 3) := by decide +kernel
theorem d7_readClause_112 : decode (mm_cc M7_readClause) 112 = .ok (.aload_n 0, 1) := by decide +kernel
theorem d7_readClause_113 : decode (mm_cc M7_readClause) 113 = .ok (.aload_n 1, 1) := by decide +kernel
theorem d7_readClause_114 : decode (mm_cc M7_readClause) 114 = .ok (.iconst 1, 1) := by decide +kernel
theorem d7_readClause_115 : decode (mm_cc M7_readClause) 115 = .ok (.bipush 120, 2) := by decide +kernel
theorem d7_readClause_117 : decode (mm_cc M7_readClause) 117 = .ok (.invokevirtual 61, 3) := by decide +kernel
theorem d7_readClause_120 : decode (mm_cc M7_readClause) 120 = .ok (.putfield 27, 3) := by decide +kernel
theorem d7_readClause_123 : decode (mm_cc M7_readClause) 123 = .ok (.goto 32, 3) := by decide +kernel
theorem d7_readClause_126 : decode (mm_cc M7_readClause) 126 = .ok (.aload_n 0, 1) := by decide +kernel
theorem d7_readClause_127 : decode (mm_cc M7_readClause) 127 = .ok (.aload_n 1, 1) := by decide +kernel
theorem d7_readClause_128 : decode (mm_cc M7_readClause) 128 = .ok (.ldc 69, 2) := by decide +kernel
theorem d7_readClause_130 : decode (mm_cc M7_readClause) 130 = .ok (.bipush 32, 2) := by decide +kernel
theorem d7_readClause_132 : decode (mm_cc M7_readClause) 132 = .ok (.invokevirtual 57, 3) := by decide +kernel
theorem d7_readClause_135 : decode (mm_cc M7_readClause) 135 = .ok (.ifCond .eq 11, 3) := by decide +kernel
theorem d7_readClause_138 : decode (mm_cc M7_readClause) 138 = .ok (.aload_n 0, 1) := by decide +kernel
theorem d7_readClause_139 : decode (mm_cc M7_readClause) 139 = .ok (.iconst 1, 1) := by decide +kernel
theorem d7_readClause_140 : decode (mm_cc M7_readClause) 140 = .ok (.putfield 30, 3) := by decide +kernel
theorem d7_readClause_143 : decode (mm_cc M7_readClause) 143 = .ok (.goto 12, 3) := by decide +kernel
theorem d7_readClause_146 : decode (mm_cc M7_readClause) 146 = .ok (.aload_n 1, 1) := by decide +kernel
theorem d7_readClause_147 : decode (mm_cc M7_readClause) 147 = .ok (.iconst 1, 1) := by decide +kernel
theorem d7_readClause_148 : decode (mm_cc M7_readClause) 148 = .ok (.aload_n 1, 1) := by decide +kernel
theorem d7_readClause_149 : decode (mm_cc M7_readClause) 149 = .ok (.getfield 70, 3) := by decide +kernel
theorem d7_readClause_152 : decode (mm_cc M7_readClause) 152 = .ok (.invokevirtual 73, 3) := by decide +kernel
theorem d7_readClause_155 : decode (mm_cc M7_readClause) 155 = .ok (.aload_n 1, 1) := by decide +kernel
theorem d7_readClause_156 : decode (mm_cc M7_readClause) 156 = .ok (.invokevirtual 77, 3) := by decide +kernel
theorem d7_readClause_159 : decode (mm_cc M7_readClause) 159 = .ok (.return_, 1) := by decide +kernel
theorem d9_tellTrade_0 : decode (mm_cc M9_tellTrade) 0 = .ok (.aload_n 0, 1) := by decide +kernel
theorem d9_tellTrade_1 : decode (mm_cc M9_tellTrade) 1 = .ok (.aload_n 0, 1) := by decide +kernel
theorem d9_tellTrade_2 : decode (mm_cc M9_tellTrade) 2 = .ok (.getfield 23, 3) := by decide +kernel
theorem d9_tellTrade_5 : decode (mm_cc M9_tellTrade) 5 = .ok (.getfield 80, 3) := by decide +kernel
theorem d9_tellTrade_8 : decode (mm_cc M9_tellTrade) 8 = .ok (.bipush 6, 2) := by decide +kernel
theorem d9_tellTrade_10 : decode (mm_cc M9_tellTrade) 10 = .ok (.if_icmp .ge 7, 3) := by decide +kernel
theorem d9_tellTrade_13 : decode (mm_cc M9_tellTrade) 13 = .ok (.iconst 1, 1) := by decide +kernel
theorem d9_tellTrade_14 : decode (mm_cc M9_tellTrade) 14 = .ok (.goto 4, 3) := by decide +kernel
theorem d9_tellTrade_17 : decode (mm_cc M9_tellTrade) 17 = .ok (.iconst 0, 1) := by decide +kernel
theorem d9_tellTrade_18 : decode (mm_cc M9_tellTrade) 18 = .ok (.invokevirtual 83, 3) := by decide +kernel
theorem d9_tellTrade_21 : decode (mm_cc M9_tellTrade) 21 = .ok (.aload_n 0, 1) := by decide +kernel
theorem d9_tellTrade_22 : decode (mm_cc M9_tellTrade) 22 = .ok (.getfield 23, 3) := by decide +kernel
theorem d9_tellTrade_25 : decode (mm_cc M9_tellTrade) 25 = .ok (.getfield 80, 3) := by decide +kernel
theorem d9_tellTrade_28 : decode (mm_cc M9_tellTrade) 28 = .ok (.istore_n 1, 1) := by decide +kernel
theorem d9_tellTrade_29 : decode (mm_cc M9_tellTrade) 29 = .ok (.aload_n 0, 1) := by decide +kernel
theorem d9_tellTrade_30 : decode (mm_cc M9_tellTrade) 30 = .ok (.getfield 23, 3) := by decide +kernel
theorem d9_tellTrade_33 : decode (mm_cc M9_tellTrade) 33 = .ok (.getfield 87, 3) := by decide +kernel
theorem d9_tellTrade_36 : decode (mm_cc M9_tellTrade) 36 = .ok (.iload_n 1, 1) := by decide +kernel
theorem d9_tellTrade_37 : decode (mm_cc M9_tellTrade) 37 = .ok (.aload_n 0, 1) := by decide +kernel
theorem d9_tellTrade_38 : decode (mm_cc M9_tellTrade) 38 = .ok (.invokevirtual 91, 3) := by decide +kernel
theorem d9_tellTrade_41 : decode (mm_cc M9_tellTrade) 41 = .ok (.invokevirtual 95, 3) := by decide +kernel
theorem d9_tellTrade_44 : decode (mm_cc M9_tellTrade) 44 = .ok (.aload_n 0, 1) := by decide +kernel
theorem d9_tellTrade_45 : decode (mm_cc M9_tellTrade) 45 = .ok (.getfield 19, 3) := by decide +kernel
theorem d9_tellTrade_48 : decode (mm_cc M9_tellTrade) 48 = .ok (.invokevirtual 100, 3) := by decide +kernel
theorem d9_tellTrade_51 : decode (mm_cc M9_tellTrade) 51 = .ok (.aload_n 0, 1) := by decide +kernel
theorem d9_tellTrade_52 : decode (mm_cc M9_tellTrade) 52 = .ok (.getfield 23, 3) := by decide +kernel
theorem d9_tellTrade_55 : decode (mm_cc M9_tellTrade) 55 = .ok (.getfield 103, 3) := by decide +kernel
theorem d9_tellTrade_58 : decode (mm_cc M9_tellTrade) 58 = .ok (.iload_n 1, 1) := by decide +kernel
theorem d9_tellTrade_59 : decode (mm_cc M9_tellTrade) 59 = .ok (.aload_n 0, 1) := by decide +kernel
theorem d9_tellTrade_60 : decode (mm_cc M9_tellTrade) 60 = .ok (.getfield 19, 3) := by decide +kernel
theorem d9_tellTrade_63 : decode (mm_cc M9_tellTrade) 63 = .ok (.iconst 1, 1) := by decide +kernel
theorem d9_tellTrade_64 : decode (mm_cc M9_tellTrade) 64 = .ok (.bipush 9, 2) := by decide +kernel
theorem d9_tellTrade_66 : decode (mm_cc M9_tellTrade) 66 = .ok (.invokevirtual 106, 3) := by decide +kernel
theorem d9_tellTrade_69 : decode (mm_cc M9_tellTrade) 69 = .ok (.invokevirtual 95, 3) := by decide +kernel
theorem d9_tellTrade_72 : decode (mm_cc M9_tellTrade) 72 = .ok (.aload_n 0, 1) := by decide +kernel
theorem d9_tellTrade_73 : decode (mm_cc M9_tellTrade) 73 = .ok (.getfield 23, 3) := by decide +kernel
theorem d9_tellTrade_76 : decode (mm_cc M9_tellTrade) 76 = .ok (.getfield 110, 3) := by decide +kernel
theorem d9_tellTrade_79 : decode (mm_cc M9_tellTrade) 79 = .ok (.iload_n 1, 1) := by decide +kernel
theorem d9_tellTrade_80 : decode (mm_cc M9_tellTrade) 80 = .ok (.aload_n 0, 1) := by decide +kernel
theorem d9_tellTrade_81 : decode (mm_cc M9_tellTrade) 81 = .ok (.getfield 19, 3) := by decide +kernel
theorem d9_tellTrade_84 : decode (mm_cc M9_tellTrade) 84 = .ok (.iconst 0, 1) := by decide +kernel
theorem d9_tellTrade_85 : decode (mm_cc M9_tellTrade) 85 = .ok (.bipush 99, 2) := by decide +kernel
theorem d9_tellTrade_87 : decode (mm_cc M9_tellTrade) 87 = .ok (.invokevirtual 106, 3) := by decide +kernel
theorem d9_tellTrade_90 : decode (mm_cc M9_tellTrade) 90 = .ok (.invokevirtual 95, 3) := by decide +kernel
theorem d9_tellTrade_93 : decode (mm_cc M9_tellTrade) 93 = .ok (.aload_n 0, 1) := by decide +kernel
theorem d9_tellTrade_94 : decode (mm_cc M9_tellTrade) 94 = .ok (.getfield 23, 3) := by decide +kernel
theorem d9_tellTrade_97 : decode (mm_cc M9_tellTrade) 97 = .ok (.getfield 113, 3) := by decide +kernel
theorem d9_tellTrade_100 : decode (mm_cc M9_tellTrade) 100 = .ok (.iload_n 1, 1) := by decide +kernel
theorem d9_tellTrade_101 : decode (mm_cc M9_tellTrade) 101 = .ok (.iconst (-1), 1) := by decide +kernel
theorem d9_tellTrade_102 : decode (mm_cc M9_tellTrade) 102 = .ok (.invokevirtual 95, 3) := by decide +kernel
theorem d9_tellTrade_105 : decode (mm_cc M9_tellTrade) 105 = .ok (.aload_n 0, 1) := by decide +kernel
theorem d9_tellTrade_106 : decode (mm_cc M9_tellTrade) 106 = .ok (.getfield 19, 3) := by decide +kernel
theorem d9_tellTrade_109 : decode (mm_cc M9_tellTrade) 109 = .ok (.ldc 116, 2) := by decide +kernel
theorem d9_tellTrade_111 : decode (mm_cc M9_tellTrade) 111 = .ok (.invokevirtual 50, 3) := by decide +kernel
theorem d9_tellTrade_114 : decode (mm_cc M9_tellTrade) 114 = .ok (.ifCond .eq 38, 3) := by decide +kernel
theorem d9_tellTrade_117 : decode (mm_cc M9_tellTrade) 117 = .ok (.aload_n 0, 1) := by decide +kernel
theorem d9_tellTrade_118 : decode (mm_cc M9_tellTrade) 118 = .ok (.getfield 19, 3) := by decide +kernel
theorem d9_tellTrade_121 : decode (mm_cc M9_tellTrade) 121 = .ok (.invokevirtual 100, 3) := by decide +kernel
theorem d9_tellTrade_124 : decode (mm_cc M9_tellTrade) 124 = .ok (.aload_n 0, 1) := by decide +kernel
theorem d9_tellTrade_125 : decode (mm_cc M9_tellTrade) 125 = .ok (.getfield 23, 3) := by decide +kernel
theorem d9_tellTrade_128 : decode (mm_cc M9_tellTrade) 128 = .ok (.getfield 113, 3) := by decide +kernel
theorem d9_tellTrade_131 : decode (mm_cc M9_tellTrade) 131 = .ok (.iload_n 1, 1) := by decide +kernel
theorem d9_tellTrade_132 : decode (mm_cc M9_tellTrade) 132 = .ok (.aload_n 0, 1) := by decide +kernel
theorem d9_tellTrade_133 : decode (mm_cc M9_tellTrade) 133 = .ok (.getfield 19, 3) := by decide +kernel
theorem d9_tellTrade_136 : decode (mm_cc M9_tellTrade) 136 = .ok (.iconst 0, 1) := by decide +kernel
theorem d9_tellTrade_137 : decode (mm_cc M9_tellTrade) 137 = .ok (.aload_n 0, 1) := by decide +kernel
theorem d9_tellTrade_138 : decode (mm_cc M9_tellTrade) 138 = .ok (.getfield 23, 3) := by decide +kernel
theorem d9_tellTrade_141 : decode (mm_cc M9_tellTrade) 141 = .ok (.getfield 80, 3) := by decide +kernel
theorem d9_tellTrade_144 : decode (mm_cc M9_tellTrade) 144 = .ok (.iconst 1, 1) := by decide +kernel
theorem d9_tellTrade_145 : decode (mm_cc M9_tellTrade) 145 = .ok (.isub, 1) := by decide +kernel
theorem d9_tellTrade_146 : decode (mm_cc M9_tellTrade) 146 = .ok (.invokevirtual 106, 3) := by decide +kernel
theorem d9_tellTrade_149 : decode (mm_cc M9_tellTrade) 149 = .ok (.invokevirtual 95, 3) := by decide +kernel
theorem d9_tellTrade_152 : decode (mm_cc M9_tellTrade) 152 = .ok (.aload_n 0, 1) := by decide +kernel
theorem d9_tellTrade_153 : decode (mm_cc M9_tellTrade) 153 = .ok (.getfield 23, 3) := by decide +kernel
theorem d9_tellTrade_156 : decode (mm_cc M9_tellTrade) 156 = .ok (.dup, 1) := by decide +kernel
theorem d9_tellTrade_157 : decode (mm_cc M9_tellTrade) 157 = .ok (.getfield 80, 3) := by decide +kernel
theorem d9_tellTrade_160 : decode (mm_cc M9_tellTrade) 160 = .ok (.iconst 1, 1) := by decide +kernel
theorem d9_tellTrade_161 : decode (mm_cc M9_tellTrade) 161 = .ok (.iadd, 1) := by decide +kernel
theorem d9_tellTrade_162 : decode (mm_cc M9_tellTrade) 162 = .ok (.putfield 80, 3) := by decide +kernel
theorem d9_tellTrade_165 : decode (mm_cc M9_tellTrade) 165 = .ok (.return_, 1) := by decide +kernel
theorem d10_compared_0 : decode (mm_cc M10_compared) 0 = .ok (.iload_n 1, 1) := by decide +kernel
theorem d10_compared_1 : decode (mm_cc M10_compared) 1 = .ok (.iconst 1, 1) := by decide +kernel
theorem d10_compared_2 : decode (mm_cc M10_compared) 2 = .ok (.bipush 90, 2) := by decide +kernel
theorem d10_compared_4 : decode (mm_cc M10_compared) 4 = .ok (.invokestatic 120, 3) := by decide +kernel
theorem d10_compared_7 : decode (mm_cc M10_compared) 7 = .ok (.ifCond .eq 23, 3) := by decide +kernel
theorem d10_compared_10 : decode (mm_cc M10_compared) 10 = .ok (.iload_n 2, 1) := by decide +kernel
theorem d10_compared_11 : decode (mm_cc M10_compared) 11 = .ok (.iconst 0, 1) := by decide +kernel
theorem d10_compared_12 : decode (mm_cc M10_compared) 12 = .ok (.bipush 100, 2) := by decide +kernel
theorem d10_compared_14 : decode (mm_cc M10_compared) 14 = .ok (.invokestatic 120, 3) := by decide +kernel
theorem d10_compared_17 : decode (mm_cc M10_compared) 17 = .ok (.ifCond .eq 13, 3) := by decide +kernel
theorem d10_compared_20 : decode (mm_cc M10_compared) 20 = .ok (.iload_n 3, 1) := by decide +kernel
theorem d10_compared_21 : decode (mm_cc M10_compared) 21 = .ok (.iconst 1, 1) := by decide +kernel
theorem d10_compared_22 : decode (mm_cc M10_compared) 22 = .ok (.bipush 6, 2) := by decide +kernel
theorem d10_compared_24 : decode (mm_cc M10_compared) 24 = .ok (.invokestatic 120, 3) := by decide +kernel
theorem d10_compared_27 : decode (mm_cc M10_compared) 27 = .ok (.ifCond .ne 6, 3) := by decide +kernel
theorem d10_compared_30 : decode (mm_cc M10_compared) 30 = .ok (.ldc 124, 2) := by decide +kernel
theorem d10_compared_32 : decode (mm_cc M10_compared) 32 = .ok (.ireturn, 1) := by decide +kernel
theorem d10_compared_33 : decode (mm_cc M10_compared) 33 = .ok (.aload_n 0, 1) := by decide +kernel
theorem d10_compared_34 : decode (mm_cc M10_compared) 34 = .ok (.getfield 19, 3) := by decide +kernel
theorem d10_compared_37 : decode (mm_cc M10_compared) 37 = .ok (.getfield 178, 3) := by decide +kernel
theorem d10_compared_40 : decode (mm_cc M10_compared) 40 = .ok (.ifCond .ne 6, 3) := by decide +kernel
theorem d10_compared_43 : decode (mm_cc M10_compared) 43 = .ok (.ldc 167, 2) := by decide +kernel
theorem d10_compared_45 : decode (mm_cc M10_compared) 45 = .ok (.ireturn, 1) := by decide +kernel
theorem d10_compared_46 : decode (mm_cc M10_compared) 46 = .ok (.aload_n 0, 1) := by decide +kernel
theorem d10_compared_47 : decode (mm_cc M10_compared) 47 = .ok (.getfield 52, 3) := by decide +kernel
theorem d10_compared_50 : decode (mm_cc M10_compared) 50 = .ok (.aload_n 0, 1) := by decide +kernel
theorem d10_compared_51 : decode (mm_cc M10_compared) 51 = .ok (.getfield 42, 3) := by decide +kernel
theorem d10_compared_54 : decode (mm_cc M10_compared) 54 = .ok (.invokevirtual 154, 3) := by decide +kernel
theorem d10_compared_57 : decode (mm_cc M10_compared) 57 = .ok (.aload_n 0, 1) := by decide +kernel
theorem d10_compared_58 : decode (mm_cc M10_compared) 58 = .ok (.getfield 36, 3) := by decide +kernel
theorem d10_compared_61 : decode (mm_cc M10_compared) 61 = .ok (.aload_n 0, 1) := by decide +kernel
theorem d10_compared_62 : decode (mm_cc M10_compared) 62 = .ok (.getfield 29, 3) := by decide +kernel
theorem d10_compared_65 : decode (mm_cc M10_compared) 65 = .ok (.invokevirtual 172, 3) := by decide +kernel
theorem d10_compared_68 : decode (mm_cc M10_compared) 68 = .ok (.aload_n 0, 1) := by decide +kernel
theorem d10_compared_69 : decode (mm_cc M10_compared) 69 = .ok (.getfield 36, 3) := by decide +kernel
theorem d10_compared_72 : decode (mm_cc M10_compared) 72 = .ok (.iload_n 3, 1) := by decide +kernel
theorem d10_compared_73 : decode (mm_cc M10_compared) 73 = .ok (.putfield 187, 3) := by decide +kernel
theorem d10_compared_76 : decode (mm_cc M10_compared) 76 = .ok (.aload_n 0, 1) := by decide +kernel
theorem d10_compared_77 : decode (mm_cc M10_compared) 77 = .ok (.getfield 95, 3) := by decide +kernel
theorem d10_compared_80 : decode (mm_cc M10_compared) 80 = .ok (.iload_n 1, 1) := by decide +kernel
theorem d10_compared_81 : decode (mm_cc M10_compared) 81 = .ok (.iload_n 2, 1) := by decide +kernel
theorem d10_compared_82 : decode (mm_cc M10_compared) 82 = .ok (.invokevirtual 296, 3) := by decide +kernel
theorem d10_compared_85 : decode (mm_cc M10_compared) 85 = .ok (.aload_n 0, 1) := by decide +kernel
theorem d10_compared_86 : decode (mm_cc M10_compared) 86 = .ok (.getfield 95, 3) := by decide +kernel
theorem d10_compared_89 : decode (mm_cc M10_compared) 89 = .ok (.invokevirtual 212, 3) := by decide +kernel
theorem d10_compared_92 : decode (mm_cc M10_compared) 92 = .ok (.invokestatic 299, 3) := by decide +kernel
theorem d10_compared_95 : decode (mm_cc M10_compared) 95 = .ok (.ireturn, 1) := by decide +kernel
theorem d10_drift_0 : decode (mm_cc M10_drift) 0 = .ok (.iload_n 1, 1) := by decide +kernel
theorem d10_drift_1 : decode (mm_cc M10_drift) 1 = .ok (.iconst 1, 1) := by decide +kernel
theorem d10_drift_2 : decode (mm_cc M10_drift) 2 = .ok (.bipush 90, 2) := by decide +kernel
theorem d10_drift_4 : decode (mm_cc M10_drift) 4 = .ok (.invokestatic 120, 3) := by decide +kernel
theorem d10_drift_7 : decode (mm_cc M10_drift) 7 = .ok (.ifCond .eq 13, 3) := by decide +kernel
theorem d10_drift_10 : decode (mm_cc M10_drift) 10 = .ok (.iload_n 2, 1) := by decide +kernel
theorem d10_drift_11 : decode (mm_cc M10_drift) 11 = .ok (.iconst 0, 1) := by decide +kernel
theorem d10_drift_12 : decode (mm_cc M10_drift) 12 = .ok (.bipush 100, 2) := by decide +kernel
theorem d10_drift_14 : decode (mm_cc M10_drift) 14 = .ok (.invokestatic 120, 3) := by decide +kernel
theorem d10_drift_17 : decode (mm_cc M10_drift) 17 = .ok (.ifCond .ne 6, 3) := by decide +kernel
theorem d10_drift_20 : decode (mm_cc M10_drift) 20 = .ok (.ldc 124, 2) := by decide +kernel
theorem d10_drift_22 : decode (mm_cc M10_drift) 22 = .ok (.ireturn, 1) := by decide +kernel
theorem d10_drift_23 : decode (mm_cc M10_drift) 23 = .ok (.aload_n 0, 1) := by decide +kernel
theorem d10_drift_24 : decode (mm_cc M10_drift) 24 = .ok (.getfield 19, 3) := by decide +kernel
theorem d10_drift_27 : decode (mm_cc M10_drift) 27 = .ok (.getfield 178, 3) := by decide +kernel
theorem d10_drift_30 : decode (mm_cc M10_drift) 30 = .ok (.ifCond .ne 6, 3) := by decide +kernel
theorem d10_drift_33 : decode (mm_cc M10_drift) 33 = .ok (.ldc 167, 2) := by decide +kernel
theorem d10_drift_35 : decode (mm_cc M10_drift) 35 = .ok (.ireturn, 1) := by decide +kernel
theorem d10_drift_36 : decode (mm_cc M10_drift) 36 = .ok (.aload_n 0, 1) := by decide +kernel
theorem d10_drift_37 : decode (mm_cc M10_drift) 37 = .ok (.getfield 91, 3) := by decide +kernel
theorem d10_drift_40 : decode (mm_cc M10_drift) 40 = .ok (.iload_n 1, 1) := by decide +kernel
theorem d10_drift_41 : decode (mm_cc M10_drift) 41 = .ok (.iload_n 2, 1) := by decide +kernel
theorem d10_drift_42 : decode (mm_cc M10_drift) 42 = .ok (.invokevirtual 296, 3) := by decide +kernel
theorem d10_drift_45 : decode (mm_cc M10_drift) 45 = .ok (.aload_n 0, 1) := by decide +kernel
theorem d10_drift_46 : decode (mm_cc M10_drift) 46 = .ok (.getfield 91, 3) := by decide +kernel
theorem d10_drift_49 : decode (mm_cc M10_drift) 49 = .ok (.invokevirtual 212, 3) := by decide +kernel
theorem d10_drift_52 : decode (mm_cc M10_drift) 52 = .ok (.ireturn, 1) := by decide +kernel
theorem d7_readFrom_0 : decode (mm_cc M7_readFrom) 0 = .ok (.aload_n 0, 1) := by decide +kernel
theorem d7_readFrom_1 : decode (mm_cc M7_readFrom) 1 = .ok (.invokevirtual 9, 3) := by decide +kernel
theorem d7_readFrom_4 : decode (mm_cc M7_readFrom) 4 = .ok (.iconst 0, 1) := by decide +kernel
theorem d7_readFrom_5 : decode (mm_cc M7_readFrom) 5 = .ok (.istore_n 2, 1) := by decide +kernel
theorem d7_readFrom_6 : decode (mm_cc M7_readFrom) 6 = .ok (.iload_n 2, 1) := by decide +kernel
theorem d7_readFrom_7 : decode (mm_cc M7_readFrom) 7 = .ok (.sipush 500, 3) := by decide +kernel
theorem d7_readFrom_10 : decode (mm_cc M7_readFrom) 10 = .ok (.if_icmp .ge 28, 3) := by decide +kernel
theorem d7_readFrom_13 : decode (mm_cc M7_readFrom) 13 = .ok (.aload_n 1, 1) := by decide +kernel
theorem d7_readFrom_14 : decode (mm_cc M7_readFrom) 14 = .ok (.invokevirtual 37, 3) := by decide +kernel
theorem d7_readFrom_17 : decode (mm_cc M7_readFrom) 17 = .ok (.ifCond .eq 21, 3) := by decide +kernel
theorem d7_readFrom_20 : decode (mm_cc M7_readFrom) 20 = .ok (.aload_n 1, 1) := by decide +kernel
theorem d7_readFrom_21 : decode (mm_cc M7_readFrom) 21 = .ok (.getfield 43, 3) := by decide +kernel
theorem d7_readFrom_24 : decode (mm_cc M7_readFrom) 24 = .ok (.ifCond .eq 14, 3) := by decide +kernel
theorem d7_readFrom_27 : decode (mm_cc M7_readFrom) 27 = .ok (.aload_n 0, 1) := by decide +kernel
theorem d7_readFrom_28 : decode (mm_cc M7_readFrom) 28 = .ok (.aload_n 1, 1) := by decide +kernel
theorem d7_readFrom_29 : decode (mm_cc M7_readFrom) 29 = .ok (.invokevirtual 46, 3) := by decide +kernel
theorem d7_readFrom_32 : decode (mm_cc M7_readFrom) 32 = .ok (.iinc 2 1, 3) := by decide +kernel
theorem d7_readFrom_35 : decode (mm_cc M7_readFrom) 35 = .ok (.goto (-29), 3) := by decide +kernel
theorem d7_readFrom_38 : decode (mm_cc M7_readFrom) 38 = .ok (.aload_n 0, 1) := by decide +kernel
theorem d7_readFrom_39 : decode (mm_cc M7_readFrom) 39 = .ok (.getfield 34, 3) := by decide +kernel
theorem d7_readFrom_42 : decode (mm_cc M7_readFrom) 42 = .ok (.invokestatic 50, 3) := by decide +kernel
theorem d7_readFrom_45 : decode (mm_cc M7_readFrom) 45 = .ok (.ireturn, 1) := by decide +kernel
theorem d9_tellAll_0 : decode (mm_cc M9_tellAll) 0 = .ok (.aload_n 0, 1) := by decide +kernel
theorem d9_tellAll_1 : decode (mm_cc M9_tellAll) 1 = .ok (.getfield 23, 3) := by decide +kernel
theorem d9_tellAll_4 : decode (mm_cc M9_tellAll) 4 = .ok (.invokevirtual 31, 3) := by decide +kernel
theorem d9_tellAll_7 : decode (mm_cc M9_tellAll) 7 = .ok (.aload_n 0, 1) := by decide +kernel
theorem d9_tellAll_8 : decode (mm_cc M9_tellAll) 8 = .ok (.getfield 27, 3) := by decide +kernel
theorem d9_tellAll_11 : decode (mm_cc M9_tellAll) 11 = .ok (.invokevirtual 36, 3) := by decide +kernel
theorem d9_tellAll_14 : decode (mm_cc M9_tellAll) 14 = .ok (.aload_n 0, 1) := by decide +kernel
theorem d9_tellAll_15 : decode (mm_cc M9_tellAll) 15 = .ok (.iconst 0, 1) := by decide +kernel
theorem d9_tellAll_16 : decode (mm_cc M9_tellAll) 16 = .ok (.putfield 9, 3) := by decide +kernel
theorem d9_tellAll_19 : decode (mm_cc M9_tellAll) 19 = .ok (.aload_n 0, 1) := by decide +kernel
theorem d9_tellAll_20 : decode (mm_cc M9_tellAll) 20 = .ok (.lconst 0, 1) := by decide +kernel
theorem d9_tellAll_21 : decode (mm_cc M9_tellAll) 21 = .ok (.putfield 15, 3) := by decide +kernel
theorem d9_tellAll_24 : decode (mm_cc M9_tellAll) 24 = .ok (.iconst 0, 1) := by decide +kernel
theorem d9_tellAll_25 : decode (mm_cc M9_tellAll) 25 = .ok (.istore_n 1, 1) := by decide +kernel
theorem d9_tellAll_26 : decode (mm_cc M9_tellAll) 26 = .ok (.iload_n 1, 1) := by decide +kernel
theorem d9_tellAll_27 : decode (mm_cc M9_tellAll) 27 = .ok (.sipush 500, 3) := by decide +kernel
theorem d9_tellAll_30 : decode (mm_cc M9_tellAll) 30 = .ok (.if_icmp .ge 118, 3) := by decide +kernel
theorem d9_tellAll_33 : decode (mm_cc M9_tellAll) 33 = .ok (.aload_n 0, 1) := by decide +kernel
theorem d9_tellAll_34 : decode (mm_cc M9_tellAll) 34 = .ok (.getfield 19, 3) := by decide +kernel
theorem d9_tellAll_37 : decode (mm_cc M9_tellAll) 37 = .ok (.invokevirtual 39, 3) := by decide +kernel
theorem d9_tellAll_40 : decode (mm_cc M9_tellAll) 40 = .ok (.ifCond .eq 108, 3) := by decide +kernel
theorem d9_tellAll_43 : decode (mm_cc M9_tellAll) 43 = .ok (.aload_n 0, 1) := by decide +kernel
theorem d9_tellAll_44 : decode (mm_cc M9_tellAll) 44 = .ok (.getfield 19, 3) := by decide +kernel
theorem d9_tellAll_47 : decode (mm_cc M9_tellAll) 47 = .ok (.getfield 45, 3) := by decide +kernel
theorem d9_tellAll_50 : decode (mm_cc M9_tellAll) 50 = .ok (.ifCond .eq 98, 3) := by decide +kernel
theorem d9_tellAll_53 : decode (mm_cc M9_tellAll) 53 = .ok (.aload_n 0, 1) := by decide +kernel
theorem d9_tellAll_54 : decode (mm_cc M9_tellAll) 54 = .ok (.getfield 19, 3) := by decide +kernel
theorem d9_tellAll_57 : decode (mm_cc M9_tellAll) 57 = .ok (.ldc 48, 2) := by decide +kernel
theorem d9_tellAll_59 : decode (mm_cc M9_tellAll) 59 = .ok (.invokevirtual 50, 3) := by decide +kernel
theorem d9_tellAll_62 : decode (mm_cc M9_tellAll) 62 = .ok (.ifCond .eq 20, 3) := by decide +kernel
theorem d9_tellAll_65 : decode (mm_cc M9_tellAll) 65 = .ok (.aload_n 0, 1) := by decide +kernel
theorem d9_tellAll_66 : decode (mm_cc M9_tellAll) 66 = .ok (.getfield 23, 3) := by decide +kernel
theorem d9_tellAll_69 : decode (mm_cc M9_tellAll) 69 = .ok (.getfield 54, 3) := by decide +kernel
theorem d9_tellAll_72 : decode (mm_cc M9_tellAll) 72 = .ok (.ifCond .ne 10, 3) := by decide +kernel
theorem d9_tellAll_75 : decode (mm_cc M9_tellAll) 75 = .ok (.aload_n 0, 1) := by decide +kernel
theorem d9_tellAll_76 : decode (mm_cc M9_tellAll) 76 = .ok (.invokevirtual 57, 3) := by decide +kernel
theorem d9_tellAll_79 : decode (mm_cc M9_tellAll) 79 = .ok (.goto 56, 3) := by decide +kernel
theorem d9_tellAll_82 : decode (mm_cc M9_tellAll) 82 = .ok (.aload_n 0, 1) := by decide +kernel
theorem d9_tellAll_83 : decode (mm_cc M9_tellAll) 83 = .ok (.getfield 19, 3) := by decide +kernel
theorem d9_tellAll_86 : decode (mm_cc M9_tellAll) 86 = .ok (.ldc 60, 2) := by decide +kernel
theorem d9_tellAll_88 : decode (mm_cc M9_tellAll) 88 = .ok (.invokevirtual 50, 3) := by decide +kernel
theorem d9_tellAll_91 : decode (mm_cc M9_tellAll) 91 = .ok (.ifCond .eq 10, 3) := by decide +kernel
theorem d9_tellAll_94 : decode (mm_cc M9_tellAll) 94 = .ok (.aload_n 0, 1) := by decide +kernel
theorem d9_tellAll_95 : decode (mm_cc M9_tellAll) 95 = .ok (.invokevirtual 62, 3) := by decide +kernel
theorem d9_tellAll_98 : decode (mm_cc M9_tellAll) 98 = .ok (.goto 37, 3) := by decide +kernel
theorem d9_tellAll_101 : decode (mm_cc M9_tellAll) 101 = .ok (.aload_n 0, 1) := by decide +kernel
theorem d9_tellAll_102 : decode (mm_cc M9_tellAll) 102 = .ok (.getfield 19, 3) := by decide +kernel
theorem d9_tellAll_105 : decode (mm_cc M9_tellAll) 105 = .ok (.ldc 65, 2) := by decide +kernel
theorem d9_tellAll_107 : decode (mm_cc M9_tellAll) 107 = .ok (.invokevirtual 50, 3) := by decide +kernel
theorem d9_tellAll_110 : decode (mm_cc M9_tellAll) 110 = .ok (.ifCond .eq 10, 3) := by decide +kernel
theorem d9_tellAll_113 : decode (mm_cc M9_tellAll) 113 = .ok (.aload_n 0, 1) := by decide +kernel
theorem d9_tellAll_114 : decode (mm_cc M9_tellAll) 114 = .ok (.invokevirtual 67, 3) := by decide +kernel
theorem d9_tellAll_117 : decode (mm_cc M9_tellAll) 117 = .ok (.goto 18, 3) := by decide +kernel
theorem d9_tellAll_120 : decode (mm_cc M9_tellAll) 120 = .ok (.aload_n 0, 1) := by decide +kernel
theorem d9_tellAll_121 : decode (mm_cc M9_tellAll) 121 = .ok (.getfield 19, 3) := by decide +kernel
theorem d9_tellAll_124 : decode (mm_cc M9_tellAll) 124 = .ok (.iconst 1, 1) := by decide +kernel
theorem d9_tellAll_125 : decode (mm_cc M9_tellAll) 125 = .ok (.aload_n 0, 1) := by decide +kernel
theorem d9_tellAll_126 : decode (mm_cc M9_tellAll) 126 = .ok (.getfield 19, 3) := by decide +kernel
theorem d9_tellAll_129 : decode (mm_cc M9_tellAll) 129 = .ok (.getfield 70, 3) := by decide +kernel
theorem d9_tellAll_132 : decode (mm_cc M9_tellAll) 132 = .ok (.invokevirtual 73, 3) := by decide +kernel
theorem d9_tellAll_135 : decode (mm_cc M9_tellAll) 135 = .ok (.aload_n 0, 1) := by decide +kernel
theorem d9_tellAll_136 : decode (mm_cc M9_tellAll) 136 = .ok (.getfield 19, 3) := by decide +kernel
theorem d9_tellAll_139 : decode (mm_cc M9_tellAll) 139 = .ok (.invokevirtual 77, 3) := by decide +kernel
theorem d9_tellAll_142 : decode (mm_cc M9_tellAll) 142 = .ok (.iinc 1 1, 3) := by decide +kernel
theorem d9_tellAll_145 : decode (mm_cc M9_tellAll) 145 = .ok (.goto (-119), 3) := by decide +kernel
theorem d9_tellAll_148 : decode (mm_cc M9_tellAll) 148 = .ok (.return_, 1) := by decide +kernel
theorem d10_laws_0 : decode (mm_cc M10_laws) 0 = .ok (.aload_n 0, 1) := by decide +kernel
theorem d10_laws_1 : decode (mm_cc M10_laws) 1 = .ok (.getfield 10, 3) := by decide +kernel
theorem d10_laws_4 : decode (mm_cc M10_laws) 4 = .ok (.getfield 125, 3) := by decide +kernel
theorem d10_laws_7 : decode (mm_cc M10_laws) 7 = .ok (.sipush 200, 3) := by decide +kernel
theorem d10_laws_10 : decode (mm_cc M10_laws) 10 = .ok (.if_icmp .le 6, 3) := by decide +kernel
theorem d10_laws_13 : decode (mm_cc M10_laws) 13 = .ok (.ldc 167, 2) := by decide +kernel
theorem d10_laws_15 : decode (mm_cc M10_laws) 15 = .ok (.ireturn, 1) := by decide +kernel
theorem d10_laws_16 : decode (mm_cc M10_laws) 16 = .ok (.aload_n 0, 1) := by decide +kernel
theorem d10_laws_17 : decode (mm_cc M10_laws) 17 = .ok (.getfield 10, 3) := by decide +kernel
theorem d10_laws_20 : decode (mm_cc M10_laws) 20 = .ok (.invokevirtual 134, 3) := by decide +kernel
theorem d10_laws_23 : decode (mm_cc M10_laws) 23 = .ok (.aload_n 0, 1) := by decide +kernel
theorem d10_laws_24 : decode (mm_cc M10_laws) 24 = .ok (.getfield 33, 3) := by decide +kernel
theorem d10_laws_27 : decode (mm_cc M10_laws) 27 = .ok (.aload_n 0, 1) := by decide +kernel
theorem d10_laws_28 : decode (mm_cc M10_laws) 28 = .ok (.getfield 10, 3) := by decide +kernel
theorem d10_laws_31 : decode (mm_cc M10_laws) 31 = .ok (.invokevirtual 168, 3) := by decide +kernel
theorem d10_laws_34 : decode (mm_cc M10_laws) 34 = .ok (.istore_n 1, 1) := by decide +kernel
theorem d10_laws_35 : decode (mm_cc M10_laws) 35 = .ok (.aload_n 0, 1) := by decide +kernel
theorem d10_laws_36 : decode (mm_cc M10_laws) 36 = .ok (.getfield 10, 3) := by decide +kernel
theorem d10_laws_39 : decode (mm_cc M10_laws) 39 = .ok (.invokevirtual 140, 3) := by decide +kernel
theorem d10_laws_42 : decode (mm_cc M10_laws) 42 = .ok (.aload_n 0, 1) := by decide +kernel
theorem d10_laws_43 : decode (mm_cc M10_laws) 43 = .ok (.getfield 10, 3) := by decide +kernel
theorem d10_laws_46 : decode (mm_cc M10_laws) 46 = .ok (.invokevirtual 143, 3) := by decide +kernel
theorem d10_laws_49 : decode (mm_cc M10_laws) 49 = .ok (.ifCond .ne 14, 3) := by decide +kernel
theorem d10_laws_52 : decode (mm_cc M10_laws) 52 = .ok (.bipush (-10), 2) := by decide +kernel
theorem d10_laws_54 : decode (mm_cc M10_laws) 54 = .ok (.aload_n 0, 1) := by decide +kernel
theorem d10_laws_55 : decode (mm_cc M10_laws) 55 = .ok (.getfield 10, 3) := by decide +kernel
theorem d10_laws_58 : decode (mm_cc M10_laws) 58 = .ok (.getfield 147, 3) := by decide +kernel
theorem d10_laws_61 : decode (mm_cc M10_laws) 61 = .ok (.isub, 1) := by decide +kernel
theorem d10_laws_62 : decode (mm_cc M10_laws) 62 = .ok (.ireturn, 1) := by decide +kernel
theorem d10_laws_63 : decode (mm_cc M10_laws) 63 = .ok (.aload_n 0, 1) := by decide +kernel
theorem d10_laws_64 : decode (mm_cc M10_laws) 64 = .ok (.getfield 29, 3) := by decide +kernel
theorem d10_laws_67 : decode (mm_cc M10_laws) 67 = .ok (.aload_n 0, 1) := by decide +kernel
theorem d10_laws_68 : decode (mm_cc M10_laws) 68 = .ok (.getfield 33, 3) := by decide +kernel
theorem d10_laws_71 : decode (mm_cc M10_laws) 71 = .ok (.invokevirtual 172, 3) := by decide +kernel
theorem d10_laws_74 : decode (mm_cc M10_laws) 74 = .ok (.iload_n 1, 1) := by decide +kernel
theorem d10_laws_75 : decode (mm_cc M10_laws) 75 = .ok (.ireturn, 1) := by decide +kernel
theorem d10_town_0 : decode (mm_cc M10_town) 0 = .ok (.aload_n 0, 1) := by decide +kernel
theorem d10_town_1 : decode (mm_cc M10_town) 1 = .ok (.getfield 10, 3) := by decide +kernel
theorem d10_town_4 : decode (mm_cc M10_town) 4 = .ok (.invokevirtual 134, 3) := by decide +kernel
theorem d10_town_7 : decode (mm_cc M10_town) 7 = .ok (.aload_n 0, 1) := by decide +kernel
theorem d10_town_8 : decode (mm_cc M10_town) 8 = .ok (.getfield 82, 3) := by decide +kernel
theorem d10_town_11 : decode (mm_cc M10_town) 11 = .ok (.invokevirtual 137, 3) := by decide +kernel
theorem d10_town_14 : decode (mm_cc M10_town) 14 = .ok (.aload_n 0, 1) := by decide +kernel
theorem d10_town_15 : decode (mm_cc M10_town) 15 = .ok (.getfield 10, 3) := by decide +kernel
theorem d10_town_18 : decode (mm_cc M10_town) 18 = .ok (.invokevirtual 140, 3) := by decide +kernel
theorem d10_town_21 : decode (mm_cc M10_town) 21 = .ok (.aload_n 0, 1) := by decide +kernel
theorem d10_town_22 : decode (mm_cc M10_town) 22 = .ok (.getfield 10, 3) := by decide +kernel
theorem d10_town_25 : decode (mm_cc M10_town) 25 = .ok (.invokevirtual 143, 3) := by decide +kernel
theorem d10_town_28 : decode (mm_cc M10_town) 28 = .ok (.ifCond .ne 14, 3) := by decide +kernel
theorem d10_town_31 : decode (mm_cc M10_town) 31 = .ok (.bipush (-10), 2) := by decide +kernel
theorem d10_town_33 : decode (mm_cc M10_town) 33 = .ok (.aload_n 0, 1) := by decide +kernel
theorem d10_town_34 : decode (mm_cc M10_town) 34 = .ok (.getfield 10, 3) := by decide +kernel
theorem d10_town_37 : decode (mm_cc M10_town) 37 = .ok (.getfield 147, 3) := by decide +kernel
theorem d10_town_40 : decode (mm_cc M10_town) 40 = .ok (.isub, 1) := by decide +kernel
theorem d10_town_41 : decode (mm_cc M10_town) 41 = .ok (.ireturn, 1) := by decide +kernel
theorem d10_town_42 : decode (mm_cc M10_town) 42 = .ok (.aload_n 0, 1) := by decide +kernel
theorem d10_town_43 : decode (mm_cc M10_town) 43 = .ok (.getfield 19, 3) := by decide +kernel
theorem d10_town_46 : decode (mm_cc M10_town) 46 = .ok (.aload_n 0, 1) := by decide +kernel
theorem d10_town_47 : decode (mm_cc M10_town) 47 = .ok (.getfield 23, 3) := by decide +kernel
theorem d10_town_50 : decode (mm_cc M10_town) 50 = .ok (.invokevirtual 150, 3) := by decide +kernel
theorem d10_town_53 : decode (mm_cc M10_town) 53 = .ok (.aload_n 0, 1) := by decide +kernel
theorem d10_town_54 : decode (mm_cc M10_town) 54 = .ok (.getfield 46, 3) := by decide +kernel
theorem d10_town_57 : decode (mm_cc M10_town) 57 = .ok (.aload_n 0, 1) := by decide +kernel
theorem d10_town_58 : decode (mm_cc M10_town) 58 = .ok (.getfield 49, 3) := by decide +kernel
theorem d10_town_61 : decode (mm_cc M10_town) 61 = .ok (.invokevirtual 154, 3) := by decide +kernel
theorem d10_town_64 : decode (mm_cc M10_town) 64 = .ok (.aload_n 0, 1) := by decide +kernel
theorem d10_town_65 : decode (mm_cc M10_town) 65 = .ok (.invokevirtual 157, 3) := by decide +kernel
theorem d10_town_68 : decode (mm_cc M10_town) 68 = .ok (.aload_n 0, 1) := by decide +kernel
theorem d10_town_69 : decode (mm_cc M10_town) 69 = .ok (.getfield 66, 3) := by decide +kernel
theorem d10_town_72 : decode (mm_cc M10_town) 72 = .ok (.iconst 0, 1) := by decide +kernel
theorem d10_town_73 : decode (mm_cc M10_town) 73 = .ok (.invokevirtual 160, 3) := by decide +kernel
theorem d10_town_76 : decode (mm_cc M10_town) 76 = .ok (.aload_n 0, 1) := by decide +kernel
theorem d10_town_77 : decode (mm_cc M10_town) 77 = .ok (.getfield 73, 3) := by decide +kernel
theorem d10_town_80 : decode (mm_cc M10_town) 80 = .ok (.invokevirtual 163, 3) := by decide +kernel
theorem d10_town_83 : decode (mm_cc M10_town) 83 = .ok (.aload_n 0, 1) := by decide +kernel
theorem d10_town_84 : decode (mm_cc M10_town) 84 = .ok (.iconst 0, 1) := by decide +kernel
theorem d10_town_85 : decode (mm_cc M10_town) 85 = .ok (.putfield 116, 3) := by decide +kernel
theorem d10_town_88 : decode (mm_cc M10_town) 88 = .ok (.aload_n 0, 1) := by decide +kernel
theorem d10_town_89 : decode (mm_cc M10_town) 89 = .ok (.getfield 19, 3) := by decide +kernel
theorem d10_town_92 : decode (mm_cc M10_town) 92 = .ok (.getfield 164, 3) := by decide +kernel
theorem d10_town_95 : decode (mm_cc M10_town) 95 = .ok (.ireturn, 1) := by decide +kernel
theorem d5_search_0 : decode (mm_cc M5_search) 0 = .ok (.aload_n 0, 1) := by decide +kernel
theorem d5_search_1 : decode (mm_cc M5_search) 1 = .ok (.iconst 0, 1) := by decide +kernel
theorem d5_search_2 : decode (mm_cc M5_search) 2 = .ok (.putfield 29, 3) := by decide +kernel
theorem d5_search_5 : decode (mm_cc M5_search) 5 = .ok (.aload_n 0, 1) := by decide +kernel
theorem d5_search_6 : decode (mm_cc M5_search) 6 = .ok (.iconst 0, 1) := by decide +kernel
theorem d5_search_7 : decode (mm_cc M5_search) 7 = .ok (.putfield 33, 3) := by decide +kernel
theorem d5_search_10 : decode (mm_cc M5_search) 10 = .ok (.aload_n 0, 1) := by decide +kernel
theorem d5_search_11 : decode (mm_cc M5_search) 11 = .ok (.invokevirtual 40, 3) := by decide +kernel
theorem d5_search_14 : decode (mm_cc M5_search) 14 = .ok (.iconst 2, 1) := by decide +kernel
theorem d5_search_15 : decode (mm_cc M5_search) 15 = .ok (.istore_n 1, 1) := by decide +kernel
theorem d5_search_16 : decode (mm_cc M5_search) 16 = .ok (.iload_n 1, 1) := by decide +kernel
theorem d5_search_17 : decode (mm_cc M5_search) 17 = .ok (.iconst 4, 1) := by decide +kernel
theorem d5_search_18 : decode (mm_cc M5_search) 18 = .ok (.if_icmp .gt 47, 3) := by decide +kernel
theorem d5_search_21 : decode (mm_cc M5_search) 21 = .ok (.iconst 0, 1) := by decide +kernel
theorem d5_search_22 : decode (mm_cc M5_search) 22 = .ok (.istore_n 2, 1) := by decide +kernel
theorem d5_search_23 : decode (mm_cc M5_search) 23 = .ok (.iload_n 2, 1) := by decide +kernel
theorem d5_search_24 : decode (mm_cc M5_search) 24 = .ok (.aload_n 0, 1) := by decide +kernel
theorem d5_search_25 : decode (mm_cc M5_search) 25 = .ok (.getfield 36, 3) := by decide +kernel
theorem d5_search_28 : decode (mm_cc M5_search) 28 = .ok (.getfield 43, 3) := by decide +kernel
theorem d5_search_31 : decode (mm_cc M5_search) 31 = .ok (.getfield 49, 3) := by decide +kernel
theorem d5_search_34 : decode (mm_cc M5_search) 34 = .ok (.if_icmp .ge 25, 3) := by decide +kernel
theorem d5_search_37 : decode (mm_cc M5_search) 37 = .ok (.aload_n 0, 1) := by decide +kernel
theorem d5_search_38 : decode (mm_cc M5_search) 38 = .ok (.getfield 23, 3) := by decide +kernel
theorem d5_search_41 : decode (mm_cc M5_search) 41 = .ok (.iconst 0, 1) := by decide +kernel
theorem d5_search_42 : decode (mm_cc M5_search) 42 = .ok (.iload_n 2, 1) := by decide +kernel
theorem d5_search_43 : decode (mm_cc M5_search) 43 = .ok (.invokevirtual 54, 3) := by decide +kernel
theorem d5_search_46 : decode (mm_cc M5_search) 46 = .ok (.aload_n 0, 1) := by decide +kernel
theorem d5_search_47 : decode (mm_cc M5_search) 47 = .ok (.iconst 1, 1) := by decide +kernel
theorem d5_search_48 : decode (mm_cc M5_search) 48 = .ok (.iload_n 1, 1) := by decide +kernel
theorem d5_search_49 : decode (mm_cc M5_search) 49 = .ok (.iconst 0, 1) := by decide +kernel
theorem d5_search_50 : decode (mm_cc M5_search) 50 = .ok (.invokestatic 58, 3) := by decide +kernel
theorem d5_search_53 : decode (mm_cc M5_search) 53 = .ok (.iinc 2 1, 3) := by decide +kernel
theorem d5_search_56 : decode (mm_cc M5_search) 56 = .ok (.goto (-33), 3) := by decide +kernel
theorem d5_search_59 : decode (mm_cc M5_search) 59 = .ok (.iinc 1 1, 3) := by decide +kernel
theorem d5_search_62 : decode (mm_cc M5_search) 62 = .ok (.goto (-46), 3) := by decide +kernel
theorem d5_search_65 : decode (mm_cc M5_search) 65 = .ok (.return_, 1) := by decide +kernel
theorem d10_ring_0 : decode (mm_cc M10_ring) 0 = .ok (.iload_n 1, 1) := by decide +kernel
theorem d10_ring_1 : decode (mm_cc M10_ring) 1 = .ok (.iconst 0, 1) := by decide +kernel
theorem d10_ring_2 : decode (mm_cc M10_ring) 2 = .ok (.iconst 5, 1) := by decide +kernel
theorem d10_ring_3 : decode (mm_cc M10_ring) 3 = .ok (.invokestatic 120, 3) := by decide +kernel
theorem d10_ring_6 : decode (mm_cc M10_ring) 6 = .ok (.ifCond .ne 6, 3) := by decide +kernel
theorem d10_ring_9 : decode (mm_cc M10_ring) 9 = .ok (.ldc 124, 2) := by decide +kernel
theorem d10_ring_11 : decode (mm_cc M10_ring) 11 = .ok (.ireturn, 1) := by decide +kernel
theorem d10_ring_12 : decode (mm_cc M10_ring) 12 = .ok (.aload_n 0, 1) := by decide +kernel
theorem d10_ring_13 : decode (mm_cc M10_ring) 13 = .ok (.getfield 112, 3) := by decide +kernel
theorem d10_ring_16 : decode (mm_cc M10_ring) 16 = .ok (.invokevirtual 310, 3) := by decide +kernel
theorem d10_ring_19 : decode (mm_cc M10_ring) 19 = .ok (.iload_n 1, 1) := by decide +kernel
theorem d10_ring_20 : decode (mm_cc M10_ring) 20 = .ok (.ifCond .ne 11, 3) := by decide +kernel
theorem d10_ring_23 : decode (mm_cc M10_ring) 23 = .ok (.aload_n 0, 1) := by decide +kernel
theorem d10_ring_24 : decode (mm_cc M10_ring) 24 = .ok (.getfield 112, 3) := by decide +kernel
theorem d10_ring_27 : decode (mm_cc M10_ring) 27 = .ok (.getfield 313, 3) := by decide +kernel
theorem d10_ring_30 : decode (mm_cc M10_ring) 30 = .ok (.ireturn, 1) := by decide +kernel
theorem d10_ring_31 : decode (mm_cc M10_ring) 31 = .ok (.iload_n 1, 1) := by decide +kernel
theorem d10_ring_32 : decode (mm_cc M10_ring) 32 = .ok (.iconst 1, 1) := by decide +kernel
theorem d10_ring_33 : decode (mm_cc M10_ring) 33 = .ok (.if_icmp .ne 11, 3) := by decide +kernel
theorem d10_ring_36 : decode (mm_cc M10_ring) 36 = .ok (.aload_n 0, 1) := by decide +kernel
theorem d10_ring_37 : decode (mm_cc M10_ring) 37 = .ok (.getfield 112, 3) := by decide +kernel
theorem d10_ring_40 : decode (mm_cc M10_ring) 40 = .ok (.getfield 316, 3) := by decide +kernel
theorem d10_ring_43 : decode (mm_cc M10_ring) 43 = .ok (.ireturn, 1) := by decide +kernel
theorem d10_ring_44 : decode (mm_cc M10_ring) 44 = .ok (.iload_n 1, 1) := by decide +kernel
theorem d10_ring_45 : decode (mm_cc M10_ring) 45 = .ok (.iconst 2, 1) := by decide +kernel
theorem d10_ring_46 : decode (mm_cc M10_ring) 46 = .ok (.isub, 1) := by decide +kernel
theorem d10_ring_47 : decode (mm_cc M10_ring) 47 = .ok (.aload_n 0, 1) := by decide +kernel
theorem d10_ring_48 : decode (mm_cc M10_ring) 48 = .ok (.getfield 112, 3) := by decide +kernel
theorem d10_ring_51 : decode (mm_cc M10_ring) 51 = .ok (.getfield 316, 3) := by decide +kernel
theorem d10_ring_54 : decode (mm_cc M10_ring) 54 = .ok (.if_icmp .ge 19, 3) := by decide +kernel
theorem d10_ring_57 : decode (mm_cc M10_ring) 57 = .ok (.aload_n 0, 1) := by decide +kernel
theorem d10_ring_58 : decode (mm_cc M10_ring) 58 = .ok (.getfield 112, 3) := by decide +kernel
theorem d10_ring_61 : decode (mm_cc M10_ring) 61 = .ok (.getfield 319, 3) := by decide +kernel
theorem d10_ring_64 : decode (mm_cc M10_ring) 64 = .ok (.iload_n 1, 1) := by decide +kernel
theorem d10_ring_65 : decode (mm_cc M10_ring) 65 = .ok (.iconst 2, 1) := by decide +kernel
theorem d10_ring_66 : decode (mm_cc M10_ring) 66 = .ok (.isub, 1) := by decide +kernel
theorem d10_ring_67 : decode (mm_cc M10_ring) 67 = .ok (.invokevirtual 224, 3) := by decide +kernel
theorem d10_ring_70 : decode (mm_cc M10_ring) 70 = .ok (.goto 4, 3) := by decide +kernel
theorem d10_ring_73 : decode (mm_cc M10_ring) 73 = .ok (.iconst (-1), 1) := by decide +kernel
theorem d10_ring_74 : decode (mm_cc M10_ring) 74 = .ok (.ireturn, 1) := by decide +kernel
