theorem dX3_makeWaves_23 : decode cX3_makeWaves 23 = .ok (.goto (-21), 3) := by decide +kernel
theorem dX3_makeWaves_26 : decode cX3_makeWaves 26 = .ok (.iconst 0, 1) := by decide +kernel
theorem dX3_makeWaves_27 : decode cX3_makeWaves 27 = .ok (.istore_n 1, 1) := by decide +kernel
theorem dX3_makeWaves_28 : decode cX3_makeWaves 28 = .ok (.iload_n 1, 1) := by decide +kernel
theorem dX3_makeWaves_29 : decode cX3_makeWaves 29 = .ok (.aload_n 0, 1) := by decide +kernel
theorem dX3_makeWaves_30 : decode cX3_makeWaves 30 = .ok (.getfield 57, 3) := by decide +kernel
theorem dX3_makeWaves_33 : decode cX3_makeWaves 33 = .ok (.if_icmp .ge 66, 3) := by decide +kernel
theorem dX3_makeWaves_36 : decode cX3_makeWaves 36 = .ok (.aload_n 0, 1) := by decide +kernel
theorem dX3_makeWaves_37 : decode cX3_makeWaves 37 = .ok (.invokevirtual 247, 3) := by decide +kernel
theorem dX3_makeWaves_40 : decode cX3_makeWaves 40 = .ok (.istore_n 2, 1) := by decide +kernel
theorem dX3_makeWaves_41 : decode cX3_makeWaves 41 = .ok (.iload_n 2, 1) := by decide +kernel
theorem dX3_makeWaves_42 : decode cX3_makeWaves 42 = .ok (.iconst (-1), 1) := by decide +kernel
theorem dX3_makeWaves_43 : decode cX3_makeWaves 43 = .ok (.if_icmp .ne 5, 3) := by decide +kernel
theorem dX3_makeWaves_46 : decode cX3_makeWaves 46 = .ok (.iconst 1, 1) := by decide +kernel
theorem dX3_makeWaves_47 : decode cX3_makeWaves 47 = .ok (.ireturn, 1) := by decide +kernel
theorem dX3_makeWaves_48 : decode cX3_makeWaves 48 = .ok (.aload_n 0, 1) := by decide +kernel
theorem dX3_makeWaves_49 : decode cX3_makeWaves 49 = .ok (.getfield 36, 3) := by decide +kernel
theorem dX3_makeWaves_52 : decode cX3_makeWaves 52 = .ok (.iload_n 2, 1) := by decide +kernel
theorem dX3_makeWaves_53 : decode cX3_makeWaves 53 = .ok (.aaload, 1) := by decide +kernel
theorem dX3_makeWaves_54 : decode cX3_makeWaves 54 = .ok (.iconst 1, 1) := by decide +kernel
theorem dX3_makeWaves_55 : decode cX3_makeWaves 55 = .ok (.putfield 244, 3) := by decide +kernel
theorem dX3_makeWaves_58 : decode cX3_makeWaves 58 = .ok (.aload_n 0, 1) := by decide +kernel
theorem dX3_makeWaves_59 : decode cX3_makeWaves 59 = .ok (.getfield 36, 3) := by decide +kernel
theorem dX3_makeWaves_62 : decode cX3_makeWaves 62 = .ok (.iload_n 2, 1) := by decide +kernel
theorem dX3_makeWaves_63 : decode cX3_makeWaves 63 = .ok (.aaload, 1) := by decide +kernel
theorem dX3_makeWaves_64 : decode cX3_makeWaves 64 = .ok (.getfield 73, 3) := by decide +kernel
theorem dX3_makeWaves_67 : decode cX3_makeWaves 67 = .ok (.aload_n 0, 1) := by decide +kernel
theorem dX3_makeWaves_68 : decode cX3_makeWaves 68 = .ok (.getfield 19, 3) := by decide +kernel
theorem dX3_makeWaves_71 : decode cX3_makeWaves 71 = .ok (.if_icmp .le 6, 3) := by decide +kernel
theorem dX3_makeWaves_74 : decode cX3_makeWaves 74 = .ok (.goto 19, 3) := by decide +kernel
theorem dX3_makeWaves_77 : decode cX3_makeWaves 77 = .ok (.aload_n 0, 1) := by decide +kernel
theorem dX3_makeWaves_78 : decode cX3_makeWaves 78 = .ok (.getfield 112, 3) := by decide +kernel
theorem dX3_makeWaves_81 : decode cX3_makeWaves 81 = .ok (.bipush 16, 2) := by decide +kernel
theorem dX3_makeWaves_83 : decode cX3_makeWaves 83 = .ok (.if_icmp .lt 5, 3) := by decide +kernel
theorem dX3_makeWaves_86 : decode cX3_makeWaves 86 = .ok (.iconst 0, 1) := by decide +kernel
theorem dX3_makeWaves_87 : decode cX3_makeWaves 87 = .ok (.ireturn, 1) := by decide +kernel
theorem dX3_makeWaves_88 : decode cX3_makeWaves 88 = .ok (.aload_n 0, 1) := by decide +kernel
theorem dX3_makeWaves_89 : decode cX3_makeWaves 89 = .ok (.iload_n 2, 1) := by decide +kernel
theorem dX3_makeWaves_90 : decode cX3_makeWaves 90 = .ok (.invokevirtual 250, 3) := by decide +kernel
theorem dX3_makeWaves_93 : decode cX3_makeWaves 93 = .ok (.iinc 1 1, 3) := by decide +kernel
theorem dX3_makeWaves_96 : decode cX3_makeWaves 96 = .ok (.goto (-68), 3) := by decide +kernel
theorem dX3_makeWaves_99 : decode cX3_makeWaves 99 = .ok (.iconst 1, 1) := by decide +kernel
theorem dX3_makeWaves_100 : decode cX3_makeWaves 100 = .ok (.ireturn, 1) := by decide +kernel
theorem dX3_mayBePlanned_0 : decode cX3_mayBePlanned 0 = .ok (.aload_n 1, 1) := by decide +kernel
theorem dX3_mayBePlanned_1 : decode cX3_mayBePlanned 1 = .ok (.getfield 128, 3) := by decide +kernel
theorem dX3_mayBePlanned_4 : decode cX3_mayBePlanned 4 = .ok (.ifCond .ne 15, 3) := by decide +kernel
theorem dX3_mayBePlanned_7 : decode cX3_mayBePlanned 7 = .ok (.aload_n 0, 1) := by decide +kernel
theorem dX3_mayBePlanned_8 : decode cX3_mayBePlanned 8 = .ok (.aload_n 1, 1) := by decide +kernel
theorem dX3_mayBePlanned_9 : decode cX3_mayBePlanned 9 = .ok (.invokevirtual 198, 3) := by decide +kernel
theorem dX3_mayBePlanned_12 : decode cX3_mayBePlanned 12 = .ok (.ifCond .eq 7, 3) := by decide +kernel
theorem dX3_mayBePlanned_15 : decode cX3_mayBePlanned 15 = .ok (.iconst 1, 1) := by decide +kernel
theorem dX3_mayBePlanned_16 : decode cX3_mayBePlanned 16 = .ok (.goto 4, 3) := by decide +kernel
theorem dX3_mayBePlanned_19 : decode cX3_mayBePlanned 19 = .ok (.iconst 0, 1) := by decide +kernel
theorem dX3_mayBePlanned_20 : decode cX3_mayBePlanned 20 = .ok (.ireturn, 1) := by decide +kernel
theorem dX3_nextBeginning_0 : decode cX3_nextBeginning 0 = .ok (.iconst (-1), 1) := by decide +kernel
theorem dX3_nextBeginning_1 : decode cX3_nextBeginning 1 = .ok (.istore_n 1, 1) := by decide +kernel
theorem dX3_nextBeginning_2 : decode cX3_nextBeginning 2 = .ok (.iconst 0, 1) := by decide +kernel
theorem dX3_nextBeginning_3 : decode cX3_nextBeginning 3 = .ok (.istore_n 2, 1) := by decide +kernel
theorem dX3_nextBeginning_4 : decode cX3_nextBeginning 4 = .ok (.iload_n 2, 1) := by decide +kernel
theorem dX3_nextBeginning_5 : decode cX3_nextBeginning 5 = .ok (.aload_n 0, 1) := by decide +kernel
theorem dX3_nextBeginning_6 : decode cX3_nextBeginning 6 = .ok (.getfield 57, 3) := by decide +kernel
theorem dX3_nextBeginning_9 : decode cX3_nextBeginning 9 = .ok (.if_icmp .ge 54, 3) := by decide +kernel
theorem dX3_nextBeginning_12 : decode cX3_nextBeginning 12 = .ok (.aload_n 0, 1) := by decide +kernel
theorem dX3_nextBeginning_13 : decode cX3_nextBeginning 13 = .ok (.getfield 36, 3) := by decide +kernel
theorem dX3_nextBeginning_16 : decode cX3_nextBeginning 16 = .ok (.iload_n 2, 1) := by decide +kernel
theorem dX3_nextBeginning_17 : decode cX3_nextBeginning 17 = .ok (.aaload, 1) := by decide +kernel
theorem dX3_nextBeginning_18 : decode cX3_nextBeginning 18 = .ok (.astore_n 3, 1) := by decide +kernel
theorem dX3_nextBeginning_19 : decode cX3_nextBeginning 19 = .ok (.aload_n 0, 1) := by decide +kernel
theorem dX3_nextBeginning_20 : decode cX3_nextBeginning 20 = .ok (.aload_n 3, 1) := by decide +kernel
theorem dX3_nextBeginning_21 : decode cX3_nextBeginning 21 = .ok (.invokevirtual 253, 3) := by decide +kernel
theorem dX3_nextBeginning_24 : decode cX3_nextBeginning 24 = .ok (.ifCond .eq 33, 3) := by decide +kernel
theorem dX3_nextBeginning_27 : decode cX3_nextBeginning 27 = .ok (.aload_n 3, 1) := by decide +kernel
theorem dX3_nextBeginning_28 : decode cX3_nextBeginning 28 = .ok (.getfield 244, 3) := by decide +kernel
theorem dX3_nextBeginning_31 : decode cX3_nextBeginning 31 = .ok (.ifCond .ne 26, 3) := by decide +kernel
theorem dX3_nextBeginning_34 : decode cX3_nextBeginning 34 = .ok (.iload_n 1, 1) := by decide +kernel
theorem dX3_nextBeginning_35 : decode cX3_nextBeginning 35 = .ok (.iconst (-1), 1) := by decide +kernel
theorem dX3_nextBeginning_36 : decode cX3_nextBeginning 36 = .ok (.if_icmp .eq 19, 3) := by decide +kernel
theorem dX3_nextBeginning_39 : decode cX3_nextBeginning 39 = .ok (.aload_n 3, 1) := by decide +kernel
theorem dX3_nextBeginning_40 : decode cX3_nextBeginning 40 = .ok (.getfield 67, 3) := by decide +kernel
theorem dX3_nextBeginning_43 : decode cX3_nextBeginning 43 = .ok (.aload_n 0, 1) := by decide +kernel
theorem dX3_nextBeginning_44 : decode cX3_nextBeginning 44 = .ok (.getfield 36, 3) := by decide +kernel
theorem dX3_nextBeginning_47 : decode cX3_nextBeginning 47 = .ok (.iload_n 1, 1) := by decide +kernel
theorem dX3_nextBeginning_48 : decode cX3_nextBeginning 48 = .ok (.aaload, 1) := by decide +kernel
theorem dX3_nextBeginning_49 : decode cX3_nextBeginning 49 = .ok (.getfield 67, 3) := by decide +kernel
theorem dX3_nextBeginning_52 : decode cX3_nextBeginning 52 = .ok (.if_icmp .ge 5, 3) := by decide +kernel
theorem dX3_nextBeginning_55 : decode cX3_nextBeginning 55 = .ok (.iload_n 2, 1) := by decide +kernel
theorem dX3_nextBeginning_56 : decode cX3_nextBeginning 56 = .ok (.istore_n 1, 1) := by decide +kernel
theorem dX3_nextBeginning_57 : decode cX3_nextBeginning 57 = .ok (.iinc 2 1, 3) := by decide +kernel
theorem dX3_nextBeginning_60 : decode cX3_nextBeginning 60 = .ok (.goto (-56), 3) := by decide +kernel
theorem dX3_nextBeginning_63 : decode cX3_nextBeginning 63 = .ok (.iload_n 1, 1) := by decide +kernel
theorem dX3_nextBeginning_64 : decode cX3_nextBeginning 64 = .ok (.ireturn, 1) := by decide +kernel
theorem dX3_makeWave_0 : decode cX3_makeWave 0 = .ok (.aload_n 0, 1) := by decide +kernel
theorem dX3_makeWave_1 : decode cX3_makeWave 1 = .ok (.getfield 43, 3) := by decide +kernel
theorem dX3_makeWave_4 : decode cX3_makeWave 4 = .ok (.aload_n 0, 1) := by decide +kernel
theorem dX3_makeWave_5 : decode cX3_makeWave 5 = .ok (.getfield 112, 3) := by decide +kernel
theorem dX3_makeWave_8 : decode cX3_makeWave 8 = .ok (.aaload, 1) := by decide +kernel
theorem dX3_makeWave_9 : decode cX3_makeWave 9 = .ok (.astore_n 2, 1) := by decide +kernel
theorem dX3_makeWave_10 : decode cX3_makeWave 10 = .ok (.aload_n 0, 1) := by decide +kernel
theorem dX3_makeWave_11 : decode cX3_makeWave 11 = .ok (.dup, 1) := by decide +kernel
theorem dX3_makeWave_12 : decode cX3_makeWave 12 = .ok (.getfield 112, 3) := by decide +kernel
theorem dX3_makeWave_15 : decode cX3_makeWave 15 = .ok (.iconst 1, 1) := by decide +kernel
theorem dX3_makeWave_16 : decode cX3_makeWave 16 = .ok (.iadd, 1) := by decide +kernel
theorem dX3_makeWave_17 : decode cX3_makeWave 17 = .ok (.putfield 112, 3) := by decide +kernel
theorem dX3_makeWave_20 : decode cX3_makeWave 20 = .ok (.aload_n 2, 1) := by decide +kernel
theorem dX3_makeWave_21 : decode cX3_makeWave 21 = .ok (.aload_n 0, 1) := by decide +kernel
theorem dX3_makeWave_22 : decode cX3_makeWave 22 = .ok (.getfield 36, 3) := by decide +kernel
theorem dX3_makeWave_25 : decode cX3_makeWave 25 = .ok (.iload_n 1, 1) := by decide +kernel
theorem dX3_makeWave_26 : decode cX3_makeWave 26 = .ok (.aaload, 1) := by decide +kernel
theorem dX3_makeWave_27 : decode cX3_makeWave 27 = .ok (.getfield 97, 3) := by decide +kernel
theorem dX3_makeWave_30 : decode cX3_makeWave 30 = .ok (.putfield 146, 3) := by decide +kernel
theorem dX3_makeWave_33 : decode cX3_makeWave 33 = .ok (.aload_n 0, 1) := by decide +kernel
theorem dX3_makeWave_34 : decode cX3_makeWave 34 = .ok (.getfield 19, 3) := by decide +kernel
theorem dX3_makeWave_37 : decode cX3_makeWave 37 = .ok (.istore_n 3, 1) := by decide +kernel
theorem dX3_makeWave_38 : decode cX3_makeWave 38 = .ok (.iload_n 1, 1) := by decide +kernel
theorem dX3_makeWave_39 : decode cX3_makeWave 39 = .ok (.istore 4, 2) := by decide +kernel
theorem dX3_makeWave_41 : decode cX3_makeWave 41 = .ok (.iconst 0, 1) := by decide +kernel
theorem dX3_makeWave_42 : decode cX3_makeWave 42 = .ok (.istore 5, 2) := by decide +kernel
theorem dX3_makeWave_44 : decode cX3_makeWave 44 = .ok (.iload 5, 2) := by decide +kernel
theorem dX3_makeWave_46 : decode cX3_makeWave 46 = .ok (.bipush 16, 2) := by decide +kernel
theorem dX3_makeWave_48 : decode cX3_makeWave 48 = .ok (.if_icmp .ge 67, 3) := by decide +kernel
theorem dX3_makeWave_51 : decode cX3_makeWave 51 = .ok (.iload 4, 2) := by decide +kernel
theorem dX3_makeWave_53 : decode cX3_makeWave 53 = .ok (.iconst (-1), 1) := by decide +kernel
theorem dX3_makeWave_54 : decode cX3_makeWave 54 = .ok (.if_icmp .eq 61, 3) := by decide +kernel
theorem dX3_makeWave_57 : decode cX3_makeWave 57 = .ok (.aload_n 0, 1) := by decide +kernel
theorem dX3_makeWave_58 : decode cX3_makeWave 58 = .ok (.getfield 36, 3) := by decide +kernel
theorem dX3_makeWave_61 : decode cX3_makeWave 61 = .ok (.iload 4, 2) := by decide +kernel
theorem dX3_makeWave_63 : decode cX3_makeWave 63 = .ok (.aaload, 1) := by decide +kernel
theorem dX3_makeWave_64 : decode cX3_makeWave 64 = .ok (.astore 6, 2) := by decide +kernel
theorem dX3_makeWave_66 : decode cX3_makeWave 66 = .ok (.iload_n 3, 1) := by decide +kernel
theorem dX3_makeWave_67 : decode cX3_makeWave 67 = .ok (.aload 6, 2) := by decide +kernel
theorem dX3_makeWave_69 : decode cX3_makeWave 69 = .ok (.getfield 73, 3) := by decide +kernel
theorem dX3_makeWave_72 : decode cX3_makeWave 72 = .ok (.aload_n 0, 1) := by decide +kernel
theorem dX3_makeWave_73 : decode cX3_makeWave 73 = .ok (.aload 6, 2) := by decide +kernel
theorem dX3_makeWave_75 : decode cX3_makeWave 75 = .ok (.aload_n 2, 1) := by decide +kernel
theorem dX3_makeWave_76 : decode cX3_makeWave 76 = .ok (.aload_n 2, 1) := by decide +kernel
theorem dX3_makeWave_77 : decode cX3_makeWave 77 = .ok (.getfield 142, 3) := by decide +kernel
theorem dX3_makeWave_80 : decode cX3_makeWave 80 = .ok (.invokevirtual 256, 3) := by decide +kernel
theorem dX3_makeWave_83 : decode cX3_makeWave 83 = .ok (.isub, 1) := by decide +kernel
theorem dX3_makeWave_84 : decode cX3_makeWave 84 = .ok (.isub, 1) := by decide +kernel
theorem dX3_makeWave_85 : decode cX3_makeWave 85 = .ok (.istore_n 3, 1) := by decide +kernel
theorem dX3_makeWave_86 : decode cX3_makeWave 86 = .ok (.aload_n 2, 1) := by decide +kernel
theorem dX3_makeWave_87 : decode cX3_makeWave 87 = .ok (.iload 4, 2) := by decide +kernel
theorem dX3_makeWave_89 : decode cX3_makeWave 89 = .ok (.invokevirtual 260, 3) := by decide +kernel
theorem dX3_makeWave_92 : decode cX3_makeWave 92 = .ok (.aload 6, 2) := by decide +kernel
theorem dX3_makeWave_94 : decode cX3_makeWave 94 = .ok (.aload_n 0, 1) := by decide +kernel
theorem dX3_makeWave_95 : decode cX3_makeWave 95 = .ok (.getfield 112, 3) := by decide +kernel
theorem dX3_makeWave_98 : decode cX3_makeWave 98 = .ok (.putfield 128, 3) := by decide +kernel
theorem dX3_makeWave_101 : decode cX3_makeWave 101 = .ok (.aload_n 0, 1) := by decide +kernel
theorem dX3_makeWave_102 : decode cX3_makeWave 102 = .ok (.aload_n 2, 1) := by decide +kernel
theorem dX3_makeWave_103 : decode cX3_makeWave 103 = .ok (.iload_n 3, 1) := by decide +kernel
theorem dX3_makeWave_104 : decode cX3_makeWave 104 = .ok (.invokevirtual 263, 3) := by decide +kernel
theorem dX3_makeWave_107 : decode cX3_makeWave 107 = .ok (.istore 4, 2) := by decide +kernel
theorem dX3_makeWave_109 : decode cX3_makeWave 109 = .ok (.iinc 5 1, 3) := by decide +kernel
theorem dX3_makeWave_112 : decode cX3_makeWave 112 = .ok (.goto (-68), 3) := by decide +kernel
theorem dX3_makeWave_115 : decode cX3_makeWave 115 = .ok (.return_, 1) := by decide +kernel
theorem dX3_bestAddition_0 : decode cX3_bestAddition 0 = .ok (.iconst (-1), 1) := by decide +kernel
theorem dX3_bestAddition_1 : decode cX3_bestAddition 1 = .ok (.istore_n 3, 1) := by decide +kernel
theorem dX3_bestAddition_2 : decode cX3_bestAddition 2 = .ok (.iconst 0, 1) := by decide +kernel
theorem dX3_bestAddition_3 : decode cX3_bestAddition 3 = .ok (.istore 4, 2) := by decide +kernel
theorem dX3_bestAddition_5 : decode cX3_bestAddition 5 = .ok (.iconst 0, 1) := by decide +kernel
theorem dX3_bestAddition_6 : decode cX3_bestAddition 6 = .ok (.istore 5, 2) := by decide +kernel
theorem dX3_bestAddition_8 : decode cX3_bestAddition 8 = .ok (.iload 5, 2) := by decide +kernel
theorem dX3_bestAddition_10 : decode cX3_bestAddition 10 = .ok (.aload_n 0, 1) := by decide +kernel
theorem dX3_bestAddition_11 : decode cX3_bestAddition 11 = .ok (.getfield 57, 3) := by decide +kernel
theorem dX3_bestAddition_14 : decode cX3_bestAddition 14 = .ok (.if_icmp .ge 130, 3) := by decide +kernel
theorem dX3_bestAddition_17 : decode cX3_bestAddition 17 = .ok (.aload_n 0, 1) := by decide +kernel
theorem dX3_bestAddition_18 : decode cX3_bestAddition 18 = .ok (.getfield 36, 3) := by decide +kernel
theorem dX3_bestAddition_21 : decode cX3_bestAddition 21 = .ok (.iload 5, 2) := by decide +kernel
theorem dX3_bestAddition_23 : decode cX3_bestAddition 23 = .ok (.aaload, 1) := by decide +kernel
theorem dX3_bestAddition_24 : decode cX3_bestAddition 24 = .ok (.astore 6, 2) := by decide +kernel
theorem dX3_bestAddition_26 : decode cX3_bestAddition 26 = .ok (.aload_n 0, 1) := by decide +kernel
theorem dX3_bestAddition_27 : decode cX3_bestAddition 27 = .ok (.aload 6, 2) := by decide +kernel
theorem dX3_bestAddition_29 : decode cX3_bestAddition 29 = .ok (.invokevirtual 253, 3) := by decide +kernel
theorem dX3_bestAddition_32 : decode cX3_bestAddition 32 = .ok (.ifCond .eq 106, 3) := by decide +kernel
theorem dX3_bestAddition_35 : decode cX3_bestAddition 35 = .ok (.aload 6, 2) := by decide +kernel
theorem dX3_bestAddition_37 : decode cX3_bestAddition 37 = .ok (.getfield 97, 3) := by decide +kernel
theorem dX3_bestAddition_40 : decode cX3_bestAddition 40 = .ok (.aload_n 1, 1) := by decide +kernel
theorem dX3_bestAddition_41 : decode cX3_bestAddition 41 = .ok (.getfield 146, 3) := by decide +kernel
theorem dX3_bestAddition_44 : decode cX3_bestAddition 44 = .ok (.if_icmp .eq 6, 3) := by decide +kernel
theorem dX3_bestAddition_47 : decode cX3_bestAddition 47 = .ok (.goto 91, 3) := by decide +kernel
theorem dX3_bestAddition_50 : decode cX3_bestAddition 50 = .ok (.aload_n 0, 1) := by decide +kernel
theorem dX3_bestAddition_51 : decode cX3_bestAddition 51 = .ok (.aload 6, 2) := by decide +kernel
theorem dX3_bestAddition_53 : decode cX3_bestAddition 53 = .ok (.aload_n 1, 1) := by decide +kernel
theorem dX3_bestAddition_54 : decode cX3_bestAddition 54 = .ok (.aload_n 1, 1) := by decide +kernel
theorem dX3_bestAddition_55 : decode cX3_bestAddition 55 = .ok (.getfield 142, 3) := by decide +kernel
theorem dX3_bestAddition_58 : decode cX3_bestAddition 58 = .ok (.invokevirtual 256, 3) := by decide +kernel
theorem dX3_bestAddition_61 : decode cX3_bestAddition 61 = .ok (.istore 7, 2) := by decide +kernel
theorem dX3_bestAddition_63 : decode cX3_bestAddition 63 = .ok (.aload 6, 2) := by decide +kernel
theorem dX3_bestAddition_65 : decode cX3_bestAddition 65 = .ok (.getfield 73, 3) := by decide +kernel
theorem dX3_bestAddition_68 : decode cX3_bestAddition 68 = .ok (.iload 7, 2) := by decide +kernel
theorem dX3_bestAddition_70 : decode cX3_bestAddition 70 = .ok (.isub, 1) := by decide +kernel
theorem dX3_bestAddition_71 : decode cX3_bestAddition 71 = .ok (.iload_n 2, 1) := by decide +kernel
theorem dX3_bestAddition_72 : decode cX3_bestAddition 72 = .ok (.if_icmp .le 6, 3) := by decide +kernel
theorem dX3_bestAddition_75 : decode cX3_bestAddition 75 = .ok (.goto 63, 3) := by decide +kernel
theorem dX3_bestAddition_78 : decode cX3_bestAddition 78 = .ok (.iload_n 3, 1) := by decide +kernel
theorem dX3_bestAddition_79 : decode cX3_bestAddition 79 = .ok (.iconst (-1), 1) := by decide +kernel
theorem dX3_bestAddition_80 : decode cX3_bestAddition 80 = .ok (.if_icmp .eq 31, 3) := by decide +kernel
theorem dX3_bestAddition_83 : decode cX3_bestAddition 83 = .ok (.iload 7, 2) := by decide +kernel
theorem dX3_bestAddition_85 : decode cX3_bestAddition 85 = .ok (.iload 4, 2) := by decide +kernel
theorem dX3_bestAddition_87 : decode cX3_bestAddition 87 = .ok (.if_icmp .ne 24, 3) := by decide +kernel
theorem dX3_bestAddition_90 : decode cX3_bestAddition 90 = .ok (.aload 6, 2) := by decide +kernel
theorem dX3_bestAddition_92 : decode cX3_bestAddition 92 = .ok (.getfield 67, 3) := by decide +kernel
theorem dX3_bestAddition_95 : decode cX3_bestAddition 95 = .ok (.aload_n 0, 1) := by decide +kernel
theorem dX3_bestAddition_96 : decode cX3_bestAddition 96 = .ok (.getfield 36, 3) := by decide +kernel
theorem dX3_bestAddition_99 : decode cX3_bestAddition 99 = .ok (.iload_n 3, 1) := by decide +kernel
theorem dX3_bestAddition_100 : decode cX3_bestAddition 100 = .ok (.aaload, 1) := by decide +kernel
theorem dX3_bestAddition_101 : decode cX3_bestAddition 101 = .ok (.getfield 67, 3) := by decide +kernel
theorem dX3_bestAddition_104 : decode cX3_bestAddition 104 = .ok (.if_icmp .ge 7, 3) := by decide +kernel
theorem dX3_bestAddition_107 : decode cX3_bestAddition 107 = .ok (.iconst 1, 1) := by decide +kernel
theorem dX3_bestAddition_108 : decode cX3_bestAddition 108 = .ok (.goto 4, 3) := by decide +kernel
theorem dX3_bestAddition_111 : decode cX3_bestAddition 111 = .ok (.iconst 0, 1) := by decide +kernel
theorem dX3_bestAddition_112 : decode cX3_bestAddition 112 = .ok (.istore 8, 2) := by decide +kernel
theorem dX3_bestAddition_114 : decode cX3_bestAddition 114 = .ok (.iload_n 3, 1) := by decide +kernel
theorem dX3_bestAddition_115 : decode cX3_bestAddition 115 = .ok (.iconst (-1), 1) := by decide +kernel
theorem dX3_bestAddition_116 : decode cX3_bestAddition 116 = .ok (.if_icmp .eq 15, 3) := by decide +kernel
theorem dX3_bestAddition_119 : decode cX3_bestAddition 119 = .ok (.iload 7, 2) := by decide +kernel
theorem dX3_bestAddition_121 : decode cX3_bestAddition 121 = .ok (.iload 4, 2) := by decide +kernel
theorem dX3_bestAddition_123 : decode cX3_bestAddition 123 = .ok (.if_icmp .gt 8, 3) := by decide +kernel
theorem dX3_bestAddition_126 : decode cX3_bestAddition 126 = .ok (.iload 8, 2) := by decide +kernel
theorem dX3_bestAddition_128 : decode cX3_bestAddition 128 = .ok (.ifCond .eq 10, 3) := by decide +kernel
theorem dX3_bestAddition_131 : decode cX3_bestAddition 131 = .ok (.iload 5, 2) := by decide +kernel
theorem dX3_bestAddition_133 : decode cX3_bestAddition 133 = .ok (.istore_n 3, 1) := by decide +kernel
theorem dX3_bestAddition_134 : decode cX3_bestAddition 134 = .ok (.iload 7, 2) := by decide +kernel
theorem dX3_bestAddition_136 : decode cX3_bestAddition 136 = .ok (.istore 4, 2) := by decide +kernel
theorem dX3_bestAddition_138 : decode cX3_bestAddition 138 = .ok (.iinc 5 1, 3) := by decide +kernel
theorem dX3_bestAddition_141 : decode cX3_bestAddition 141 = .ok (.goto (-133), 3) := by decide +kernel
theorem dX3_bestAddition_144 : decode cX3_bestAddition 144 = .ok (.iload_n 3, 1) := by decide +kernel
theorem dX3_bestAddition_145 : decode cX3_bestAddition 145 = .ok (.ireturn, 1) := by decide +kernel
theorem dX3_undoWavesBehind_0 : decode cX3_undoWavesBehind 0 = .ok (.iconst 0, 1) := by decide +kernel
theorem dX3_undoWavesBehind_1 : decode cX3_undoWavesBehind 1 = .ok (.istore_n 2, 1) := by decide +kernel
theorem dX3_undoWavesBehind_2 : decode cX3_undoWavesBehind 2 = .ok (.iload_n 2, 1) := by decide +kernel
theorem dX3_undoWavesBehind_3 : decode cX3_undoWavesBehind 3 = .ok (.aload_n 0, 1) := by decide +kernel
theorem dX3_undoWavesBehind_4 : decode cX3_undoWavesBehind 4 = .ok (.getfield 57, 3) := by decide +kernel
theorem dX3_undoWavesBehind_7 : decode cX3_undoWavesBehind 7 = .ok (.if_icmp .ge 32, 3) := by decide +kernel
theorem dX3_undoWavesBehind_10 : decode cX3_undoWavesBehind 10 = .ok (.aload_n 0, 1) := by decide +kernel
theorem dX3_undoWavesBehind_11 : decode cX3_undoWavesBehind 11 = .ok (.getfield 36, 3) := by decide +kernel
theorem dX3_undoWavesBehind_14 : decode cX3_undoWavesBehind 14 = .ok (.iload_n 2, 1) := by decide +kernel
theorem dX3_undoWavesBehind_15 : decode cX3_undoWavesBehind 15 = .ok (.aaload, 1) := by decide +kernel
theorem dX3_undoWavesBehind_16 : decode cX3_undoWavesBehind 16 = .ok (.getfield 128, 3) := by decide +kernel
theorem dX3_undoWavesBehind_19 : decode cX3_undoWavesBehind 19 = .ok (.iload_n 1, 1) := by decide +kernel
theorem dX3_undoWavesBehind_20 : decode cX3_undoWavesBehind 20 = .ok (.if_icmp .le 13, 3) := by decide +kernel
theorem dX3_undoWavesBehind_23 : decode cX3_undoWavesBehind 23 = .ok (.aload_n 0, 1) := by decide +kernel
theorem dX3_undoWavesBehind_24 : decode cX3_undoWavesBehind 24 = .ok (.getfield 36, 3) := by decide +kernel
theorem dX3_undoWavesBehind_27 : decode cX3_undoWavesBehind 27 = .ok (.iload_n 2, 1) := by decide +kernel
theorem dX3_undoWavesBehind_28 : decode cX3_undoWavesBehind 28 = .ok (.aaload, 1) := by decide +kernel
theorem dX3_undoWavesBehind_29 : decode cX3_undoWavesBehind 29 = .ok (.iconst 0, 1) := by decide +kernel
theorem dX3_undoWavesBehind_30 : decode cX3_undoWavesBehind 30 = .ok (.putfield 128, 3) := by decide +kernel
theorem dX3_undoWavesBehind_33 : decode cX3_undoWavesBehind 33 = .ok (.iinc 2 1, 3) := by decide +kernel
theorem dX3_undoWavesBehind_36 : decode cX3_undoWavesBehind 36 = .ok (.goto (-34), 3) := by decide +kernel
theorem dX3_undoWavesBehind_39 : decode cX3_undoWavesBehind 39 = .ok (.iload_n 1, 1) := by decide +kernel
theorem dX3_undoWavesBehind_40 : decode cX3_undoWavesBehind 40 = .ok (.istore_n 2, 1) := by decide +kernel
theorem dX3_undoWavesBehind_41 : decode cX3_undoWavesBehind 41 = .ok (.iload_n 2, 1) := by decide +kernel
theorem dX3_undoWavesBehind_42 : decode cX3_undoWavesBehind 42 = .ok (.aload_n 0, 1) := by decide +kernel
theorem dX3_undoWavesBehind_43 : decode cX3_undoWavesBehind 43 = .ok (.getfield 112, 3) := by decide +kernel
theorem dX3_undoWavesBehind_46 : decode cX3_undoWavesBehind 46 = .ok (.if_icmp .ge 18, 3) := by decide +kernel
theorem dX3_undoWavesBehind_49 : decode cX3_undoWavesBehind 49 = .ok (.aload_n 0, 1) := by decide +kernel
theorem dX3_undoWavesBehind_50 : decode cX3_undoWavesBehind 50 = .ok (.getfield 43, 3) := by decide +kernel
theorem dX3_undoWavesBehind_53 : decode cX3_undoWavesBehind 53 = .ok (.iload_n 2, 1) := by decide +kernel
theorem dX3_undoWavesBehind_54 : decode cX3_undoWavesBehind 54 = .ok (.aaload, 1) := by decide +kernel
theorem dX3_undoWavesBehind_55 : decode cX3_undoWavesBehind 55 = .ok (.invokevirtual 207, 3) := by decide +kernel
theorem dX3_undoWavesBehind_58 : decode cX3_undoWavesBehind 58 = .ok (.iinc 2 1, 3) := by decide +kernel
theorem dX3_undoWavesBehind_61 : decode cX3_undoWavesBehind 61 = .ok (.goto (-20), 3) := by decide +kernel
theorem dX3_undoWavesBehind_64 : decode cX3_undoWavesBehind 64 = .ok (.aload_n 0, 1) := by decide +kernel
theorem dX3_undoWavesBehind_65 : decode cX3_undoWavesBehind 65 = .ok (.iload_n 1, 1) := by decide +kernel
theorem dX3_undoWavesBehind_66 : decode cX3_undoWavesBehind 66 = .ok (.putfield 112, 3) := by decide +kernel
theorem dX3_undoWavesBehind_69 : decode cX3_undoWavesBehind 69 = .ok (.return_, 1) := by decide +kernel
theorem dX3_greatestSaving_0 : decode cX3_greatestSaving 0 = .ok (.iconst 0, 1) := by decide +kernel
theorem dX3_greatestSaving_1 : decode cX3_greatestSaving 1 = .ok (.istore 4, 2) := by decide +kernel
theorem dX3_greatestSaving_3 : decode cX3_greatestSaving 3 = .ok (.iconst 0, 1) := by decide +kernel
theorem dX3_greatestSaving_4 : decode cX3_greatestSaving 4 = .ok (.istore 5, 2) := by decide +kernel
theorem dX3_greatestSaving_6 : decode cX3_greatestSaving 6 = .ok (.iload 5, 2) := by decide +kernel
theorem dX3_greatestSaving_8 : decode cX3_greatestSaving 8 = .ok (.iload_n 3, 1) := by decide +kernel
theorem dX3_greatestSaving_9 : decode cX3_greatestSaving 9 = .ok (.if_icmp .ge 41, 3) := by decide +kernel
theorem dX3_greatestSaving_12 : decode cX3_greatestSaving 12 = .ok (.iload 5, 2) := by decide +kernel
theorem dX3_greatestSaving_14 : decode cX3_greatestSaving 14 = .ok (.aload_n 2, 1) := by decide +kernel
theorem dX3_greatestSaving_15 : decode cX3_greatestSaving 15 = .ok (.getfield 142, 3) := by decide +kernel
theorem dX3_greatestSaving_18 : decode cX3_greatestSaving 18 = .ok (.if_icmp .ge 32, 3) := by decide +kernel
theorem dX3_greatestSaving_21 : decode cX3_greatestSaving 21 = .ok (.iload 4, 2) := by decide +kernel
theorem dX3_greatestSaving_23 : decode cX3_greatestSaving 23 = .ok (.aload_n 1, 1) := by decide +kernel
theorem dX3_greatestSaving_24 : decode cX3_greatestSaving 24 = .ok (.aload_n 0, 1) := by decide +kernel
theorem dX3_greatestSaving_25 : decode cX3_greatestSaving 25 = .ok (.getfield 36, 3) := by decide +kernel
theorem dX3_greatestSaving_28 : decode cX3_greatestSaving 28 = .ok (.aload_n 2, 1) := by decide +kernel
theorem dX3_greatestSaving_29 : decode cX3_greatestSaving 29 = .ok (.getfield 164, 3) := by decide +kernel
theorem dX3_greatestSaving_32 : decode cX3_greatestSaving 32 = .ok (.iload 5, 2) := by decide +kernel
theorem dX3_greatestSaving_34 : decode cX3_greatestSaving 34 = .ok (.iaload, 1) := by decide +kernel
theorem dX3_greatestSaving_35 : decode cX3_greatestSaving 35 = .ok (.aaload, 1) := by decide +kernel
theorem dX3_greatestSaving_36 : decode cX3_greatestSaving 36 = .ok (.invokevirtual 267, 3) := by decide +kernel
theorem dX3_greatestSaving_39 : decode cX3_greatestSaving 39 = .ok (.invokestatic 16, 3) := by decide +kernel
theorem dX3_greatestSaving_42 : decode cX3_greatestSaving 42 = .ok (.istore 4, 2) := by decide +kernel
theorem dX3_greatestSaving_44 : decode cX3_greatestSaving 44 = .ok (.iinc 5 1, 3) := by decide +kernel
theorem dX3_greatestSaving_47 : decode cX3_greatestSaving 47 = .ok (.goto (-41), 3) := by decide +kernel
theorem dX3_greatestSaving_50 : decode cX3_greatestSaving 50 = .ok (.iload 4, 2) := by decide +kernel
theorem dX3_greatestSaving_52 : decode cX3_greatestSaving 52 = .ok (.ireturn, 1) := by decide +kernel
theorem dX3_savedOf_0 : decode cX3_savedOf 0 = .ok (.iconst 0, 1) := by decide +kernel
theorem dX3_savedOf_1 : decode cX3_savedOf 1 = .ok (.istore_n 2, 1) := by decide +kernel
theorem dX3_savedOf_2 : decode cX3_savedOf 2 = .ok (.iconst 1, 1) := by decide +kernel
theorem dX3_savedOf_3 : decode cX3_savedOf 3 = .ok (.istore_n 3, 1) := by decide +kernel
theorem dX3_savedOf_4 : decode cX3_savedOf 4 = .ok (.iload_n 3, 1) := by decide +kernel
theorem dX3_savedOf_5 : decode cX3_savedOf 5 = .ok (.aload_n 1, 1) := by decide +kernel
theorem dX3_savedOf_6 : decode cX3_savedOf 6 = .ok (.getfield 142, 3) := by decide +kernel
theorem dX3_savedOf_9 : decode cX3_savedOf 9 = .ok (.if_icmp .ge 29, 3) := by decide +kernel
theorem dX3_savedOf_12 : decode cX3_savedOf 12 = .ok (.iload_n 2, 1) := by decide +kernel
theorem dX3_savedOf_13 : decode cX3_savedOf 13 = .ok (.aload_n 0, 1) := by decide +kernel
theorem dX3_savedOf_14 : decode cX3_savedOf 14 = .ok (.aload_n 0, 1) := by decide +kernel
theorem dX3_savedOf_15 : decode cX3_savedOf 15 = .ok (.getfield 36, 3) := by decide +kernel
theorem dX3_savedOf_18 : decode cX3_savedOf 18 = .ok (.aload_n 1, 1) := by decide +kernel
theorem dX3_savedOf_19 : decode cX3_savedOf 19 = .ok (.getfield 164, 3) := by decide +kernel
theorem dX3_savedOf_22 : decode cX3_savedOf 22 = .ok (.iload_n 3, 1) := by decide +kernel
theorem dX3_savedOf_23 : decode cX3_savedOf 23 = .ok (.iaload, 1) := by decide +kernel
theorem dX3_savedOf_24 : decode cX3_savedOf 24 = .ok (.aaload, 1) := by decide +kernel
theorem dX3_savedOf_25 : decode cX3_savedOf 25 = .ok (.aload_n 1, 1) := by decide +kernel
theorem dX3_savedOf_26 : decode cX3_savedOf 26 = .ok (.iload_n 3, 1) := by decide +kernel
theorem dX3_savedOf_27 : decode cX3_savedOf 27 = .ok (.invokevirtual 256, 3) := by decide +kernel
theorem dX3_savedOf_30 : decode cX3_savedOf 30 = .ok (.iadd, 1) := by decide +kernel
theorem dX3_savedOf_31 : decode cX3_savedOf 31 = .ok (.istore_n 2, 1) := by decide +kernel
theorem dX3_savedOf_32 : decode cX3_savedOf 32 = .ok (.iinc 3 1, 3) := by decide +kernel
theorem dX3_savedOf_35 : decode cX3_savedOf 35 = .ok (.goto (-31), 3) := by decide +kernel
theorem dX3_savedOf_38 : decode cX3_savedOf 38 = .ok (.iload_n 2, 1) := by decide +kernel
theorem dX3_savedOf_39 : decode cX3_savedOf 39 = .ok (.ireturn, 1) := by decide +kernel
theorem dX3_savedBehind_0 : decode cX3_savedBehind 0 = .ok (.iconst 0, 1) := by decide +kernel
theorem dX3_savedBehind_1 : decode cX3_savedBehind 1 = .ok (.istore_n 2, 1) := by decide +kernel
theorem dX3_savedBehind_2 : decode cX3_savedBehind 2 = .ok (.iload_n 1, 1) := by decide +kernel
theorem dX3_savedBehind_3 : decode cX3_savedBehind 3 = .ok (.istore_n 3, 1) := by decide +kernel
theorem dX3_savedBehind_4 : decode cX3_savedBehind 4 = .ok (.iload_n 3, 1) := by decide +kernel
theorem dX3_savedBehind_5 : decode cX3_savedBehind 5 = .ok (.aload_n 0, 1) := by decide +kernel
theorem dX3_savedBehind_6 : decode cX3_savedBehind 6 = .ok (.getfield 112, 3) := by decide +kernel
theorem dX3_savedBehind_9 : decode cX3_savedBehind 9 = .ok (.if_icmp .ge 22, 3) := by decide +kernel
theorem dX3_savedBehind_12 : decode cX3_savedBehind 12 = .ok (.iload_n 2, 1) := by decide +kernel
theorem dX3_savedBehind_13 : decode cX3_savedBehind 13 = .ok (.aload_n 0, 1) := by decide +kernel
theorem dX3_savedBehind_14 : decode cX3_savedBehind 14 = .ok (.aload_n 0, 1) := by decide +kernel
theorem dX3_savedBehind_15 : decode cX3_savedBehind 15 = .ok (.getfield 43, 3) := by decide +kernel
theorem dX3_savedBehind_18 : decode cX3_savedBehind 18 = .ok (.iload_n 3, 1) := by decide +kernel
theorem dX3_savedBehind_19 : decode cX3_savedBehind 19 = .ok (.aaload, 1) := by decide +kernel
theorem dX3_savedBehind_20 : decode cX3_savedBehind 20 = .ok (.invokevirtual 139, 3) := by decide +kernel
theorem dX3_savedBehind_23 : decode cX3_savedBehind 23 = .ok (.iadd, 1) := by decide +kernel
theorem dX3_savedBehind_24 : decode cX3_savedBehind 24 = .ok (.istore_n 2, 1) := by decide +kernel
theorem dX3_savedBehind_25 : decode cX3_savedBehind 25 = .ok (.iinc 3 1, 3) := by decide +kernel
theorem dX3_savedBehind_28 : decode cX3_savedBehind 28 = .ok (.goto (-24), 3) := by decide +kernel
theorem dX3_savedBehind_31 : decode cX3_savedBehind 31 = .ok (.iload_n 2, 1) := by decide +kernel
theorem dX3_savedBehind_32 : decode cX3_savedBehind 32 = .ok (.ireturn, 1) := by decide +kernel
theorem dX3_secondsOf_0 : decode cX3_secondsOf 0 = .ok (.iconst 0, 1) := by decide +kernel
theorem dX3_secondsOf_1 : decode cX3_secondsOf 1 = .ok (.istore_n 2, 1) := by decide +kernel
theorem dX3_secondsOf_2 : decode cX3_secondsOf 2 = .ok (.iconst 0, 1) := by decide +kernel
theorem dX3_secondsOf_3 : decode cX3_secondsOf 3 = .ok (.istore_n 3, 1) := by decide +kernel
theorem dX3_secondsOf_4 : decode cX3_secondsOf 4 = .ok (.iload_n 3, 1) := by decide +kernel
theorem dX3_secondsOf_5 : decode cX3_secondsOf 5 = .ok (.aload_n 1, 1) := by decide +kernel
theorem dX3_secondsOf_6 : decode cX3_secondsOf 6 = .ok (.getfield 142, 3) := by decide +kernel
theorem dX3_secondsOf_9 : decode cX3_secondsOf 9 = .ok (.if_icmp .ge 26, 3) := by decide +kernel
theorem dX3_secondsOf_12 : decode cX3_secondsOf 12 = .ok (.iload_n 2, 1) := by decide +kernel
theorem dX3_secondsOf_13 : decode cX3_secondsOf 13 = .ok (.aload_n 0, 1) := by decide +kernel
theorem dX3_secondsOf_14 : decode cX3_secondsOf 14 = .ok (.getfield 36, 3) := by decide +kernel
theorem dX3_secondsOf_17 : decode cX3_secondsOf 17 = .ok (.aload_n 1, 1) := by decide +kernel
theorem dX3_secondsOf_18 : decode cX3_secondsOf 18 = .ok (.getfield 164, 3) := by decide +kernel
theorem dX3_secondsOf_21 : decode cX3_secondsOf 21 = .ok (.iload_n 3, 1) := by decide +kernel
theorem dX3_secondsOf_22 : decode cX3_secondsOf 22 = .ok (.iaload, 1) := by decide +kernel
theorem dX3_secondsOf_23 : decode cX3_secondsOf 23 = .ok (.aaload, 1) := by decide +kernel
theorem dX3_secondsOf_24 : decode cX3_secondsOf 24 = .ok (.getfield 73, 3) := by decide +kernel
theorem dX3_secondsOf_27 : decode cX3_secondsOf 27 = .ok (.iadd, 1) := by decide +kernel
theorem dX3_secondsOf_28 : decode cX3_secondsOf 28 = .ok (.istore_n 2, 1) := by decide +kernel
theorem dX3_secondsOf_29 : decode cX3_secondsOf 29 = .ok (.iinc 3 1, 3) := by decide +kernel
theorem dX3_secondsOf_32 : decode cX3_secondsOf 32 = .ok (.goto (-28), 3) := by decide +kernel
theorem dX3_secondsOf_35 : decode cX3_secondsOf 35 = .ok (.iload_n 2, 1) := by decide +kernel
theorem dX3_secondsOf_36 : decode cX3_secondsOf 36 = .ok (.aload_n 0, 1) := by decide +kernel
theorem dX3_secondsOf_37 : decode cX3_secondsOf 37 = .ok (.aload_n 1, 1) := by decide +kernel
theorem dX3_secondsOf_38 : decode cX3_secondsOf 38 = .ok (.invokevirtual 139, 3) := by decide +kernel
theorem dX3_secondsOf_41 : decode cX3_secondsOf 41 = .ok (.isub, 1) := by decide +kernel
theorem dX3_secondsOf_42 : decode cX3_secondsOf 42 = .ok (.ireturn, 1) := by decide +kernel
theorem dX3_dueOf_0 : decode cX3_dueOf 0 = .ok (.ldc 52, 2) := by decide +kernel
theorem dX3_dueOf_2 : decode cX3_dueOf 2 = .ok (.istore_n 2, 1) := by decide +kernel
theorem dX3_dueOf_3 : decode cX3_dueOf 3 = .ok (.iconst 0, 1) := by decide +kernel
theorem dX3_dueOf_4 : decode cX3_dueOf 4 = .ok (.istore_n 3, 1) := by decide +kernel
theorem dX3_dueOf_5 : decode cX3_dueOf 5 = .ok (.iload_n 3, 1) := by decide +kernel
theorem dX3_dueOf_6 : decode cX3_dueOf 6 = .ok (.aload_n 1, 1) := by decide +kernel
theorem dX3_dueOf_7 : decode cX3_dueOf 7 = .ok (.getfield 142, 3) := by decide +kernel
theorem dX3_dueOf_10 : decode cX3_dueOf 10 = .ok (.if_icmp .ge 28, 3) := by decide +kernel
theorem dX3_dueOf_13 : decode cX3_dueOf 13 = .ok (.iload_n 2, 1) := by decide +kernel
theorem dX3_dueOf_14 : decode cX3_dueOf 14 = .ok (.aload_n 0, 1) := by decide +kernel
theorem dX3_dueOf_15 : decode cX3_dueOf 15 = .ok (.getfield 36, 3) := by decide +kernel
theorem dX3_dueOf_18 : decode cX3_dueOf 18 = .ok (.aload_n 1, 1) := by decide +kernel
theorem dX3_dueOf_19 : decode cX3_dueOf 19 = .ok (.getfield 164, 3) := by decide +kernel
theorem dX3_dueOf_22 : decode cX3_dueOf 22 = .ok (.iload_n 3, 1) := by decide +kernel
theorem dX3_dueOf_23 : decode cX3_dueOf 23 = .ok (.iaload, 1) := by decide +kernel
theorem dX3_dueOf_24 : decode cX3_dueOf 24 = .ok (.aaload, 1) := by decide +kernel
theorem dX3_dueOf_25 : decode cX3_dueOf 25 = .ok (.getfield 67, 3) := by decide +kernel
theorem dX3_dueOf_28 : decode cX3_dueOf 28 = .ok (.invokestatic 10, 3) := by decide +kernel
theorem dX3_dueOf_31 : decode cX3_dueOf 31 = .ok (.istore_n 2, 1) := by decide +kernel
theorem dX3_dueOf_32 : decode cX3_dueOf 32 = .ok (.iinc 3 1, 3) := by decide +kernel
theorem dX3_dueOf_35 : decode cX3_dueOf 35 = .ok (.goto (-30), 3) := by decide +kernel
theorem dX3_dueOf_38 : decode cX3_dueOf 38 = .ok (.iload_n 2, 1) := by decide +kernel
theorem dX3_dueOf_39 : decode cX3_dueOf 39 = .ok (.ireturn, 1) := by decide +kernel
theorem dX3_finishedOf_0 : decode cX3_finishedOf 0 = .ok (.iconst 0, 1) := by decide +kernel
theorem dX3_finishedOf_1 : decode cX3_finishedOf 1 = .ok (.istore_n 2, 1) := by decide +kernel
theorem dX3_finishedOf_2 : decode cX3_finishedOf 2 = .ok (.iconst 0, 1) := by decide +kernel
theorem dX3_finishedOf_3 : decode cX3_finishedOf 3 = .ok (.istore_n 3, 1) := by decide +kernel
theorem dX3_finishedOf_4 : decode cX3_finishedOf 4 = .ok (.iload_n 3, 1) := by decide +kernel
theorem dX3_finishedOf_5 : decode cX3_finishedOf 5 = .ok (.aload_n 1, 1) := by decide +kernel
theorem dX3_finishedOf_6 : decode cX3_finishedOf 6 = .ok (.getfield 142, 3) := by decide +kernel
theorem dX3_finishedOf_9 : decode cX3_finishedOf 9 = .ok (.if_icmp .ge 29, 3) := by decide +kernel
theorem dX3_finishedOf_12 : decode cX3_finishedOf 12 = .ok (.aload_n 0, 1) := by decide +kernel
theorem dX3_finishedOf_13 : decode cX3_finishedOf 13 = .ok (.getfield 36, 3) := by decide +kernel
theorem dX3_finishedOf_16 : decode cX3_finishedOf 16 = .ok (.aload_n 1, 1) := by decide +kernel
theorem dX3_finishedOf_17 : decode cX3_finishedOf 17 = .ok (.getfield 164, 3) := by decide +kernel
theorem dX3_finishedOf_20 : decode cX3_finishedOf 20 = .ok (.iload_n 3, 1) := by decide +kernel
theorem dX3_finishedOf_21 : decode cX3_finishedOf 21 = .ok (.iaload, 1) := by decide +kernel
theorem dX3_finishedOf_22 : decode cX3_finishedOf 22 = .ok (.aaload, 1) := by decide +kernel
theorem dX3_finishedOf_23 : decode cX3_finishedOf 23 = .ok (.getfield 188, 3) := by decide +kernel
theorem dX3_finishedOf_26 : decode cX3_finishedOf 26 = .ok (.ifCond .eq 6, 3) := by decide +kernel
theorem dX3_finishedOf_29 : decode cX3_finishedOf 29 = .ok (.iinc 2 1, 3) := by decide +kernel
theorem dX3_finishedOf_32 : decode cX3_finishedOf 32 = .ok (.iinc 3 1, 3) := by decide +kernel
theorem dX3_finishedOf_35 : decode cX3_finishedOf 35 = .ok (.goto (-31), 3) := by decide +kernel
theorem dX3_finishedOf_38 : decode cX3_finishedOf 38 = .ok (.iload_n 2, 1) := by decide +kernel
theorem dX3_finishedOf_39 : decode cX3_finishedOf 39 = .ok (.ireturn, 1) := by decide +kernel
theorem dX3_wantedOf_0 : decode cX3_wantedOf 0 = .ok (.iconst 0, 1) := by decide +kernel
theorem dX3_wantedOf_1 : decode cX3_wantedOf 1 = .ok (.istore_n 3, 1) := by decide +kernel
theorem dX3_wantedOf_2 : decode cX3_wantedOf 2 = .ok (.iconst 0, 1) := by decide +kernel
theorem dX3_wantedOf_3 : decode cX3_wantedOf 3 = .ok (.istore 4, 2) := by decide +kernel
theorem dX3_wantedOf_5 : decode cX3_wantedOf 5 = .ok (.iload 4, 2) := by decide +kernel
theorem dX3_wantedOf_7 : decode cX3_wantedOf 7 = .ok (.aload_n 1, 1) := by decide +kernel
theorem dX3_wantedOf_8 : decode cX3_wantedOf 8 = .ok (.getfield 142, 3) := by decide +kernel
theorem dX3_wantedOf_11 : decode cX3_wantedOf 11 = .ok (.if_icmp .ge 41, 3) := by decide +kernel
theorem dX3_wantedOf_14 : decode cX3_wantedOf 14 = .ok (.aload_n 0, 1) := by decide +kernel
theorem dX3_wantedOf_15 : decode cX3_wantedOf 15 = .ok (.getfield 36, 3) := by decide +kernel
theorem dX3_wantedOf_18 : decode cX3_wantedOf 18 = .ok (.aload_n 1, 1) := by decide +kernel
theorem dX3_wantedOf_19 : decode cX3_wantedOf 19 = .ok (.getfield 164, 3) := by decide +kernel
theorem dX3_wantedOf_22 : decode cX3_wantedOf 22 = .ok (.iload 4, 2) := by decide +kernel
theorem dX3_wantedOf_24 : decode cX3_wantedOf 24 = .ok (.iaload, 1) := by decide +kernel
theorem dX3_wantedOf_25 : decode cX3_wantedOf 25 = .ok (.aaload, 1) := by decide +kernel
theorem dX3_wantedOf_26 : decode cX3_wantedOf 26 = .ok (.astore 5, 2) := by decide +kernel
theorem dX3_wantedOf_28 : decode cX3_wantedOf 28 = .ok (.aload 5, 2) := by decide +kernel
theorem dX3_wantedOf_30 : decode cX3_wantedOf 30 = .ok (.getfield 188, 3) := by decide +kernel
theorem dX3_wantedOf_33 : decode cX3_wantedOf 33 = .ok (.ifCond .ne 13, 3) := by decide +kernel
theorem dX3_wantedOf_36 : decode cX3_wantedOf 36 = .ok (.iload_n 3, 1) := by decide +kernel
theorem dX3_wantedOf_37 : decode cX3_wantedOf 37 = .ok (.aload 5, 2) := by decide +kernel
theorem dX3_wantedOf_39 : decode cX3_wantedOf 39 = .ok (.getfield 84, 3) := by decide +kernel
theorem dX3_wantedOf_42 : decode cX3_wantedOf 42 = .ok (.iload_n 2, 1) := by decide +kernel
theorem dX3_wantedOf_43 : decode cX3_wantedOf 43 = .ok (.iaload, 1) := by decide +kernel
theorem dX3_wantedOf_44 : decode cX3_wantedOf 44 = .ok (.iadd, 1) := by decide +kernel
theorem dX3_wantedOf_45 : decode cX3_wantedOf 45 = .ok (.istore_n 3, 1) := by decide +kernel
theorem dX3_wantedOf_46 : decode cX3_wantedOf 46 = .ok (.iinc 4 1, 3) := by decide +kernel
theorem dX3_wantedOf_49 : decode cX3_wantedOf 49 = .ok (.goto (-44), 3) := by decide +kernel
theorem dX3_wantedOf_52 : decode cX3_wantedOf 52 = .ok (.iload_n 3, 1) := by decide +kernel
theorem dX3_wantedOf_53 : decode cX3_wantedOf 53 = .ok (.ireturn, 1) := by decide +kernel
theorem dX3_lackOf_0 : decode cX3_lackOf 0 = .ok (.aload_n 0, 1) := by decide +kernel
theorem dX3_lackOf_1 : decode cX3_lackOf 1 = .ok (.getfield 30, 3) := by decide +kernel
theorem dX3_lackOf_4 : decode cX3_lackOf 4 = .ok (.iload_n 2, 1) := by decide +kernel
theorem dX3_lackOf_5 : decode cX3_lackOf 5 = .ok (.iaload, 1) := by decide +kernel
theorem dX3_lackOf_6 : decode cX3_lackOf 6 = .ok (.istore_n 3, 1) := by decide +kernel
theorem dX3_lackOf_7 : decode cX3_lackOf 7 = .ok (.iconst 0, 1) := by decide +kernel
theorem dX3_lackOf_8 : decode cX3_lackOf 8 = .ok (.istore 4, 2) := by decide +kernel
theorem dX3_lackOf_10 : decode cX3_lackOf 10 = .ok (.iload 4, 2) := by decide +kernel
theorem dX3_lackOf_12 : decode cX3_lackOf 12 = .ok (.aload_n 0, 1) := by decide +kernel
theorem dX3_lackOf_13 : decode cX3_lackOf 13 = .ok (.getfield 112, 3) := by decide +kernel
theorem dX3_lackOf_16 : decode cX3_lackOf 16 = .ok (.if_icmp .ge 45, 3) := by decide +kernel
theorem dX3_lackOf_19 : decode cX3_lackOf 19 = .ok (.iload 4, 2) := by decide +kernel
theorem dX3_lackOf_21 : decode cX3_lackOf 21 = .ok (.iload_n 1, 1) := by decide +kernel
theorem dX3_lackOf_22 : decode cX3_lackOf 22 = .ok (.iconst 1, 1) := by decide +kernel
theorem dX3_lackOf_23 : decode cX3_lackOf 23 = .ok (.isub, 1) := by decide +kernel
theorem dX3_lackOf_24 : decode cX3_lackOf 24 = .ok (.if_icmp .eq 31, 3) := by decide +kernel
theorem dX3_lackOf_27 : decode cX3_lackOf 27 = .ok (.aload_n 0, 1) := by decide +kernel
theorem dX3_lackOf_28 : decode cX3_lackOf 28 = .ok (.getfield 43, 3) := by decide +kernel
theorem dX3_lackOf_31 : decode cX3_lackOf 31 = .ok (.iload 4, 2) := by decide +kernel
theorem dX3_lackOf_33 : decode cX3_lackOf 33 = .ok (.aaload, 1) := by decide +kernel
theorem dX3_lackOf_34 : decode cX3_lackOf 34 = .ok (.getfield 147, 3) := by decide +kernel
theorem dX3_lackOf_37 : decode cX3_lackOf 37 = .ok (.ifCond .eq 18, 3) := by decide +kernel
theorem dX3_lackOf_40 : decode cX3_lackOf 40 = .ok (.iload_n 3, 1) := by decide +kernel
theorem dX3_lackOf_41 : decode cX3_lackOf 41 = .ok (.aload_n 0, 1) := by decide +kernel
theorem dX3_lackOf_42 : decode cX3_lackOf 42 = .ok (.aload_n 0, 1) := by decide +kernel
theorem dX3_lackOf_43 : decode cX3_lackOf 43 = .ok (.getfield 43, 3) := by decide +kernel
theorem dX3_lackOf_46 : decode cX3_lackOf 46 = .ok (.iload 4, 2) := by decide +kernel
theorem dX3_lackOf_48 : decode cX3_lackOf 48 = .ok (.aaload, 1) := by decide +kernel
theorem dX3_lackOf_49 : decode cX3_lackOf 49 = .ok (.iload_n 2, 1) := by decide +kernel
theorem dX3_lackOf_50 : decode cX3_lackOf 50 = .ok (.invokevirtual 271, 3) := by decide +kernel
theorem dX3_lackOf_53 : decode cX3_lackOf 53 = .ok (.isub, 1) := by decide +kernel
theorem dX3_lackOf_54 : decode cX3_lackOf 54 = .ok (.istore_n 3, 1) := by decide +kernel
theorem dX3_lackOf_55 : decode cX3_lackOf 55 = .ok (.iinc 4 1, 3) := by decide +kernel
theorem dX3_lackOf_58 : decode cX3_lackOf 58 = .ok (.goto (-48), 3) := by decide +kernel
theorem dX3_lackOf_61 : decode cX3_lackOf 61 = .ok (.iconst 0, 1) := by decide +kernel
theorem dX3_lackOf_62 : decode cX3_lackOf 62 = .ok (.aload_n 0, 1) := by decide +kernel
theorem dX3_lackOf_63 : decode cX3_lackOf 63 = .ok (.aload_n 0, 1) := by decide +kernel
theorem dX3_lackOf_64 : decode cX3_lackOf 64 = .ok (.getfield 43, 3) := by decide +kernel
theorem dX3_lackOf_67 : decode cX3_lackOf 67 = .ok (.iload_n 1, 1) := by decide +kernel
theorem dX3_lackOf_68 : decode cX3_lackOf 68 = .ok (.iconst 1, 1) := by decide +kernel
theorem dX3_lackOf_69 : decode cX3_lackOf 69 = .ok (.isub, 1) := by decide +kernel
theorem dX3_lackOf_70 : decode cX3_lackOf 70 = .ok (.aaload, 1) := by decide +kernel
theorem dX3_lackOf_71 : decode cX3_lackOf 71 = .ok (.iload_n 2, 1) := by decide +kernel
theorem dX3_lackOf_72 : decode cX3_lackOf 72 = .ok (.invokevirtual 271, 3) := by decide +kernel
theorem dX3_lackOf_75 : decode cX3_lackOf 75 = .ok (.iconst 0, 1) := by decide +kernel
theorem dX3_lackOf_76 : decode cX3_lackOf 76 = .ok (.iload_n 3, 1) := by decide +kernel
theorem dX3_lackOf_77 : decode cX3_lackOf 77 = .ok (.invokestatic 16, 3) := by decide +kernel
theorem dX3_lackOf_80 : decode cX3_lackOf 80 = .ok (.isub, 1) := by decide +kernel
theorem dX3_lackOf_81 : decode cX3_lackOf 81 = .ok (.invokestatic 16, 3) := by decide +kernel
theorem dX3_lackOf_84 : decode cX3_lackOf 84 = .ok (.ireturn, 1) := by decide +kernel
theorem dX3_lackedGood_0 : decode cX3_lackedGood 0 = .ok (.iconst 0, 1) := by decide +kernel
theorem dX3_lackedGood_1 : decode cX3_lackedGood 1 = .ok (.istore_n 3, 1) := by decide +kernel
theorem dX3_lackedGood_2 : decode cX3_lackedGood 2 = .ok (.iconst 0, 1) := by decide +kernel
theorem dX3_lackedGood_3 : decode cX3_lackedGood 3 = .ok (.istore 4, 2) := by decide +kernel
theorem dX3_lackedGood_5 : decode cX3_lackedGood 5 = .ok (.iload 4, 2) := by decide +kernel
theorem dX3_lackedGood_7 : decode cX3_lackedGood 7 = .ok (.bipush 10, 2) := by decide +kernel
theorem dX3_lackedGood_9 : decode cX3_lackedGood 9 = .ok (.if_icmp .ge 33, 3) := by decide +kernel
theorem dX3_lackedGood_12 : decode cX3_lackedGood 12 = .ok (.aload_n 0, 1) := by decide +kernel
theorem dX3_lackedGood_13 : decode cX3_lackedGood 13 = .ok (.iload_n 1, 1) := by decide +kernel
theorem dX3_lackedGood_14 : decode cX3_lackedGood 14 = .ok (.iload 4, 2) := by decide +kernel
theorem dX3_lackedGood_16 : decode cX3_lackedGood 16 = .ok (.invokevirtual 173, 3) := by decide +kernel
theorem dX3_lackedGood_19 : decode cX3_lackedGood 19 = .ok (.ifCond .ne 6, 3) := by decide +kernel
theorem dX3_lackedGood_22 : decode cX3_lackedGood 22 = .ok (.goto 14, 3) := by decide +kernel
theorem dX3_lackedGood_25 : decode cX3_lackedGood 25 = .ok (.iload_n 3, 1) := by decide +kernel
theorem dX3_lackedGood_26 : decode cX3_lackedGood 26 = .ok (.iload_n 2, 1) := by decide +kernel
theorem dX3_lackedGood_27 : decode cX3_lackedGood 27 = .ok (.if_icmp .ne 6, 3) := by decide +kernel
theorem dX3_lackedGood_30 : decode cX3_lackedGood 30 = .ok (.iload 4, 2) := by decide +kernel
theorem dX3_lackedGood_32 : decode cX3_lackedGood 32 = .ok (.ireturn, 1) := by decide +kernel
theorem dX3_lackedGood_33 : decode cX3_lackedGood 33 = .ok (.iinc 3 1, 3) := by decide +kernel
theorem dX3_lackedGood_36 : decode cX3_lackedGood 36 = .ok (.iinc 4 1, 3) := by decide +kernel
theorem dX3_lackedGood_39 : decode cX3_lackedGood 39 = .ok (.goto (-34), 3) := by decide +kernel
theorem dX3_lackedGood_42 : decode cX3_lackedGood 42 = .ok (.iconst (-1), 1) := by decide +kernel
theorem dX3_lackedGood_43 : decode cX3_lackedGood 43 = .ok (.ireturn, 1) := by decide +kernel
theorem dX3_takeFromStock_0 : decode cX3_takeFromStock 0 = .ok (.iconst 0, 1) := by decide +kernel
theorem dX3_takeFromStock_1 : decode cX3_takeFromStock 1 = .ok (.istore_n 2, 1) := by decide +kernel
theorem dX3_takeFromStock_2 : decode cX3_takeFromStock 2 = .ok (.iload_n 2, 1) := by decide +kernel
theorem dX3_takeFromStock_3 : decode cX3_takeFromStock 3 = .ok (.bipush 10, 2) := by decide +kernel
theorem dX3_takeFromStock_5 : decode cX3_takeFromStock 5 = .ok (.if_icmp .ge 32, 3) := by decide +kernel
theorem dX3_takeFromStock_8 : decode cX3_takeFromStock 8 = .ok (.aload_n 0, 1) := by decide +kernel
theorem dX3_takeFromStock_9 : decode cX3_takeFromStock 9 = .ok (.getfield 30, 3) := by decide +kernel
theorem dX3_takeFromStock_12 : decode cX3_takeFromStock 12 = .ok (.iload_n 2, 1) := by decide +kernel
theorem dX3_takeFromStock_13 : decode cX3_takeFromStock 13 = .ok (.iconst 0, 1) := by decide +kernel
theorem dX3_takeFromStock_14 : decode cX3_takeFromStock 14 = .ok (.aload_n 0, 1) := by decide +kernel
theorem dX3_takeFromStock_15 : decode cX3_takeFromStock 15 = .ok (.getfield 30, 3) := by decide +kernel
theorem dX3_takeFromStock_18 : decode cX3_takeFromStock 18 = .ok (.iload_n 2, 1) := by decide +kernel
theorem dX3_takeFromStock_19 : decode cX3_takeFromStock 19 = .ok (.iaload, 1) := by decide +kernel
theorem dX3_takeFromStock_20 : decode cX3_takeFromStock 20 = .ok (.aload_n 1, 1) := by decide +kernel
theorem dX3_takeFromStock_21 : decode cX3_takeFromStock 21 = .ok (.getfield 84, 3) := by decide +kernel
theorem dX3_takeFromStock_24 : decode cX3_takeFromStock 24 = .ok (.iload_n 2, 1) := by decide +kernel
theorem dX3_takeFromStock_25 : decode cX3_takeFromStock 25 = .ok (.iaload, 1) := by decide +kernel
theorem dX3_takeFromStock_26 : decode cX3_takeFromStock 26 = .ok (.isub, 1) := by decide +kernel
theorem dX3_takeFromStock_27 : decode cX3_takeFromStock 27 = .ok (.invokestatic 16, 3) := by decide +kernel
theorem dX3_takeFromStock_30 : decode cX3_takeFromStock 30 = .ok (.iastore, 1) := by decide +kernel
theorem dX3_takeFromStock_31 : decode cX3_takeFromStock 31 = .ok (.iinc 2 1, 3) := by decide +kernel
theorem dX3_takeFromStock_34 : decode cX3_takeFromStock 34 = .ok (.goto (-32), 3) := by decide +kernel
theorem dX3_takeFromStock_37 : decode cX3_takeFromStock 37 = .ok (.return_, 1) := by decide +kernel
theorem dX3_wavesWithOrders_0 : decode cX3_wavesWithOrders 0 = .ok (.iconst 0, 1) := by decide +kernel
theorem dX3_wavesWithOrders_1 : decode cX3_wavesWithOrders 1 = .ok (.istore_n 1, 1) := by decide +kernel
theorem dX3_wavesWithOrders_2 : decode cX3_wavesWithOrders 2 = .ok (.iconst 0, 1) := by decide +kernel
theorem dX3_wavesWithOrders_3 : decode cX3_wavesWithOrders 3 = .ok (.istore_n 2, 1) := by decide +kernel
theorem dX3_wavesWithOrders_4 : decode cX3_wavesWithOrders 4 = .ok (.iload_n 2, 1) := by decide +kernel
theorem dX3_wavesWithOrders_5 : decode cX3_wavesWithOrders 5 = .ok (.aload_n 0, 1) := by decide +kernel
theorem dX3_wavesWithOrders_6 : decode cX3_wavesWithOrders 6 = .ok (.getfield 112, 3) := by decide +kernel
theorem dX3_wavesWithOrders_9 : decode cX3_wavesWithOrders 9 = .ok (.if_icmp .ge 24, 3) := by decide +kernel
theorem dX3_wavesWithOrders_12 : decode cX3_wavesWithOrders 12 = .ok (.aload_n 0, 1) := by decide +kernel
theorem dX3_wavesWithOrders_13 : decode cX3_wavesWithOrders 13 = .ok (.getfield 43, 3) := by decide +kernel
theorem dX3_wavesWithOrders_16 : decode cX3_wavesWithOrders 16 = .ok (.iload_n 2, 1) := by decide +kernel
theorem dX3_wavesWithOrders_17 : decode cX3_wavesWithOrders 17 = .ok (.aaload, 1) := by decide +kernel
theorem dX3_wavesWithOrders_18 : decode cX3_wavesWithOrders 18 = .ok (.getfield 142, 3) := by decide +kernel
theorem dX3_wavesWithOrders_21 : decode cX3_wavesWithOrders 21 = .ok (.ifCond .le 6, 3) := by decide +kernel
theorem dX3_wavesWithOrders_24 : decode cX3_wavesWithOrders 24 = .ok (.iinc 1 1, 3) := by decide +kernel
theorem dX3_wavesWithOrders_27 : decode cX3_wavesWithOrders 27 = .ok (.iinc 2 1, 3) := by decide +kernel
theorem dX3_wavesWithOrders_30 : decode cX3_wavesWithOrders 30 = .ok (.goto (-26), 3) := by decide +kernel
theorem dX3_wavesWithOrders_33 : decode cX3_wavesWithOrders 33 = .ok (.iload_n 1, 1) := by decide +kernel
theorem dX3_wavesWithOrders_34 : decode cX3_wavesWithOrders 34 = .ok (.ireturn, 1) := by decide +kernel
theorem dX3_ordersAt_0 : decode cX3_ordersAt 0 = .ok (.iconst 0, 1) := by decide +kernel
theorem dX3_ordersAt_1 : decode cX3_ordersAt 1 = .ok (.istore_n 2, 1) := by decide +kernel
theorem dX3_ordersAt_2 : decode cX3_ordersAt 2 = .ok (.iconst 0, 1) := by decide +kernel
theorem dX3_ordersAt_3 : decode cX3_ordersAt 3 = .ok (.istore_n 3, 1) := by decide +kernel
theorem dX3_ordersAt_4 : decode cX3_ordersAt 4 = .ok (.iload_n 3, 1) := by decide +kernel
theorem dX3_ordersAt_5 : decode cX3_ordersAt 5 = .ok (.aload_n 0, 1) := by decide +kernel
theorem dX3_ordersAt_6 : decode cX3_ordersAt 6 = .ok (.getfield 57, 3) := by decide +kernel
theorem dX3_ordersAt_9 : decode cX3_ordersAt 9 = .ok (.if_icmp .ge 25, 3) := by decide +kernel
theorem dX3_ordersAt_12 : decode cX3_ordersAt 12 = .ok (.aload_n 0, 1) := by decide +kernel
theorem dX3_ordersAt_13 : decode cX3_ordersAt 13 = .ok (.getfield 36, 3) := by decide +kernel
theorem dX3_ordersAt_16 : decode cX3_ordersAt 16 = .ok (.iload_n 3, 1) := by decide +kernel
theorem dX3_ordersAt_17 : decode cX3_ordersAt 17 = .ok (.aaload, 1) := by decide +kernel
theorem dX3_ordersAt_18 : decode cX3_ordersAt 18 = .ok (.getfield 128, 3) := by decide +kernel
theorem dX3_ordersAt_21 : decode cX3_ordersAt 21 = .ok (.iload_n 1, 1) := by decide +kernel
theorem dX3_ordersAt_22 : decode cX3_ordersAt 22 = .ok (.if_icmp .ne 6, 3) := by decide +kernel
theorem dX3_ordersAt_25 : decode cX3_ordersAt 25 = .ok (.iinc 2 1, 3) := by decide +kernel
theorem dX3_ordersAt_28 : decode cX3_ordersAt 28 = .ok (.iinc 3 1, 3) := by decide +kernel
theorem dX3_ordersAt_31 : decode cX3_ordersAt 31 = .ok (.goto (-27), 3) := by decide +kernel
theorem dX3_ordersAt_34 : decode cX3_ordersAt 34 = .ok (.iload_n 2, 1) := by decide +kernel
theorem dX3_ordersAt_35 : decode cX3_ordersAt 35 = .ok (.ireturn, 1) := by decide +kernel
theorem dX3_finishedOrders_0 : decode cX3_finishedOrders 0 = .ok (.iconst 0, 1) := by decide +kernel
theorem dX3_finishedOrders_1 : decode cX3_finishedOrders 1 = .ok (.istore_n 1, 1) := by decide +kernel
theorem dX3_finishedOrders_2 : decode cX3_finishedOrders 2 = .ok (.iconst 0, 1) := by decide +kernel
theorem dX3_finishedOrders_3 : decode cX3_finishedOrders 3 = .ok (.istore_n 2, 1) := by decide +kernel
theorem dX3_finishedOrders_4 : decode cX3_finishedOrders 4 = .ok (.iload_n 2, 1) := by decide +kernel
theorem dX3_finishedOrders_5 : decode cX3_finishedOrders 5 = .ok (.aload_n 0, 1) := by decide +kernel
theorem dX3_finishedOrders_6 : decode cX3_finishedOrders 6 = .ok (.getfield 57, 3) := by decide +kernel
theorem dX3_finishedOrders_9 : decode cX3_finishedOrders 9 = .ok (.if_icmp .ge 24, 3) := by decide +kernel
theorem dX3_finishedOrders_12 : decode cX3_finishedOrders 12 = .ok (.aload_n 0, 1) := by decide +kernel
theorem dX3_finishedOrders_13 : decode cX3_finishedOrders 13 = .ok (.getfield 36, 3) := by decide +kernel
theorem dX3_finishedOrders_16 : decode cX3_finishedOrders 16 = .ok (.iload_n 2, 1) := by decide +kernel
theorem dX3_finishedOrders_17 : decode cX3_finishedOrders 17 = .ok (.aaload, 1) := by decide +kernel
theorem dX3_finishedOrders_18 : decode cX3_finishedOrders 18 = .ok (.getfield 188, 3) := by decide +kernel
theorem dX3_finishedOrders_21 : decode cX3_finishedOrders 21 = .ok (.ifCond .eq 6, 3) := by decide +kernel
theorem dX3_finishedOrders_24 : decode cX3_finishedOrders 24 = .ok (.iinc 1 1, 3) := by decide +kernel
theorem dX3_finishedOrders_27 : decode cX3_finishedOrders 27 = .ok (.iinc 2 1, 3) := by decide +kernel
theorem dX3_finishedOrders_30 : decode cX3_finishedOrders 30 = .ok (.goto (-26), 3) := by decide +kernel
theorem dX3_finishedOrders_33 : decode cX3_finishedOrders 33 = .ok (.iload_n 1, 1) := by decide +kernel
theorem dX3_finishedOrders_34 : decode cX3_finishedOrders 34 = .ok (.ireturn, 1) := by decide +kernel
theorem dX4_init_0 : decode cX4_init 0 = .ok (.aload_n 0, 1) := by decide +kernel
theorem dX4_init_1 : decode cX4_init 1 = .ok (.invokespecial 1, 3) := by decide +kernel
theorem dX4_init_4 : decode cX4_init 4 = .ok (.aload_n 0, 1) := by decide +kernel
theorem dX4_init_5 : decode cX4_init 5 = .ok (.bipush 16, 2) := by decide +kernel
theorem dX4_init_7 : decode cX4_init 7 = .ok (.newarray .int, 2) := by decide +kernel
theorem dX4_init_9 : decode cX4_init 9 = .ok (.putfield 7, 3) := by decide +kernel
theorem dX4_init_12 : decode cX4_init 12 = .ok (.aload_n 0, 1) := by decide +kernel
theorem dX4_init_13 : decode cX4_init 13 = .ok (.bipush 16, 2) := by decide +kernel
theorem dX4_init_15 : decode cX4_init 15 = .ok (.newarray .int, 2) := by decide +kernel
theorem dX4_init_17 : decode cX4_init 17 = .ok (.putfield 13, 3) := by decide +kernel
theorem dX4_init_20 : decode cX4_init 20 = .ok (.aload_n 0, 1) := by decide +kernel
theorem dX4_init_21 : decode cX4_init 21 = .ok (.bipush 16, 2) := by decide +kernel
theorem dX4_init_23 : decode cX4_init 23 = .ok (.newarray .int, 2) := by decide +kernel
theorem dX4_init_25 : decode cX4_init 25 = .ok (.putfield 16, 3) := by decide +kernel
theorem dX4_init_28 : decode cX4_init 28 = .ok (.aload_n 0, 1) := by decide +kernel
theorem dX4_init_29 : decode cX4_init 29 = .ok (.bipush 16, 2) := by decide +kernel
theorem dX4_init_31 : decode cX4_init 31 = .ok (.newarray .int, 2) := by decide +kernel
theorem dX4_init_33 : decode cX4_init 33 = .ok (.putfield 19, 3) := by decide +kernel
theorem dX4_init_36 : decode cX4_init 36 = .ok (.aload_n 0, 1) := by decide +kernel
theorem dX4_init_37 : decode cX4_init 37 = .ok (.bipush 16, 2) := by decide +kernel
theorem dX4_init_39 : decode cX4_init 39 = .ok (.newarray .int, 2) := by decide +kernel
theorem dX4_init_41 : decode cX4_init 41 = .ok (.putfield 22, 3) := by decide +kernel
theorem dX4_init_44 : decode cX4_init 44 = .ok (.aload_n 0, 1) := by decide +kernel
theorem dX4_init_45 : decode cX4_init 45 = .ok (.bipush 16, 2) := by decide +kernel
theorem dX4_init_47 : decode cX4_init 47 = .ok (.newarray .int, 2) := by decide +kernel
theorem dX4_init_49 : decode cX4_init 49 = .ok (.putfield 25, 3) := by decide +kernel
theorem dX4_init_52 : decode cX4_init 52 = .ok (.aload_n 0, 1) := by decide +kernel
theorem dX4_init_53 : decode cX4_init 53 = .ok (.bipush 16, 2) := by decide +kernel
theorem dX4_init_55 : decode cX4_init 55 = .ok (.newarray .boolean, 2) := by decide +kernel
theorem dX4_init_57 : decode cX4_init 57 = .ok (.putfield 28, 3) := by decide +kernel
theorem dX4_init_60 : decode cX4_init 60 = .ok (.aload_n 0, 1) := by decide +kernel
theorem dX4_init_61 : decode cX4_init 61 = .ok (.sipush 160, 3) := by decide +kernel
theorem dX4_init_64 : decode cX4_init 64 = .ok (.newarray .int, 2) := by decide +kernel
theorem dX4_init_66 : decode cX4_init 66 = .ok (.putfield 32, 3) := by decide +kernel
theorem dX4_init_69 : decode cX4_init 69 = .ok (.aload_n 0, 1) := by decide +kernel
theorem dX4_init_70 : decode cX4_init 70 = .ok (.bipush 10, 2) := by decide +kernel
theorem dX4_init_72 : decode cX4_init 72 = .ok (.newarray .int, 2) := by decide +kernel
theorem dX4_init_74 : decode cX4_init 74 = .ok (.putfield 35, 3) := by decide +kernel
theorem dX4_init_77 : decode cX4_init 77 = .ok (.aload_n 0, 1) := by decide +kernel
theorem dX4_init_78 : decode cX4_init 78 = .ok (.bipush 10, 2) := by decide +kernel
theorem dX4_init_80 : decode cX4_init 80 = .ok (.newarray .int, 2) := by decide +kernel
theorem dX4_init_82 : decode cX4_init 82 = .ok (.putfield 38, 3) := by decide +kernel
theorem dX4_init_85 : decode cX4_init 85 = .ok (.aload_n 0, 1) := by decide +kernel
theorem dX4_init_86 : decode cX4_init 86 = .ok (.bipush 10, 2) := by decide +kernel
theorem dX4_init_88 : decode cX4_init 88 = .ok (.newarray .int, 2) := by decide +kernel
theorem dX4_init_90 : decode cX4_init 90 = .ok (.putfield 41, 3) := by decide +kernel
theorem dX4_init_93 : decode cX4_init 93 = .ok (.aload_n 0, 1) := by decide +kernel
theorem dX4_init_94 : decode cX4_init 94 = .ok (.bipush 17, 2) := by decide +kernel
theorem dX4_init_96 : decode cX4_init 96 = .ok (.newarray .boolean, 2) := by decide +kernel
theorem dX4_init_98 : decode cX4_init 98 = .ok (.putfield 44, 3) := by decide +kernel
theorem dX4_init_101 : decode cX4_init 101 = .ok (.aload_n 0, 1) := by decide +kernel
theorem dX4_init_102 : decode cX4_init 102 = .ok (.bipush 10, 2) := by decide +kernel
theorem dX4_init_104 : decode cX4_init 104 = .ok (.newarray .int, 2) := by decide +kernel
theorem dX4_init_106 : decode cX4_init 106 = .ok (.putfield 47, 3) := by decide +kernel
theorem dX4_init_109 : decode cX4_init 109 = .ok (.aload_n 0, 1) := by decide +kernel
theorem dX4_init_110 : decode cX4_init 110 = .ok (.bipush 16, 2) := by decide +kernel
theorem dX4_init_112 : decode cX4_init 112 = .ok (.newarray .int, 2) := by decide +kernel
theorem dX4_init_114 : decode cX4_init 114 = .ok (.putfield 50, 3) := by decide +kernel
theorem dX4_init_117 : decode cX4_init 117 = .ok (.aload_n 0, 1) := by decide +kernel
theorem dX4_init_118 : decode cX4_init 118 = .ok (.bipush 16, 2) := by decide +kernel
theorem dX4_init_120 : decode cX4_init 120 = .ok (.newarray .int, 2) := by decide +kernel
theorem dX4_init_122 : decode cX4_init 122 = .ok (.putfield 53, 3) := by decide +kernel
theorem dX4_init_125 : decode cX4_init 125 = .ok (.aload_n 0, 1) := by decide +kernel
theorem dX4_init_126 : decode cX4_init 126 = .ok (.bipush 16, 2) := by decide +kernel
theorem dX4_init_128 : decode cX4_init 128 = .ok (.newarray .boolean, 2) := by decide +kernel
theorem dX4_init_130 : decode cX4_init 130 = .ok (.putfield 56, 3) := by decide +kernel
theorem dX4_init_133 : decode cX4_init 133 = .ok (.aload_n 0, 1) := by decide +kernel
theorem dX4_init_134 : decode cX4_init 134 = .ok (.iload_n 1, 1) := by decide +kernel
theorem dX4_init_135 : decode cX4_init 135 = .ok (.ifCond .ge 7, 3) := by decide +kernel
theorem dX4_init_138 : decode cX4_init 138 = .ok (.iconst 0, 1) := by decide +kernel
theorem dX4_init_139 : decode cX4_init 139 = .ok (.goto 15, 3) := by decide +kernel
theorem dX4_init_142 : decode cX4_init 142 = .ok (.iload_n 1, 1) := by decide +kernel
theorem dX4_init_143 : decode cX4_init 143 = .ok (.ldc 59, 2) := by decide +kernel
theorem dX4_init_145 : decode cX4_init 145 = .ok (.if_icmp .le 8, 3) := by decide +kernel
theorem dX4_init_148 : decode cX4_init 148 = .ok (.ldc 59, 2) := by decide +kernel
theorem dX4_init_150 : decode cX4_init 150 = .ok (.goto 4, 3) := by decide +kernel
theorem dX4_init_153 : decode cX4_init 153 = .ok (.iload_n 1, 1) := by decide +kernel
theorem dX4_init_154 : decode cX4_init 154 = .ok (.putfield 60, 3) := by decide +kernel
theorem dX4_init_157 : decode cX4_init 157 = .ok (.return_, 1) := by decide +kernel
theorem dX4_thrown_0 : decode cX4_thrown 0 = .ok (.aload_n 0, 1) := by decide +kernel
theorem dX4_thrown_1 : decode cX4_thrown 1 = .ok (.getfield 64, 3) := by decide +kernel
theorem dX4_thrown_4 : decode cX4_thrown 4 = .ok (.ireturn, 1) := by decide +kernel
theorem dX4_in_0 : decode cX4_in 0 = .ok (.iload_n 0, 1) := by decide +kernel
theorem dX4_in_1 : decode cX4_in 1 = .ok (.iload_n 1, 1) := by decide +kernel
theorem dX4_in_2 : decode cX4_in 2 = .ok (.if_icmp .lt 12, 3) := by decide +kernel
theorem dX4_in_5 : decode cX4_in 5 = .ok (.iload_n 0, 1) := by decide +kernel
theorem dX4_in_6 : decode cX4_in 6 = .ok (.iload_n 2, 1) := by decide +kernel
theorem dX4_in_7 : decode cX4_in 7 = .ok (.if_icmp .gt 7, 3) := by decide +kernel
theorem dX4_in_10 : decode cX4_in 10 = .ok (.iconst 1, 1) := by decide +kernel
theorem dX4_in_11 : decode cX4_in 11 = .ok (.goto 4, 3) := by decide +kernel
theorem dX4_in_14 : decode cX4_in 14 = .ok (.iconst 0, 1) := by decide +kernel
theorem dX4_in_15 : decode cX4_in 15 = .ok (.ireturn, 1) := by decide +kernel
theorem dX4_isOrder_0 : decode cX4_isOrder 0 = .ok (.iload_n 1, 1) := by decide +kernel
theorem dX4_isOrder_1 : decode cX4_isOrder 1 = .ok (.iconst 0, 1) := by decide +kernel
theorem dX4_isOrder_2 : decode cX4_isOrder 2 = .ok (.aload_n 0, 1) := by decide +kernel
theorem dX4_isOrder_3 : decode cX4_isOrder 3 = .ok (.getfield 67, 3) := by decide +kernel
theorem dX4_isOrder_6 : decode cX4_isOrder 6 = .ok (.iconst 1, 1) := by decide +kernel
theorem dX4_isOrder_7 : decode cX4_isOrder 7 = .ok (.isub, 1) := by decide +kernel
theorem dX4_isOrder_8 : decode cX4_isOrder 8 = .ok (.invokestatic 70, 3) := by decide +kernel
theorem dX4_isOrder_11 : decode cX4_isOrder 11 = .ok (.ireturn, 1) := by decide +kernel
theorem dX4_isTime_0 : decode cX4_isTime 0 = .ok (.iload_n 0, 1) := by decide +kernel
theorem dX4_isTime_1 : decode cX4_isTime 1 = .ok (.iconst 0, 1) := by decide +kernel
theorem dX4_isTime_2 : decode cX4_isTime 2 = .ok (.ldc 74, 2) := by decide +kernel
theorem dX4_isTime_4 : decode cX4_isTime 4 = .ok (.invokestatic 70, 3) := by decide +kernel
theorem dX4_isTime_7 : decode cX4_isTime 7 = .ok (.ireturn, 1) := by decide +kernel
theorem dX4_order_0 : decode cX4_order 0 = .ok (.aload_n 0, 1) := by decide +kernel
theorem dX4_order_1 : decode cX4_order 1 = .ok (.iload_n 1, 1) := by decide +kernel
theorem dX4_order_2 : decode cX4_order 2 = .ok (.invokestatic 75, 3) := by decide +kernel
theorem dX4_order_5 : decode cX4_order 5 = .ok (.ifCond .eq 24, 3) := by decide +kernel
theorem dX4_order_8 : decode cX4_order 8 = .ok (.iload_n 2, 1) := by decide +kernel
theorem dX4_order_9 : decode cX4_order 9 = .ok (.iconst 0, 1) := by decide +kernel
theorem dX4_order_10 : decode cX4_order 10 = .ok (.bipush 7, 2) := by decide +kernel
theorem dX4_order_12 : decode cX4_order 12 = .ok (.invokestatic 70, 3) := by decide +kernel
theorem dX4_order_15 : decode cX4_order 15 = .ok (.ifCond .eq 14, 3) := by decide +kernel
theorem dX4_order_18 : decode cX4_order 18 = .ok (.iload_n 3, 1) := by decide +kernel
theorem dX4_order_19 : decode cX4_order 19 = .ok (.iconst 1, 1) := by decide +kernel
theorem dX4_order_20 : decode cX4_order 20 = .ok (.sipush 10000, 3) := by decide +kernel
theorem dX4_order_23 : decode cX4_order 23 = .ok (.invokestatic 70, 3) := by decide +kernel
theorem dX4_order_26 : decode cX4_order 26 = .ok (.ifCond .ne 7, 3) := by decide +kernel
theorem dX4_order_29 : decode cX4_order 29 = .ok (.iconst 1, 1) := by decide +kernel
theorem dX4_order_30 : decode cX4_order 30 = .ok (.goto 17, 3) := by decide +kernel
theorem dX4_order_33 : decode cX4_order 33 = .ok (.aload_n 0, 1) := by decide +kernel
theorem dX4_order_34 : decode cX4_order 34 = .ok (.getfield 67, 3) := by decide +kernel
theorem dX4_order_37 : decode cX4_order 37 = .ok (.bipush 16, 2) := by decide +kernel
theorem dX4_order_39 : decode cX4_order 39 = .ok (.if_icmp .ne 7, 3) := by decide +kernel
theorem dX4_order_42 : decode cX4_order 42 = .ok (.iconst 2, 1) := by decide +kernel
theorem dX4_order_43 : decode cX4_order 43 = .ok (.goto 4, 3) := by decide +kernel
theorem dX4_order_46 : decode cX4_order 46 = .ok (.iconst 0, 1) := by decide +kernel
theorem dX4_order_47 : decode cX4_order 47 = .ok (.putfield 64, 3) := by decide +kernel
theorem dX4_order_50 : decode cX4_order 50 = .ok (.aload_n 0, 1) := by decide +kernel
theorem dX4_order_51 : decode cX4_order 51 = .ok (.getfield 64, 3) := by decide +kernel
theorem dX4_order_54 : decode cX4_order 54 = .ok (.ifCond .le 5, 3) := by decide +kernel
theorem dX4_order_57 : decode cX4_order 57 = .ok (.iconst 0, 1) := by decide +kernel
theorem dX4_order_58 : decode cX4_order 58 = .ok (.ireturn, 1) := by decide +kernel
theorem dX4_order_59 : decode cX4_order 59 = .ok (.aload_n 0, 1) := by decide +kernel
theorem dX4_order_60 : decode cX4_order 60 = .ok (.getfield 7, 3) := by decide +kernel
theorem dX4_order_63 : decode cX4_order 63 = .ok (.aload_n 0, 1) := by decide +kernel
theorem dX4_order_64 : decode cX4_order 64 = .ok (.getfield 67, 3) := by decide +kernel
theorem dX4_order_67 : decode cX4_order 67 = .ok (.iload_n 1, 1) := by decide +kernel
theorem dX4_order_68 : decode cX4_order 68 = .ok (.iastore, 1) := by decide +kernel
theorem dX4_order_69 : decode cX4_order 69 = .ok (.aload_n 0, 1) := by decide +kernel
theorem dX4_order_70 : decode cX4_order 70 = .ok (.getfield 13, 3) := by decide +kernel
theorem dX4_order_73 : decode cX4_order 73 = .ok (.aload_n 0, 1) := by decide +kernel
theorem dX4_order_74 : decode cX4_order 74 = .ok (.getfield 67, 3) := by decide +kernel
theorem dX4_order_77 : decode cX4_order 77 = .ok (.iload_n 2, 1) := by decide +kernel
theorem dX4_order_78 : decode cX4_order 78 = .ok (.iastore, 1) := by decide +kernel
theorem dX4_order_79 : decode cX4_order 79 = .ok (.aload_n 0, 1) := by decide +kernel
theorem dX4_order_80 : decode cX4_order 80 = .ok (.getfield 16, 3) := by decide +kernel
theorem dX4_order_83 : decode cX4_order 83 = .ok (.aload_n 0, 1) := by decide +kernel
theorem dX4_order_84 : decode cX4_order 84 = .ok (.getfield 67, 3) := by decide +kernel
theorem dX4_order_87 : decode cX4_order 87 = .ok (.iload_n 3, 1) := by decide +kernel
theorem dX4_order_88 : decode cX4_order 88 = .ok (.iastore, 1) := by decide +kernel
theorem dX4_order_89 : decode cX4_order 89 = .ok (.aload_n 0, 1) := by decide +kernel
theorem dX4_order_90 : decode cX4_order 90 = .ok (.dup, 1) := by decide +kernel
theorem dX4_order_91 : decode cX4_order 91 = .ok (.getfield 67, 3) := by decide +kernel
theorem dX4_order_94 : decode cX4_order 94 = .ok (.iconst 1, 1) := by decide +kernel
theorem dX4_order_95 : decode cX4_order 95 = .ok (.iadd, 1) := by decide +kernel
theorem dX4_order_96 : decode cX4_order 96 = .ok (.putfield 67, 3) := by decide +kernel
theorem dX4_order_99 : decode cX4_order 99 = .ok (.aload_n 0, 1) := by decide +kernel
theorem dX4_order_100 : decode cX4_order 100 = .ok (.getfield 67, 3) := by decide +kernel
theorem dX4_order_103 : decode cX4_order 103 = .ok (.iconst 1, 1) := by decide +kernel
theorem dX4_order_104 : decode cX4_order 104 = .ok (.isub, 1) := by decide +kernel
theorem dX4_order_105 : decode cX4_order 105 = .ok (.ireturn, 1) := by decide +kernel
theorem dX4_lines_0 : decode cX4_lines 0 = .ok (.iconst 0, 1) := by decide +kernel
theorem dX4_lines_1 : decode cX4_lines 1 = .ok (.istore_n 2, 1) := by decide +kernel
theorem dX4_lines_2 : decode cX4_lines 2 = .ok (.iconst 0, 1) := by decide +kernel
theorem dX4_lines_3 : decode cX4_lines 3 = .ok (.istore_n 3, 1) := by decide +kernel
theorem dX4_lines_4 : decode cX4_lines 4 = .ok (.iload_n 3, 1) := by decide +kernel
theorem dX4_lines_5 : decode cX4_lines 5 = .ok (.bipush 10, 2) := by decide +kernel
theorem dX4_lines_7 : decode cX4_lines 7 = .ok (.if_icmp .ge 31, 3) := by decide +kernel
theorem dX4_lines_10 : decode cX4_lines 10 = .ok (.iload_n 2, 1) := by decide +kernel
theorem dX4_lines_11 : decode cX4_lines 11 = .ok (.aload_n 0, 1) := by decide +kernel
theorem dX4_lines_12 : decode cX4_lines 12 = .ok (.getfield 32, 3) := by decide +kernel
theorem dX4_lines_15 : decode cX4_lines 15 = .ok (.bipush 10, 2) := by decide +kernel
theorem dX4_lines_17 : decode cX4_lines 17 = .ok (.iload_n 1, 1) := by decide +kernel
theorem dX4_lines_18 : decode cX4_lines 18 = .ok (.imul, 1) := by decide +kernel
theorem dX4_lines_19 : decode cX4_lines 19 = .ok (.iload_n 3, 1) := by decide +kernel
theorem dX4_lines_20 : decode cX4_lines 20 = .ok (.iadd, 1) := by decide +kernel
theorem dX4_lines_21 : decode cX4_lines 21 = .ok (.iaload, 1) := by decide +kernel
theorem dX4_lines_22 : decode cX4_lines 22 = .ok (.ifCond .le 7, 3) := by decide +kernel
theorem dX4_lines_25 : decode cX4_lines 25 = .ok (.iconst 1, 1) := by decide +kernel
theorem dX4_lines_26 : decode cX4_lines 26 = .ok (.goto 4, 3) := by decide +kernel
theorem dX4_lines_29 : decode cX4_lines 29 = .ok (.iconst 0, 1) := by decide +kernel
theorem dX4_lines_30 : decode cX4_lines 30 = .ok (.iadd, 1) := by decide +kernel
theorem dX4_lines_31 : decode cX4_lines 31 = .ok (.istore_n 2, 1) := by decide +kernel
theorem dX4_lines_32 : decode cX4_lines 32 = .ok (.iinc 3 1, 3) := by decide +kernel
theorem dX4_lines_35 : decode cX4_lines 35 = .ok (.goto (-31), 3) := by decide +kernel
theorem dX4_lines_38 : decode cX4_lines 38 = .ok (.iload_n 2, 1) := by decide +kernel
theorem dX4_lines_39 : decode cX4_lines 39 = .ok (.ireturn, 1) := by decide +kernel
theorem dX4_line_0 : decode cX4_line 0 = .ok (.aload_n 0, 1) := by decide +kernel
theorem dX4_line_1 : decode cX4_line 1 = .ok (.aload_n 0, 1) := by decide +kernel
theorem dX4_line_2 : decode cX4_line 2 = .ok (.iload_n 1, 1) := by decide +kernel
theorem dX4_line_3 : decode cX4_line 3 = .ok (.invokevirtual 79, 3) := by decide +kernel
theorem dX4_line_6 : decode cX4_line 6 = .ok (.ifCond .ne 7, 3) := by decide +kernel
theorem dX4_line_9 : decode cX4_line 9 = .ok (.iconst 1, 1) := by decide +kernel
theorem dX4_line_10 : decode cX4_line 10 = .ok (.goto 28, 3) := by decide +kernel
theorem dX4_line_13 : decode cX4_line 13 = .ok (.iload_n 2, 1) := by decide +kernel
theorem dX4_line_14 : decode cX4_line 14 = .ok (.iconst 0, 1) := by decide +kernel
theorem dX4_line_15 : decode cX4_line 15 = .ok (.bipush 9, 2) := by decide +kernel
theorem dX4_line_17 : decode cX4_line 17 = .ok (.invokestatic 70, 3) := by decide +kernel
theorem dX4_line_20 : decode cX4_line 20 = .ok (.ifCond .eq 13, 3) := by decide +kernel
theorem dX4_line_23 : decode cX4_line 23 = .ok (.iload_n 3, 1) := by decide +kernel
theorem dX4_line_24 : decode cX4_line 24 = .ok (.iconst 1, 1) := by decide +kernel
theorem dX4_line_25 : decode cX4_line 25 = .ok (.bipush 100, 2) := by decide +kernel
theorem dX4_line_27 : decode cX4_line 27 = .ok (.invokestatic 70, 3) := by decide +kernel
theorem dX4_line_30 : decode cX4_line 30 = .ok (.ifCond .ne 7, 3) := by decide +kernel
theorem dX4_line_33 : decode cX4_line 33 = .ok (.iconst 2, 1) := by decide +kernel
theorem dX4_line_34 : decode cX4_line 34 = .ok (.goto 4, 3) := by decide +kernel
theorem dX4_line_37 : decode cX4_line 37 = .ok (.iconst 0, 1) := by decide +kernel
theorem dX4_line_38 : decode cX4_line 38 = .ok (.putfield 64, 3) := by decide +kernel
theorem dX4_line_41 : decode cX4_line 41 = .ok (.aload_n 0, 1) := by decide +kernel
theorem dX4_line_42 : decode cX4_line 42 = .ok (.getfield 64, 3) := by decide +kernel
theorem dX4_line_45 : decode cX4_line 45 = .ok (.ifCond .ne 48, 3) := by decide +kernel
theorem dX4_line_48 : decode cX4_line 48 = .ok (.aload_n 0, 1) := by decide +kernel
theorem dX4_line_49 : decode cX4_line 49 = .ok (.aload_n 0, 1) := by decide +kernel
theorem dX4_line_50 : decode cX4_line 50 = .ok (.getfield 22, 3) := by decide +kernel
theorem dX4_line_53 : decode cX4_line 53 = .ok (.iload_n 1, 1) := by decide +kernel
theorem dX4_line_54 : decode cX4_line 54 = .ok (.iaload, 1) := by decide +kernel
theorem dX4_line_55 : decode cX4_line 55 = .ok (.ifCond .ne 17, 3) := by decide +kernel
theorem dX4_line_58 : decode cX4_line 58 = .ok (.aload_n 0, 1) := by decide +kernel
theorem dX4_line_59 : decode cX4_line 59 = .ok (.getfield 32, 3) := by decide +kernel
theorem dX4_line_62 : decode cX4_line 62 = .ok (.bipush 10, 2) := by decide +kernel
theorem dX4_line_64 : decode cX4_line 64 = .ok (.iload_n 1, 1) := by decide +kernel
theorem dX4_line_65 : decode cX4_line 65 = .ok (.imul, 1) := by decide +kernel
theorem dX4_line_66 : decode cX4_line 66 = .ok (.iload_n 2, 1) := by decide +kernel
theorem dX4_line_67 : decode cX4_line 67 = .ok (.iadd, 1) := by decide +kernel
theorem dX4_line_68 : decode cX4_line 68 = .ok (.iaload, 1) := by decide +kernel
theorem dX4_line_69 : decode cX4_line 69 = .ok (.ifCond .le 7, 3) := by decide +kernel
theorem dX4_line_72 : decode cX4_line 72 = .ok (.iconst 3, 1) := by decide +kernel
theorem dX4_line_73 : decode cX4_line 73 = .ok (.goto 17, 3) := by decide +kernel
theorem dX4_line_76 : decode cX4_line 76 = .ok (.aload_n 0, 1) := by decide +kernel
theorem dX4_line_77 : decode cX4_line 77 = .ok (.iload_n 1, 1) := by decide +kernel
theorem dX4_line_78 : decode cX4_line 78 = .ok (.invokevirtual 82, 3) := by decide +kernel
theorem dX4_line_81 : decode cX4_line 81 = .ok (.iconst 4, 1) := by decide +kernel
theorem dX4_line_82 : decode cX4_line 82 = .ok (.if_icmp .ne 7, 3) := by decide +kernel
theorem dX4_line_85 : decode cX4_line 85 = .ok (.iconst 4, 1) := by decide +kernel
theorem dX4_line_86 : decode cX4_line 86 = .ok (.goto 4, 3) := by decide +kernel
theorem dX4_line_89 : decode cX4_line 89 = .ok (.iconst 0, 1) := by decide +kernel
theorem dX4_line_90 : decode cX4_line 90 = .ok (.putfield 64, 3) := by decide +kernel
theorem dX4_line_93 : decode cX4_line 93 = .ok (.aload_n 0, 1) := by decide +kernel
theorem dX4_line_94 : decode cX4_line 94 = .ok (.getfield 64, 3) := by decide +kernel
theorem dX4_line_97 : decode cX4_line 97 = .ok (.ifCond .le 5, 3) := by decide +kernel
theorem dX4_line_100 : decode cX4_line 100 = .ok (.iconst 0, 1) := by decide +kernel
theorem dX4_line_101 : decode cX4_line 101 = .ok (.ireturn, 1) := by decide +kernel
theorem dX4_line_102 : decode cX4_line 102 = .ok (.aload_n 0, 1) := by decide +kernel
theorem dX4_line_103 : decode cX4_line 103 = .ok (.getfield 32, 3) := by decide +kernel
theorem dX4_line_106 : decode cX4_line 106 = .ok (.bipush 10, 2) := by decide +kernel
theorem dX4_line_108 : decode cX4_line 108 = .ok (.iload_n 1, 1) := by decide +kernel
theorem dX4_line_109 : decode cX4_line 109 = .ok (.imul, 1) := by decide +kernel
theorem dX4_line_110 : decode cX4_line 110 = .ok (.iload_n 2, 1) := by decide +kernel
theorem dX4_line_111 : decode cX4_line 111 = .ok (.iadd, 1) := by decide +kernel
theorem dX4_line_112 : decode cX4_line 112 = .ok (.iload_n 3, 1) := by decide +kernel
theorem dX4_line_113 : decode cX4_line 113 = .ok (.iastore, 1) := by decide +kernel
theorem dX4_line_114 : decode cX4_line 114 = .ok (.aload_n 0, 1) := by decide +kernel
theorem dX4_line_115 : decode cX4_line 115 = .ok (.iload_n 1, 1) := by decide +kernel
theorem dX4_line_116 : decode cX4_line 116 = .ok (.invokevirtual 82, 3) := by decide +kernel
theorem dX4_line_119 : decode cX4_line 119 = .ok (.ireturn, 1) := by decide +kernel
theorem dX4_carrier_0 : decode cX4_carrier 0 = .ok (.aload_n 0, 1) := by decide +kernel
theorem dX4_carrier_1 : decode cX4_carrier 1 = .ok (.aload_n 0, 1) := by decide +kernel
theorem dX4_carrier_2 : decode cX4_carrier 2 = .ok (.iload_n 1, 1) := by decide +kernel
theorem dX4_carrier_3 : decode cX4_carrier 3 = .ok (.invokevirtual 79, 3) := by decide +kernel
theorem dX4_carrier_6 : decode cX4_carrier 6 = .ok (.ifCond .ne 7, 3) := by decide +kernel
theorem dX4_carrier_9 : decode cX4_carrier 9 = .ok (.iconst 1, 1) := by decide +kernel
theorem dX4_carrier_10 : decode cX4_carrier 10 = .ok (.goto 17, 3) := by decide +kernel
theorem dX4_carrier_13 : decode cX4_carrier 13 = .ok (.iload_n 2, 1) := by decide +kernel
theorem dX4_carrier_14 : decode cX4_carrier 14 = .ok (.iconst 0, 1) := by decide +kernel
theorem dX4_carrier_15 : decode cX4_carrier 15 = .ok (.iconst 3, 1) := by decide +kernel
theorem dX4_carrier_16 : decode cX4_carrier 16 = .ok (.invokestatic 70, 3) := by decide +kernel
theorem dX4_carrier_19 : decode cX4_carrier 19 = .ok (.ifCond .ne 7, 3) := by decide +kernel
theorem dX4_carrier_22 : decode cX4_carrier 22 = .ok (.iconst 2, 1) := by decide +kernel
theorem dX4_carrier_23 : decode cX4_carrier 23 = .ok (.goto 4, 3) := by decide +kernel
theorem dX4_carrier_26 : decode cX4_carrier 26 = .ok (.iconst 0, 1) := by decide +kernel
theorem dX4_carrier_27 : decode cX4_carrier 27 = .ok (.putfield 64, 3) := by decide +kernel
theorem dX4_carrier_30 : decode cX4_carrier 30 = .ok (.aload_n 0, 1) := by decide +kernel
theorem dX4_carrier_31 : decode cX4_carrier 31 = .ok (.getfield 64, 3) := by decide +kernel
theorem dX4_carrier_34 : decode cX4_carrier 34 = .ok (.ifCond .ne 21, 3) := by decide +kernel
theorem dX4_carrier_37 : decode cX4_carrier 37 = .ok (.aload_n 0, 1) := by decide +kernel
theorem dX4_carrier_38 : decode cX4_carrier 38 = .ok (.aload_n 0, 1) := by decide +kernel
theorem dX4_carrier_39 : decode cX4_carrier 39 = .ok (.getfield 22, 3) := by decide +kernel
theorem dX4_carrier_42 : decode cX4_carrier 42 = .ok (.iload_n 1, 1) := by decide +kernel
theorem dX4_carrier_43 : decode cX4_carrier 43 = .ok (.iaload, 1) := by decide +kernel
theorem dX4_carrier_44 : decode cX4_carrier 44 = .ok (.ifCond .eq 7, 3) := by decide +kernel
theorem dX4_carrier_47 : decode cX4_carrier 47 = .ok (.iconst 3, 1) := by decide +kernel
theorem dX4_carrier_48 : decode cX4_carrier 48 = .ok (.goto 4, 3) := by decide +kernel
theorem dX4_carrier_51 : decode cX4_carrier 51 = .ok (.iconst 0, 1) := by decide +kernel
theorem dX4_carrier_52 : decode cX4_carrier 52 = .ok (.putfield 64, 3) := by decide +kernel
theorem dX4_carrier_55 : decode cX4_carrier 55 = .ok (.aload_n 0, 1) := by decide +kernel
theorem dX4_carrier_56 : decode cX4_carrier 56 = .ok (.getfield 64, 3) := by decide +kernel
theorem dX4_carrier_59 : decode cX4_carrier 59 = .ok (.ifCond .ne 10, 3) := by decide +kernel
theorem dX4_carrier_62 : decode cX4_carrier 62 = .ok (.aload_n 0, 1) := by decide +kernel
theorem dX4_carrier_63 : decode cX4_carrier 63 = .ok (.getfield 19, 3) := by decide +kernel
theorem dX4_carrier_66 : decode cX4_carrier 66 = .ok (.iload_n 1, 1) := by decide +kernel
theorem dX4_carrier_67 : decode cX4_carrier 67 = .ok (.iload_n 2, 1) := by decide +kernel
theorem dX4_carrier_68 : decode cX4_carrier 68 = .ok (.iastore, 1) := by decide +kernel
theorem dX4_carrier_69 : decode cX4_carrier 69 = .ok (.return_, 1) := by decide +kernel
theorem dX4_hour_0 : decode cX4_hour 0 = .ok (.aload_n 0, 1) := by decide +kernel
theorem dX4_hour_1 : decode cX4_hour 1 = .ok (.iload_n 1, 1) := by decide +kernel
theorem dX4_hour_2 : decode cX4_hour 2 = .ok (.iconst 0, 1) := by decide +kernel
theorem dX4_hour_3 : decode cX4_hour 3 = .ok (.iconst 3, 1) := by decide +kernel
theorem dX4_hour_4 : decode cX4_hour 4 = .ok (.invokestatic 70, 3) := by decide +kernel
theorem dX4_hour_7 : decode cX4_hour 7 = .ok (.ifCond .eq 22, 3) := by decide +kernel
theorem dX4_hour_10 : decode cX4_hour 10 = .ok (.iload_n 2, 1) := by decide +kernel
theorem dX4_hour_11 : decode cX4_hour 11 = .ok (.invokestatic 75, 3) := by decide +kernel
theorem dX4_hour_14 : decode cX4_hour 14 = .ok (.ifCond .eq 15, 3) := by decide +kernel
theorem dX4_hour_17 : decode cX4_hour 17 = .ok (.iload_n 3, 1) := by decide +kernel
theorem dX4_hour_18 : decode cX4_hour 18 = .ok (.invokestatic 75, 3) := by decide +kernel
theorem dX4_hour_21 : decode cX4_hour 21 = .ok (.ifCond .eq 8, 3) := by decide +kernel
theorem dX4_hour_24 : decode cX4_hour 24 = .ok (.iload_n 3, 1) := by decide +kernel
theorem dX4_hour_25 : decode cX4_hour 25 = .ok (.iload_n 2, 1) := by decide +kernel
theorem dX4_hour_26 : decode cX4_hour 26 = .ok (.if_icmp .ge 7, 3) := by decide +kernel
theorem dX4_hour_29 : decode cX4_hour 29 = .ok (.iconst 1, 1) := by decide +kernel
theorem dX4_hour_30 : decode cX4_hour 30 = .ok (.goto 17, 3) := by decide +kernel
theorem dX4_hour_33 : decode cX4_hour 33 = .ok (.aload_n 0, 1) := by decide +kernel
theorem dX4_hour_34 : decode cX4_hour 34 = .ok (.getfield 86, 3) := by decide +kernel
theorem dX4_hour_37 : decode cX4_hour 37 = .ok (.bipush 10, 2) := by decide +kernel
theorem dX4_hour_39 : decode cX4_hour 39 = .ok (.if_icmp .ne 7, 3) := by decide +kernel
theorem dX4_hour_42 : decode cX4_hour 42 = .ok (.iconst 2, 1) := by decide +kernel
theorem dX4_hour_43 : decode cX4_hour 43 = .ok (.goto 4, 3) := by decide +kernel
theorem dX4_hour_46 : decode cX4_hour 46 = .ok (.iconst 0, 1) := by decide +kernel
theorem dX4_hour_47 : decode cX4_hour 47 = .ok (.putfield 64, 3) := by decide +kernel
theorem dX4_hour_50 : decode cX4_hour 50 = .ok (.aload_n 0, 1) := by decide +kernel
theorem dX4_hour_51 : decode cX4_hour 51 = .ok (.getfield 64, 3) := by decide +kernel
theorem dX4_hour_54 : decode cX4_hour 54 = .ok (.ifCond .le 5, 3) := by decide +kernel
theorem dX4_hour_57 : decode cX4_hour 57 = .ok (.iconst 0, 1) := by decide +kernel
theorem dX4_hour_58 : decode cX4_hour 58 = .ok (.ireturn, 1) := by decide +kernel
theorem dX4_hour_59 : decode cX4_hour 59 = .ok (.aload_n 0, 1) := by decide +kernel
theorem dX4_hour_60 : decode cX4_hour 60 = .ok (.getfield 35, 3) := by decide +kernel
theorem dX4_hour_63 : decode cX4_hour 63 = .ok (.aload_n 0, 1) := by decide +kernel
theorem dX4_hour_64 : decode cX4_hour 64 = .ok (.getfield 86, 3) := by decide +kernel
theorem dX4_hour_67 : decode cX4_hour 67 = .ok (.iload_n 1, 1) := by decide +kernel
theorem dX4_hour_68 : decode cX4_hour 68 = .ok (.iastore, 1) := by decide +kernel
theorem dX4_hour_69 : decode cX4_hour 69 = .ok (.aload_n 0, 1) := by decide +kernel
theorem dX4_hour_70 : decode cX4_hour 70 = .ok (.getfield 38, 3) := by decide +kernel
theorem dX4_hour_73 : decode cX4_hour 73 = .ok (.aload_n 0, 1) := by decide +kernel
theorem dX4_hour_74 : decode cX4_hour 74 = .ok (.getfield 86, 3) := by decide +kernel
theorem dX4_hour_77 : decode cX4_hour 77 = .ok (.iload_n 2, 1) := by decide +kernel
theorem dX4_hour_78 : decode cX4_hour 78 = .ok (.iastore, 1) := by decide +kernel
theorem dX4_hour_79 : decode cX4_hour 79 = .ok (.aload_n 0, 1) := by decide +kernel
theorem dX4_hour_80 : decode cX4_hour 80 = .ok (.getfield 41, 3) := by decide +kernel
theorem dX4_hour_83 : decode cX4_hour 83 = .ok (.aload_n 0, 1) := by decide +kernel
theorem dX4_hour_84 : decode cX4_hour 84 = .ok (.getfield 86, 3) := by decide +kernel
theorem dX4_hour_87 : decode cX4_hour 87 = .ok (.iload_n 3, 1) := by decide +kernel
theorem dX4_hour_88 : decode cX4_hour 88 = .ok (.iastore, 1) := by decide +kernel
theorem dX4_hour_89 : decode cX4_hour 89 = .ok (.aload_n 0, 1) := by decide +kernel
theorem dX4_hour_90 : decode cX4_hour 90 = .ok (.dup, 1) := by decide +kernel
theorem dX4_hour_91 : decode cX4_hour 91 = .ok (.getfield 86, 3) := by decide +kernel
theorem dX4_hour_94 : decode cX4_hour 94 = .ok (.iconst 1, 1) := by decide +kernel
theorem dX4_hour_95 : decode cX4_hour 95 = .ok (.iadd, 1) := by decide +kernel
theorem dX4_hour_96 : decode cX4_hour 96 = .ok (.putfield 86, 3) := by decide +kernel
theorem dX4_hour_99 : decode cX4_hour 99 = .ok (.iconst 0, 1) := by decide +kernel
theorem dX4_hour_100 : decode cX4_hour 100 = .ok (.istore 4, 2) := by decide +kernel
theorem dX4_hour_102 : decode cX4_hour 102 = .ok (.iconst 0, 1) := by decide +kernel
theorem dX4_hour_103 : decode cX4_hour 103 = .ok (.istore 5, 2) := by decide +kernel
theorem dX4_hour_105 : decode cX4_hour 105 = .ok (.iload 5, 2) := by decide +kernel
theorem dX4_hour_107 : decode cX4_hour 107 = .ok (.aload_n 0, 1) := by decide +kernel
theorem dX4_hour_108 : decode cX4_hour 108 = .ok (.getfield 86, 3) := by decide +kernel
theorem dX4_hour_111 : decode cX4_hour 111 = .ok (.if_icmp .ge 30, 3) := by decide +kernel
theorem dX4_hour_114 : decode cX4_hour 114 = .ok (.iload 4, 2) := by decide +kernel
theorem dX4_hour_116 : decode cX4_hour 116 = .ok (.aload_n 0, 1) := by decide +kernel
theorem dX4_hour_117 : decode cX4_hour 117 = .ok (.getfield 35, 3) := by decide +kernel
theorem dX4_hour_120 : decode cX4_hour 120 = .ok (.iload 5, 2) := by decide +kernel
theorem dX4_hour_122 : decode cX4_hour 122 = .ok (.iaload, 1) := by decide +kernel
theorem dX4_hour_123 : decode cX4_hour 123 = .ok (.iload_n 1, 1) := by decide +kernel
theorem dX4_hour_124 : decode cX4_hour 124 = .ok (.if_icmp .ne 7, 3) := by decide +kernel
theorem dX4_hour_127 : decode cX4_hour 127 = .ok (.iconst 1, 1) := by decide +kernel
theorem dX4_hour_128 : decode cX4_hour 128 = .ok (.goto 4, 3) := by decide +kernel
theorem dX4_hour_131 : decode cX4_hour 131 = .ok (.iconst 0, 1) := by decide +kernel
theorem dX4_hour_132 : decode cX4_hour 132 = .ok (.iadd, 1) := by decide +kernel
theorem dX4_hour_133 : decode cX4_hour 133 = .ok (.istore 4, 2) := by decide +kernel
theorem dX4_hour_135 : decode cX4_hour 135 = .ok (.iinc 5 1, 3) := by decide +kernel
theorem dX4_hour_138 : decode cX4_hour 138 = .ok (.goto (-33), 3) := by decide +kernel
theorem dX4_hour_141 : decode cX4_hour 141 = .ok (.iload 4, 2) := by decide +kernel
theorem dX4_hour_143 : decode cX4_hour 143 = .ok (.ireturn, 1) := by decide +kernel
theorem dX4_stock_0 : decode cX4_stock 0 = .ok (.aload_n 0, 1) := by decide +kernel
theorem dX4_stock_1 : decode cX4_stock 1 = .ok (.iload_n 1, 1) := by decide +kernel
theorem dX4_stock_2 : decode cX4_stock 2 = .ok (.iconst 0, 1) := by decide +kernel
theorem dX4_stock_3 : decode cX4_stock 3 = .ok (.bipush 9, 2) := by decide +kernel
theorem dX4_stock_5 : decode cX4_stock 5 = .ok (.invokestatic 70, 3) := by decide +kernel
theorem dX4_stock_8 : decode cX4_stock 8 = .ok (.ifCond .eq 18, 3) := by decide +kernel
theorem dX4_stock_11 : decode cX4_stock 11 = .ok (.iload_n 2, 1) := by decide +kernel
theorem dX4_stock_12 : decode cX4_stock 12 = .ok (.iconst 0, 1) := by decide +kernel
theorem dX4_stock_13 : decode cX4_stock 13 = .ok (.sipush 10000, 3) := by decide +kernel
theorem dX4_stock_16 : decode cX4_stock 16 = .ok (.invokestatic 70, 3) := by decide +kernel
theorem dX4_stock_19 : decode cX4_stock 19 = .ok (.ifCond .eq 7, 3) := by decide +kernel
theorem dX4_stock_22 : decode cX4_stock 22 = .ok (.iconst 0, 1) := by decide +kernel
theorem dX4_stock_23 : decode cX4_stock 23 = .ok (.goto 4, 3) := by decide +kernel
theorem dX4_stock_26 : decode cX4_stock 26 = .ok (.iconst 1, 1) := by decide +kernel
theorem dX4_stock_27 : decode cX4_stock 27 = .ok (.putfield 64, 3) := by decide +kernel
theorem dX4_stock_30 : decode cX4_stock 30 = .ok (.aload_n 0, 1) := by decide +kernel
theorem dX4_stock_31 : decode cX4_stock 31 = .ok (.getfield 64, 3) := by decide +kernel
theorem dX4_stock_34 : decode cX4_stock 34 = .ok (.ifCond .ne 10, 3) := by decide +kernel
theorem dX4_stock_37 : decode cX4_stock 37 = .ok (.aload_n 0, 1) := by decide +kernel
theorem dX4_stock_38 : decode cX4_stock 38 = .ok (.getfield 47, 3) := by decide +kernel
theorem dX4_stock_41 : decode cX4_stock 41 = .ok (.iload_n 1, 1) := by decide +kernel
theorem dX4_stock_42 : decode cX4_stock 42 = .ok (.iload_n 2, 1) := by decide +kernel
theorem dX4_stock_43 : decode cX4_stock 43 = .ok (.iastore, 1) := by decide +kernel
theorem dX4_stock_44 : decode cX4_stock 44 = .ok (.return_, 1) := by decide +kernel
theorem dX4_fits_0 : decode cX4_fits 0 = .ok (.iconst 0, 1) := by decide +kernel
theorem dX4_fits_1 : decode cX4_fits 1 = .ok (.istore_n 3, 1) := by decide +kernel
theorem dX4_fits_2 : decode cX4_fits 2 = .ok (.iload_n 3, 1) := by decide +kernel
theorem dX4_fits_3 : decode cX4_fits 3 = .ok (.aload_n 0, 1) := by decide +kernel
theorem dX4_fits_4 : decode cX4_fits 4 = .ok (.getfield 86, 3) := by decide +kernel
theorem dX4_fits_7 : decode cX4_fits 7 = .ok (.if_icmp .ge 41, 3) := by decide +kernel
theorem dX4_fits_10 : decode cX4_fits 10 = .ok (.aload_n 0, 1) := by decide +kernel
