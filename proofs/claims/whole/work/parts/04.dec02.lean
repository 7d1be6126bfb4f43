theorem dX4_fits_11 : decode cX4_fits 11 = .ok (.getfield 35, 3) := by decide +kernel
theorem dX4_fits_14 : decode cX4_fits 14 = .ok (.iload_n 3, 1) := by decide +kernel
theorem dX4_fits_15 : decode cX4_fits 15 = .ok (.iaload, 1) := by decide +kernel
theorem dX4_fits_16 : decode cX4_fits 16 = .ok (.iload_n 1, 1) := by decide +kernel
theorem dX4_fits_17 : decode cX4_fits 17 = .ok (.if_icmp .ne 25, 3) := by decide +kernel
theorem dX4_fits_20 : decode cX4_fits 20 = .ok (.aload_n 0, 1) := by decide +kernel
theorem dX4_fits_21 : decode cX4_fits 21 = .ok (.getfield 38, 3) := by decide +kernel
theorem dX4_fits_24 : decode cX4_fits 24 = .ok (.iload_n 3, 1) := by decide +kernel
theorem dX4_fits_25 : decode cX4_fits 25 = .ok (.iaload, 1) := by decide +kernel
theorem dX4_fits_26 : decode cX4_fits 26 = .ok (.iload_n 2, 1) := by decide +kernel
theorem dX4_fits_27 : decode cX4_fits 27 = .ok (.if_icmp .gt 15, 3) := by decide +kernel
theorem dX4_fits_30 : decode cX4_fits 30 = .ok (.iload_n 2, 1) := by decide +kernel
theorem dX4_fits_31 : decode cX4_fits 31 = .ok (.aload_n 0, 1) := by decide +kernel
theorem dX4_fits_32 : decode cX4_fits 32 = .ok (.getfield 41, 3) := by decide +kernel
theorem dX4_fits_35 : decode cX4_fits 35 = .ok (.iload_n 3, 1) := by decide +kernel
theorem dX4_fits_36 : decode cX4_fits 36 = .ok (.iaload, 1) := by decide +kernel
theorem dX4_fits_37 : decode cX4_fits 37 = .ok (.if_icmp .gt 5, 3) := by decide +kernel
theorem dX4_fits_40 : decode cX4_fits 40 = .ok (.iconst 1, 1) := by decide +kernel
theorem dX4_fits_41 : decode cX4_fits 41 = .ok (.ireturn, 1) := by decide +kernel
theorem dX4_fits_42 : decode cX4_fits 42 = .ok (.iinc 3 1, 3) := by decide +kernel
theorem dX4_fits_45 : decode cX4_fits 45 = .ok (.goto (-43), 3) := by decide +kernel
theorem dX4_fits_48 : decode cX4_fits 48 = .ok (.iconst 0, 1) := by decide +kernel
theorem dX4_fits_49 : decode cX4_fits 49 = .ok (.ireturn, 1) := by decide +kernel
theorem dX4_saving_0 : decode cX4_saving 0 = .ok (.aload_n 0, 1) := by decide +kernel
theorem dX4_saving_1 : decode cX4_saving 1 = .ok (.getfield 13, 3) := by decide +kernel
theorem dX4_saving_4 : decode cX4_saving 4 = .ok (.iload_n 1, 1) := by decide +kernel
theorem dX4_saving_5 : decode cX4_saving 5 = .ok (.iaload, 1) := by decide +kernel
theorem dX4_saving_6 : decode cX4_saving 6 = .ok (.aload_n 0, 1) := by decide +kernel
theorem dX4_saving_7 : decode cX4_saving 7 = .ok (.getfield 13, 3) := by decide +kernel
theorem dX4_saving_10 : decode cX4_saving 10 = .ok (.iload_n 2, 1) := by decide +kernel
theorem dX4_saving_11 : decode cX4_saving 11 = .ok (.iaload, 1) := by decide +kernel
theorem dX4_saving_12 : decode cX4_saving 12 = .ok (.if_icmp .le 19, 3) := by decide +kernel
theorem dX4_saving_15 : decode cX4_saving 15 = .ok (.aload_n 0, 1) := by decide +kernel
theorem dX4_saving_16 : decode cX4_saving 16 = .ok (.getfield 13, 3) := by decide +kernel
theorem dX4_saving_19 : decode cX4_saving 19 = .ok (.iload_n 1, 1) := by decide +kernel
theorem dX4_saving_20 : decode cX4_saving 20 = .ok (.iaload, 1) := by decide +kernel
theorem dX4_saving_21 : decode cX4_saving 21 = .ok (.aload_n 0, 1) := by decide +kernel
theorem dX4_saving_22 : decode cX4_saving 22 = .ok (.getfield 13, 3) := by decide +kernel
theorem dX4_saving_25 : decode cX4_saving 25 = .ok (.iload_n 2, 1) := by decide +kernel
theorem dX4_saving_26 : decode cX4_saving 26 = .ok (.iaload, 1) := by decide +kernel
theorem dX4_saving_27 : decode cX4_saving 27 = .ok (.isub, 1) := by decide +kernel
theorem dX4_saving_28 : decode cX4_saving 28 = .ok (.goto 16, 3) := by decide +kernel
theorem dX4_saving_31 : decode cX4_saving 31 = .ok (.aload_n 0, 1) := by decide +kernel
theorem dX4_saving_32 : decode cX4_saving 32 = .ok (.getfield 13, 3) := by decide +kernel
theorem dX4_saving_35 : decode cX4_saving 35 = .ok (.iload_n 2, 1) := by decide +kernel
theorem dX4_saving_36 : decode cX4_saving 36 = .ok (.iaload, 1) := by decide +kernel
theorem dX4_saving_37 : decode cX4_saving 37 = .ok (.aload_n 0, 1) := by decide +kernel
theorem dX4_saving_38 : decode cX4_saving 38 = .ok (.getfield 13, 3) := by decide +kernel
theorem dX4_saving_41 : decode cX4_saving 41 = .ok (.iload_n 1, 1) := by decide +kernel
theorem dX4_saving_42 : decode cX4_saving 42 = .ok (.iaload, 1) := by decide +kernel
theorem dX4_saving_43 : decode cX4_saving 43 = .ok (.isub, 1) := by decide +kernel
theorem dX4_saving_44 : decode cX4_saving 44 = .ok (.istore_n 3, 1) := by decide +kernel
theorem dX4_saving_45 : decode cX4_saving 45 = .ok (.iload_n 3, 1) := by decide +kernel
theorem dX4_saving_46 : decode cX4_saving 46 = .ok (.ifCond .ne 8, 3) := by decide +kernel
theorem dX4_saving_49 : decode cX4_saving 49 = .ok (.bipush 10, 2) := by decide +kernel
theorem dX4_saving_51 : decode cX4_saving 51 = .ok (.goto 13, 3) := by decide +kernel
theorem dX4_saving_54 : decode cX4_saving 54 = .ok (.iload_n 3, 1) := by decide +kernel
theorem dX4_saving_55 : decode cX4_saving 55 = .ok (.iconst 1, 1) := by decide +kernel
theorem dX4_saving_56 : decode cX4_saving 56 = .ok (.if_icmp .ne 7, 3) := by decide +kernel
theorem dX4_saving_59 : decode cX4_saving 59 = .ok (.iconst 5, 1) := by decide +kernel
theorem dX4_saving_60 : decode cX4_saving 60 = .ok (.goto 4, 3) := by decide +kernel
theorem dX4_saving_63 : decode cX4_saving 63 = .ok (.iconst 0, 1) := by decide +kernel
theorem dX4_saving_64 : decode cX4_saving 64 = .ok (.istore 4, 2) := by decide +kernel
theorem dX4_saving_66 : decode cX4_saving 66 = .ok (.iconst 0, 1) := by decide +kernel
theorem dX4_saving_67 : decode cX4_saving 67 = .ok (.istore 5, 2) := by decide +kernel
theorem dX4_saving_69 : decode cX4_saving 69 = .ok (.iload 5, 2) := by decide +kernel
theorem dX4_saving_71 : decode cX4_saving 71 = .ok (.bipush 10, 2) := by decide +kernel
theorem dX4_saving_73 : decode cX4_saving 73 = .ok (.if_icmp .ge 49, 3) := by decide +kernel
theorem dX4_saving_76 : decode cX4_saving 76 = .ok (.iload 4, 2) := by decide +kernel
theorem dX4_saving_78 : decode cX4_saving 78 = .ok (.aload_n 0, 1) := by decide +kernel
theorem dX4_saving_79 : decode cX4_saving 79 = .ok (.getfield 32, 3) := by decide +kernel
theorem dX4_saving_82 : decode cX4_saving 82 = .ok (.bipush 10, 2) := by decide +kernel
theorem dX4_saving_84 : decode cX4_saving 84 = .ok (.iload_n 1, 1) := by decide +kernel
theorem dX4_saving_85 : decode cX4_saving 85 = .ok (.imul, 1) := by decide +kernel
theorem dX4_saving_86 : decode cX4_saving 86 = .ok (.iload 5, 2) := by decide +kernel
theorem dX4_saving_88 : decode cX4_saving 88 = .ok (.iadd, 1) := by decide +kernel
theorem dX4_saving_89 : decode cX4_saving 89 = .ok (.iaload, 1) := by decide +kernel
theorem dX4_saving_90 : decode cX4_saving 90 = .ok (.ifCond .le 22, 3) := by decide +kernel
theorem dX4_saving_93 : decode cX4_saving 93 = .ok (.aload_n 0, 1) := by decide +kernel
theorem dX4_saving_94 : decode cX4_saving 94 = .ok (.getfield 32, 3) := by decide +kernel
theorem dX4_saving_97 : decode cX4_saving 97 = .ok (.bipush 10, 2) := by decide +kernel
theorem dX4_saving_99 : decode cX4_saving 99 = .ok (.iload_n 2, 1) := by decide +kernel
theorem dX4_saving_100 : decode cX4_saving 100 = .ok (.imul, 1) := by decide +kernel
theorem dX4_saving_101 : decode cX4_saving 101 = .ok (.iload 5, 2) := by decide +kernel
theorem dX4_saving_103 : decode cX4_saving 103 = .ok (.iadd, 1) := by decide +kernel
theorem dX4_saving_104 : decode cX4_saving 104 = .ok (.iaload, 1) := by decide +kernel
theorem dX4_saving_105 : decode cX4_saving 105 = .ok (.ifCond .le 7, 3) := by decide +kernel
theorem dX4_saving_108 : decode cX4_saving 108 = .ok (.iconst 3, 1) := by decide +kernel
theorem dX4_saving_109 : decode cX4_saving 109 = .ok (.goto 4, 3) := by decide +kernel
theorem dX4_saving_112 : decode cX4_saving 112 = .ok (.iconst 0, 1) := by decide +kernel
theorem dX4_saving_113 : decode cX4_saving 113 = .ok (.iadd, 1) := by decide +kernel
theorem dX4_saving_114 : decode cX4_saving 114 = .ok (.istore 4, 2) := by decide +kernel
theorem dX4_saving_116 : decode cX4_saving 116 = .ok (.iinc 5 1, 3) := by decide +kernel
theorem dX4_saving_119 : decode cX4_saving 119 = .ok (.goto (-50), 3) := by decide +kernel
theorem dX4_saving_122 : decode cX4_saving 122 = .ok (.aload_n 0, 1) := by decide +kernel
theorem dX4_saving_123 : decode cX4_saving 123 = .ok (.getfield 16, 3) := by decide +kernel
theorem dX4_saving_126 : decode cX4_saving 126 = .ok (.iload_n 1, 1) := by decide +kernel
theorem dX4_saving_127 : decode cX4_saving 127 = .ok (.iaload, 1) := by decide +kernel
theorem dX4_saving_128 : decode cX4_saving 128 = .ok (.aload_n 0, 1) := by decide +kernel
theorem dX4_saving_129 : decode cX4_saving 129 = .ok (.getfield 16, 3) := by decide +kernel
theorem dX4_saving_132 : decode cX4_saving 132 = .ok (.iload_n 2, 1) := by decide +kernel
theorem dX4_saving_133 : decode cX4_saving 133 = .ok (.iaload, 1) := by decide +kernel
theorem dX4_saving_134 : decode cX4_saving 134 = .ok (.if_icmp .ge 12, 3) := by decide +kernel
theorem dX4_saving_137 : decode cX4_saving 137 = .ok (.aload_n 0, 1) := by decide +kernel
theorem dX4_saving_138 : decode cX4_saving 138 = .ok (.getfield 16, 3) := by decide +kernel
theorem dX4_saving_141 : decode cX4_saving 141 = .ok (.iload_n 1, 1) := by decide +kernel
theorem dX4_saving_142 : decode cX4_saving 142 = .ok (.iaload, 1) := by decide +kernel
theorem dX4_saving_143 : decode cX4_saving 143 = .ok (.goto 9, 3) := by decide +kernel
theorem dX4_saving_146 : decode cX4_saving 146 = .ok (.aload_n 0, 1) := by decide +kernel
theorem dX4_saving_147 : decode cX4_saving 147 = .ok (.getfield 16, 3) := by decide +kernel
theorem dX4_saving_150 : decode cX4_saving 150 = .ok (.iload_n 2, 1) := by decide +kernel
theorem dX4_saving_151 : decode cX4_saving 151 = .ok (.iaload, 1) := by decide +kernel
theorem dX4_saving_152 : decode cX4_saving 152 = .ok (.istore 5, 2) := by decide +kernel
theorem dX4_saving_154 : decode cX4_saving 154 = .ok (.iload 4, 2) := by decide +kernel
theorem dX4_saving_156 : decode cX4_saving 156 = .ok (.iload 5, 2) := by decide +kernel
theorem dX4_saving_158 : decode cX4_saving 158 = .ok (.if_icmp .ge 8, 3) := by decide +kernel
theorem dX4_saving_161 : decode cX4_saving 161 = .ok (.iload 4, 2) := by decide +kernel
theorem dX4_saving_163 : decode cX4_saving 163 = .ok (.goto 5, 3) := by decide +kernel
theorem dX4_saving_166 : decode cX4_saving 166 = .ok (.iload 5, 2) := by decide +kernel
theorem dX4_saving_168 : decode cX4_saving 168 = .ok (.ireturn, 1) := by decide +kernel
theorem dX4_savedBy_0 : decode cX4_savedBy 0 = .ok (.iconst 0, 1) := by decide +kernel
theorem dX4_savedBy_1 : decode cX4_savedBy 1 = .ok (.istore_n 2, 1) := by decide +kernel
theorem dX4_savedBy_2 : decode cX4_savedBy 2 = .ok (.iconst 0, 1) := by decide +kernel
theorem dX4_savedBy_3 : decode cX4_savedBy 3 = .ok (.istore_n 3, 1) := by decide +kernel
theorem dX4_savedBy_4 : decode cX4_savedBy 4 = .ok (.iload_n 3, 1) := by decide +kernel
theorem dX4_savedBy_5 : decode cX4_savedBy 5 = .ok (.aload_n 0, 1) := by decide +kernel
theorem dX4_savedBy_6 : decode cX4_savedBy 6 = .ok (.getfield 67, 3) := by decide +kernel
theorem dX4_savedBy_9 : decode cX4_savedBy 9 = .ok (.if_icmp .ge 56, 3) := by decide +kernel
theorem dX4_savedBy_12 : decode cX4_savedBy 12 = .ok (.aload_n 0, 1) := by decide +kernel
theorem dX4_savedBy_13 : decode cX4_savedBy 13 = .ok (.getfield 22, 3) := by decide +kernel
theorem dX4_savedBy_16 : decode cX4_savedBy 16 = .ok (.iload_n 3, 1) := by decide +kernel
theorem dX4_savedBy_17 : decode cX4_savedBy 17 = .ok (.iaload, 1) := by decide +kernel
theorem dX4_savedBy_18 : decode cX4_savedBy 18 = .ok (.aload_n 0, 1) := by decide +kernel
theorem dX4_savedBy_19 : decode cX4_savedBy 19 = .ok (.getfield 22, 3) := by decide +kernel
theorem dX4_savedBy_22 : decode cX4_savedBy 22 = .ok (.iload_n 1, 1) := by decide +kernel
theorem dX4_savedBy_23 : decode cX4_savedBy 23 = .ok (.iaload, 1) := by decide +kernel
theorem dX4_savedBy_24 : decode cX4_savedBy 24 = .ok (.if_icmp .ne 35, 3) := by decide +kernel
theorem dX4_savedBy_27 : decode cX4_savedBy 27 = .ok (.aload_n 0, 1) := by decide +kernel
theorem dX4_savedBy_28 : decode cX4_savedBy 28 = .ok (.getfield 25, 3) := by decide +kernel
theorem dX4_savedBy_31 : decode cX4_savedBy 31 = .ok (.iload_n 3, 1) := by decide +kernel
theorem dX4_savedBy_32 : decode cX4_savedBy 32 = .ok (.iaload, 1) := by decide +kernel
theorem dX4_savedBy_33 : decode cX4_savedBy 33 = .ok (.aload_n 0, 1) := by decide +kernel
theorem dX4_savedBy_34 : decode cX4_savedBy 34 = .ok (.getfield 25, 3) := by decide +kernel
theorem dX4_savedBy_37 : decode cX4_savedBy 37 = .ok (.iload_n 1, 1) := by decide +kernel
theorem dX4_savedBy_38 : decode cX4_savedBy 38 = .ok (.iaload, 1) := by decide +kernel
theorem dX4_savedBy_39 : decode cX4_savedBy 39 = .ok (.if_icmp .ge 20, 3) := by decide +kernel
theorem dX4_savedBy_42 : decode cX4_savedBy 42 = .ok (.aload_n 0, 1) := by decide +kernel
theorem dX4_savedBy_43 : decode cX4_savedBy 43 = .ok (.iload_n 3, 1) := by decide +kernel
theorem dX4_savedBy_44 : decode cX4_savedBy 44 = .ok (.iload_n 1, 1) := by decide +kernel
theorem dX4_savedBy_45 : decode cX4_savedBy 45 = .ok (.invokevirtual 89, 3) := by decide +kernel
theorem dX4_savedBy_48 : decode cX4_savedBy 48 = .ok (.iload_n 2, 1) := by decide +kernel
theorem dX4_savedBy_49 : decode cX4_savedBy 49 = .ok (.if_icmp .le 10, 3) := by decide +kernel
theorem dX4_savedBy_52 : decode cX4_savedBy 52 = .ok (.aload_n 0, 1) := by decide +kernel
theorem dX4_savedBy_53 : decode cX4_savedBy 53 = .ok (.iload_n 3, 1) := by decide +kernel
theorem dX4_savedBy_54 : decode cX4_savedBy 54 = .ok (.iload_n 1, 1) := by decide +kernel
theorem dX4_savedBy_55 : decode cX4_savedBy 55 = .ok (.invokevirtual 89, 3) := by decide +kernel
theorem dX4_savedBy_58 : decode cX4_savedBy 58 = .ok (.istore_n 2, 1) := by decide +kernel
theorem dX4_savedBy_59 : decode cX4_savedBy 59 = .ok (.iinc 3 1, 3) := by decide +kernel
theorem dX4_savedBy_62 : decode cX4_savedBy 62 = .ok (.goto (-58), 3) := by decide +kernel
theorem dX4_savedBy_65 : decode cX4_savedBy 65 = .ok (.iload_n 2, 1) := by decide +kernel
theorem dX4_savedBy_66 : decode cX4_savedBy 66 = .ok (.ireturn, 1) := by decide +kernel
theorem dX4_savedOf_0 : decode cX4_savedOf 0 = .ok (.iconst 0, 1) := by decide +kernel
theorem dX4_savedOf_1 : decode cX4_savedOf 1 = .ok (.istore_n 2, 1) := by decide +kernel
theorem dX4_savedOf_2 : decode cX4_savedOf 2 = .ok (.iconst 0, 1) := by decide +kernel
theorem dX4_savedOf_3 : decode cX4_savedOf 3 = .ok (.istore_n 3, 1) := by decide +kernel
theorem dX4_savedOf_4 : decode cX4_savedOf 4 = .ok (.iload_n 3, 1) := by decide +kernel
theorem dX4_savedOf_5 : decode cX4_savedOf 5 = .ok (.aload_n 0, 1) := by decide +kernel
theorem dX4_savedOf_6 : decode cX4_savedOf 6 = .ok (.getfield 67, 3) := by decide +kernel
theorem dX4_savedOf_9 : decode cX4_savedOf 9 = .ok (.if_icmp .ge 31, 3) := by decide +kernel
theorem dX4_savedOf_12 : decode cX4_savedOf 12 = .ok (.iload_n 2, 1) := by decide +kernel
theorem dX4_savedOf_13 : decode cX4_savedOf 13 = .ok (.aload_n 0, 1) := by decide +kernel
theorem dX4_savedOf_14 : decode cX4_savedOf 14 = .ok (.getfield 22, 3) := by decide +kernel
theorem dX4_savedOf_17 : decode cX4_savedOf 17 = .ok (.iload_n 3, 1) := by decide +kernel
theorem dX4_savedOf_18 : decode cX4_savedOf 18 = .ok (.iaload, 1) := by decide +kernel
theorem dX4_savedOf_19 : decode cX4_savedOf 19 = .ok (.iload_n 1, 1) := by decide +kernel
theorem dX4_savedOf_20 : decode cX4_savedOf 20 = .ok (.if_icmp .ne 11, 3) := by decide +kernel
theorem dX4_savedOf_23 : decode cX4_savedOf 23 = .ok (.aload_n 0, 1) := by decide +kernel
theorem dX4_savedOf_24 : decode cX4_savedOf 24 = .ok (.iload_n 3, 1) := by decide +kernel
theorem dX4_savedOf_25 : decode cX4_savedOf 25 = .ok (.invokevirtual 93, 3) := by decide +kernel
theorem dX4_savedOf_28 : decode cX4_savedOf 28 = .ok (.goto 4, 3) := by decide +kernel
theorem dX4_savedOf_31 : decode cX4_savedOf 31 = .ok (.iconst 0, 1) := by decide +kernel
theorem dX4_savedOf_32 : decode cX4_savedOf 32 = .ok (.iadd, 1) := by decide +kernel
theorem dX4_savedOf_33 : decode cX4_savedOf 33 = .ok (.istore_n 2, 1) := by decide +kernel
theorem dX4_savedOf_34 : decode cX4_savedOf 34 = .ok (.iinc 3 1, 3) := by decide +kernel
theorem dX4_savedOf_37 : decode cX4_savedOf 37 = .ok (.goto (-33), 3) := by decide +kernel
theorem dX4_savedOf_40 : decode cX4_savedOf 40 = .ok (.iload_n 2, 1) := by decide +kernel
theorem dX4_savedOf_41 : decode cX4_savedOf 41 = .ok (.ireturn, 1) := by decide +kernel
theorem dX4_sizeOf_0 : decode cX4_sizeOf 0 = .ok (.iconst 0, 1) := by decide +kernel
theorem dX4_sizeOf_1 : decode cX4_sizeOf 1 = .ok (.istore_n 2, 1) := by decide +kernel
theorem dX4_sizeOf_2 : decode cX4_sizeOf 2 = .ok (.iconst 0, 1) := by decide +kernel
theorem dX4_sizeOf_3 : decode cX4_sizeOf 3 = .ok (.istore_n 3, 1) := by decide +kernel
theorem dX4_sizeOf_4 : decode cX4_sizeOf 4 = .ok (.iload_n 3, 1) := by decide +kernel
theorem dX4_sizeOf_5 : decode cX4_sizeOf 5 = .ok (.aload_n 0, 1) := by decide +kernel
theorem dX4_sizeOf_6 : decode cX4_sizeOf 6 = .ok (.getfield 67, 3) := by decide +kernel
theorem dX4_sizeOf_9 : decode cX4_sizeOf 9 = .ok (.if_icmp .ge 27, 3) := by decide +kernel
theorem dX4_sizeOf_12 : decode cX4_sizeOf 12 = .ok (.iload_n 2, 1) := by decide +kernel
theorem dX4_sizeOf_13 : decode cX4_sizeOf 13 = .ok (.aload_n 0, 1) := by decide +kernel
theorem dX4_sizeOf_14 : decode cX4_sizeOf 14 = .ok (.getfield 22, 3) := by decide +kernel
theorem dX4_sizeOf_17 : decode cX4_sizeOf 17 = .ok (.iload_n 3, 1) := by decide +kernel
theorem dX4_sizeOf_18 : decode cX4_sizeOf 18 = .ok (.iaload, 1) := by decide +kernel
theorem dX4_sizeOf_19 : decode cX4_sizeOf 19 = .ok (.iload_n 1, 1) := by decide +kernel
theorem dX4_sizeOf_20 : decode cX4_sizeOf 20 = .ok (.if_icmp .ne 7, 3) := by decide +kernel
theorem dX4_sizeOf_23 : decode cX4_sizeOf 23 = .ok (.iconst 1, 1) := by decide +kernel
theorem dX4_sizeOf_24 : decode cX4_sizeOf 24 = .ok (.goto 4, 3) := by decide +kernel
theorem dX4_sizeOf_27 : decode cX4_sizeOf 27 = .ok (.iconst 0, 1) := by decide +kernel
theorem dX4_sizeOf_28 : decode cX4_sizeOf 28 = .ok (.iadd, 1) := by decide +kernel
theorem dX4_sizeOf_29 : decode cX4_sizeOf 29 = .ok (.istore_n 2, 1) := by decide +kernel
theorem dX4_sizeOf_30 : decode cX4_sizeOf 30 = .ok (.iinc 3 1, 3) := by decide +kernel
theorem dX4_sizeOf_33 : decode cX4_sizeOf 33 = .ok (.goto (-29), 3) := by decide +kernel
theorem dX4_sizeOf_36 : decode cX4_sizeOf 36 = .ok (.iload_n 2, 1) := by decide +kernel
theorem dX4_sizeOf_37 : decode cX4_sizeOf 37 = .ok (.ireturn, 1) := by decide +kernel
theorem dX4_secondsOf_0 : decode cX4_secondsOf 0 = .ok (.iconst 0, 1) := by decide +kernel
theorem dX4_secondsOf_1 : decode cX4_secondsOf 1 = .ok (.istore_n 2, 1) := by decide +kernel
theorem dX4_secondsOf_2 : decode cX4_secondsOf 2 = .ok (.iconst 0, 1) := by decide +kernel
theorem dX4_secondsOf_3 : decode cX4_secondsOf 3 = .ok (.istore_n 3, 1) := by decide +kernel
theorem dX4_secondsOf_4 : decode cX4_secondsOf 4 = .ok (.iload_n 3, 1) := by decide +kernel
theorem dX4_secondsOf_5 : decode cX4_secondsOf 5 = .ok (.aload_n 0, 1) := by decide +kernel
theorem dX4_secondsOf_6 : decode cX4_secondsOf 6 = .ok (.getfield 67, 3) := by decide +kernel
theorem dX4_secondsOf_9 : decode cX4_secondsOf 9 = .ok (.if_icmp .ge 32, 3) := by decide +kernel
theorem dX4_secondsOf_12 : decode cX4_secondsOf 12 = .ok (.iload_n 2, 1) := by decide +kernel
theorem dX4_secondsOf_13 : decode cX4_secondsOf 13 = .ok (.aload_n 0, 1) := by decide +kernel
theorem dX4_secondsOf_14 : decode cX4_secondsOf 14 = .ok (.getfield 22, 3) := by decide +kernel
theorem dX4_secondsOf_17 : decode cX4_secondsOf 17 = .ok (.iload_n 3, 1) := by decide +kernel
theorem dX4_secondsOf_18 : decode cX4_secondsOf 18 = .ok (.iaload, 1) := by decide +kernel
theorem dX4_secondsOf_19 : decode cX4_secondsOf 19 = .ok (.iload_n 1, 1) := by decide +kernel
theorem dX4_secondsOf_20 : decode cX4_secondsOf 20 = .ok (.if_icmp .ne 12, 3) := by decide +kernel
theorem dX4_secondsOf_23 : decode cX4_secondsOf 23 = .ok (.aload_n 0, 1) := by decide +kernel
theorem dX4_secondsOf_24 : decode cX4_secondsOf 24 = .ok (.getfield 16, 3) := by decide +kernel
theorem dX4_secondsOf_27 : decode cX4_secondsOf 27 = .ok (.iload_n 3, 1) := by decide +kernel
theorem dX4_secondsOf_28 : decode cX4_secondsOf 28 = .ok (.iaload, 1) := by decide +kernel
theorem dX4_secondsOf_29 : decode cX4_secondsOf 29 = .ok (.goto 4, 3) := by decide +kernel
theorem dX4_secondsOf_32 : decode cX4_secondsOf 32 = .ok (.iconst 0, 1) := by decide +kernel
theorem dX4_secondsOf_33 : decode cX4_secondsOf 33 = .ok (.iadd, 1) := by decide +kernel
theorem dX4_secondsOf_34 : decode cX4_secondsOf 34 = .ok (.istore_n 2, 1) := by decide +kernel
theorem dX4_secondsOf_35 : decode cX4_secondsOf 35 = .ok (.iinc 3 1, 3) := by decide +kernel
theorem dX4_secondsOf_38 : decode cX4_secondsOf 38 = .ok (.goto (-34), 3) := by decide +kernel
theorem dX4_secondsOf_41 : decode cX4_secondsOf 41 = .ok (.iload_n 2, 1) := by decide +kernel
theorem dX4_secondsOf_42 : decode cX4_secondsOf 42 = .ok (.aload_n 0, 1) := by decide +kernel
theorem dX4_secondsOf_43 : decode cX4_secondsOf 43 = .ok (.iload_n 1, 1) := by decide +kernel
theorem dX4_secondsOf_44 : decode cX4_secondsOf 44 = .ok (.invokevirtual 96, 3) := by decide +kernel
theorem dX4_secondsOf_47 : decode cX4_secondsOf 47 = .ok (.isub, 1) := by decide +kernel
theorem dX4_secondsOf_48 : decode cX4_secondsOf 48 = .ok (.ireturn, 1) := by decide +kernel
theorem dX4_isWave_0 : decode cX4_isWave 0 = .ok (.iload_n 1, 1) := by decide +kernel
theorem dX4_isWave_1 : decode cX4_isWave 1 = .ok (.iconst 1, 1) := by decide +kernel
theorem dX4_isWave_2 : decode cX4_isWave 2 = .ok (.aload_n 0, 1) := by decide +kernel
theorem dX4_isWave_3 : decode cX4_isWave 3 = .ok (.getfield 99, 3) := by decide +kernel
theorem dX4_isWave_6 : decode cX4_isWave 6 = .ok (.invokestatic 70, 3) := by decide +kernel
theorem dX4_isWave_9 : decode cX4_isWave 9 = .ok (.ifCond .eq 15, 3) := by decide +kernel
theorem dX4_isWave_12 : decode cX4_isWave 12 = .ok (.aload_n 0, 1) := by decide +kernel
theorem dX4_isWave_13 : decode cX4_isWave 13 = .ok (.iload_n 1, 1) := by decide +kernel
theorem dX4_isWave_14 : decode cX4_isWave 14 = .ok (.invokevirtual 102, 3) := by decide +kernel
theorem dX4_isWave_17 : decode cX4_isWave 17 = .ok (.ifCond .le 7, 3) := by decide +kernel
theorem dX4_isWave_20 : decode cX4_isWave 20 = .ok (.iconst 1, 1) := by decide +kernel
theorem dX4_isWave_21 : decode cX4_isWave 21 = .ok (.goto 4, 3) := by decide +kernel
theorem dX4_isWave_24 : decode cX4_isWave 24 = .ok (.iconst 0, 1) := by decide +kernel
theorem dX4_isWave_25 : decode cX4_isWave 25 = .ok (.ireturn, 1) := by decide +kernel
theorem dX4_isOpen_0 : decode cX4_isOpen 0 = .ok (.aload_n 0, 1) := by decide +kernel
theorem dX4_isOpen_1 : decode cX4_isOpen 1 = .ok (.getfield 22, 3) := by decide +kernel
theorem dX4_isOpen_4 : decode cX4_isOpen 4 = .ok (.iload_n 1, 1) := by decide +kernel
theorem dX4_isOpen_5 : decode cX4_isOpen 5 = .ok (.iaload, 1) := by decide +kernel
theorem dX4_isOpen_6 : decode cX4_isOpen 6 = .ok (.ifCond .ne 35, 3) := by decide +kernel
theorem dX4_isOpen_9 : decode cX4_isOpen 9 = .ok (.aload_n 0, 1) := by decide +kernel
theorem dX4_isOpen_10 : decode cX4_isOpen 10 = .ok (.getfield 50, 3) := by decide +kernel
theorem dX4_isOpen_13 : decode cX4_isOpen 13 = .ok (.iload_n 1, 1) := by decide +kernel
theorem dX4_isOpen_14 : decode cX4_isOpen 14 = .ok (.iaload, 1) := by decide +kernel
theorem dX4_isOpen_15 : decode cX4_isOpen 15 = .ok (.ifCond .ne 26, 3) := by decide +kernel
theorem dX4_isOpen_18 : decode cX4_isOpen 18 = .ok (.aload_n 0, 1) := by decide +kernel
theorem dX4_isOpen_19 : decode cX4_isOpen 19 = .ok (.aload_n 0, 1) := by decide +kernel
theorem dX4_isOpen_20 : decode cX4_isOpen 20 = .ok (.getfield 19, 3) := by decide +kernel
theorem dX4_isOpen_23 : decode cX4_isOpen 23 = .ok (.iload_n 1, 1) := by decide +kernel
theorem dX4_isOpen_24 : decode cX4_isOpen 24 = .ok (.iaload, 1) := by decide +kernel
theorem dX4_isOpen_25 : decode cX4_isOpen 25 = .ok (.aload_n 0, 1) := by decide +kernel
theorem dX4_isOpen_26 : decode cX4_isOpen 26 = .ok (.getfield 7, 3) := by decide +kernel
theorem dX4_isOpen_29 : decode cX4_isOpen 29 = .ok (.iload_n 1, 1) := by decide +kernel
theorem dX4_isOpen_30 : decode cX4_isOpen 30 = .ok (.iaload, 1) := by decide +kernel
theorem dX4_isOpen_31 : decode cX4_isOpen 31 = .ok (.invokevirtual 105, 3) := by decide +kernel
theorem dX4_isOpen_34 : decode cX4_isOpen 34 = .ok (.ifCond .eq 7, 3) := by decide +kernel
theorem dX4_isOpen_37 : decode cX4_isOpen 37 = .ok (.iconst 1, 1) := by decide +kernel
theorem dX4_isOpen_38 : decode cX4_isOpen 38 = .ok (.goto 4, 3) := by decide +kernel
theorem dX4_isOpen_41 : decode cX4_isOpen 41 = .ok (.iconst 0, 1) := by decide +kernel
theorem dX4_isOpen_42 : decode cX4_isOpen 42 = .ok (.ireturn, 1) := by decide +kernel
theorem dX4_isEarlier_0 : decode cX4_isEarlier 0 = .ok (.iload_n 2, 1) := by decide +kernel
theorem dX4_isEarlier_1 : decode cX4_isEarlier 1 = .ok (.iconst (-1), 1) := by decide +kernel
theorem dX4_isEarlier_2 : decode cX4_isEarlier 2 = .ok (.if_icmp .eq 38, 3) := by decide +kernel
theorem dX4_isEarlier_5 : decode cX4_isEarlier 5 = .ok (.aload_n 0, 1) := by decide +kernel
theorem dX4_isEarlier_6 : decode cX4_isEarlier 6 = .ok (.getfield 7, 3) := by decide +kernel
theorem dX4_isEarlier_9 : decode cX4_isEarlier 9 = .ok (.iload_n 1, 1) := by decide +kernel
theorem dX4_isEarlier_10 : decode cX4_isEarlier 10 = .ok (.iaload, 1) := by decide +kernel
theorem dX4_isEarlier_11 : decode cX4_isEarlier 11 = .ok (.aload_n 0, 1) := by decide +kernel
theorem dX4_isEarlier_12 : decode cX4_isEarlier 12 = .ok (.getfield 7, 3) := by decide +kernel
theorem dX4_isEarlier_15 : decode cX4_isEarlier 15 = .ok (.iload_n 2, 1) := by decide +kernel
theorem dX4_isEarlier_16 : decode cX4_isEarlier 16 = .ok (.iaload, 1) := by decide +kernel
theorem dX4_isEarlier_17 : decode cX4_isEarlier 17 = .ok (.if_icmp .lt 23, 3) := by decide +kernel
theorem dX4_isEarlier_20 : decode cX4_isEarlier 20 = .ok (.aload_n 0, 1) := by decide +kernel
theorem dX4_isEarlier_21 : decode cX4_isEarlier 21 = .ok (.getfield 7, 3) := by decide +kernel
theorem dX4_isEarlier_24 : decode cX4_isEarlier 24 = .ok (.iload_n 1, 1) := by decide +kernel
theorem dX4_isEarlier_25 : decode cX4_isEarlier 25 = .ok (.iaload, 1) := by decide +kernel
theorem dX4_isEarlier_26 : decode cX4_isEarlier 26 = .ok (.aload_n 0, 1) := by decide +kernel
theorem dX4_isEarlier_27 : decode cX4_isEarlier 27 = .ok (.getfield 7, 3) := by decide +kernel
theorem dX4_isEarlier_30 : decode cX4_isEarlier 30 = .ok (.iload_n 2, 1) := by decide +kernel
theorem dX4_isEarlier_31 : decode cX4_isEarlier 31 = .ok (.iaload, 1) := by decide +kernel
theorem dX4_isEarlier_32 : decode cX4_isEarlier 32 = .ok (.if_icmp .ne 12, 3) := by decide +kernel
theorem dX4_isEarlier_35 : decode cX4_isEarlier 35 = .ok (.iload_n 1, 1) := by decide +kernel
theorem dX4_isEarlier_36 : decode cX4_isEarlier 36 = .ok (.iload_n 2, 1) := by decide +kernel
theorem dX4_isEarlier_37 : decode cX4_isEarlier 37 = .ok (.if_icmp .ge 7, 3) := by decide +kernel
theorem dX4_isEarlier_40 : decode cX4_isEarlier 40 = .ok (.iconst 1, 1) := by decide +kernel
theorem dX4_isEarlier_41 : decode cX4_isEarlier 41 = .ok (.goto 4, 3) := by decide +kernel
theorem dX4_isEarlier_44 : decode cX4_isEarlier 44 = .ok (.iconst 0, 1) := by decide +kernel
theorem dX4_isEarlier_45 : decode cX4_isEarlier 45 = .ok (.ireturn, 1) := by decide +kernel
theorem dX4_plan_0 : decode cX4_plan 0 = .ok (.aload_n 0, 1) := by decide +kernel
theorem dX4_plan_1 : decode cX4_plan 1 = .ok (.getfield 99, 3) := by decide +kernel
theorem dX4_plan_4 : decode cX4_plan 4 = .ok (.istore_n 1, 1) := by decide +kernel
theorem dX4_plan_5 : decode cX4_plan 5 = .ok (.aload_n 0, 1) := by decide +kernel
theorem dX4_plan_6 : decode cX4_plan 6 = .ok (.getfield 109, 3) := by decide +kernel
theorem dX4_plan_9 : decode cX4_plan 9 = .ok (.istore_n 2, 1) := by decide +kernel
theorem dX4_plan_10 : decode cX4_plan 10 = .ok (.iconst 0, 1) := by decide +kernel
theorem dX4_plan_11 : decode cX4_plan 11 = .ok (.istore_n 3, 1) := by decide +kernel
theorem dX4_plan_12 : decode cX4_plan 12 = .ok (.iconst 0, 1) := by decide +kernel
theorem dX4_plan_13 : decode cX4_plan 13 = .ok (.istore 4, 2) := by decide +kernel
theorem dX4_plan_15 : decode cX4_plan 15 = .ok (.iload 4, 2) := by decide +kernel
theorem dX4_plan_17 : decode cX4_plan 17 = .ok (.aload_n 0, 1) := by decide +kernel
theorem dX4_plan_18 : decode cX4_plan 18 = .ok (.getfield 67, 3) := by decide +kernel
theorem dX4_plan_21 : decode cX4_plan 21 = .ok (.if_icmp .ge 25, 3) := by decide +kernel
theorem dX4_plan_24 : decode cX4_plan 24 = .ok (.aload_n 0, 1) := by decide +kernel
theorem dX4_plan_25 : decode cX4_plan 25 = .ok (.getfield 50, 3) := by decide +kernel
theorem dX4_plan_28 : decode cX4_plan 28 = .ok (.iload 4, 2) := by decide +kernel
theorem dX4_plan_30 : decode cX4_plan 30 = .ok (.iconst 0, 1) := by decide +kernel
theorem dX4_plan_31 : decode cX4_plan 31 = .ok (.iastore, 1) := by decide +kernel
theorem dX4_plan_32 : decode cX4_plan 32 = .ok (.aload_n 0, 1) := by decide +kernel
theorem dX4_plan_33 : decode cX4_plan 33 = .ok (.getfield 56, 3) := by decide +kernel
theorem dX4_plan_36 : decode cX4_plan 36 = .ok (.iload 4, 2) := by decide +kernel
theorem dX4_plan_38 : decode cX4_plan 38 = .ok (.iconst 0, 1) := by decide +kernel
theorem dX4_plan_39 : decode cX4_plan 39 = .ok (.bastore, 1) := by decide +kernel
theorem dX4_plan_40 : decode cX4_plan 40 = .ok (.iinc 4 1, 3) := by decide +kernel
theorem dX4_plan_43 : decode cX4_plan 43 = .ok (.goto (-28), 3) := by decide +kernel
theorem dX4_plan_46 : decode cX4_plan 46 = .ok (.aload_n 0, 1) := by decide +kernel
theorem dX4_plan_47 : decode cX4_plan 47 = .ok (.invokevirtual 112, 3) := by decide +kernel
theorem dX4_plan_50 : decode cX4_plan 50 = .ok (.istore 4, 2) := by decide +kernel
theorem dX4_plan_52 : decode cX4_plan 52 = .ok (.iload 4, 2) := by decide +kernel
theorem dX4_plan_54 : decode cX4_plan 54 = .ok (.iconst (-1), 1) := by decide +kernel
theorem dX4_plan_55 : decode cX4_plan 55 = .ok (.if_icmp .eq 57, 3) := by decide +kernel
theorem dX4_plan_58 : decode cX4_plan 58 = .ok (.aload_n 0, 1) := by decide +kernel
theorem dX4_plan_59 : decode cX4_plan 59 = .ok (.getfield 56, 3) := by decide +kernel
theorem dX4_plan_62 : decode cX4_plan 62 = .ok (.iload 4, 2) := by decide +kernel
theorem dX4_plan_64 : decode cX4_plan 64 = .ok (.iconst 1, 1) := by decide +kernel
theorem dX4_plan_65 : decode cX4_plan 65 = .ok (.bastore, 1) := by decide +kernel
theorem dX4_plan_66 : decode cX4_plan 66 = .ok (.aload_n 0, 1) := by decide +kernel
theorem dX4_plan_67 : decode cX4_plan 67 = .ok (.getfield 16, 3) := by decide +kernel
theorem dX4_plan_70 : decode cX4_plan 70 = .ok (.iload 4, 2) := by decide +kernel
theorem dX4_plan_72 : decode cX4_plan 72 = .ok (.iaload, 1) := by decide +kernel
theorem dX4_plan_73 : decode cX4_plan 73 = .ok (.aload_n 0, 1) := by decide +kernel
theorem dX4_plan_74 : decode cX4_plan 74 = .ok (.getfield 60, 3) := by decide +kernel
theorem dX4_plan_77 : decode cX4_plan 77 = .ok (.if_icmp .le 6, 3) := by decide +kernel
theorem dX4_plan_80 : decode cX4_plan 80 = .ok (.goto 23, 3) := by decide +kernel
theorem dX4_plan_83 : decode cX4_plan 83 = .ok (.iinc 1 1, 3) := by decide +kernel
theorem dX4_plan_86 : decode cX4_plan 86 = .ok (.aload_n 0, 1) := by decide +kernel
theorem dX4_plan_87 : decode cX4_plan 87 = .ok (.iload 4, 2) := by decide +kernel
theorem dX4_plan_89 : decode cX4_plan 89 = .ok (.iload_n 1, 1) := by decide +kernel
theorem dX4_plan_90 : decode cX4_plan 90 = .ok (.invokevirtual 116, 3) := by decide +kernel
theorem dX4_plan_93 : decode cX4_plan 93 = .ok (.iload_n 3, 1) := by decide +kernel
theorem dX4_plan_94 : decode cX4_plan 94 = .ok (.aload_n 0, 1) := by decide +kernel
theorem dX4_plan_95 : decode cX4_plan 95 = .ok (.iload 4, 2) := by decide +kernel
theorem dX4_plan_97 : decode cX4_plan 97 = .ok (.iload_n 1, 1) := by decide +kernel
theorem dX4_plan_98 : decode cX4_plan 98 = .ok (.invokevirtual 120, 3) := by decide +kernel
theorem dX4_plan_101 : decode cX4_plan 101 = .ok (.iadd, 1) := by decide +kernel
theorem dX4_plan_102 : decode cX4_plan 102 = .ok (.istore_n 3, 1) := by decide +kernel
theorem dX4_plan_103 : decode cX4_plan 103 = .ok (.aload_n 0, 1) := by decide +kernel
theorem dX4_plan_104 : decode cX4_plan 104 = .ok (.invokevirtual 112, 3) := by decide +kernel
theorem dX4_plan_107 : decode cX4_plan 107 = .ok (.istore 4, 2) := by decide +kernel
theorem dX4_plan_109 : decode cX4_plan 109 = .ok (.goto (-57), 3) := by decide +kernel
theorem dX4_plan_112 : decode cX4_plan 112 = .ok (.aload_n 0, 1) := by decide +kernel
theorem dX4_plan_113 : decode cX4_plan 113 = .ok (.iload_n 1, 1) := by decide +kernel
theorem dX4_plan_114 : decode cX4_plan 114 = .ok (.bipush 16, 2) := by decide +kernel
theorem dX4_plan_116 : decode cX4_plan 116 = .ok (.if_icmp .le 7, 3) := by decide +kernel
theorem dX4_plan_119 : decode cX4_plan 119 = .ok (.iconst 1, 1) := by decide +kernel
theorem dX4_plan_120 : decode cX4_plan 120 = .ok (.goto 4, 3) := by decide +kernel
theorem dX4_plan_123 : decode cX4_plan 123 = .ok (.iconst 0, 1) := by decide +kernel
theorem dX4_plan_124 : decode cX4_plan 124 = .ok (.putfield 64, 3) := by decide +kernel
theorem dX4_plan_127 : decode cX4_plan 127 = .ok (.aload_n 0, 1) := by decide +kernel
theorem dX4_plan_128 : decode cX4_plan 128 = .ok (.getfield 64, 3) := by decide +kernel
theorem dX4_plan_131 : decode cX4_plan 131 = .ok (.ifCond .le 10, 3) := by decide +kernel
theorem dX4_plan_134 : decode cX4_plan 134 = .ok (.aload_n 0, 1) := by decide +kernel
theorem dX4_plan_135 : decode cX4_plan 135 = .ok (.iload_n 2, 1) := by decide +kernel
theorem dX4_plan_136 : decode cX4_plan 136 = .ok (.putfield 109, 3) := by decide +kernel
theorem dX4_plan_139 : decode cX4_plan 139 = .ok (.iconst 0, 1) := by decide +kernel
theorem dX4_plan_140 : decode cX4_plan 140 = .ok (.ireturn, 1) := by decide +kernel
theorem dX4_plan_141 : decode cX4_plan 141 = .ok (.iconst 0, 1) := by decide +kernel
theorem dX4_plan_142 : decode cX4_plan 142 = .ok (.istore 4, 2) := by decide +kernel
theorem dX4_plan_144 : decode cX4_plan 144 = .ok (.iload 4, 2) := by decide +kernel
theorem dX4_plan_146 : decode cX4_plan 146 = .ok (.aload_n 0, 1) := by decide +kernel
theorem dX4_plan_147 : decode cX4_plan 147 = .ok (.getfield 67, 3) := by decide +kernel
theorem dX4_plan_150 : decode cX4_plan 150 = .ok (.if_icmp .ge 50, 3) := by decide +kernel
theorem dX4_plan_153 : decode cX4_plan 153 = .ok (.aload_n 0, 1) := by decide +kernel
theorem dX4_plan_154 : decode cX4_plan 154 = .ok (.getfield 50, 3) := by decide +kernel
theorem dX4_plan_157 : decode cX4_plan 157 = .ok (.iload 4, 2) := by decide +kernel
theorem dX4_plan_159 : decode cX4_plan 159 = .ok (.iaload, 1) := by decide +kernel
theorem dX4_plan_160 : decode cX4_plan 160 = .ok (.ifCond .ne 6, 3) := by decide +kernel
theorem dX4_plan_163 : decode cX4_plan 163 = .ok (.goto 31, 3) := by decide +kernel
theorem dX4_plan_166 : decode cX4_plan 166 = .ok (.aload_n 0, 1) := by decide +kernel
theorem dX4_plan_167 : decode cX4_plan 167 = .ok (.getfield 22, 3) := by decide +kernel
theorem dX4_plan_170 : decode cX4_plan 170 = .ok (.iload 4, 2) := by decide +kernel
theorem dX4_plan_172 : decode cX4_plan 172 = .ok (.aload_n 0, 1) := by decide +kernel
theorem dX4_plan_173 : decode cX4_plan 173 = .ok (.getfield 50, 3) := by decide +kernel
theorem dX4_plan_176 : decode cX4_plan 176 = .ok (.iload 4, 2) := by decide +kernel
theorem dX4_plan_178 : decode cX4_plan 178 = .ok (.iaload, 1) := by decide +kernel
theorem dX4_plan_179 : decode cX4_plan 179 = .ok (.iastore, 1) := by decide +kernel
theorem dX4_plan_180 : decode cX4_plan 180 = .ok (.aload_n 0, 1) := by decide +kernel
theorem dX4_plan_181 : decode cX4_plan 181 = .ok (.getfield 25, 3) := by decide +kernel
theorem dX4_plan_184 : decode cX4_plan 184 = .ok (.iload 4, 2) := by decide +kernel
theorem dX4_plan_186 : decode cX4_plan 186 = .ok (.aload_n 0, 1) := by decide +kernel
theorem dX4_plan_187 : decode cX4_plan 187 = .ok (.getfield 53, 3) := by decide +kernel
theorem dX4_plan_190 : decode cX4_plan 190 = .ok (.iload 4, 2) := by decide +kernel
theorem dX4_plan_192 : decode cX4_plan 192 = .ok (.iaload, 1) := by decide +kernel
theorem dX4_plan_193 : decode cX4_plan 193 = .ok (.iastore, 1) := by decide +kernel
theorem dX4_plan_194 : decode cX4_plan 194 = .ok (.iinc 4 1, 3) := by decide +kernel
theorem dX4_plan_197 : decode cX4_plan 197 = .ok (.goto (-53), 3) := by decide +kernel
theorem dX4_plan_200 : decode cX4_plan 200 = .ok (.aload_n 0, 1) := by decide +kernel
theorem dX4_plan_201 : decode cX4_plan 201 = .ok (.iload_n 1, 1) := by decide +kernel
theorem dX4_plan_202 : decode cX4_plan 202 = .ok (.putfield 99, 3) := by decide +kernel
theorem dX4_plan_205 : decode cX4_plan 205 = .ok (.iload_n 3, 1) := by decide +kernel
theorem dX4_plan_206 : decode cX4_plan 206 = .ok (.ireturn, 1) := by decide +kernel
theorem dX4_begin_0 : decode cX4_begin 0 = .ok (.iconst (-1), 1) := by decide +kernel
theorem dX4_begin_1 : decode cX4_begin 1 = .ok (.istore_n 1, 1) := by decide +kernel
theorem dX4_begin_2 : decode cX4_begin 2 = .ok (.iconst 0, 1) := by decide +kernel
theorem dX4_begin_3 : decode cX4_begin 3 = .ok (.istore_n 2, 1) := by decide +kernel
theorem dX4_begin_4 : decode cX4_begin 4 = .ok (.iload_n 2, 1) := by decide +kernel
theorem dX4_begin_5 : decode cX4_begin 5 = .ok (.aload_n 0, 1) := by decide +kernel
theorem dX4_begin_6 : decode cX4_begin 6 = .ok (.getfield 67, 3) := by decide +kernel
theorem dX4_begin_9 : decode cX4_begin 9 = .ok (.if_icmp .ge 37, 3) := by decide +kernel
theorem dX4_begin_12 : decode cX4_begin 12 = .ok (.aload_n 0, 1) := by decide +kernel
theorem dX4_begin_13 : decode cX4_begin 13 = .ok (.iload_n 2, 1) := by decide +kernel
theorem dX4_begin_14 : decode cX4_begin 14 = .ok (.invokevirtual 123, 3) := by decide +kernel
theorem dX4_begin_17 : decode cX4_begin 17 = .ok (.ifCond .eq 23, 3) := by decide +kernel
theorem dX4_begin_20 : decode cX4_begin 20 = .ok (.aload_n 0, 1) := by decide +kernel
theorem dX4_begin_21 : decode cX4_begin 21 = .ok (.getfield 56, 3) := by decide +kernel
theorem dX4_begin_24 : decode cX4_begin 24 = .ok (.iload_n 2, 1) := by decide +kernel
theorem dX4_begin_25 : decode cX4_begin 25 = .ok (.baload, 1) := by decide +kernel
theorem dX4_begin_26 : decode cX4_begin 26 = .ok (.ifCond .ne 14, 3) := by decide +kernel
theorem dX4_begin_29 : decode cX4_begin 29 = .ok (.aload_n 0, 1) := by decide +kernel
theorem dX4_begin_30 : decode cX4_begin 30 = .ok (.iload_n 2, 1) := by decide +kernel
theorem dX4_begin_31 : decode cX4_begin 31 = .ok (.iload_n 1, 1) := by decide +kernel
theorem dX4_begin_32 : decode cX4_begin 32 = .ok (.invokevirtual 126, 3) := by decide +kernel
theorem dX4_begin_35 : decode cX4_begin 35 = .ok (.ifCond .eq 5, 3) := by decide +kernel
theorem dX4_begin_38 : decode cX4_begin 38 = .ok (.iload_n 2, 1) := by decide +kernel
theorem dX4_begin_39 : decode cX4_begin 39 = .ok (.istore_n 1, 1) := by decide +kernel
theorem dX4_begin_40 : decode cX4_begin 40 = .ok (.iinc 2 1, 3) := by decide +kernel
theorem dX4_begin_43 : decode cX4_begin 43 = .ok (.goto (-39), 3) := by decide +kernel
theorem dX4_begin_46 : decode cX4_begin 46 = .ok (.iload_n 1, 1) := by decide +kernel
theorem dX4_begin_47 : decode cX4_begin 47 = .ok (.ireturn, 1) := by decide +kernel
theorem dX4_put_0 : decode cX4_put 0 = .ok (.aload_n 0, 1) := by decide +kernel
theorem dX4_put_1 : decode cX4_put 1 = .ok (.getfield 50, 3) := by decide +kernel
theorem dX4_put_4 : decode cX4_put 4 = .ok (.iload_n 1, 1) := by decide +kernel
theorem dX4_put_5 : decode cX4_put 5 = .ok (.iload_n 2, 1) := by decide +kernel
theorem dX4_put_6 : decode cX4_put 6 = .ok (.iastore, 1) := by decide +kernel
theorem dX4_put_7 : decode cX4_put 7 = .ok (.aload_n 0, 1) := by decide +kernel
theorem dX4_put_8 : decode cX4_put 8 = .ok (.getfield 53, 3) := by decide +kernel
theorem dX4_put_11 : decode cX4_put 11 = .ok (.iload_n 1, 1) := by decide +kernel
theorem dX4_put_12 : decode cX4_put 12 = .ok (.aload_n 0, 1) := by decide +kernel
theorem dX4_put_13 : decode cX4_put 13 = .ok (.getfield 109, 3) := by decide +kernel
theorem dX4_put_16 : decode cX4_put 16 = .ok (.iastore, 1) := by decide +kernel
theorem dX4_put_17 : decode cX4_put 17 = .ok (.aload_n 0, 1) := by decide +kernel
theorem dX4_put_18 : decode cX4_put 18 = .ok (.dup, 1) := by decide +kernel
theorem dX4_put_19 : decode cX4_put 19 = .ok (.getfield 109, 3) := by decide +kernel
theorem dX4_put_22 : decode cX4_put 22 = .ok (.iconst 1, 1) := by decide +kernel
theorem dX4_put_23 : decode cX4_put 23 = .ok (.iadd, 1) := by decide +kernel
theorem dX4_put_24 : decode cX4_put 24 = .ok (.putfield 109, 3) := by decide +kernel
theorem dX4_put_27 : decode cX4_put 27 = .ok (.return_, 1) := by decide +kernel
theorem dX4_fill_0 : decode cX4_fill 0 = .ok (.aload_n 0, 1) := by decide +kernel
theorem dX4_fill_1 : decode cX4_fill 1 = .ok (.getfield 16, 3) := by decide +kernel
theorem dX4_fill_4 : decode cX4_fill 4 = .ok (.iload_n 1, 1) := by decide +kernel
theorem dX4_fill_5 : decode cX4_fill 5 = .ok (.iaload, 1) := by decide +kernel
theorem dX4_fill_6 : decode cX4_fill 6 = .ok (.istore_n 3, 1) := by decide +kernel
theorem dX4_fill_7 : decode cX4_fill 7 = .ok (.iconst 0, 1) := by decide +kernel
theorem dX4_fill_8 : decode cX4_fill 8 = .ok (.istore 4, 2) := by decide +kernel
theorem dX4_fill_10 : decode cX4_fill 10 = .ok (.aload_n 0, 1) := by decide +kernel
theorem dX4_fill_11 : decode cX4_fill 11 = .ok (.iload_n 2, 1) := by decide +kernel
theorem dX4_fill_12 : decode cX4_fill 12 = .ok (.aload_n 0, 1) := by decide +kernel
theorem dX4_fill_13 : decode cX4_fill 13 = .ok (.getfield 19, 3) := by decide +kernel
theorem dX4_fill_16 : decode cX4_fill 16 = .ok (.iload_n 1, 1) := by decide +kernel
theorem dX4_fill_17 : decode cX4_fill 17 = .ok (.iaload, 1) := by decide +kernel
theorem dX4_fill_18 : decode cX4_fill 18 = .ok (.iload_n 3, 1) := by decide +kernel
theorem dX4_fill_19 : decode cX4_fill 19 = .ok (.invokevirtual 129, 3) := by decide +kernel
theorem dX4_fill_22 : decode cX4_fill 22 = .ok (.istore 5, 2) := by decide +kernel
theorem dX4_fill_24 : decode cX4_fill 24 = .ok (.iload 5, 2) := by decide +kernel
theorem dX4_fill_26 : decode cX4_fill 26 = .ok (.iconst (-1), 1) := by decide +kernel
theorem dX4_fill_27 : decode cX4_fill 27 = .ok (.if_icmp .eq 56, 3) := by decide +kernel
theorem dX4_fill_30 : decode cX4_fill 30 = .ok (.aload_n 0, 1) := by decide +kernel
theorem dX4_fill_31 : decode cX4_fill 31 = .ok (.iload 5, 2) := by decide +kernel
theorem dX4_fill_33 : decode cX4_fill 33 = .ok (.iload_n 2, 1) := by decide +kernel
theorem dX4_fill_34 : decode cX4_fill 34 = .ok (.invokevirtual 133, 3) := by decide +kernel
theorem dX4_fill_37 : decode cX4_fill 37 = .ok (.istore 6, 2) := by decide +kernel
theorem dX4_fill_39 : decode cX4_fill 39 = .ok (.aload_n 0, 1) := by decide +kernel
theorem dX4_fill_40 : decode cX4_fill 40 = .ok (.iload 5, 2) := by decide +kernel
theorem dX4_fill_42 : decode cX4_fill 42 = .ok (.iload_n 2, 1) := by decide +kernel
theorem dX4_fill_43 : decode cX4_fill 43 = .ok (.invokevirtual 116, 3) := by decide +kernel
theorem dX4_fill_46 : decode cX4_fill 46 = .ok (.iload_n 3, 1) := by decide +kernel
theorem dX4_fill_47 : decode cX4_fill 47 = .ok (.aload_n 0, 1) := by decide +kernel
theorem dX4_fill_48 : decode cX4_fill 48 = .ok (.getfield 16, 3) := by decide +kernel
theorem dX4_fill_51 : decode cX4_fill 51 = .ok (.iload 5, 2) := by decide +kernel
theorem dX4_fill_53 : decode cX4_fill 53 = .ok (.iaload, 1) := by decide +kernel
theorem dX4_fill_54 : decode cX4_fill 54 = .ok (.iload 6, 2) := by decide +kernel
theorem dX4_fill_56 : decode cX4_fill 56 = .ok (.isub, 1) := by decide +kernel
theorem dX4_fill_57 : decode cX4_fill 57 = .ok (.iadd, 1) := by decide +kernel
theorem dX4_fill_58 : decode cX4_fill 58 = .ok (.istore_n 3, 1) := by decide +kernel
theorem dX4_fill_59 : decode cX4_fill 59 = .ok (.iload 4, 2) := by decide +kernel
theorem dX4_fill_61 : decode cX4_fill 61 = .ok (.iload 6, 2) := by decide +kernel
theorem dX4_fill_63 : decode cX4_fill 63 = .ok (.iadd, 1) := by decide +kernel
theorem dX4_fill_64 : decode cX4_fill 64 = .ok (.istore 4, 2) := by decide +kernel
theorem dX4_fill_66 : decode cX4_fill 66 = .ok (.aload_n 0, 1) := by decide +kernel
theorem dX4_fill_67 : decode cX4_fill 67 = .ok (.iload_n 2, 1) := by decide +kernel
theorem dX4_fill_68 : decode cX4_fill 68 = .ok (.aload_n 0, 1) := by decide +kernel
theorem dX4_fill_69 : decode cX4_fill 69 = .ok (.getfield 19, 3) := by decide +kernel
theorem dX4_fill_72 : decode cX4_fill 72 = .ok (.iload_n 1, 1) := by decide +kernel
theorem dX4_fill_73 : decode cX4_fill 73 = .ok (.iaload, 1) := by decide +kernel
theorem dX4_fill_74 : decode cX4_fill 74 = .ok (.iload_n 3, 1) := by decide +kernel
theorem dX4_fill_75 : decode cX4_fill 75 = .ok (.invokevirtual 129, 3) := by decide +kernel
theorem dX4_fill_78 : decode cX4_fill 78 = .ok (.istore 5, 2) := by decide +kernel
theorem dX4_fill_80 : decode cX4_fill 80 = .ok (.goto (-56), 3) := by decide +kernel
theorem dX4_fill_83 : decode cX4_fill 83 = .ok (.iload 4, 2) := by decide +kernel
theorem dX4_fill_85 : decode cX4_fill 85 = .ok (.ireturn, 1) := by decide +kernel
theorem dX4_most_0 : decode cX4_most 0 = .ok (.iconst 0, 1) := by decide +kernel
theorem dX4_most_1 : decode cX4_most 1 = .ok (.istore_n 3, 1) := by decide +kernel
theorem dX4_most_2 : decode cX4_most 2 = .ok (.iconst 0, 1) := by decide +kernel
theorem dX4_most_3 : decode cX4_most 3 = .ok (.istore 4, 2) := by decide +kernel
theorem dX4_most_5 : decode cX4_most 5 = .ok (.iload 4, 2) := by decide +kernel
theorem dX4_most_7 : decode cX4_most 7 = .ok (.aload_n 0, 1) := by decide +kernel
theorem dX4_most_8 : decode cX4_most 8 = .ok (.getfield 67, 3) := by decide +kernel
theorem dX4_most_11 : decode cX4_most 11 = .ok (.if_icmp .ge 39, 3) := by decide +kernel
theorem dX4_most_14 : decode cX4_most 14 = .ok (.aload_n 0, 1) := by decide +kernel
theorem dX4_most_15 : decode cX4_most 15 = .ok (.getfield 50, 3) := by decide +kernel
theorem dX4_most_18 : decode cX4_most 18 = .ok (.iload 4, 2) := by decide +kernel
theorem dX4_most_20 : decode cX4_most 20 = .ok (.iaload, 1) := by decide +kernel
theorem dX4_most_21 : decode cX4_most 21 = .ok (.iload_n 2, 1) := by decide +kernel
theorem dX4_most_22 : decode cX4_most 22 = .ok (.if_icmp .ne 22, 3) := by decide +kernel
theorem dX4_most_25 : decode cX4_most 25 = .ok (.aload_n 0, 1) := by decide +kernel
theorem dX4_most_26 : decode cX4_most 26 = .ok (.iload 4, 2) := by decide +kernel
theorem dX4_most_28 : decode cX4_most 28 = .ok (.iload_n 1, 1) := by decide +kernel
theorem dX4_most_29 : decode cX4_most 29 = .ok (.invokevirtual 89, 3) := by decide +kernel
theorem dX4_most_32 : decode cX4_most 32 = .ok (.iload_n 3, 1) := by decide +kernel
theorem dX4_most_33 : decode cX4_most 33 = .ok (.if_icmp .le 11, 3) := by decide +kernel
theorem dX4_most_36 : decode cX4_most 36 = .ok (.aload_n 0, 1) := by decide +kernel
theorem dX4_most_37 : decode cX4_most 37 = .ok (.iload 4, 2) := by decide +kernel
theorem dX4_most_39 : decode cX4_most 39 = .ok (.iload_n 1, 1) := by decide +kernel
theorem dX4_most_40 : decode cX4_most 40 = .ok (.invokevirtual 89, 3) := by decide +kernel
theorem dX4_most_43 : decode cX4_most 43 = .ok (.istore_n 3, 1) := by decide +kernel
theorem dX4_most_44 : decode cX4_most 44 = .ok (.iinc 4 1, 3) := by decide +kernel
theorem dX4_most_47 : decode cX4_most 47 = .ok (.goto (-42), 3) := by decide +kernel
theorem dX4_most_50 : decode cX4_most 50 = .ok (.iload_n 3, 1) := by decide +kernel
theorem dX4_most_51 : decode cX4_most 51 = .ok (.ireturn, 1) := by decide +kernel
theorem dX4_best_0 : decode cX4_best 0 = .ok (.iconst (-1), 1) := by decide +kernel
theorem dX4_best_1 : decode cX4_best 1 = .ok (.istore 4, 2) := by decide +kernel
theorem dX4_best_3 : decode cX4_best 3 = .ok (.iconst 0, 1) := by decide +kernel
theorem dX4_best_4 : decode cX4_best 4 = .ok (.istore 5, 2) := by decide +kernel
theorem dX4_best_6 : decode cX4_best 6 = .ok (.iload 5, 2) := by decide +kernel
theorem dX4_best_8 : decode cX4_best 8 = .ok (.aload_n 0, 1) := by decide +kernel
theorem dX4_best_9 : decode cX4_best 9 = .ok (.getfield 67, 3) := by decide +kernel
theorem dX4_best_12 : decode cX4_best 12 = .ok (.if_icmp .ge 111, 3) := by decide +kernel
theorem dX4_best_15 : decode cX4_best 15 = .ok (.aload_n 0, 1) := by decide +kernel
theorem dX4_best_16 : decode cX4_best 16 = .ok (.iload 5, 2) := by decide +kernel
theorem dX4_best_18 : decode cX4_best 18 = .ok (.invokevirtual 123, 3) := by decide +kernel
theorem dX4_best_21 : decode cX4_best 21 = .ok (.ifCond .eq 96, 3) := by decide +kernel
theorem dX4_best_24 : decode cX4_best 24 = .ok (.aload_n 0, 1) := by decide +kernel
theorem dX4_best_25 : decode cX4_best 25 = .ok (.getfield 19, 3) := by decide +kernel
theorem dX4_best_28 : decode cX4_best 28 = .ok (.iload 5, 2) := by decide +kernel
theorem dX4_best_30 : decode cX4_best 30 = .ok (.iaload, 1) := by decide +kernel
theorem dX4_best_31 : decode cX4_best 31 = .ok (.iload_n 2, 1) := by decide +kernel
theorem dX4_best_32 : decode cX4_best 32 = .ok (.if_icmp .ne 85, 3) := by decide +kernel
theorem dX4_best_35 : decode cX4_best 35 = .ok (.iload_n 3, 1) := by decide +kernel
theorem dX4_best_36 : decode cX4_best 36 = .ok (.aload_n 0, 1) := by decide +kernel
theorem dX4_best_37 : decode cX4_best 37 = .ok (.getfield 16, 3) := by decide +kernel
theorem dX4_best_40 : decode cX4_best 40 = .ok (.iload 5, 2) := by decide +kernel
theorem dX4_best_42 : decode cX4_best 42 = .ok (.iaload, 1) := by decide +kernel
theorem dX4_best_43 : decode cX4_best 43 = .ok (.iadd, 1) := by decide +kernel
theorem dX4_best_44 : decode cX4_best 44 = .ok (.aload_n 0, 1) := by decide +kernel
theorem dX4_best_45 : decode cX4_best 45 = .ok (.iload 5, 2) := by decide +kernel
theorem dX4_best_47 : decode cX4_best 47 = .ok (.iload_n 1, 1) := by decide +kernel
theorem dX4_best_48 : decode cX4_best 48 = .ok (.invokevirtual 133, 3) := by decide +kernel
theorem dX4_best_51 : decode cX4_best 51 = .ok (.isub, 1) := by decide +kernel
theorem dX4_best_52 : decode cX4_best 52 = .ok (.aload_n 0, 1) := by decide +kernel
theorem dX4_best_53 : decode cX4_best 53 = .ok (.getfield 60, 3) := by decide +kernel
theorem dX4_best_56 : decode cX4_best 56 = .ok (.if_icmp .le 6, 3) := by decide +kernel
theorem dX4_best_59 : decode cX4_best 59 = .ok (.goto 58, 3) := by decide +kernel
theorem dX4_best_62 : decode cX4_best 62 = .ok (.iload 4, 2) := by decide +kernel
theorem dX4_best_64 : decode cX4_best 64 = .ok (.iconst (-1), 1) := by decide +kernel
theorem dX4_best_65 : decode cX4_best 65 = .ok (.if_icmp .eq 48, 3) := by decide +kernel
theorem dX4_best_68 : decode cX4_best 68 = .ok (.aload_n 0, 1) := by decide +kernel
theorem dX4_best_69 : decode cX4_best 69 = .ok (.iload 5, 2) := by decide +kernel
theorem dX4_best_71 : decode cX4_best 71 = .ok (.iload_n 1, 1) := by decide +kernel
theorem dX4_best_72 : decode cX4_best 72 = .ok (.invokevirtual 133, 3) := by decide +kernel
theorem dX4_best_75 : decode cX4_best 75 = .ok (.aload_n 0, 1) := by decide +kernel
theorem dX4_best_76 : decode cX4_best 76 = .ok (.iload 4, 2) := by decide +kernel
theorem dX4_best_78 : decode cX4_best 78 = .ok (.iload_n 1, 1) := by decide +kernel
theorem dX4_best_79 : decode cX4_best 79 = .ok (.invokevirtual 133, 3) := by decide +kernel
theorem dX4_best_82 : decode cX4_best 82 = .ok (.if_icmp .gt 31, 3) := by decide +kernel
theorem dX4_best_85 : decode cX4_best 85 = .ok (.aload_n 0, 1) := by decide +kernel
theorem dX4_best_86 : decode cX4_best 86 = .ok (.iload 5, 2) := by decide +kernel
theorem dX4_best_88 : decode cX4_best 88 = .ok (.iload_n 1, 1) := by decide +kernel
theorem dX4_best_89 : decode cX4_best 89 = .ok (.invokevirtual 133, 3) := by decide +kernel
theorem dX4_best_92 : decode cX4_best 92 = .ok (.aload_n 0, 1) := by decide +kernel
theorem dX4_best_93 : decode cX4_best 93 = .ok (.iload 4, 2) := by decide +kernel
theorem dX4_best_95 : decode cX4_best 95 = .ok (.iload_n 1, 1) := by decide +kernel
theorem dX4_best_96 : decode cX4_best 96 = .ok (.invokevirtual 133, 3) := by decide +kernel
theorem dX4_best_99 : decode cX4_best 99 = .ok (.if_icmp .ne 18, 3) := by decide +kernel
theorem dX4_best_102 : decode cX4_best 102 = .ok (.aload_n 0, 1) := by decide +kernel
theorem dX4_best_103 : decode cX4_best 103 = .ok (.iload 5, 2) := by decide +kernel
theorem dX4_best_105 : decode cX4_best 105 = .ok (.iload 4, 2) := by decide +kernel
theorem dX4_best_107 : decode cX4_best 107 = .ok (.invokevirtual 126, 3) := by decide +kernel
theorem dX4_best_110 : decode cX4_best 110 = .ok (.ifCond .eq 7, 3) := by decide +kernel
theorem dX4_best_113 : decode cX4_best 113 = .ok (.iload 5, 2) := by decide +kernel
theorem dX4_best_115 : decode cX4_best 115 = .ok (.istore 4, 2) := by decide +kernel
theorem dX4_best_117 : decode cX4_best 117 = .ok (.iinc 5 1, 3) := by decide +kernel
theorem dX4_best_120 : decode cX4_best 120 = .ok (.goto (-114), 3) := by decide +kernel
theorem dX4_best_123 : decode cX4_best 123 = .ok (.iload 4, 2) := by decide +kernel
theorem dX4_best_125 : decode cX4_best 125 = .ok (.ireturn, 1) := by decide +kernel
theorem dX4_wave_0 : decode cX4_wave 0 = .ok (.aload_n 0, 1) := by decide +kernel
theorem dX4_wave_1 : decode cX4_wave 1 = .ok (.aload_n 0, 1) := by decide +kernel
theorem dX4_wave_2 : decode cX4_wave 2 = .ok (.iload_n 1, 1) := by decide +kernel
theorem dX4_wave_3 : decode cX4_wave 3 = .ok (.invokevirtual 79, 3) := by decide +kernel
theorem dX4_wave_6 : decode cX4_wave 6 = .ok (.ifCond .eq 7, 3) := by decide +kernel
theorem dX4_wave_9 : decode cX4_wave 9 = .ok (.iconst 0, 1) := by decide +kernel
theorem dX4_wave_10 : decode cX4_wave 10 = .ok (.goto 4, 3) := by decide +kernel
theorem dX4_wave_13 : decode cX4_wave 13 = .ok (.iconst 1, 1) := by decide +kernel
theorem dX4_wave_14 : decode cX4_wave 14 = .ok (.putfield 64, 3) := by decide +kernel
theorem dX4_wave_17 : decode cX4_wave 17 = .ok (.aload_n 0, 1) := by decide +kernel
theorem dX4_wave_18 : decode cX4_wave 18 = .ok (.getfield 64, 3) := by decide +kernel
theorem dX4_wave_21 : decode cX4_wave 21 = .ok (.ifCond .le 7, 3) := by decide +kernel
theorem dX4_wave_24 : decode cX4_wave 24 = .ok (.iconst 0, 1) := by decide +kernel
theorem dX4_wave_25 : decode cX4_wave 25 = .ok (.goto 9, 3) := by decide +kernel
theorem dX4_wave_28 : decode cX4_wave 28 = .ok (.aload_n 0, 1) := by decide +kernel
theorem dX4_wave_29 : decode cX4_wave 29 = .ok (.getfield 22, 3) := by decide +kernel
theorem dX4_wave_32 : decode cX4_wave 32 = .ok (.iload_n 1, 1) := by decide +kernel
theorem dX4_wave_33 : decode cX4_wave 33 = .ok (.iaload, 1) := by decide +kernel
theorem dX4_wave_34 : decode cX4_wave 34 = .ok (.ireturn, 1) := by decide +kernel
theorem dX4_memberAt_0 : decode cX4_memberAt 0 = .ok (.iconst 0, 1) := by decide +kernel
theorem dX4_memberAt_1 : decode cX4_memberAt 1 = .ok (.istore_n 3, 1) := by decide +kernel
theorem dX4_memberAt_2 : decode cX4_memberAt 2 = .ok (.iload_n 3, 1) := by decide +kernel
theorem dX4_memberAt_3 : decode cX4_memberAt 3 = .ok (.aload_n 0, 1) := by decide +kernel
theorem dX4_memberAt_4 : decode cX4_memberAt 4 = .ok (.getfield 67, 3) := by decide +kernel
theorem dX4_memberAt_7 : decode cX4_memberAt 7 = .ok (.if_icmp .ge 88, 3) := by decide +kernel
theorem dX4_memberAt_10 : decode cX4_memberAt 10 = .ok (.aload_n 0, 1) := by decide +kernel
theorem dX4_memberAt_11 : decode cX4_memberAt 11 = .ok (.getfield 22, 3) := by decide +kernel
theorem dX4_memberAt_14 : decode cX4_memberAt 14 = .ok (.iload_n 3, 1) := by decide +kernel
theorem dX4_memberAt_15 : decode cX4_memberAt 15 = .ok (.iaload, 1) := by decide +kernel
theorem dX4_memberAt_16 : decode cX4_memberAt 16 = .ok (.iload_n 1, 1) := by decide +kernel
theorem dX4_memberAt_17 : decode cX4_memberAt 17 = .ok (.if_icmp .eq 6, 3) := by decide +kernel
theorem dX4_memberAt_20 : decode cX4_memberAt 20 = .ok (.goto 69, 3) := by decide +kernel
theorem dX4_memberAt_23 : decode cX4_memberAt 23 = .ok (.iconst 0, 1) := by decide +kernel
theorem dX4_memberAt_24 : decode cX4_memberAt 24 = .ok (.istore 4, 2) := by decide +kernel
theorem dX4_memberAt_26 : decode cX4_memberAt 26 = .ok (.iconst 0, 1) := by decide +kernel
theorem dX4_memberAt_27 : decode cX4_memberAt 27 = .ok (.istore 5, 2) := by decide +kernel
theorem dX4_memberAt_29 : decode cX4_memberAt 29 = .ok (.iload 5, 2) := by decide +kernel
theorem dX4_memberAt_31 : decode cX4_memberAt 31 = .ok (.aload_n 0, 1) := by decide +kernel
theorem dX4_memberAt_32 : decode cX4_memberAt 32 = .ok (.getfield 67, 3) := by decide +kernel
theorem dX4_memberAt_35 : decode cX4_memberAt 35 = .ok (.if_icmp .ge 46, 3) := by decide +kernel
theorem dX4_memberAt_38 : decode cX4_memberAt 38 = .ok (.iload 4, 2) := by decide +kernel
theorem dX4_memberAt_40 : decode cX4_memberAt 40 = .ok (.aload_n 0, 1) := by decide +kernel
theorem dX4_memberAt_41 : decode cX4_memberAt 41 = .ok (.getfield 22, 3) := by decide +kernel
theorem dX4_memberAt_44 : decode cX4_memberAt 44 = .ok (.iload 5, 2) := by decide +kernel
theorem dX4_memberAt_46 : decode cX4_memberAt 46 = .ok (.iaload, 1) := by decide +kernel
theorem dX4_memberAt_47 : decode cX4_memberAt 47 = .ok (.iload_n 1, 1) := by decide +kernel
theorem dX4_memberAt_48 : decode cX4_memberAt 48 = .ok (.if_icmp .ne 23, 3) := by decide +kernel
theorem dX4_memberAt_51 : decode cX4_memberAt 51 = .ok (.aload_n 0, 1) := by decide +kernel
theorem dX4_memberAt_52 : decode cX4_memberAt 52 = .ok (.getfield 25, 3) := by decide +kernel
theorem dX4_memberAt_55 : decode cX4_memberAt 55 = .ok (.iload 5, 2) := by decide +kernel
theorem dX4_memberAt_57 : decode cX4_memberAt 57 = .ok (.iaload, 1) := by decide +kernel
theorem dX4_memberAt_58 : decode cX4_memberAt 58 = .ok (.aload_n 0, 1) := by decide +kernel
theorem dX4_memberAt_59 : decode cX4_memberAt 59 = .ok (.getfield 25, 3) := by decide +kernel
theorem dX4_memberAt_62 : decode cX4_memberAt 62 = .ok (.iload_n 3, 1) := by decide +kernel
theorem dX4_memberAt_63 : decode cX4_memberAt 63 = .ok (.iaload, 1) := by decide +kernel
theorem dX4_memberAt_64 : decode cX4_memberAt 64 = .ok (.if_icmp .ge 7, 3) := by decide +kernel
theorem dX4_memberAt_67 : decode cX4_memberAt 67 = .ok (.iconst 1, 1) := by decide +kernel
theorem dX4_memberAt_68 : decode cX4_memberAt 68 = .ok (.goto 4, 3) := by decide +kernel
theorem dX4_memberAt_71 : decode cX4_memberAt 71 = .ok (.iconst 0, 1) := by decide +kernel
theorem dX4_memberAt_72 : decode cX4_memberAt 72 = .ok (.iadd, 1) := by decide +kernel
theorem dX4_memberAt_73 : decode cX4_memberAt 73 = .ok (.istore 4, 2) := by decide +kernel
theorem dX4_memberAt_75 : decode cX4_memberAt 75 = .ok (.iinc 5 1, 3) := by decide +kernel
theorem dX4_memberAt_78 : decode cX4_memberAt 78 = .ok (.goto (-49), 3) := by decide +kernel
theorem dX4_memberAt_81 : decode cX4_memberAt 81 = .ok (.iload 4, 2) := by decide +kernel
theorem dX4_memberAt_83 : decode cX4_memberAt 83 = .ok (.iload_n 2, 1) := by decide +kernel
theorem dX4_memberAt_84 : decode cX4_memberAt 84 = .ok (.if_icmp .ne 5, 3) := by decide +kernel
theorem dX4_memberAt_87 : decode cX4_memberAt 87 = .ok (.iload_n 3, 1) := by decide +kernel
theorem dX4_memberAt_88 : decode cX4_memberAt 88 = .ok (.ireturn, 1) := by decide +kernel
theorem dX4_memberAt_89 : decode cX4_memberAt 89 = .ok (.iinc 3 1, 3) := by decide +kernel
theorem dX4_memberAt_92 : decode cX4_memberAt 92 = .ok (.goto (-90), 3) := by decide +kernel
theorem dX4_memberAt_95 : decode cX4_memberAt 95 = .ok (.iconst (-1), 1) := by decide +kernel
theorem dX4_memberAt_96 : decode cX4_memberAt 96 = .ok (.ireturn, 1) := by decide +kernel
theorem dX4_told_0 : decode cX4_told 0 = .ok (.aload_n 0, 1) := by decide +kernel
theorem dX4_told_1 : decode cX4_told 1 = .ok (.aload_n 0, 1) := by decide +kernel
theorem dX4_told_2 : decode cX4_told 2 = .ok (.iload_n 1, 1) := by decide +kernel
theorem dX4_told_3 : decode cX4_told 3 = .ok (.invokevirtual 136, 3) := by decide +kernel
theorem dX4_told_6 : decode cX4_told 6 = .ok (.ifCond .ne 7, 3) := by decide +kernel
theorem dX4_told_9 : decode cX4_told 9 = .ok (.iconst 1, 1) := by decide +kernel
theorem dX4_told_10 : decode cX4_told 10 = .ok (.goto 18, 3) := by decide +kernel
theorem dX4_told_13 : decode cX4_told 13 = .ok (.iload_n 2, 1) := by decide +kernel
theorem dX4_told_14 : decode cX4_told 14 = .ok (.iconst 0, 1) := by decide +kernel
theorem dX4_told_15 : decode cX4_told 15 = .ok (.bipush 6, 2) := by decide +kernel
theorem dX4_told_17 : decode cX4_told 17 = .ok (.invokestatic 70, 3) := by decide +kernel
theorem dX4_told_20 : decode cX4_told 20 = .ok (.ifCond .ne 7, 3) := by decide +kernel
theorem dX4_told_23 : decode cX4_told 23 = .ok (.iconst 2, 1) := by decide +kernel
theorem dX4_told_24 : decode cX4_told 24 = .ok (.goto 4, 3) := by decide +kernel
theorem dX4_told_27 : decode cX4_told 27 = .ok (.iconst 0, 1) := by decide +kernel
theorem dX4_told_28 : decode cX4_told 28 = .ok (.putfield 64, 3) := by decide +kernel
theorem dX4_told_31 : decode cX4_told 31 = .ok (.aload_n 0, 1) := by decide +kernel
theorem dX4_told_32 : decode cX4_told 32 = .ok (.getfield 64, 3) := by decide +kernel
theorem dX4_told_35 : decode cX4_told 35 = .ok (.ifCond .le 5, 3) := by decide +kernel
theorem dX4_told_38 : decode cX4_told 38 = .ok (.iconst 0, 1) := by decide +kernel
theorem dX4_told_39 : decode cX4_told 39 = .ok (.ireturn, 1) := by decide +kernel
theorem dX4_told_40 : decode cX4_told 40 = .ok (.iload_n 2, 1) := by decide +kernel
theorem dX4_told_41 : decode cX4_told 41 = .ok (.ifCond .ne 9, 3) := by decide +kernel
theorem dX4_told_44 : decode cX4_told 44 = .ok (.aload_n 0, 1) := by decide +kernel
theorem dX4_told_45 : decode cX4_told 45 = .ok (.iload_n 1, 1) := by decide +kernel
theorem dX4_told_46 : decode cX4_told 46 = .ok (.invokevirtual 139, 3) := by decide +kernel
theorem dX4_told_49 : decode cX4_told 49 = .ok (.ireturn, 1) := by decide +kernel
theorem dX4_told_50 : decode cX4_told 50 = .ok (.iload_n 2, 1) := by decide +kernel
theorem dX4_told_51 : decode cX4_told 51 = .ok (.iconst 1, 1) := by decide +kernel
theorem dX4_told_52 : decode cX4_told 52 = .ok (.if_icmp .ne 9, 3) := by decide +kernel
theorem dX4_told_55 : decode cX4_told 55 = .ok (.aload_n 0, 1) := by decide +kernel
theorem dX4_told_56 : decode cX4_told 56 = .ok (.iload_n 1, 1) := by decide +kernel
theorem dX4_told_57 : decode cX4_told 57 = .ok (.invokevirtual 96, 3) := by decide +kernel
theorem dX4_told_60 : decode cX4_told 60 = .ok (.ireturn, 1) := by decide +kernel
theorem dX4_told_61 : decode cX4_told 61 = .ok (.iload_n 2, 1) := by decide +kernel
theorem dX4_told_62 : decode cX4_told 62 = .ok (.iconst 2, 1) := by decide +kernel
theorem dX4_told_63 : decode cX4_told 63 = .ok (.if_icmp .ne 9, 3) := by decide +kernel
theorem dX4_told_66 : decode cX4_told 66 = .ok (.aload_n 0, 1) := by decide +kernel
theorem dX4_told_67 : decode cX4_told 67 = .ok (.iload_n 1, 1) := by decide +kernel
theorem dX4_told_68 : decode cX4_told 68 = .ok (.invokevirtual 102, 3) := by decide +kernel
theorem dX4_told_71 : decode cX4_told 71 = .ok (.ireturn, 1) := by decide +kernel
theorem dX4_told_72 : decode cX4_told 72 = .ok (.iload_n 2, 1) := by decide +kernel
theorem dX4_told_73 : decode cX4_told 73 = .ok (.iconst 4, 1) := by decide +kernel
theorem dX4_told_74 : decode cX4_told 74 = .ok (.if_icmp .ne 15, 3) := by decide +kernel
theorem dX4_told_77 : decode cX4_told 77 = .ok (.aload_n 0, 1) := by decide +kernel
theorem dX4_told_78 : decode cX4_told 78 = .ok (.getfield 19, 3) := by decide +kernel
theorem dX4_told_81 : decode cX4_told 81 = .ok (.aload_n 0, 1) := by decide +kernel
theorem dX4_told_82 : decode cX4_told 82 = .ok (.iload_n 1, 1) := by decide +kernel
theorem dX4_told_83 : decode cX4_told 83 = .ok (.iconst 0, 1) := by decide +kernel
theorem dX4_told_84 : decode cX4_told 84 = .ok (.invokevirtual 142, 3) := by decide +kernel
theorem dX4_told_87 : decode cX4_told 87 = .ok (.iaload, 1) := by decide +kernel
theorem dX4_told_88 : decode cX4_told 88 = .ok (.ireturn, 1) := by decide +kernel
theorem dX4_told_89 : decode cX4_told 89 = .ok (.iload_n 2, 1) := by decide +kernel
theorem dX4_told_90 : decode cX4_told 90 = .ok (.iconst 5, 1) := by decide +kernel
theorem dX4_told_91 : decode cX4_told 91 = .ok (.if_icmp .ne 18, 3) := by decide +kernel
theorem dX4_told_94 : decode cX4_told 94 = .ok (.aload_n 0, 1) := by decide +kernel
theorem dX4_told_95 : decode cX4_told 95 = .ok (.getfield 44, 3) := by decide +kernel
theorem dX4_told_98 : decode cX4_told 98 = .ok (.iload_n 1, 1) := by decide +kernel
theorem dX4_told_99 : decode cX4_told 99 = .ok (.baload, 1) := by decide +kernel
theorem dX4_told_100 : decode cX4_told 100 = .ok (.ifCond .eq 7, 3) := by decide +kernel
theorem dX4_told_103 : decode cX4_told 103 = .ok (.iconst 1, 1) := by decide +kernel
theorem dX4_told_104 : decode cX4_told 104 = .ok (.goto 4, 3) := by decide +kernel
theorem dX4_told_107 : decode cX4_told 107 = .ok (.iconst 0, 1) := by decide +kernel
theorem dX4_told_108 : decode cX4_told 108 = .ok (.ireturn, 1) := by decide +kernel
theorem dX4_told_109 : decode cX4_told 109 = .ok (.ldc 74, 2) := by decide +kernel
theorem dX4_told_111 : decode cX4_told 111 = .ok (.istore_n 3, 1) := by decide +kernel
theorem dX4_told_112 : decode cX4_told 112 = .ok (.iconst 0, 1) := by decide +kernel
theorem dX4_told_113 : decode cX4_told 113 = .ok (.istore 4, 2) := by decide +kernel
theorem dX4_told_115 : decode cX4_told 115 = .ok (.iconst 0, 1) := by decide +kernel
theorem dX4_told_116 : decode cX4_told 116 = .ok (.istore 5, 2) := by decide +kernel
theorem dX4_told_118 : decode cX4_told 118 = .ok (.iload 5, 2) := by decide +kernel
theorem dX4_told_120 : decode cX4_told 120 = .ok (.aload_n 0, 1) := by decide +kernel
theorem dX4_told_121 : decode cX4_told 121 = .ok (.getfield 67, 3) := by decide +kernel
theorem dX4_told_124 : decode cX4_told 124 = .ok (.if_icmp .ge 66, 3) := by decide +kernel
theorem dX4_told_127 : decode cX4_told 127 = .ok (.aload_n 0, 1) := by decide +kernel
theorem dX4_told_128 : decode cX4_told 128 = .ok (.getfield 22, 3) := by decide +kernel
theorem dX4_told_131 : decode cX4_told 131 = .ok (.iload 5, 2) := by decide +kernel
theorem dX4_told_133 : decode cX4_told 133 = .ok (.iaload, 1) := by decide +kernel
theorem dX4_told_134 : decode cX4_told 134 = .ok (.iload_n 1, 1) := by decide +kernel
theorem dX4_told_135 : decode cX4_told 135 = .ok (.if_icmp .eq 6, 3) := by decide +kernel
theorem dX4_told_138 : decode cX4_told 138 = .ok (.goto 46, 3) := by decide +kernel
theorem dX4_told_141 : decode cX4_told 141 = .ok (.aload_n 0, 1) := by decide +kernel
theorem dX4_told_142 : decode cX4_told 142 = .ok (.getfield 7, 3) := by decide +kernel
theorem dX4_told_145 : decode cX4_told 145 = .ok (.iload 5, 2) := by decide +kernel
theorem dX4_told_147 : decode cX4_told 147 = .ok (.iaload, 1) := by decide +kernel
theorem dX4_told_148 : decode cX4_told 148 = .ok (.iload_n 3, 1) := by decide +kernel
theorem dX4_told_149 : decode cX4_told 149 = .ok (.if_icmp .ge 13, 3) := by decide +kernel
theorem dX4_told_152 : decode cX4_told 152 = .ok (.aload_n 0, 1) := by decide +kernel
theorem dX4_told_153 : decode cX4_told 153 = .ok (.getfield 7, 3) := by decide +kernel
theorem dX4_told_156 : decode cX4_told 156 = .ok (.iload 5, 2) := by decide +kernel
theorem dX4_told_158 : decode cX4_told 158 = .ok (.iaload, 1) := by decide +kernel
theorem dX4_told_159 : decode cX4_told 159 = .ok (.goto 4, 3) := by decide +kernel
theorem dX4_told_162 : decode cX4_told 162 = .ok (.iload_n 3, 1) := by decide +kernel
theorem dX4_told_163 : decode cX4_told 163 = .ok (.istore_n 3, 1) := by decide +kernel
theorem dX4_told_164 : decode cX4_told 164 = .ok (.iload 4, 2) := by decide +kernel
theorem dX4_told_166 : decode cX4_told 166 = .ok (.aload_n 0, 1) := by decide +kernel
theorem dX4_told_167 : decode cX4_told 167 = .ok (.getfield 28, 3) := by decide +kernel
theorem dX4_told_170 : decode cX4_told 170 = .ok (.iload 5, 2) := by decide +kernel
theorem dX4_told_172 : decode cX4_told 172 = .ok (.baload, 1) := by decide +kernel
theorem dX4_told_173 : decode cX4_told 173 = .ok (.ifCond .eq 7, 3) := by decide +kernel
theorem dX4_told_176 : decode cX4_told 176 = .ok (.iconst 1, 1) := by decide +kernel
theorem dX4_told_177 : decode cX4_told 177 = .ok (.goto 4, 3) := by decide +kernel
theorem dX4_told_180 : decode cX4_told 180 = .ok (.iconst 0, 1) := by decide +kernel
theorem dX4_told_181 : decode cX4_told 181 = .ok (.iadd, 1) := by decide +kernel
theorem dX4_told_182 : decode cX4_told 182 = .ok (.istore 4, 2) := by decide +kernel
theorem dX4_told_184 : decode cX4_told 184 = .ok (.iinc 5 1, 3) := by decide +kernel
theorem dX4_told_187 : decode cX4_told 187 = .ok (.goto (-69), 3) := by decide +kernel
theorem dX4_told_190 : decode cX4_told 190 = .ok (.iload_n 2, 1) := by decide +kernel
theorem dX4_told_191 : decode cX4_told 191 = .ok (.iconst 3, 1) := by decide +kernel
theorem dX4_told_192 : decode cX4_told 192 = .ok (.if_icmp .ne 7, 3) := by decide +kernel
theorem dX4_told_195 : decode cX4_told 195 = .ok (.iload_n 3, 1) := by decide +kernel
theorem dX4_told_196 : decode cX4_told 196 = .ok (.goto 5, 3) := by decide +kernel
theorem dX4_told_199 : decode cX4_told 199 = .ok (.iload 4, 2) := by decide +kernel
theorem dX4_told_201 : decode cX4_told 201 = .ok (.ireturn, 1) := by decide +kernel
theorem dX4_member_0 : decode cX4_member 0 = .ok (.aload_n 0, 1) := by decide +kernel
theorem dX4_member_1 : decode cX4_member 1 = .ok (.aload_n 0, 1) := by decide +kernel
theorem dX4_member_2 : decode cX4_member 2 = .ok (.iload_n 1, 1) := by decide +kernel
theorem dX4_member_3 : decode cX4_member 3 = .ok (.invokevirtual 136, 3) := by decide +kernel
theorem dX4_member_6 : decode cX4_member 6 = .ok (.ifCond .eq 7, 3) := by decide +kernel
theorem dX4_member_9 : decode cX4_member 9 = .ok (.iload_n 2, 1) := by decide +kernel
theorem dX4_member_10 : decode cX4_member 10 = .ok (.ifCond .ge 7, 3) := by decide +kernel
theorem dX4_member_13 : decode cX4_member 13 = .ok (.iconst 1, 1) := by decide +kernel
theorem dX4_member_14 : decode cX4_member 14 = .ok (.goto 4, 3) := by decide +kernel
theorem dX4_member_17 : decode cX4_member 17 = .ok (.iconst 0, 1) := by decide +kernel
theorem dX4_member_18 : decode cX4_member 18 = .ok (.putfield 64, 3) := by decide +kernel
theorem dX4_member_21 : decode cX4_member 21 = .ok (.aload_n 0, 1) := by decide +kernel
theorem dX4_member_22 : decode cX4_member 22 = .ok (.getfield 64, 3) := by decide +kernel
theorem dX4_member_25 : decode cX4_member 25 = .ok (.ifCond .le 5, 3) := by decide +kernel
theorem dX4_member_28 : decode cX4_member 28 = .ok (.iconst 0, 1) := by decide +kernel
theorem dX4_member_29 : decode cX4_member 29 = .ok (.ireturn, 1) := by decide +kernel
theorem dX4_member_30 : decode cX4_member 30 = .ok (.aload_n 0, 1) := by decide +kernel
theorem dX4_member_31 : decode cX4_member 31 = .ok (.iload_n 1, 1) := by decide +kernel
theorem dX4_member_32 : decode cX4_member 32 = .ok (.iload_n 2, 1) := by decide +kernel
theorem dX4_member_33 : decode cX4_member 33 = .ok (.invokevirtual 142, 3) := by decide +kernel
theorem dX4_member_36 : decode cX4_member 36 = .ok (.istore_n 3, 1) := by decide +kernel
theorem dX4_member_37 : decode cX4_member 37 = .ok (.aload_n 0, 1) := by decide +kernel
theorem dX4_member_38 : decode cX4_member 38 = .ok (.iload_n 3, 1) := by decide +kernel
theorem dX4_member_39 : decode cX4_member 39 = .ok (.iconst (-1), 1) := by decide +kernel
theorem dX4_member_40 : decode cX4_member 40 = .ok (.if_icmp .ne 7, 3) := by decide +kernel
theorem dX4_member_43 : decode cX4_member 43 = .ok (.iconst 1, 1) := by decide +kernel
theorem dX4_member_44 : decode cX4_member 44 = .ok (.goto 4, 3) := by decide +kernel
theorem dX4_member_47 : decode cX4_member 47 = .ok (.iconst 0, 1) := by decide +kernel
theorem dX4_member_48 : decode cX4_member 48 = .ok (.putfield 64, 3) := by decide +kernel
theorem dX4_member_51 : decode cX4_member 51 = .ok (.aload_n 0, 1) := by decide +kernel
theorem dX4_member_52 : decode cX4_member 52 = .ok (.getfield 64, 3) := by decide +kernel
theorem dX4_member_55 : decode cX4_member 55 = .ok (.ifCond .le 7, 3) := by decide +kernel
theorem dX4_member_58 : decode cX4_member 58 = .ok (.iconst 0, 1) := by decide +kernel
theorem dX4_member_59 : decode cX4_member 59 = .ok (.goto 4, 3) := by decide +kernel
theorem dX4_member_62 : decode cX4_member 62 = .ok (.iload_n 3, 1) := by decide +kernel
theorem dX4_member_63 : decode cX4_member 63 = .ok (.ireturn, 1) := by decide +kernel
theorem dX4_wantsOf_0 : decode cX4_wantsOf 0 = .ok (.iconst 0, 1) := by decide +kernel
theorem dX4_wantsOf_1 : decode cX4_wantsOf 1 = .ok (.istore_n 3, 1) := by decide +kernel
theorem dX4_wantsOf_2 : decode cX4_wantsOf 2 = .ok (.iconst 0, 1) := by decide +kernel
theorem dX4_wantsOf_3 : decode cX4_wantsOf 3 = .ok (.istore 4, 2) := by decide +kernel
theorem dX4_wantsOf_5 : decode cX4_wantsOf 5 = .ok (.iload 4, 2) := by decide +kernel
theorem dX4_wantsOf_7 : decode cX4_wantsOf 7 = .ok (.aload_n 0, 1) := by decide +kernel
theorem dX4_wantsOf_8 : decode cX4_wantsOf 8 = .ok (.getfield 67, 3) := by decide +kernel
theorem dX4_wantsOf_11 : decode cX4_wantsOf 11 = .ok (.if_icmp .ge 49, 3) := by decide +kernel
theorem dX4_wantsOf_14 : decode cX4_wantsOf 14 = .ok (.iload_n 3, 1) := by decide +kernel
theorem dX4_wantsOf_15 : decode cX4_wantsOf 15 = .ok (.aload_n 0, 1) := by decide +kernel
theorem dX4_wantsOf_16 : decode cX4_wantsOf 16 = .ok (.getfield 22, 3) := by decide +kernel
theorem dX4_wantsOf_19 : decode cX4_wantsOf 19 = .ok (.iload 4, 2) := by decide +kernel
theorem dX4_wantsOf_21 : decode cX4_wantsOf 21 = .ok (.iaload, 1) := by decide +kernel
theorem dX4_wantsOf_22 : decode cX4_wantsOf 22 = .ok (.iload_n 1, 1) := by decide +kernel
theorem dX4_wantsOf_23 : decode cX4_wantsOf 23 = .ok (.if_icmp .ne 28, 3) := by decide +kernel
theorem dX4_wantsOf_26 : decode cX4_wantsOf 26 = .ok (.aload_n 0, 1) := by decide +kernel
theorem dX4_wantsOf_27 : decode cX4_wantsOf 27 = .ok (.getfield 28, 3) := by decide +kernel
theorem dX4_wantsOf_30 : decode cX4_wantsOf 30 = .ok (.iload 4, 2) := by decide +kernel
theorem dX4_wantsOf_32 : decode cX4_wantsOf 32 = .ok (.baload, 1) := by decide +kernel
theorem dX4_wantsOf_33 : decode cX4_wantsOf 33 = .ok (.ifCond .ne 18, 3) := by decide +kernel
theorem dX4_wantsOf_36 : decode cX4_wantsOf 36 = .ok (.aload_n 0, 1) := by decide +kernel
theorem dX4_wantsOf_37 : decode cX4_wantsOf 37 = .ok (.getfield 32, 3) := by decide +kernel
theorem dX4_wantsOf_40 : decode cX4_wantsOf 40 = .ok (.bipush 10, 2) := by decide +kernel
theorem dX4_wantsOf_42 : decode cX4_wantsOf 42 = .ok (.iload 4, 2) := by decide +kernel
theorem dX4_wantsOf_44 : decode cX4_wantsOf 44 = .ok (.imul, 1) := by decide +kernel
theorem dX4_wantsOf_45 : decode cX4_wantsOf 45 = .ok (.iload_n 2, 1) := by decide +kernel
theorem dX4_wantsOf_46 : decode cX4_wantsOf 46 = .ok (.iadd, 1) := by decide +kernel
theorem dX4_wantsOf_47 : decode cX4_wantsOf 47 = .ok (.iaload, 1) := by decide +kernel
theorem dX4_wantsOf_48 : decode cX4_wantsOf 48 = .ok (.goto 4, 3) := by decide +kernel
theorem dX4_wantsOf_51 : decode cX4_wantsOf 51 = .ok (.iconst 0, 1) := by decide +kernel
theorem dX4_wantsOf_52 : decode cX4_wantsOf 52 = .ok (.iadd, 1) := by decide +kernel
theorem dX4_wantsOf_53 : decode cX4_wantsOf 53 = .ok (.istore_n 3, 1) := by decide +kernel
theorem dX4_wantsOf_54 : decode cX4_wantsOf 54 = .ok (.iinc 4 1, 3) := by decide +kernel
theorem dX4_wantsOf_57 : decode cX4_wantsOf 57 = .ok (.goto (-52), 3) := by decide +kernel
theorem dX4_wantsOf_60 : decode cX4_wantsOf 60 = .ok (.iload_n 3, 1) := by decide +kernel
theorem dX4_wantsOf_61 : decode cX4_wantsOf 61 = .ok (.ireturn, 1) := by decide +kernel
theorem dX4_lackOf_0 : decode cX4_lackOf 0 = .ok (.aload_n 0, 1) := by decide +kernel
theorem dX4_lackOf_1 : decode cX4_lackOf 1 = .ok (.getfield 47, 3) := by decide +kernel
theorem dX4_lackOf_4 : decode cX4_lackOf 4 = .ok (.iload_n 2, 1) := by decide +kernel
theorem dX4_lackOf_5 : decode cX4_lackOf 5 = .ok (.iaload, 1) := by decide +kernel
theorem dX4_lackOf_6 : decode cX4_lackOf 6 = .ok (.istore_n 3, 1) := by decide +kernel
theorem dX4_lackOf_7 : decode cX4_lackOf 7 = .ok (.iconst 1, 1) := by decide +kernel
theorem dX4_lackOf_8 : decode cX4_lackOf 8 = .ok (.istore 4, 2) := by decide +kernel
theorem dX4_lackOf_10 : decode cX4_lackOf 10 = .ok (.iload 4, 2) := by decide +kernel
theorem dX4_lackOf_12 : decode cX4_lackOf 12 = .ok (.aload_n 0, 1) := by decide +kernel
theorem dX4_lackOf_13 : decode cX4_lackOf 13 = .ok (.getfield 99, 3) := by decide +kernel
theorem dX4_lackOf_16 : decode cX4_lackOf 16 = .ok (.if_icmp .gt 39, 3) := by decide +kernel
theorem dX4_lackOf_19 : decode cX4_lackOf 19 = .ok (.iload_n 3, 1) := by decide +kernel
theorem dX4_lackOf_20 : decode cX4_lackOf 20 = .ok (.iload 4, 2) := by decide +kernel
theorem dX4_lackOf_22 : decode cX4_lackOf 22 = .ok (.iload_n 1, 1) := by decide +kernel
theorem dX4_lackOf_23 : decode cX4_lackOf 23 = .ok (.if_icmp .eq 23, 3) := by decide +kernel
theorem dX4_lackOf_26 : decode cX4_lackOf 26 = .ok (.aload_n 0, 1) := by decide +kernel
theorem dX4_lackOf_27 : decode cX4_lackOf 27 = .ok (.getfield 44, 3) := by decide +kernel
theorem dX4_lackOf_30 : decode cX4_lackOf 30 = .ok (.iload 4, 2) := by decide +kernel
theorem dX4_lackOf_32 : decode cX4_lackOf 32 = .ok (.baload, 1) := by decide +kernel
theorem dX4_lackOf_33 : decode cX4_lackOf 33 = .ok (.ifCond .eq 13, 3) := by decide +kernel
theorem dX4_lackOf_36 : decode cX4_lackOf 36 = .ok (.aload_n 0, 1) := by decide +kernel
theorem dX4_lackOf_37 : decode cX4_lackOf 37 = .ok (.iload 4, 2) := by decide +kernel
theorem dX4_lackOf_39 : decode cX4_lackOf 39 = .ok (.iload_n 2, 1) := by decide +kernel
theorem dX4_lackOf_40 : decode cX4_lackOf 40 = .ok (.invokevirtual 145, 3) := by decide +kernel
theorem dX4_lackOf_43 : decode cX4_lackOf 43 = .ok (.goto 4, 3) := by decide +kernel
theorem dX4_lackOf_46 : decode cX4_lackOf 46 = .ok (.iconst 0, 1) := by decide +kernel
theorem dX4_lackOf_47 : decode cX4_lackOf 47 = .ok (.isub, 1) := by decide +kernel
theorem dX4_lackOf_48 : decode cX4_lackOf 48 = .ok (.istore_n 3, 1) := by decide +kernel
theorem dX4_lackOf_49 : decode cX4_lackOf 49 = .ok (.iinc 4 1, 3) := by decide +kernel
theorem dX4_lackOf_52 : decode cX4_lackOf 52 = .ok (.goto (-42), 3) := by decide +kernel
theorem dX4_lackOf_55 : decode cX4_lackOf 55 = .ok (.iload_n 3, 1) := by decide +kernel
theorem dX4_lackOf_56 : decode cX4_lackOf 56 = .ok (.ifCond .ge 7, 3) := by decide +kernel
theorem dX4_lackOf_59 : decode cX4_lackOf 59 = .ok (.iconst 0, 1) := by decide +kernel
theorem dX4_lackOf_60 : decode cX4_lackOf 60 = .ok (.goto 4, 3) := by decide +kernel
theorem dX4_lackOf_63 : decode cX4_lackOf 63 = .ok (.iload_n 3, 1) := by decide +kernel
theorem dX4_lackOf_64 : decode cX4_lackOf 64 = .ok (.istore_n 3, 1) := by decide +kernel
theorem dX4_lackOf_65 : decode cX4_lackOf 65 = .ok (.aload_n 0, 1) := by decide +kernel
theorem dX4_lackOf_66 : decode cX4_lackOf 66 = .ok (.iload_n 1, 1) := by decide +kernel
theorem dX4_lackOf_67 : decode cX4_lackOf 67 = .ok (.iload_n 2, 1) := by decide +kernel
theorem dX4_lackOf_68 : decode cX4_lackOf 68 = .ok (.invokevirtual 145, 3) := by decide +kernel
theorem dX4_lackOf_71 : decode cX4_lackOf 71 = .ok (.iload_n 3, 1) := by decide +kernel
theorem dX4_lackOf_72 : decode cX4_lackOf 72 = .ok (.isub, 1) := by decide +kernel
theorem dX4_lackOf_73 : decode cX4_lackOf 73 = .ok (.istore 4, 2) := by decide +kernel
theorem dX4_lackOf_75 : decode cX4_lackOf 75 = .ok (.iload 4, 2) := by decide +kernel
theorem dX4_lackOf_77 : decode cX4_lackOf 77 = .ok (.ifCond .le 8, 3) := by decide +kernel
theorem dX4_lackOf_80 : decode cX4_lackOf 80 = .ok (.iload 4, 2) := by decide +kernel
theorem dX4_lackOf_82 : decode cX4_lackOf 82 = .ok (.goto 4, 3) := by decide +kernel
theorem dX4_lackOf_85 : decode cX4_lackOf 85 = .ok (.iconst 0, 1) := by decide +kernel
theorem dX4_lackOf_86 : decode cX4_lackOf 86 = .ok (.ireturn, 1) := by decide +kernel
theorem dX4_replenish_0 : decode cX4_replenish 0 = .ok (.aload_n 0, 1) := by decide +kernel
theorem dX4_replenish_1 : decode cX4_replenish 1 = .ok (.aload_n 0, 1) := by decide +kernel
theorem dX4_replenish_2 : decode cX4_replenish 2 = .ok (.iload_n 1, 1) := by decide +kernel
theorem dX4_replenish_3 : decode cX4_replenish 3 = .ok (.invokevirtual 136, 3) := by decide +kernel
theorem dX4_replenish_6 : decode cX4_replenish 6 = .ok (.ifCond .ne 7, 3) := by decide +kernel
theorem dX4_replenish_9 : decode cX4_replenish 9 = .ok (.iconst 1, 1) := by decide +kernel
theorem dX4_replenish_10 : decode cX4_replenish 10 = .ok (.goto 12, 3) := by decide +kernel
theorem dX4_replenish_13 : decode cX4_replenish 13 = .ok (.iload_n 2, 1) := by decide +kernel
theorem dX4_replenish_14 : decode cX4_replenish 14 = .ok (.ifCond .ge 7, 3) := by decide +kernel
theorem dX4_replenish_17 : decode cX4_replenish 17 = .ok (.iconst 2, 1) := by decide +kernel
theorem dX4_replenish_18 : decode cX4_replenish 18 = .ok (.goto 4, 3) := by decide +kernel
theorem dX4_replenish_21 : decode cX4_replenish 21 = .ok (.iconst 0, 1) := by decide +kernel
theorem dX4_replenish_22 : decode cX4_replenish 22 = .ok (.putfield 64, 3) := by decide +kernel
theorem dX4_replenish_25 : decode cX4_replenish 25 = .ok (.aload_n 0, 1) := by decide +kernel
theorem dX4_replenish_26 : decode cX4_replenish 26 = .ok (.getfield 64, 3) := by decide +kernel
theorem dX4_replenish_29 : decode cX4_replenish 29 = .ok (.ifCond .le 5, 3) := by decide +kernel
theorem dX4_replenish_32 : decode cX4_replenish 32 = .ok (.iconst 0, 1) := by decide +kernel
theorem dX4_replenish_33 : decode cX4_replenish 33 = .ok (.ireturn, 1) := by decide +kernel
theorem dX4_replenish_34 : decode cX4_replenish 34 = .ok (.iload_n 2, 1) := by decide +kernel
theorem dX4_replenish_35 : decode cX4_replenish 35 = .ok (.istore_n 3, 1) := by decide +kernel
theorem dX4_replenish_36 : decode cX4_replenish 36 = .ok (.iconst 0, 1) := by decide +kernel
theorem dX4_replenish_37 : decode cX4_replenish 37 = .ok (.istore 4, 2) := by decide +kernel
theorem dX4_replenish_39 : decode cX4_replenish 39 = .ok (.iload 4, 2) := by decide +kernel
theorem dX4_replenish_41 : decode cX4_replenish 41 = .ok (.bipush 10, 2) := by decide +kernel
theorem dX4_replenish_43 : decode cX4_replenish 43 = .ok (.if_icmp .ge 32, 3) := by decide +kernel
theorem dX4_replenish_46 : decode cX4_replenish 46 = .ok (.aload_n 0, 1) := by decide +kernel
theorem dX4_replenish_47 : decode cX4_replenish 47 = .ok (.iload_n 1, 1) := by decide +kernel
theorem dX4_replenish_48 : decode cX4_replenish 48 = .ok (.iload 4, 2) := by decide +kernel
theorem dX4_replenish_50 : decode cX4_replenish 50 = .ok (.invokevirtual 148, 3) := by decide +kernel
theorem dX4_replenish_53 : decode cX4_replenish 53 = .ok (.ifCond .ne 6, 3) := by decide +kernel
theorem dX4_replenish_56 : decode cX4_replenish 56 = .ok (.goto 13, 3) := by decide +kernel
theorem dX4_replenish_59 : decode cX4_replenish 59 = .ok (.iload_n 3, 1) := by decide +kernel
theorem dX4_replenish_60 : decode cX4_replenish 60 = .ok (.ifCond .ne 6, 3) := by decide +kernel
theorem dX4_replenish_63 : decode cX4_replenish 63 = .ok (.iload 4, 2) := by decide +kernel
theorem dX4_replenish_65 : decode cX4_replenish 65 = .ok (.ireturn, 1) := by decide +kernel
theorem dX4_replenish_66 : decode cX4_replenish 66 = .ok (.iinc 3 (-1), 3) := by decide +kernel
theorem dX4_replenish_69 : decode cX4_replenish 69 = .ok (.iinc 4 1, 3) := by decide +kernel
theorem dX4_replenish_72 : decode cX4_replenish 72 = .ok (.goto (-33), 3) := by decide +kernel
theorem dX4_replenish_75 : decode cX4_replenish 75 = .ok (.iconst (-1), 1) := by decide +kernel
theorem dX4_replenish_76 : decode cX4_replenish 76 = .ok (.ireturn, 1) := by decide +kernel
theorem dX4_lacks_0 : decode cX4_lacks 0 = .ok (.aload_n 0, 1) := by decide +kernel
theorem dX4_lacks_1 : decode cX4_lacks 1 = .ok (.aload_n 0, 1) := by decide +kernel
theorem dX4_lacks_2 : decode cX4_lacks 2 = .ok (.iload_n 1, 1) := by decide +kernel
theorem dX4_lacks_3 : decode cX4_lacks 3 = .ok (.invokevirtual 136, 3) := by decide +kernel
theorem dX4_lacks_6 : decode cX4_lacks 6 = .ok (.ifCond .ne 7, 3) := by decide +kernel
theorem dX4_lacks_9 : decode cX4_lacks 9 = .ok (.iconst 1, 1) := by decide +kernel
theorem dX4_lacks_10 : decode cX4_lacks 10 = .ok (.goto 18, 3) := by decide +kernel
theorem dX4_lacks_13 : decode cX4_lacks 13 = .ok (.iload_n 2, 1) := by decide +kernel
theorem dX4_lacks_14 : decode cX4_lacks 14 = .ok (.iconst 0, 1) := by decide +kernel
theorem dX4_lacks_15 : decode cX4_lacks 15 = .ok (.bipush 9, 2) := by decide +kernel
theorem dX4_lacks_17 : decode cX4_lacks 17 = .ok (.invokestatic 70, 3) := by decide +kernel
theorem dX4_lacks_20 : decode cX4_lacks 20 = .ok (.ifCond .ne 7, 3) := by decide +kernel
theorem dX4_lacks_23 : decode cX4_lacks 23 = .ok (.iconst 2, 1) := by decide +kernel
theorem dX4_lacks_24 : decode cX4_lacks 24 = .ok (.goto 4, 3) := by decide +kernel
theorem dX4_lacks_27 : decode cX4_lacks 27 = .ok (.iconst 0, 1) := by decide +kernel
theorem dX4_lacks_28 : decode cX4_lacks 28 = .ok (.putfield 64, 3) := by decide +kernel
theorem dX4_lacks_31 : decode cX4_lacks 31 = .ok (.aload_n 0, 1) := by decide +kernel
theorem dX4_lacks_32 : decode cX4_lacks 32 = .ok (.getfield 64, 3) := by decide +kernel
theorem dX4_lacks_35 : decode cX4_lacks 35 = .ok (.ifCond .le 7, 3) := by decide +kernel
theorem dX4_lacks_38 : decode cX4_lacks 38 = .ok (.iconst 0, 1) := by decide +kernel
theorem dX4_lacks_39 : decode cX4_lacks 39 = .ok (.goto 9, 3) := by decide +kernel
theorem dX4_lacks_42 : decode cX4_lacks 42 = .ok (.aload_n 0, 1) := by decide +kernel
theorem dX4_lacks_43 : decode cX4_lacks 43 = .ok (.iload_n 1, 1) := by decide +kernel
theorem dX4_lacks_44 : decode cX4_lacks 44 = .ok (.iload_n 2, 1) := by decide +kernel
theorem dX4_lacks_45 : decode cX4_lacks 45 = .ok (.invokevirtual 148, 3) := by decide +kernel
theorem dX4_lacks_48 : decode cX4_lacks 48 = .ok (.ireturn, 1) := by decide +kernel
theorem dX4_release_0 : decode cX4_release 0 = .ok (.aload_n 0, 1) := by decide +kernel
theorem dX4_release_1 : decode cX4_release 1 = .ok (.aload_n 0, 1) := by decide +kernel
theorem dX4_release_2 : decode cX4_release 2 = .ok (.iload_n 1, 1) := by decide +kernel
theorem dX4_release_3 : decode cX4_release 3 = .ok (.invokevirtual 136, 3) := by decide +kernel
theorem dX4_release_6 : decode cX4_release 6 = .ok (.ifCond .ne 7, 3) := by decide +kernel
theorem dX4_release_9 : decode cX4_release 9 = .ok (.iconst 1, 1) := by decide +kernel
theorem dX4_release_10 : decode cX4_release 10 = .ok (.goto 4, 3) := by decide +kernel
theorem dX4_release_13 : decode cX4_release 13 = .ok (.iconst 0, 1) := by decide +kernel
theorem dX4_release_14 : decode cX4_release 14 = .ok (.putfield 64, 3) := by decide +kernel
theorem dX4_release_17 : decode cX4_release 17 = .ok (.aload_n 0, 1) := by decide +kernel
theorem dX4_release_18 : decode cX4_release 18 = .ok (.getfield 64, 3) := by decide +kernel
theorem dX4_release_21 : decode cX4_release 21 = .ok (.ifCond .ne 21, 3) := by decide +kernel
theorem dX4_release_24 : decode cX4_release 24 = .ok (.aload_n 0, 1) := by decide +kernel
