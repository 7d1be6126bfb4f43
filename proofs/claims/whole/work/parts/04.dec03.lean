theorem dX4_release_25 : decode cX4_release 25 = .ok (.aload_n 0, 1) := by decide +kernel
theorem dX4_release_26 : decode cX4_release 26 = .ok (.getfield 44, 3) := by decide +kernel
theorem dX4_release_29 : decode cX4_release 29 = .ok (.iload_n 1, 1) := by decide +kernel
theorem dX4_release_30 : decode cX4_release 30 = .ok (.baload, 1) := by decide +kernel
theorem dX4_release_31 : decode cX4_release 31 = .ok (.ifCond .eq 7, 3) := by decide +kernel
theorem dX4_release_34 : decode cX4_release 34 = .ok (.iconst 2, 1) := by decide +kernel
theorem dX4_release_35 : decode cX4_release 35 = .ok (.goto 4, 3) := by decide +kernel
theorem dX4_release_38 : decode cX4_release 38 = .ok (.iconst 0, 1) := by decide +kernel
theorem dX4_release_39 : decode cX4_release 39 = .ok (.putfield 64, 3) := by decide +kernel
theorem dX4_release_42 : decode cX4_release 42 = .ok (.aload_n 0, 1) := by decide +kernel
theorem dX4_release_43 : decode cX4_release 43 = .ok (.getfield 64, 3) := by decide +kernel
theorem dX4_release_46 : decode cX4_release 46 = .ok (.ifCond .le 5, 3) := by decide +kernel
theorem dX4_release_49 : decode cX4_release 49 = .ok (.iconst 0, 1) := by decide +kernel
theorem dX4_release_50 : decode cX4_release 50 = .ok (.ireturn, 1) := by decide +kernel
theorem dX4_release_51 : decode cX4_release 51 = .ok (.iconst 0, 1) := by decide +kernel
theorem dX4_release_52 : decode cX4_release 52 = .ok (.istore_n 2, 1) := by decide +kernel
theorem dX4_release_53 : decode cX4_release 53 = .ok (.iload_n 2, 1) := by decide +kernel
theorem dX4_release_54 : decode cX4_release 54 = .ok (.aload_n 0, 1) := by decide +kernel
theorem dX4_release_55 : decode cX4_release 55 = .ok (.getfield 67, 3) := by decide +kernel
theorem dX4_release_58 : decode cX4_release 58 = .ok (.if_icmp .ge 40, 3) := by decide +kernel
theorem dX4_release_61 : decode cX4_release 61 = .ok (.aload_n 0, 1) := by decide +kernel
theorem dX4_release_62 : decode cX4_release 62 = .ok (.getfield 22, 3) := by decide +kernel
theorem dX4_release_65 : decode cX4_release 65 = .ok (.iload_n 2, 1) := by decide +kernel
theorem dX4_release_66 : decode cX4_release 66 = .ok (.iaload, 1) := by decide +kernel
theorem dX4_release_67 : decode cX4_release 67 = .ok (.iload_n 1, 1) := by decide +kernel
theorem dX4_release_68 : decode cX4_release 68 = .ok (.if_icmp .ne 24, 3) := by decide +kernel
theorem dX4_release_71 : decode cX4_release 71 = .ok (.aload_n 0, 1) := by decide +kernel
theorem dX4_release_72 : decode cX4_release 72 = .ok (.aload_n 0, 1) := by decide +kernel
theorem dX4_release_73 : decode cX4_release 73 = .ok (.getfield 19, 3) := by decide +kernel
theorem dX4_release_76 : decode cX4_release 76 = .ok (.iload_n 2, 1) := by decide +kernel
theorem dX4_release_77 : decode cX4_release 77 = .ok (.iaload, 1) := by decide +kernel
theorem dX4_release_78 : decode cX4_release 78 = .ok (.aload_n 0, 1) := by decide +kernel
theorem dX4_release_79 : decode cX4_release 79 = .ok (.getfield 7, 3) := by decide +kernel
theorem dX4_release_82 : decode cX4_release 82 = .ok (.iload_n 2, 1) := by decide +kernel
theorem dX4_release_83 : decode cX4_release 83 = .ok (.iaload, 1) := by decide +kernel
theorem dX4_release_84 : decode cX4_release 84 = .ok (.invokevirtual 105, 3) := by decide +kernel
theorem dX4_release_87 : decode cX4_release 87 = .ok (.ifCond .ne 5, 3) := by decide +kernel
theorem dX4_release_90 : decode cX4_release 90 = .ok (.iconst 1, 1) := by decide +kernel
theorem dX4_release_91 : decode cX4_release 91 = .ok (.ireturn, 1) := by decide +kernel
theorem dX4_release_92 : decode cX4_release 92 = .ok (.iinc 2 1, 3) := by decide +kernel
theorem dX4_release_95 : decode cX4_release 95 = .ok (.goto (-42), 3) := by decide +kernel
theorem dX4_release_98 : decode cX4_release 98 = .ok (.iconst 0, 1) := by decide +kernel
theorem dX4_release_99 : decode cX4_release 99 = .ok (.istore_n 2, 1) := by decide +kernel
theorem dX4_release_100 : decode cX4_release 100 = .ok (.iload_n 2, 1) := by decide +kernel
theorem dX4_release_101 : decode cX4_release 101 = .ok (.bipush 10, 2) := by decide +kernel
theorem dX4_release_103 : decode cX4_release 103 = .ok (.if_icmp .ge 20, 3) := by decide +kernel
theorem dX4_release_106 : decode cX4_release 106 = .ok (.aload_n 0, 1) := by decide +kernel
theorem dX4_release_107 : decode cX4_release 107 = .ok (.iload_n 1, 1) := by decide +kernel
theorem dX4_release_108 : decode cX4_release 108 = .ok (.iload_n 2, 1) := by decide +kernel
theorem dX4_release_109 : decode cX4_release 109 = .ok (.invokevirtual 148, 3) := by decide +kernel
theorem dX4_release_112 : decode cX4_release 112 = .ok (.ifCond .le 5, 3) := by decide +kernel
theorem dX4_release_115 : decode cX4_release 115 = .ok (.iconst 2, 1) := by decide +kernel
theorem dX4_release_116 : decode cX4_release 116 = .ok (.ireturn, 1) := by decide +kernel
theorem dX4_release_117 : decode cX4_release 117 = .ok (.iinc 2 1, 3) := by decide +kernel
theorem dX4_release_120 : decode cX4_release 120 = .ok (.goto (-20), 3) := by decide +kernel
theorem dX4_release_123 : decode cX4_release 123 = .ok (.aload_n 0, 1) := by decide +kernel
theorem dX4_release_124 : decode cX4_release 124 = .ok (.getfield 44, 3) := by decide +kernel
theorem dX4_release_127 : decode cX4_release 127 = .ok (.iload_n 1, 1) := by decide +kernel
theorem dX4_release_128 : decode cX4_release 128 = .ok (.iconst 1, 1) := by decide +kernel
theorem dX4_release_129 : decode cX4_release 129 = .ok (.bastore, 1) := by decide +kernel
theorem dX4_release_130 : decode cX4_release 130 = .ok (.iconst 0, 1) := by decide +kernel
theorem dX4_release_131 : decode cX4_release 131 = .ok (.ireturn, 1) := by decide +kernel
theorem dX4_done_0 : decode cX4_done 0 = .ok (.aload_n 0, 1) := by decide +kernel
theorem dX4_done_1 : decode cX4_done 1 = .ok (.aload_n 0, 1) := by decide +kernel
theorem dX4_done_2 : decode cX4_done 2 = .ok (.iload_n 1, 1) := by decide +kernel
theorem dX4_done_3 : decode cX4_done 3 = .ok (.invokevirtual 79, 3) := by decide +kernel
theorem dX4_done_6 : decode cX4_done 6 = .ok (.ifCond .ne 7, 3) := by decide +kernel
theorem dX4_done_9 : decode cX4_done 9 = .ok (.iconst 1, 1) := by decide +kernel
theorem dX4_done_10 : decode cX4_done 10 = .ok (.goto 4, 3) := by decide +kernel
theorem dX4_done_13 : decode cX4_done 13 = .ok (.iconst 0, 1) := by decide +kernel
theorem dX4_done_14 : decode cX4_done 14 = .ok (.putfield 64, 3) := by decide +kernel
theorem dX4_done_17 : decode cX4_done 17 = .ok (.aload_n 0, 1) := by decide +kernel
theorem dX4_done_18 : decode cX4_done 18 = .ok (.getfield 64, 3) := by decide +kernel
theorem dX4_done_21 : decode cX4_done 21 = .ok (.ifCond .ne 22, 3) := by decide +kernel
theorem dX4_done_24 : decode cX4_done 24 = .ok (.aload_n 0, 1) := by decide +kernel
theorem dX4_done_25 : decode cX4_done 25 = .ok (.aload_n 0, 1) := by decide +kernel
theorem dX4_done_26 : decode cX4_done 26 = .ok (.getfield 22, 3) := by decide +kernel
theorem dX4_done_29 : decode cX4_done 29 = .ok (.iload_n 1, 1) := by decide +kernel
theorem dX4_done_30 : decode cX4_done 30 = .ok (.iaload, 1) := by decide +kernel
theorem dX4_done_31 : decode cX4_done 31 = .ok (.iconst 1, 1) := by decide +kernel
theorem dX4_done_32 : decode cX4_done 32 = .ok (.if_icmp .ge 7, 3) := by decide +kernel
theorem dX4_done_35 : decode cX4_done 35 = .ok (.iconst 2, 1) := by decide +kernel
theorem dX4_done_36 : decode cX4_done 36 = .ok (.goto 4, 3) := by decide +kernel
theorem dX4_done_39 : decode cX4_done 39 = .ok (.iconst 0, 1) := by decide +kernel
theorem dX4_done_40 : decode cX4_done 40 = .ok (.putfield 64, 3) := by decide +kernel
theorem dX4_done_43 : decode cX4_done 43 = .ok (.aload_n 0, 1) := by decide +kernel
theorem dX4_done_44 : decode cX4_done 44 = .ok (.getfield 64, 3) := by decide +kernel
theorem dX4_done_47 : decode cX4_done 47 = .ok (.ifCond .ne 35, 3) := by decide +kernel
theorem dX4_done_50 : decode cX4_done 50 = .ok (.aload_n 0, 1) := by decide +kernel
theorem dX4_done_51 : decode cX4_done 51 = .ok (.aload_n 0, 1) := by decide +kernel
theorem dX4_done_52 : decode cX4_done 52 = .ok (.getfield 44, 3) := by decide +kernel
theorem dX4_done_55 : decode cX4_done 55 = .ok (.aload_n 0, 1) := by decide +kernel
theorem dX4_done_56 : decode cX4_done 56 = .ok (.getfield 22, 3) := by decide +kernel
theorem dX4_done_59 : decode cX4_done 59 = .ok (.iload_n 1, 1) := by decide +kernel
theorem dX4_done_60 : decode cX4_done 60 = .ok (.iaload, 1) := by decide +kernel
theorem dX4_done_61 : decode cX4_done 61 = .ok (.baload, 1) := by decide +kernel
theorem dX4_done_62 : decode cX4_done 62 = .ok (.ifCond .eq 12, 3) := by decide +kernel
theorem dX4_done_65 : decode cX4_done 65 = .ok (.aload_n 0, 1) := by decide +kernel
theorem dX4_done_66 : decode cX4_done 66 = .ok (.getfield 28, 3) := by decide +kernel
theorem dX4_done_69 : decode cX4_done 69 = .ok (.iload_n 1, 1) := by decide +kernel
theorem dX4_done_70 : decode cX4_done 70 = .ok (.baload, 1) := by decide +kernel
theorem dX4_done_71 : decode cX4_done 71 = .ok (.ifCond .eq 7, 3) := by decide +kernel
theorem dX4_done_74 : decode cX4_done 74 = .ok (.iconst 2, 1) := by decide +kernel
theorem dX4_done_75 : decode cX4_done 75 = .ok (.goto 4, 3) := by decide +kernel
theorem dX4_done_78 : decode cX4_done 78 = .ok (.iconst 0, 1) := by decide +kernel
theorem dX4_done_79 : decode cX4_done 79 = .ok (.putfield 64, 3) := by decide +kernel
theorem dX4_done_82 : decode cX4_done 82 = .ok (.aload_n 0, 1) := by decide +kernel
theorem dX4_done_83 : decode cX4_done 83 = .ok (.getfield 64, 3) := by decide +kernel
theorem dX4_done_86 : decode cX4_done 86 = .ok (.ifCond .le 5, 3) := by decide +kernel
theorem dX4_done_89 : decode cX4_done 89 = .ok (.iconst 0, 1) := by decide +kernel
theorem dX4_done_90 : decode cX4_done 90 = .ok (.ireturn, 1) := by decide +kernel
theorem dX4_done_91 : decode cX4_done 91 = .ok (.aload_n 0, 1) := by decide +kernel
theorem dX4_done_92 : decode cX4_done 92 = .ok (.getfield 28, 3) := by decide +kernel
theorem dX4_done_95 : decode cX4_done 95 = .ok (.iload_n 1, 1) := by decide +kernel
theorem dX4_done_96 : decode cX4_done 96 = .ok (.iconst 1, 1) := by decide +kernel
theorem dX4_done_97 : decode cX4_done 97 = .ok (.bastore, 1) := by decide +kernel
theorem dX4_done_98 : decode cX4_done 98 = .ok (.iconst 0, 1) := by decide +kernel
theorem dX4_done_99 : decode cX4_done 99 = .ok (.istore_n 2, 1) := by decide +kernel
theorem dX4_done_100 : decode cX4_done 100 = .ok (.iload_n 2, 1) := by decide +kernel
theorem dX4_done_101 : decode cX4_done 101 = .ok (.bipush 10, 2) := by decide +kernel
theorem dX4_done_103 : decode cX4_done 103 = .ok (.if_icmp .ge 80, 3) := by decide +kernel
theorem dX4_done_106 : decode cX4_done 106 = .ok (.aload_n 0, 1) := by decide +kernel
theorem dX4_done_107 : decode cX4_done 107 = .ok (.getfield 47, 3) := by decide +kernel
theorem dX4_done_110 : decode cX4_done 110 = .ok (.iload_n 2, 1) := by decide +kernel
theorem dX4_done_111 : decode cX4_done 111 = .ok (.aload_n 0, 1) := by decide +kernel
theorem dX4_done_112 : decode cX4_done 112 = .ok (.getfield 47, 3) := by decide +kernel
theorem dX4_done_115 : decode cX4_done 115 = .ok (.iload_n 2, 1) := by decide +kernel
theorem dX4_done_116 : decode cX4_done 116 = .ok (.iaload, 1) := by decide +kernel
theorem dX4_done_117 : decode cX4_done 117 = .ok (.aload_n 0, 1) := by decide +kernel
theorem dX4_done_118 : decode cX4_done 118 = .ok (.getfield 32, 3) := by decide +kernel
theorem dX4_done_121 : decode cX4_done 121 = .ok (.bipush 10, 2) := by decide +kernel
theorem dX4_done_123 : decode cX4_done 123 = .ok (.iload_n 1, 1) := by decide +kernel
theorem dX4_done_124 : decode cX4_done 124 = .ok (.imul, 1) := by decide +kernel
theorem dX4_done_125 : decode cX4_done 125 = .ok (.iload_n 2, 1) := by decide +kernel
theorem dX4_done_126 : decode cX4_done 126 = .ok (.iadd, 1) := by decide +kernel
theorem dX4_done_127 : decode cX4_done 127 = .ok (.iaload, 1) := by decide +kernel
theorem dX4_done_128 : decode cX4_done 128 = .ok (.if_icmp .le 24, 3) := by decide +kernel
theorem dX4_done_131 : decode cX4_done 131 = .ok (.aload_n 0, 1) := by decide +kernel
theorem dX4_done_132 : decode cX4_done 132 = .ok (.getfield 47, 3) := by decide +kernel
theorem dX4_done_135 : decode cX4_done 135 = .ok (.iload_n 2, 1) := by decide +kernel
theorem dX4_done_136 : decode cX4_done 136 = .ok (.iaload, 1) := by decide +kernel
theorem dX4_done_137 : decode cX4_done 137 = .ok (.aload_n 0, 1) := by decide +kernel
theorem dX4_done_138 : decode cX4_done 138 = .ok (.getfield 32, 3) := by decide +kernel
theorem dX4_done_141 : decode cX4_done 141 = .ok (.bipush 10, 2) := by decide +kernel
theorem dX4_done_143 : decode cX4_done 143 = .ok (.iload_n 1, 1) := by decide +kernel
theorem dX4_done_144 : decode cX4_done 144 = .ok (.imul, 1) := by decide +kernel
theorem dX4_done_145 : decode cX4_done 145 = .ok (.iload_n 2, 1) := by decide +kernel
theorem dX4_done_146 : decode cX4_done 146 = .ok (.iadd, 1) := by decide +kernel
theorem dX4_done_147 : decode cX4_done 147 = .ok (.iaload, 1) := by decide +kernel
theorem dX4_done_148 : decode cX4_done 148 = .ok (.isub, 1) := by decide +kernel
theorem dX4_done_149 : decode cX4_done 149 = .ok (.goto 27, 3) := by decide +kernel
theorem dX4_done_152 : decode cX4_done 152 = .ok (.aload_n 0, 1) := by decide +kernel
theorem dX4_done_153 : decode cX4_done 153 = .ok (.getfield 32, 3) := by decide +kernel
theorem dX4_done_156 : decode cX4_done 156 = .ok (.bipush 10, 2) := by decide +kernel
theorem dX4_done_158 : decode cX4_done 158 = .ok (.iload_n 1, 1) := by decide +kernel
theorem dX4_done_159 : decode cX4_done 159 = .ok (.imul, 1) := by decide +kernel
theorem dX4_done_160 : decode cX4_done 160 = .ok (.iload_n 2, 1) := by decide +kernel
theorem dX4_done_161 : decode cX4_done 161 = .ok (.iadd, 1) := by decide +kernel
theorem dX4_done_162 : decode cX4_done 162 = .ok (.iaload, 1) := by decide +kernel
theorem dX4_done_163 : decode cX4_done 163 = .ok (.ifCond .le 7, 3) := by decide +kernel
theorem dX4_done_166 : decode cX4_done 166 = .ok (.iconst 0, 1) := by decide +kernel
theorem dX4_done_167 : decode cX4_done 167 = .ok (.goto 9, 3) := by decide +kernel
theorem dX4_done_170 : decode cX4_done 170 = .ok (.aload_n 0, 1) := by decide +kernel
theorem dX4_done_171 : decode cX4_done 171 = .ok (.getfield 47, 3) := by decide +kernel
theorem dX4_done_174 : decode cX4_done 174 = .ok (.iload_n 2, 1) := by decide +kernel
theorem dX4_done_175 : decode cX4_done 175 = .ok (.iaload, 1) := by decide +kernel
theorem dX4_done_176 : decode cX4_done 176 = .ok (.iastore, 1) := by decide +kernel
theorem dX4_done_177 : decode cX4_done 177 = .ok (.iinc 2 1, 3) := by decide +kernel
theorem dX4_done_180 : decode cX4_done 180 = .ok (.goto (-80), 3) := by decide +kernel
theorem dX4_done_183 : decode cX4_done 183 = .ok (.iconst 0, 1) := by decide +kernel
theorem dX4_done_184 : decode cX4_done 184 = .ok (.istore_n 2, 1) := by decide +kernel
theorem dX4_done_185 : decode cX4_done 185 = .ok (.iconst 0, 1) := by decide +kernel
theorem dX4_done_186 : decode cX4_done 186 = .ok (.istore_n 3, 1) := by decide +kernel
theorem dX4_done_187 : decode cX4_done 187 = .ok (.iload_n 3, 1) := by decide +kernel
theorem dX4_done_188 : decode cX4_done 188 = .ok (.aload_n 0, 1) := by decide +kernel
theorem dX4_done_189 : decode cX4_done 189 = .ok (.getfield 67, 3) := by decide +kernel
theorem dX4_done_192 : decode cX4_done 192 = .ok (.if_icmp .ge 41, 3) := by decide +kernel
theorem dX4_done_195 : decode cX4_done 195 = .ok (.iload_n 2, 1) := by decide +kernel
theorem dX4_done_196 : decode cX4_done 196 = .ok (.aload_n 0, 1) := by decide +kernel
theorem dX4_done_197 : decode cX4_done 197 = .ok (.getfield 22, 3) := by decide +kernel
theorem dX4_done_200 : decode cX4_done 200 = .ok (.iload_n 3, 1) := by decide +kernel
theorem dX4_done_201 : decode cX4_done 201 = .ok (.iaload, 1) := by decide +kernel
theorem dX4_done_202 : decode cX4_done 202 = .ok (.aload_n 0, 1) := by decide +kernel
theorem dX4_done_203 : decode cX4_done 203 = .ok (.getfield 22, 3) := by decide +kernel
theorem dX4_done_206 : decode cX4_done 206 = .ok (.iload_n 1, 1) := by decide +kernel
theorem dX4_done_207 : decode cX4_done 207 = .ok (.iaload, 1) := by decide +kernel
theorem dX4_done_208 : decode cX4_done 208 = .ok (.if_icmp .ne 16, 3) := by decide +kernel
theorem dX4_done_211 : decode cX4_done 211 = .ok (.aload_n 0, 1) := by decide +kernel
theorem dX4_done_212 : decode cX4_done 212 = .ok (.getfield 28, 3) := by decide +kernel
theorem dX4_done_215 : decode cX4_done 215 = .ok (.iload_n 3, 1) := by decide +kernel
theorem dX4_done_216 : decode cX4_done 216 = .ok (.baload, 1) := by decide +kernel
theorem dX4_done_217 : decode cX4_done 217 = .ok (.ifCond .ne 7, 3) := by decide +kernel
theorem dX4_done_220 : decode cX4_done 220 = .ok (.iconst 1, 1) := by decide +kernel
theorem dX4_done_221 : decode cX4_done 221 = .ok (.goto 4, 3) := by decide +kernel
theorem dX4_done_224 : decode cX4_done 224 = .ok (.iconst 0, 1) := by decide +kernel
theorem dX4_done_225 : decode cX4_done 225 = .ok (.iadd, 1) := by decide +kernel
theorem dX4_done_226 : decode cX4_done 226 = .ok (.istore_n 2, 1) := by decide +kernel
theorem dX4_done_227 : decode cX4_done 227 = .ok (.iinc 3 1, 3) := by decide +kernel
theorem dX4_done_230 : decode cX4_done 230 = .ok (.goto (-43), 3) := by decide +kernel
theorem dX4_done_233 : decode cX4_done 233 = .ok (.iload_n 2, 1) := by decide +kernel
theorem dX4_done_234 : decode cX4_done 234 = .ok (.ireturn, 1) := by decide +kernel
theorem dX4_change_0 : decode cX4_change 0 = .ok (.aload_n 0, 1) := by decide +kernel
theorem dX4_change_1 : decode cX4_change 1 = .ok (.aload_n 0, 1) := by decide +kernel
theorem dX4_change_2 : decode cX4_change 2 = .ok (.iload_n 1, 1) := by decide +kernel
theorem dX4_change_3 : decode cX4_change 3 = .ok (.invokevirtual 79, 3) := by decide +kernel
theorem dX4_change_6 : decode cX4_change 6 = .ok (.ifCond .ne 7, 3) := by decide +kernel
theorem dX4_change_9 : decode cX4_change 9 = .ok (.iconst 1, 1) := by decide +kernel
theorem dX4_change_10 : decode cX4_change 10 = .ok (.goto 15, 3) := by decide +kernel
theorem dX4_change_13 : decode cX4_change 13 = .ok (.iload_n 2, 1) := by decide +kernel
theorem dX4_change_14 : decode cX4_change 14 = .ok (.invokestatic 75, 3) := by decide +kernel
theorem dX4_change_17 : decode cX4_change 17 = .ok (.ifCond .ne 7, 3) := by decide +kernel
theorem dX4_change_20 : decode cX4_change 20 = .ok (.iconst 2, 1) := by decide +kernel
theorem dX4_change_21 : decode cX4_change 21 = .ok (.goto 4, 3) := by decide +kernel
theorem dX4_change_24 : decode cX4_change 24 = .ok (.iconst 0, 1) := by decide +kernel
theorem dX4_change_25 : decode cX4_change 25 = .ok (.putfield 64, 3) := by decide +kernel
theorem dX4_change_28 : decode cX4_change 28 = .ok (.aload_n 0, 1) := by decide +kernel
theorem dX4_change_29 : decode cX4_change 29 = .ok (.getfield 64, 3) := by decide +kernel
theorem dX4_change_32 : decode cX4_change 32 = .ok (.ifCond .ne 31, 3) := by decide +kernel
theorem dX4_change_35 : decode cX4_change 35 = .ok (.aload_n 0, 1) := by decide +kernel
theorem dX4_change_36 : decode cX4_change 36 = .ok (.aload_n 0, 1) := by decide +kernel
theorem dX4_change_37 : decode cX4_change 37 = .ok (.getfield 22, 3) := by decide +kernel
theorem dX4_change_40 : decode cX4_change 40 = .ok (.iload_n 1, 1) := by decide +kernel
theorem dX4_change_41 : decode cX4_change 41 = .ok (.iaload, 1) := by decide +kernel
theorem dX4_change_42 : decode cX4_change 42 = .ok (.iconst (-1), 1) := by decide +kernel
theorem dX4_change_43 : decode cX4_change 43 = .ok (.if_icmp .eq 12, 3) := by decide +kernel
theorem dX4_change_46 : decode cX4_change 46 = .ok (.aload_n 0, 1) := by decide +kernel
theorem dX4_change_47 : decode cX4_change 47 = .ok (.getfield 28, 3) := by decide +kernel
theorem dX4_change_50 : decode cX4_change 50 = .ok (.iload_n 1, 1) := by decide +kernel
theorem dX4_change_51 : decode cX4_change 51 = .ok (.baload, 1) := by decide +kernel
theorem dX4_change_52 : decode cX4_change 52 = .ok (.ifCond .eq 7, 3) := by decide +kernel
theorem dX4_change_55 : decode cX4_change 55 = .ok (.iconst 3, 1) := by decide +kernel
theorem dX4_change_56 : decode cX4_change 56 = .ok (.goto 4, 3) := by decide +kernel
theorem dX4_change_59 : decode cX4_change 59 = .ok (.iconst 0, 1) := by decide +kernel
theorem dX4_change_60 : decode cX4_change 60 = .ok (.putfield 64, 3) := by decide +kernel
theorem dX4_change_63 : decode cX4_change 63 = .ok (.aload_n 0, 1) := by decide +kernel
theorem dX4_change_64 : decode cX4_change 64 = .ok (.getfield 64, 3) := by decide +kernel
theorem dX4_change_67 : decode cX4_change 67 = .ok (.ifCond .le 5, 3) := by decide +kernel
theorem dX4_change_70 : decode cX4_change 70 = .ok (.iconst 0, 1) := by decide +kernel
theorem dX4_change_71 : decode cX4_change 71 = .ok (.ireturn, 1) := by decide +kernel
theorem dX4_change_72 : decode cX4_change 72 = .ok (.aload_n 0, 1) := by decide +kernel
theorem dX4_change_73 : decode cX4_change 73 = .ok (.getfield 7, 3) := by decide +kernel
theorem dX4_change_76 : decode cX4_change 76 = .ok (.iload_n 1, 1) := by decide +kernel
theorem dX4_change_77 : decode cX4_change 77 = .ok (.iload_n 2, 1) := by decide +kernel
theorem dX4_change_78 : decode cX4_change 78 = .ok (.iastore, 1) := by decide +kernel
theorem dX4_change_79 : decode cX4_change 79 = .ok (.aload_n 0, 1) := by decide +kernel
theorem dX4_change_80 : decode cX4_change 80 = .ok (.getfield 22, 3) := by decide +kernel
theorem dX4_change_83 : decode cX4_change 83 = .ok (.iload_n 1, 1) := by decide +kernel
theorem dX4_change_84 : decode cX4_change 84 = .ok (.iaload, 1) := by decide +kernel
theorem dX4_change_85 : decode cX4_change 85 = .ok (.ifCond .le 48, 3) := by decide +kernel
theorem dX4_change_88 : decode cX4_change 88 = .ok (.aload_n 0, 1) := by decide +kernel
theorem dX4_change_89 : decode cX4_change 89 = .ok (.getfield 44, 3) := by decide +kernel
theorem dX4_change_92 : decode cX4_change 92 = .ok (.aload_n 0, 1) := by decide +kernel
theorem dX4_change_93 : decode cX4_change 93 = .ok (.getfield 22, 3) := by decide +kernel
theorem dX4_change_96 : decode cX4_change 96 = .ok (.iload_n 1, 1) := by decide +kernel
theorem dX4_change_97 : decode cX4_change 97 = .ok (.iaload, 1) := by decide +kernel
theorem dX4_change_98 : decode cX4_change 98 = .ok (.ifCond .le 12, 3) := by decide +kernel
theorem dX4_change_101 : decode cX4_change 101 = .ok (.aload_n 0, 1) := by decide +kernel
theorem dX4_change_102 : decode cX4_change 102 = .ok (.getfield 22, 3) := by decide +kernel
theorem dX4_change_105 : decode cX4_change 105 = .ok (.iload_n 1, 1) := by decide +kernel
theorem dX4_change_106 : decode cX4_change 106 = .ok (.iaload, 1) := by decide +kernel
theorem dX4_change_107 : decode cX4_change 107 = .ok (.goto 4, 3) := by decide +kernel
theorem dX4_change_110 : decode cX4_change 110 = .ok (.iconst 0, 1) := by decide +kernel
theorem dX4_change_111 : decode cX4_change 111 = .ok (.baload, 1) := by decide +kernel
theorem dX4_change_112 : decode cX4_change 112 = .ok (.ifCond .ne 21, 3) := by decide +kernel
theorem dX4_change_115 : decode cX4_change 115 = .ok (.aload_n 0, 1) := by decide +kernel
theorem dX4_change_116 : decode cX4_change 116 = .ok (.aload_n 0, 1) := by decide +kernel
theorem dX4_change_117 : decode cX4_change 117 = .ok (.getfield 19, 3) := by decide +kernel
theorem dX4_change_120 : decode cX4_change 120 = .ok (.iload_n 1, 1) := by decide +kernel
theorem dX4_change_121 : decode cX4_change 121 = .ok (.iaload, 1) := by decide +kernel
theorem dX4_change_122 : decode cX4_change 122 = .ok (.iload_n 2, 1) := by decide +kernel
theorem dX4_change_123 : decode cX4_change 123 = .ok (.invokevirtual 105, 3) := by decide +kernel
theorem dX4_change_126 : decode cX4_change 126 = .ok (.ifCond .ne 7, 3) := by decide +kernel
theorem dX4_change_129 : decode cX4_change 129 = .ok (.iconst 1, 1) := by decide +kernel
theorem dX4_change_130 : decode cX4_change 130 = .ok (.goto 4, 3) := by decide +kernel
theorem dX4_change_133 : decode cX4_change 133 = .ok (.iconst 0, 1) := by decide +kernel
theorem dX4_change_134 : decode cX4_change 134 = .ok (.istore_n 3, 1) := by decide +kernel
theorem dX4_change_135 : decode cX4_change 135 = .ok (.iload_n 3, 1) := by decide +kernel
theorem dX4_change_136 : decode cX4_change 136 = .ok (.ifCond .eq 10, 3) := by decide +kernel
theorem dX4_change_139 : decode cX4_change 139 = .ok (.aload_n 0, 1) := by decide +kernel
theorem dX4_change_140 : decode cX4_change 140 = .ok (.getfield 22, 3) := by decide +kernel
theorem dX4_change_143 : decode cX4_change 143 = .ok (.iload_n 1, 1) := by decide +kernel
theorem dX4_change_144 : decode cX4_change 144 = .ok (.iconst 0, 1) := by decide +kernel
theorem dX4_change_145 : decode cX4_change 145 = .ok (.iastore, 1) := by decide +kernel
theorem dX4_change_146 : decode cX4_change 146 = .ok (.iload_n 3, 1) := by decide +kernel
theorem dX4_change_147 : decode cX4_change 147 = .ok (.ireturn, 1) := by decide +kernel
theorem dX4_join_0 : decode cX4_join 0 = .ok (.aload_n 0, 1) := by decide +kernel
theorem dX4_join_1 : decode cX4_join 1 = .ok (.aload_n 0, 1) := by decide +kernel
theorem dX4_join_2 : decode cX4_join 2 = .ok (.iload_n 1, 1) := by decide +kernel
theorem dX4_join_3 : decode cX4_join 3 = .ok (.invokevirtual 136, 3) := by decide +kernel
theorem dX4_join_6 : decode cX4_join 6 = .ok (.ifCond .eq 11, 3) := by decide +kernel
theorem dX4_join_9 : decode cX4_join 9 = .ok (.aload_n 0, 1) := by decide +kernel
theorem dX4_join_10 : decode cX4_join 10 = .ok (.iload_n 2, 1) := by decide +kernel
theorem dX4_join_11 : decode cX4_join 11 = .ok (.invokevirtual 136, 3) := by decide +kernel
theorem dX4_join_14 : decode cX4_join 14 = .ok (.ifCond .ne 7, 3) := by decide +kernel
theorem dX4_join_17 : decode cX4_join 17 = .ok (.iconst 1, 1) := by decide +kernel
theorem dX4_join_18 : decode cX4_join 18 = .ok (.goto 4, 3) := by decide +kernel
theorem dX4_join_21 : decode cX4_join 21 = .ok (.iconst 0, 1) := by decide +kernel
theorem dX4_join_22 : decode cX4_join 22 = .ok (.putfield 64, 3) := by decide +kernel
theorem dX4_join_25 : decode cX4_join 25 = .ok (.aload_n 0, 1) := by decide +kernel
theorem dX4_join_26 : decode cX4_join 26 = .ok (.getfield 64, 3) := by decide +kernel
theorem dX4_join_29 : decode cX4_join 29 = .ok (.ifCond .ne 60, 3) := by decide +kernel
theorem dX4_join_32 : decode cX4_join 32 = .ok (.aload_n 0, 1) := by decide +kernel
theorem dX4_join_33 : decode cX4_join 33 = .ok (.iload_n 1, 1) := by decide +kernel
theorem dX4_join_34 : decode cX4_join 34 = .ok (.iload_n 2, 1) := by decide +kernel
theorem dX4_join_35 : decode cX4_join 35 = .ok (.if_icmp .eq 46, 3) := by decide +kernel
theorem dX4_join_38 : decode cX4_join 38 = .ok (.aload_n 0, 1) := by decide +kernel
theorem dX4_join_39 : decode cX4_join 39 = .ok (.getfield 44, 3) := by decide +kernel
theorem dX4_join_42 : decode cX4_join 42 = .ok (.iload_n 1, 1) := by decide +kernel
theorem dX4_join_43 : decode cX4_join 43 = .ok (.baload, 1) := by decide +kernel
theorem dX4_join_44 : decode cX4_join 44 = .ok (.ifCond .ne 37, 3) := by decide +kernel
theorem dX4_join_47 : decode cX4_join 47 = .ok (.aload_n 0, 1) := by decide +kernel
theorem dX4_join_48 : decode cX4_join 48 = .ok (.getfield 44, 3) := by decide +kernel
theorem dX4_join_51 : decode cX4_join 51 = .ok (.iload_n 2, 1) := by decide +kernel
theorem dX4_join_52 : decode cX4_join 52 = .ok (.baload, 1) := by decide +kernel
theorem dX4_join_53 : decode cX4_join 53 = .ok (.ifCond .ne 28, 3) := by decide +kernel
theorem dX4_join_56 : decode cX4_join 56 = .ok (.aload_n 0, 1) := by decide +kernel
theorem dX4_join_57 : decode cX4_join 57 = .ok (.getfield 19, 3) := by decide +kernel
theorem dX4_join_60 : decode cX4_join 60 = .ok (.aload_n 0, 1) := by decide +kernel
theorem dX4_join_61 : decode cX4_join 61 = .ok (.iload_n 1, 1) := by decide +kernel
theorem dX4_join_62 : decode cX4_join 62 = .ok (.iconst 0, 1) := by decide +kernel
theorem dX4_join_63 : decode cX4_join 63 = .ok (.invokevirtual 142, 3) := by decide +kernel
theorem dX4_join_66 : decode cX4_join 66 = .ok (.iaload, 1) := by decide +kernel
theorem dX4_join_67 : decode cX4_join 67 = .ok (.aload_n 0, 1) := by decide +kernel
theorem dX4_join_68 : decode cX4_join 68 = .ok (.getfield 19, 3) := by decide +kernel
theorem dX4_join_71 : decode cX4_join 71 = .ok (.aload_n 0, 1) := by decide +kernel
theorem dX4_join_72 : decode cX4_join 72 = .ok (.iload_n 2, 1) := by decide +kernel
theorem dX4_join_73 : decode cX4_join 73 = .ok (.iconst 0, 1) := by decide +kernel
theorem dX4_join_74 : decode cX4_join 74 = .ok (.invokevirtual 142, 3) := by decide +kernel
theorem dX4_join_77 : decode cX4_join 77 = .ok (.iaload, 1) := by decide +kernel
theorem dX4_join_78 : decode cX4_join 78 = .ok (.if_icmp .eq 7, 3) := by decide +kernel
theorem dX4_join_81 : decode cX4_join 81 = .ok (.iconst 2, 1) := by decide +kernel
theorem dX4_join_82 : decode cX4_join 82 = .ok (.goto 4, 3) := by decide +kernel
theorem dX4_join_85 : decode cX4_join 85 = .ok (.iconst 0, 1) := by decide +kernel
theorem dX4_join_86 : decode cX4_join 86 = .ok (.putfield 64, 3) := by decide +kernel
theorem dX4_join_89 : decode cX4_join 89 = .ok (.aload_n 0, 1) := by decide +kernel
theorem dX4_join_90 : decode cX4_join 90 = .ok (.getfield 64, 3) := by decide +kernel
theorem dX4_join_93 : decode cX4_join 93 = .ok (.ifCond .le 5, 3) := by decide +kernel
theorem dX4_join_96 : decode cX4_join 96 = .ok (.iconst 0, 1) := by decide +kernel
theorem dX4_join_97 : decode cX4_join 97 = .ok (.ireturn, 1) := by decide +kernel
theorem dX4_join_98 : decode cX4_join 98 = .ok (.iconst 0, 1) := by decide +kernel
theorem dX4_join_99 : decode cX4_join 99 = .ok (.istore_n 3, 1) := by decide +kernel
theorem dX4_join_100 : decode cX4_join 100 = .ok (.iload_n 3, 1) := by decide +kernel
theorem dX4_join_101 : decode cX4_join 101 = .ok (.aload_n 0, 1) := by decide +kernel
theorem dX4_join_102 : decode cX4_join 102 = .ok (.getfield 67, 3) := by decide +kernel
theorem dX4_join_105 : decode cX4_join 105 = .ok (.if_icmp .ge 33, 3) := by decide +kernel
theorem dX4_join_108 : decode cX4_join 108 = .ok (.aload_n 0, 1) := by decide +kernel
theorem dX4_join_109 : decode cX4_join 109 = .ok (.getfield 53, 3) := by decide +kernel
theorem dX4_join_112 : decode cX4_join 112 = .ok (.iload_n 3, 1) := by decide +kernel
theorem dX4_join_113 : decode cX4_join 113 = .ok (.aload_n 0, 1) := by decide +kernel
theorem dX4_join_114 : decode cX4_join 114 = .ok (.getfield 25, 3) := by decide +kernel
theorem dX4_join_117 : decode cX4_join 117 = .ok (.iload_n 3, 1) := by decide +kernel
theorem dX4_join_118 : decode cX4_join 118 = .ok (.iaload, 1) := by decide +kernel
theorem dX4_join_119 : decode cX4_join 119 = .ok (.iastore, 1) := by decide +kernel
theorem dX4_join_120 : decode cX4_join 120 = .ok (.aload_n 0, 1) := by decide +kernel
theorem dX4_join_121 : decode cX4_join 121 = .ok (.getfield 50, 3) := by decide +kernel
theorem dX4_join_124 : decode cX4_join 124 = .ok (.iload_n 3, 1) := by decide +kernel
theorem dX4_join_125 : decode cX4_join 125 = .ok (.aload_n 0, 1) := by decide +kernel
theorem dX4_join_126 : decode cX4_join 126 = .ok (.getfield 22, 3) := by decide +kernel
theorem dX4_join_129 : decode cX4_join 129 = .ok (.iload_n 3, 1) := by decide +kernel
theorem dX4_join_130 : decode cX4_join 130 = .ok (.iaload, 1) := by decide +kernel
theorem dX4_join_131 : decode cX4_join 131 = .ok (.iastore, 1) := by decide +kernel
theorem dX4_join_132 : decode cX4_join 132 = .ok (.iinc 3 1, 3) := by decide +kernel
theorem dX4_join_135 : decode cX4_join 135 = .ok (.goto (-35), 3) := by decide +kernel
theorem dX4_join_138 : decode cX4_join 138 = .ok (.aload_n 0, 1) := by decide +kernel
theorem dX4_join_139 : decode cX4_join 139 = .ok (.iload_n 2, 1) := by decide +kernel
theorem dX4_join_140 : decode cX4_join 140 = .ok (.invokevirtual 102, 3) := by decide +kernel
theorem dX4_join_143 : decode cX4_join 143 = .ok (.istore_n 3, 1) := by decide +kernel
theorem dX4_join_144 : decode cX4_join 144 = .ok (.iconst 0, 1) := by decide +kernel
theorem dX4_join_145 : decode cX4_join 145 = .ok (.istore 4, 2) := by decide +kernel
theorem dX4_join_147 : decode cX4_join 147 = .ok (.iload 4, 2) := by decide +kernel
theorem dX4_join_149 : decode cX4_join 149 = .ok (.iload_n 3, 1) := by decide +kernel
theorem dX4_join_150 : decode cX4_join 150 = .ok (.if_icmp .ge 46, 3) := by decide +kernel
theorem dX4_join_153 : decode cX4_join 153 = .ok (.aload_n 0, 1) := by decide +kernel
theorem dX4_join_154 : decode cX4_join 154 = .ok (.iload_n 2, 1) := by decide +kernel
theorem dX4_join_155 : decode cX4_join 155 = .ok (.iconst 0, 1) := by decide +kernel
theorem dX4_join_156 : decode cX4_join 156 = .ok (.invokevirtual 142, 3) := by decide +kernel
theorem dX4_join_159 : decode cX4_join 159 = .ok (.istore 5, 2) := by decide +kernel
theorem dX4_join_161 : decode cX4_join 161 = .ok (.aload_n 0, 1) := by decide +kernel
theorem dX4_join_162 : decode cX4_join 162 = .ok (.getfield 22, 3) := by decide +kernel
theorem dX4_join_165 : decode cX4_join 165 = .ok (.iload 5, 2) := by decide +kernel
theorem dX4_join_167 : decode cX4_join 167 = .ok (.iload_n 1, 1) := by decide +kernel
theorem dX4_join_168 : decode cX4_join 168 = .ok (.iastore, 1) := by decide +kernel
theorem dX4_join_169 : decode cX4_join 169 = .ok (.aload_n 0, 1) := by decide +kernel
theorem dX4_join_170 : decode cX4_join 170 = .ok (.getfield 25, 3) := by decide +kernel
theorem dX4_join_173 : decode cX4_join 173 = .ok (.iload 5, 2) := by decide +kernel
theorem dX4_join_175 : decode cX4_join 175 = .ok (.aload_n 0, 1) := by decide +kernel
theorem dX4_join_176 : decode cX4_join 176 = .ok (.getfield 109, 3) := by decide +kernel
theorem dX4_join_179 : decode cX4_join 179 = .ok (.iastore, 1) := by decide +kernel
theorem dX4_join_180 : decode cX4_join 180 = .ok (.aload_n 0, 1) := by decide +kernel
theorem dX4_join_181 : decode cX4_join 181 = .ok (.dup, 1) := by decide +kernel
theorem dX4_join_182 : decode cX4_join 182 = .ok (.getfield 109, 3) := by decide +kernel
theorem dX4_join_185 : decode cX4_join 185 = .ok (.iconst 1, 1) := by decide +kernel
theorem dX4_join_186 : decode cX4_join 186 = .ok (.iadd, 1) := by decide +kernel
theorem dX4_join_187 : decode cX4_join 187 = .ok (.putfield 109, 3) := by decide +kernel
theorem dX4_join_190 : decode cX4_join 190 = .ok (.iinc 4 1, 3) := by decide +kernel
theorem dX4_join_193 : decode cX4_join 193 = .ok (.goto (-46), 3) := by decide +kernel
theorem dX4_join_196 : decode cX4_join 196 = .ok (.aload_n 0, 1) := by decide +kernel
theorem dX4_join_197 : decode cX4_join 197 = .ok (.iload_n 1, 1) := by decide +kernel
theorem dX4_join_198 : decode cX4_join 198 = .ok (.invokevirtual 139, 3) := by decide +kernel
theorem dX4_join_201 : decode cX4_join 201 = .ok (.aload_n 0, 1) := by decide +kernel
theorem dX4_join_202 : decode cX4_join 202 = .ok (.getfield 60, 3) := by decide +kernel
theorem dX4_join_205 : decode cX4_join 205 = .ok (.if_icmp .gt 9, 3) := by decide +kernel
theorem dX4_join_208 : decode cX4_join 208 = .ok (.aload_n 0, 1) := by decide +kernel
theorem dX4_join_209 : decode cX4_join 209 = .ok (.iload_n 1, 1) := by decide +kernel
theorem dX4_join_210 : decode cX4_join 210 = .ok (.invokevirtual 139, 3) := by decide +kernel
theorem dX4_join_213 : decode cX4_join 213 = .ok (.ireturn, 1) := by decide +kernel
theorem dX4_join_214 : decode cX4_join 214 = .ok (.iconst 0, 1) := by decide +kernel
theorem dX4_join_215 : decode cX4_join 215 = .ok (.istore 4, 2) := by decide +kernel
theorem dX4_join_217 : decode cX4_join 217 = .ok (.iload 4, 2) := by decide +kernel
theorem dX4_join_219 : decode cX4_join 219 = .ok (.aload_n 0, 1) := by decide +kernel
theorem dX4_join_220 : decode cX4_join 220 = .ok (.getfield 67, 3) := by decide +kernel
theorem dX4_join_223 : decode cX4_join 223 = .ok (.if_icmp .ge 37, 3) := by decide +kernel
theorem dX4_join_226 : decode cX4_join 226 = .ok (.aload_n 0, 1) := by decide +kernel
theorem dX4_join_227 : decode cX4_join 227 = .ok (.getfield 25, 3) := by decide +kernel
theorem dX4_join_230 : decode cX4_join 230 = .ok (.iload 4, 2) := by decide +kernel
theorem dX4_join_232 : decode cX4_join 232 = .ok (.aload_n 0, 1) := by decide +kernel
theorem dX4_join_233 : decode cX4_join 233 = .ok (.getfield 53, 3) := by decide +kernel
theorem dX4_join_236 : decode cX4_join 236 = .ok (.iload 4, 2) := by decide +kernel
theorem dX4_join_238 : decode cX4_join 238 = .ok (.iaload, 1) := by decide +kernel
theorem dX4_join_239 : decode cX4_join 239 = .ok (.iastore, 1) := by decide +kernel
theorem dX4_join_240 : decode cX4_join 240 = .ok (.aload_n 0, 1) := by decide +kernel
theorem dX4_join_241 : decode cX4_join 241 = .ok (.getfield 22, 3) := by decide +kernel
theorem dX4_join_244 : decode cX4_join 244 = .ok (.iload 4, 2) := by decide +kernel
theorem dX4_join_246 : decode cX4_join 246 = .ok (.aload_n 0, 1) := by decide +kernel
theorem dX4_join_247 : decode cX4_join 247 = .ok (.getfield 50, 3) := by decide +kernel
theorem dX4_join_250 : decode cX4_join 250 = .ok (.iload 4, 2) := by decide +kernel
theorem dX4_join_252 : decode cX4_join 252 = .ok (.iaload, 1) := by decide +kernel
theorem dX4_join_253 : decode cX4_join 253 = .ok (.iastore, 1) := by decide +kernel
theorem dX4_join_254 : decode cX4_join 254 = .ok (.iinc 4 1, 3) := by decide +kernel
theorem dX4_join_257 : decode cX4_join 257 = .ok (.goto (-40), 3) := by decide +kernel
theorem dX4_join_260 : decode cX4_join 260 = .ok (.aload_n 0, 1) := by decide +kernel
theorem dX4_join_261 : decode cX4_join 261 = .ok (.iconst 2, 1) := by decide +kernel
theorem dX4_join_262 : decode cX4_join 262 = .ok (.putfield 64, 3) := by decide +kernel
theorem dX4_join_265 : decode cX4_join 265 = .ok (.iconst 0, 1) := by decide +kernel
theorem dX4_join_266 : decode cX4_join 266 = .ok (.ireturn, 1) := by decide +kernel
theorem dX4_cutoff_0 : decode cX4_cutoff 0 = .ok (.aload_n 0, 1) := by decide +kernel
theorem dX4_cutoff_1 : decode cX4_cutoff 1 = .ok (.iload_n 1, 1) := by decide +kernel
theorem dX4_cutoff_2 : decode cX4_cutoff 2 = .ok (.iconst 0, 1) := by decide +kernel
theorem dX4_cutoff_3 : decode cX4_cutoff 3 = .ok (.iconst 3, 1) := by decide +kernel
theorem dX4_cutoff_4 : decode cX4_cutoff 4 = .ok (.invokestatic 70, 3) := by decide +kernel
theorem dX4_cutoff_7 : decode cX4_cutoff 7 = .ok (.ifCond .eq 14, 3) := by decide +kernel
theorem dX4_cutoff_10 : decode cX4_cutoff 10 = .ok (.iload_n 2, 1) := by decide +kernel
theorem dX4_cutoff_11 : decode cX4_cutoff 11 = .ok (.invokestatic 75, 3) := by decide +kernel
theorem dX4_cutoff_14 : decode cX4_cutoff 14 = .ok (.ifCond .eq 7, 3) := by decide +kernel
theorem dX4_cutoff_17 : decode cX4_cutoff 17 = .ok (.iconst 0, 1) := by decide +kernel
theorem dX4_cutoff_18 : decode cX4_cutoff 18 = .ok (.goto 4, 3) := by decide +kernel
theorem dX4_cutoff_21 : decode cX4_cutoff 21 = .ok (.iconst 1, 1) := by decide +kernel
theorem dX4_cutoff_22 : decode cX4_cutoff 22 = .ok (.putfield 64, 3) := by decide +kernel
theorem dX4_cutoff_25 : decode cX4_cutoff 25 = .ok (.aload_n 0, 1) := by decide +kernel
theorem dX4_cutoff_26 : decode cX4_cutoff 26 = .ok (.getfield 64, 3) := by decide +kernel
theorem dX4_cutoff_29 : decode cX4_cutoff 29 = .ok (.ifCond .le 5, 3) := by decide +kernel
theorem dX4_cutoff_32 : decode cX4_cutoff 32 = .ok (.iconst 0, 1) := by decide +kernel
theorem dX4_cutoff_33 : decode cX4_cutoff 33 = .ok (.ireturn, 1) := by decide +kernel
theorem dX4_cutoff_34 : decode cX4_cutoff 34 = .ok (.iconst 0, 1) := by decide +kernel
theorem dX4_cutoff_35 : decode cX4_cutoff 35 = .ok (.istore_n 3, 1) := by decide +kernel
theorem dX4_cutoff_36 : decode cX4_cutoff 36 = .ok (.iconst 0, 1) := by decide +kernel
theorem dX4_cutoff_37 : decode cX4_cutoff 37 = .ok (.istore 4, 2) := by decide +kernel
theorem dX4_cutoff_39 : decode cX4_cutoff 39 = .ok (.iload 4, 2) := by decide +kernel
theorem dX4_cutoff_41 : decode cX4_cutoff 41 = .ok (.aload_n 0, 1) := by decide +kernel
theorem dX4_cutoff_42 : decode cX4_cutoff 42 = .ok (.getfield 67, 3) := by decide +kernel
theorem dX4_cutoff_45 : decode cX4_cutoff 45 = .ok (.if_icmp .ge 81, 3) := by decide +kernel
theorem dX4_cutoff_48 : decode cX4_cutoff 48 = .ok (.aload_n 0, 1) := by decide +kernel
theorem dX4_cutoff_49 : decode cX4_cutoff 49 = .ok (.getfield 19, 3) := by decide +kernel
theorem dX4_cutoff_52 : decode cX4_cutoff 52 = .ok (.iload 4, 2) := by decide +kernel
theorem dX4_cutoff_54 : decode cX4_cutoff 54 = .ok (.iaload, 1) := by decide +kernel
theorem dX4_cutoff_55 : decode cX4_cutoff 55 = .ok (.iload_n 1, 1) := by decide +kernel
theorem dX4_cutoff_56 : decode cX4_cutoff 56 = .ok (.if_icmp .ne 64, 3) := by decide +kernel
theorem dX4_cutoff_59 : decode cX4_cutoff 59 = .ok (.aload_n 0, 1) := by decide +kernel
theorem dX4_cutoff_60 : decode cX4_cutoff 60 = .ok (.getfield 7, 3) := by decide +kernel
theorem dX4_cutoff_63 : decode cX4_cutoff 63 = .ok (.iload 4, 2) := by decide +kernel
theorem dX4_cutoff_65 : decode cX4_cutoff 65 = .ok (.iaload, 1) := by decide +kernel
theorem dX4_cutoff_66 : decode cX4_cutoff 66 = .ok (.iload_n 2, 1) := by decide +kernel
theorem dX4_cutoff_67 : decode cX4_cutoff 67 = .ok (.if_icmp .gt 53, 3) := by decide +kernel
theorem dX4_cutoff_70 : decode cX4_cutoff 70 = .ok (.aload_n 0, 1) := by decide +kernel
theorem dX4_cutoff_71 : decode cX4_cutoff 71 = .ok (.getfield 22, 3) := by decide +kernel
theorem dX4_cutoff_74 : decode cX4_cutoff 74 = .ok (.iload 4, 2) := by decide +kernel
theorem dX4_cutoff_76 : decode cX4_cutoff 76 = .ok (.iaload, 1) := by decide +kernel
theorem dX4_cutoff_77 : decode cX4_cutoff 77 = .ok (.iconst (-1), 1) := by decide +kernel
theorem dX4_cutoff_78 : decode cX4_cutoff 78 = .ok (.if_icmp .eq 42, 3) := by decide +kernel
theorem dX4_cutoff_81 : decode cX4_cutoff 81 = .ok (.aload_n 0, 1) := by decide +kernel
theorem dX4_cutoff_82 : decode cX4_cutoff 82 = .ok (.getfield 22, 3) := by decide +kernel
theorem dX4_cutoff_85 : decode cX4_cutoff 85 = .ok (.iload 4, 2) := by decide +kernel
theorem dX4_cutoff_87 : decode cX4_cutoff 87 = .ok (.iaload, 1) := by decide +kernel
theorem dX4_cutoff_88 : decode cX4_cutoff 88 = .ok (.ifCond .le 21, 3) := by decide +kernel
theorem dX4_cutoff_91 : decode cX4_cutoff 91 = .ok (.aload_n 0, 1) := by decide +kernel
theorem dX4_cutoff_92 : decode cX4_cutoff 92 = .ok (.getfield 44, 3) := by decide +kernel
theorem dX4_cutoff_95 : decode cX4_cutoff 95 = .ok (.aload_n 0, 1) := by decide +kernel
theorem dX4_cutoff_96 : decode cX4_cutoff 96 = .ok (.getfield 22, 3) := by decide +kernel
theorem dX4_cutoff_99 : decode cX4_cutoff 99 = .ok (.iload 4, 2) := by decide +kernel
theorem dX4_cutoff_101 : decode cX4_cutoff 101 = .ok (.iaload, 1) := by decide +kernel
theorem dX4_cutoff_102 : decode cX4_cutoff 102 = .ok (.baload, 1) := by decide +kernel
theorem dX4_cutoff_103 : decode cX4_cutoff 103 = .ok (.ifCond .eq 6, 3) := by decide +kernel
theorem dX4_cutoff_106 : decode cX4_cutoff 106 = .ok (.goto 14, 3) := by decide +kernel
theorem dX4_cutoff_109 : decode cX4_cutoff 109 = .ok (.aload_n 0, 1) := by decide +kernel
theorem dX4_cutoff_110 : decode cX4_cutoff 110 = .ok (.getfield 22, 3) := by decide +kernel
theorem dX4_cutoff_113 : decode cX4_cutoff 113 = .ok (.iload 4, 2) := by decide +kernel
theorem dX4_cutoff_115 : decode cX4_cutoff 115 = .ok (.iconst (-1), 1) := by decide +kernel
theorem dX4_cutoff_116 : decode cX4_cutoff 116 = .ok (.iastore, 1) := by decide +kernel
theorem dX4_cutoff_117 : decode cX4_cutoff 117 = .ok (.iinc 3 1, 3) := by decide +kernel
theorem dX4_cutoff_120 : decode cX4_cutoff 120 = .ok (.iinc 4 1, 3) := by decide +kernel
theorem dX4_cutoff_123 : decode cX4_cutoff 123 = .ok (.goto (-84), 3) := by decide +kernel
theorem dX4_cutoff_126 : decode cX4_cutoff 126 = .ok (.iload_n 3, 1) := by decide +kernel
theorem dX4_cutoff_127 : decode cX4_cutoff 127 = .ok (.ireturn, 1) := by decide +kernel
theorem dX4_late_0 : decode cX4_late 0 = .ok (.aload_n 0, 1) := by decide +kernel
theorem dX4_late_1 : decode cX4_late 1 = .ok (.iload_n 1, 1) := by decide +kernel
theorem dX4_late_2 : decode cX4_late 2 = .ok (.ifCond .ge 7, 3) := by decide +kernel
theorem dX4_late_5 : decode cX4_late 5 = .ok (.iconst 1, 1) := by decide +kernel
theorem dX4_late_6 : decode cX4_late 6 = .ok (.goto 4, 3) := by decide +kernel
theorem dX4_late_9 : decode cX4_late 9 = .ok (.iconst 0, 1) := by decide +kernel
theorem dX4_late_10 : decode cX4_late 10 = .ok (.putfield 64, 3) := by decide +kernel
theorem dX4_late_13 : decode cX4_late 13 = .ok (.aload_n 0, 1) := by decide +kernel
theorem dX4_late_14 : decode cX4_late 14 = .ok (.getfield 64, 3) := by decide +kernel
theorem dX4_late_17 : decode cX4_late 17 = .ok (.ifCond .le 5, 3) := by decide +kernel
theorem dX4_late_20 : decode cX4_late 20 = .ok (.iconst 0, 1) := by decide +kernel
theorem dX4_late_21 : decode cX4_late 21 = .ok (.ireturn, 1) := by decide +kernel
theorem dX4_late_22 : decode cX4_late 22 = .ok (.iload_n 1, 1) := by decide +kernel
theorem dX4_late_23 : decode cX4_late 23 = .ok (.istore_n 2, 1) := by decide +kernel
theorem dX4_late_24 : decode cX4_late 24 = .ok (.iconst 0, 1) := by decide +kernel
theorem dX4_late_25 : decode cX4_late 25 = .ok (.istore_n 3, 1) := by decide +kernel
theorem dX4_late_26 : decode cX4_late 26 = .ok (.iload_n 3, 1) := by decide +kernel
theorem dX4_late_27 : decode cX4_late 27 = .ok (.aload_n 0, 1) := by decide +kernel
theorem dX4_late_28 : decode cX4_late 28 = .ok (.getfield 67, 3) := by decide +kernel
theorem dX4_late_31 : decode cX4_late 31 = .ok (.if_icmp .ge 31, 3) := by decide +kernel
theorem dX4_late_34 : decode cX4_late 34 = .ok (.aload_n 0, 1) := by decide +kernel
theorem dX4_late_35 : decode cX4_late 35 = .ok (.getfield 22, 3) := by decide +kernel
theorem dX4_late_38 : decode cX4_late 38 = .ok (.iload_n 3, 1) := by decide +kernel
theorem dX4_late_39 : decode cX4_late 39 = .ok (.iaload, 1) := by decide +kernel
theorem dX4_late_40 : decode cX4_late 40 = .ok (.iconst (-1), 1) := by decide +kernel
theorem dX4_late_41 : decode cX4_late 41 = .ok (.if_icmp .eq 6, 3) := by decide +kernel
theorem dX4_late_44 : decode cX4_late 44 = .ok (.goto 12, 3) := by decide +kernel
theorem dX4_late_47 : decode cX4_late 47 = .ok (.iload_n 2, 1) := by decide +kernel
theorem dX4_late_48 : decode cX4_late 48 = .ok (.ifCond .ne 5, 3) := by decide +kernel
theorem dX4_late_51 : decode cX4_late 51 = .ok (.iload_n 3, 1) := by decide +kernel
theorem dX4_late_52 : decode cX4_late 52 = .ok (.ireturn, 1) := by decide +kernel
theorem dX4_late_53 : decode cX4_late 53 = .ok (.iinc 2 (-1), 3) := by decide +kernel
theorem dX4_late_56 : decode cX4_late 56 = .ok (.iinc 3 1, 3) := by decide +kernel
theorem dX4_late_59 : decode cX4_late 59 = .ok (.goto (-33), 3) := by decide +kernel
theorem dX4_late_62 : decode cX4_late 62 = .ok (.iconst (-1), 1) := by decide +kernel
theorem dX4_late_63 : decode cX4_late 63 = .ok (.ireturn, 1) := by decide +kernel
theorem dX4_count_0 : decode cX4_count 0 = .ok (.aload_n 0, 1) := by decide +kernel
theorem dX4_count_1 : decode cX4_count 1 = .ok (.iconst 0, 1) := by decide +kernel
theorem dX4_count_2 : decode cX4_count 2 = .ok (.putfield 64, 3) := by decide +kernel
theorem dX4_count_5 : decode cX4_count 5 = .ok (.iload_n 1, 1) := by decide +kernel
theorem dX4_count_6 : decode cX4_count 6 = .ok (.ifCond .ne 8, 3) := by decide +kernel
theorem dX4_count_9 : decode cX4_count 9 = .ok (.aload_n 0, 1) := by decide +kernel
theorem dX4_count_10 : decode cX4_count 10 = .ok (.getfield 67, 3) := by decide +kernel
theorem dX4_count_13 : decode cX4_count 13 = .ok (.ireturn, 1) := by decide +kernel
theorem dX4_count_14 : decode cX4_count 14 = .ok (.iload_n 1, 1) := by decide +kernel
theorem dX4_count_15 : decode cX4_count 15 = .ok (.bipush 6, 2) := by decide +kernel
theorem dX4_count_17 : decode cX4_count 17 = .ok (.if_icmp .ne 8, 3) := by decide +kernel
theorem dX4_count_20 : decode cX4_count 20 = .ok (.aload_n 0, 1) := by decide +kernel
theorem dX4_count_21 : decode cX4_count 21 = .ok (.getfield 60, 3) := by decide +kernel
theorem dX4_count_24 : decode cX4_count 24 = .ok (.ireturn, 1) := by decide +kernel
theorem dX4_count_25 : decode cX4_count 25 = .ok (.iconst 0, 1) := by decide +kernel
theorem dX4_count_26 : decode cX4_count 26 = .ok (.istore_n 2, 1) := by decide +kernel
theorem dX4_count_27 : decode cX4_count 27 = .ok (.iconst 1, 1) := by decide +kernel
theorem dX4_count_28 : decode cX4_count 28 = .ok (.istore_n 3, 1) := by decide +kernel
theorem dX4_count_29 : decode cX4_count 29 = .ok (.iload_n 3, 1) := by decide +kernel
theorem dX4_count_30 : decode cX4_count 30 = .ok (.aload_n 0, 1) := by decide +kernel
theorem dX4_count_31 : decode cX4_count 31 = .ok (.getfield 99, 3) := by decide +kernel
theorem dX4_count_34 : decode cX4_count 34 = .ok (.if_icmp .gt 47, 3) := by decide +kernel
theorem dX4_count_37 : decode cX4_count 37 = .ok (.iload_n 2, 1) := by decide +kernel
theorem dX4_count_38 : decode cX4_count 38 = .ok (.iload_n 1, 1) := by decide +kernel
theorem dX4_count_39 : decode cX4_count 39 = .ok (.iconst 1, 1) := by decide +kernel
theorem dX4_count_40 : decode cX4_count 40 = .ok (.if_icmp .ne 19, 3) := by decide +kernel
theorem dX4_count_43 : decode cX4_count 43 = .ok (.aload_n 0, 1) := by decide +kernel
theorem dX4_count_44 : decode cX4_count 44 = .ok (.iload_n 3, 1) := by decide +kernel
theorem dX4_count_45 : decode cX4_count 45 = .ok (.invokevirtual 102, 3) := by decide +kernel
theorem dX4_count_48 : decode cX4_count 48 = .ok (.ifCond .le 7, 3) := by decide +kernel
theorem dX4_count_51 : decode cX4_count 51 = .ok (.iconst 1, 1) := by decide +kernel
theorem dX4_count_52 : decode cX4_count 52 = .ok (.goto 21, 3) := by decide +kernel
theorem dX4_count_55 : decode cX4_count 55 = .ok (.iconst 0, 1) := by decide +kernel
theorem dX4_count_56 : decode cX4_count 56 = .ok (.goto 17, 3) := by decide +kernel
theorem dX4_count_59 : decode cX4_count 59 = .ok (.iload_n 1, 1) := by decide +kernel
theorem dX4_count_60 : decode cX4_count 60 = .ok (.iconst 5, 1) := by decide +kernel
theorem dX4_count_61 : decode cX4_count 61 = .ok (.if_icmp .ne 11, 3) := by decide +kernel
theorem dX4_count_64 : decode cX4_count 64 = .ok (.aload_n 0, 1) := by decide +kernel
theorem dX4_count_65 : decode cX4_count 65 = .ok (.iload_n 3, 1) := by decide +kernel
theorem dX4_count_66 : decode cX4_count 66 = .ok (.invokevirtual 96, 3) := by decide +kernel
theorem dX4_count_69 : decode cX4_count 69 = .ok (.goto 4, 3) := by decide +kernel
theorem dX4_count_72 : decode cX4_count 72 = .ok (.iconst 0, 1) := by decide +kernel
theorem dX4_count_73 : decode cX4_count 73 = .ok (.iadd, 1) := by decide +kernel
theorem dX4_count_74 : decode cX4_count 74 = .ok (.istore_n 2, 1) := by decide +kernel
theorem dX4_count_75 : decode cX4_count 75 = .ok (.iinc 3 1, 3) := by decide +kernel
theorem dX4_count_78 : decode cX4_count 78 = .ok (.goto (-49), 3) := by decide +kernel
theorem dX4_count_81 : decode cX4_count 81 = .ok (.iconst 0, 1) := by decide +kernel
theorem dX4_count_82 : decode cX4_count 82 = .ok (.istore_n 3, 1) := by decide +kernel
theorem dX4_count_83 : decode cX4_count 83 = .ok (.iload_n 3, 1) := by decide +kernel
theorem dX4_count_84 : decode cX4_count 84 = .ok (.aload_n 0, 1) := by decide +kernel
theorem dX4_count_85 : decode cX4_count 85 = .ok (.getfield 67, 3) := by decide +kernel
theorem dX4_count_88 : decode cX4_count 88 = .ok (.if_icmp .ge 60, 3) := by decide +kernel
theorem dX4_count_91 : decode cX4_count 91 = .ok (.iload_n 2, 1) := by decide +kernel
theorem dX4_count_92 : decode cX4_count 92 = .ok (.iload_n 1, 1) := by decide +kernel
theorem dX4_count_93 : decode cX4_count 93 = .ok (.iconst 2, 1) := by decide +kernel
theorem dX4_count_94 : decode cX4_count 94 = .ok (.if_icmp .ne 12, 3) := by decide +kernel
theorem dX4_count_97 : decode cX4_count 97 = .ok (.aload_n 0, 1) := by decide +kernel
theorem dX4_count_98 : decode cX4_count 98 = .ok (.getfield 22, 3) := by decide +kernel
theorem dX4_count_101 : decode cX4_count 101 = .ok (.iload_n 3, 1) := by decide +kernel
theorem dX4_count_102 : decode cX4_count 102 = .ok (.iaload, 1) := by decide +kernel
theorem dX4_count_103 : decode cX4_count 103 = .ok (.ifCond .eq 32, 3) := by decide +kernel
theorem dX4_count_106 : decode cX4_count 106 = .ok (.iload_n 1, 1) := by decide +kernel
theorem dX4_count_107 : decode cX4_count 107 = .ok (.iconst 3, 1) := by decide +kernel
theorem dX4_count_108 : decode cX4_count 108 = .ok (.if_icmp .ne 13, 3) := by decide +kernel
theorem dX4_count_111 : decode cX4_count 111 = .ok (.aload_n 0, 1) := by decide +kernel
theorem dX4_count_112 : decode cX4_count 112 = .ok (.getfield 22, 3) := by decide +kernel
theorem dX4_count_115 : decode cX4_count 115 = .ok (.iload_n 3, 1) := by decide +kernel
theorem dX4_count_116 : decode cX4_count 116 = .ok (.iaload, 1) := by decide +kernel
theorem dX4_count_117 : decode cX4_count 117 = .ok (.iconst (-1), 1) := by decide +kernel
theorem dX4_count_118 : decode cX4_count 118 = .ok (.if_icmp .eq 17, 3) := by decide +kernel
theorem dX4_count_121 : decode cX4_count 121 = .ok (.iload_n 1, 1) := by decide +kernel
theorem dX4_count_122 : decode cX4_count 122 = .ok (.iconst 4, 1) := by decide +kernel
theorem dX4_count_123 : decode cX4_count 123 = .ok (.if_icmp .ne 16, 3) := by decide +kernel
theorem dX4_count_126 : decode cX4_count 126 = .ok (.aload_n 0, 1) := by decide +kernel
theorem dX4_count_127 : decode cX4_count 127 = .ok (.getfield 28, 3) := by decide +kernel
theorem dX4_count_130 : decode cX4_count 130 = .ok (.iload_n 3, 1) := by decide +kernel
theorem dX4_count_131 : decode cX4_count 131 = .ok (.baload, 1) := by decide +kernel
theorem dX4_count_132 : decode cX4_count 132 = .ok (.ifCond .eq 7, 3) := by decide +kernel
theorem dX4_count_135 : decode cX4_count 135 = .ok (.iconst 1, 1) := by decide +kernel
theorem dX4_count_136 : decode cX4_count 136 = .ok (.goto 4, 3) := by decide +kernel
theorem dX4_count_139 : decode cX4_count 139 = .ok (.iconst 0, 1) := by decide +kernel
theorem dX4_count_140 : decode cX4_count 140 = .ok (.iadd, 1) := by decide +kernel
theorem dX4_count_141 : decode cX4_count 141 = .ok (.istore_n 2, 1) := by decide +kernel
theorem dX4_count_142 : decode cX4_count 142 = .ok (.iinc 3 1, 3) := by decide +kernel
theorem dX4_count_145 : decode cX4_count 145 = .ok (.goto (-62), 3) := by decide +kernel
theorem dX4_count_148 : decode cX4_count 148 = .ok (.iload_n 1, 1) := by decide +kernel
theorem dX4_count_149 : decode cX4_count 149 = .ok (.iconst 1, 1) := by decide +kernel
theorem dX4_count_150 : decode cX4_count 150 = .ok (.iconst 5, 1) := by decide +kernel
theorem dX4_count_151 : decode cX4_count 151 = .ok (.invokestatic 70, 3) := by decide +kernel
theorem dX4_count_154 : decode cX4_count 154 = .ok (.ifCond .eq 7, 3) := by decide +kernel
theorem dX4_count_157 : decode cX4_count 157 = .ok (.iload_n 2, 1) := by decide +kernel
theorem dX4_count_158 : decode cX4_count 158 = .ok (.goto 4, 3) := by decide +kernel
theorem dX4_count_161 : decode cX4_count 161 = .ok (.iconst (-1), 1) := by decide +kernel
theorem dX4_count_162 : decode cX4_count 162 = .ok (.ireturn, 1) := by decide +kernel
theorem dL_cell_0 : decode cL_cell 0 = .ok (.iload_n 1, 1) := by decide +kernel
theorem dL_cell_1 : decode cL_cell 1 = .ok (.aload_n 0, 1) := by decide +kernel
theorem dL_cell_2 : decode cL_cell 2 = .ok (.arraylength, 1) := by decide +kernel
theorem dL_cell_3 : decode cL_cell 3 = .ok (.if_icmp .ge 9, 3) := by decide +kernel
theorem dL_cell_6 : decode cL_cell 6 = .ok (.aload_n 0, 1) := by decide +kernel
theorem dL_cell_7 : decode cL_cell 7 = .ok (.iload_n 1, 1) := by decide +kernel
theorem dL_cell_8 : decode cL_cell 8 = .ok (.iaload, 1) := by decide +kernel
theorem dL_cell_9 : decode cL_cell 9 = .ok (.goto 4, 3) := by decide +kernel
theorem dL_cell_12 : decode cL_cell 12 = .ok (.iconst 0, 1) := by decide +kernel
theorem dL_cell_13 : decode cL_cell 13 = .ok (.ireturn, 1) := by decide +kernel
theorem dL_order_0 : decode cL_order 0 = .ok (.aload 4, 2) := by decide +kernel
theorem dL_order_2 : decode cL_order 2 = .ok (.iconst 0, 1) := by decide +kernel
theorem dL_order_3 : decode cL_order 3 = .ok (.aload_n 0, 1) := by decide +kernel
theorem dL_order_4 : decode cL_order 4 = .ok (.iload_n 1, 1) := by decide +kernel
theorem dL_order_5 : decode cL_order 5 = .ok (.iload_n 2, 1) := by decide +kernel
theorem dL_order_6 : decode cL_order 6 = .ok (.iload_n 3, 1) := by decide +kernel
theorem dL_order_7 : decode cL_order 7 = .ok (.invokevirtual 7, 3) := by decide +kernel
theorem dL_order_10 : decode cL_order 10 = .ok (.i2l, 1) := by decide +kernel
theorem dL_order_11 : decode cL_order 11 = .ok (.lastore, 1) := by decide +kernel
theorem dL_order_12 : decode cL_order 12 = .ok (.goto 11, 3) := by decide +kernel
theorem dL_order_15 : decode cL_order 15 = .ok (.astore 5, 2) := by decide +kernel
theorem dL_order_17 : decode cL_order 17 = .ok (.iconst 1, 1) := by decide +kernel
theorem dL_order_18 : decode cL_order 18 = .ok (.ireturn, 1) := by decide +kernel
theorem dL_order_19 : decode cL_order 19 = .ok (.astore 5, 2) := by decide +kernel
theorem dL_order_21 : decode cL_order 21 = .ok (.iconst 2, 1) := by decide +kernel
theorem dL_order_22 : decode cL_order 22 = .ok (.ireturn, 1) := by decide +kernel
theorem dL_order_23 : decode cL_order 23 = .ok (.iconst 0, 1) := by decide +kernel
theorem dL_order_24 : decode cL_order 24 = .ok (.ireturn, 1) := by decide +kernel
theorem dL_line_0 : decode cL_line 0 = .ok (.aload 4, 2) := by decide +kernel
theorem dL_line_2 : decode cL_line 2 = .ok (.iconst 0, 1) := by decide +kernel
theorem dL_line_3 : decode cL_line 3 = .ok (.aload_n 0, 1) := by decide +kernel
theorem dL_line_4 : decode cL_line 4 = .ok (.iload_n 1, 1) := by decide +kernel
theorem dL_line_5 : decode cL_line 5 = .ok (.iload_n 2, 1) := by decide +kernel
theorem dL_line_6 : decode cL_line 6 = .ok (.iload_n 3, 1) := by decide +kernel
theorem dL_line_7 : decode cL_line 7 = .ok (.invokevirtual 17, 3) := by decide +kernel
theorem dL_line_10 : decode cL_line 10 = .ok (.i2l, 1) := by decide +kernel
theorem dL_line_11 : decode cL_line 11 = .ok (.lastore, 1) := by decide +kernel
theorem dL_line_12 : decode cL_line 12 = .ok (.goto 19, 3) := by decide +kernel
theorem dL_line_15 : decode cL_line 15 = .ok (.astore 5, 2) := by decide +kernel
theorem dL_line_17 : decode cL_line 17 = .ok (.iconst 1, 1) := by decide +kernel
theorem dL_line_18 : decode cL_line 18 = .ok (.ireturn, 1) := by decide +kernel
theorem dL_line_19 : decode cL_line 19 = .ok (.astore 5, 2) := by decide +kernel
theorem dL_line_21 : decode cL_line 21 = .ok (.iconst 2, 1) := by decide +kernel
theorem dL_line_22 : decode cL_line 22 = .ok (.ireturn, 1) := by decide +kernel
theorem dL_line_23 : decode cL_line 23 = .ok (.astore 5, 2) := by decide +kernel
theorem dL_line_25 : decode cL_line 25 = .ok (.iconst 3, 1) := by decide +kernel
theorem dL_line_26 : decode cL_line 26 = .ok (.ireturn, 1) := by decide +kernel
theorem dL_line_27 : decode cL_line 27 = .ok (.astore 5, 2) := by decide +kernel
theorem dL_line_29 : decode cL_line 29 = .ok (.iconst 4, 1) := by decide +kernel
theorem dL_line_30 : decode cL_line 30 = .ok (.ireturn, 1) := by decide +kernel
theorem dL_line_31 : decode cL_line 31 = .ok (.iconst 0, 1) := by decide +kernel
theorem dL_line_32 : decode cL_line 32 = .ok (.ireturn, 1) := by decide +kernel
theorem dL_carrier_0 : decode cL_carrier 0 = .ok (.aload_n 0, 1) := by decide +kernel
theorem dL_carrier_1 : decode cL_carrier 1 = .ok (.iload_n 1, 1) := by decide +kernel
theorem dL_carrier_2 : decode cL_carrier 2 = .ok (.iload_n 2, 1) := by decide +kernel
theorem dL_carrier_3 : decode cL_carrier 3 = .ok (.invokevirtual 24, 3) := by decide +kernel
theorem dL_carrier_6 : decode cL_carrier 6 = .ok (.goto 12, 3) := by decide +kernel
theorem dL_carrier_9 : decode cL_carrier 9 = .ok (.astore_n 3, 1) := by decide +kernel
theorem dL_carrier_10 : decode cL_carrier 10 = .ok (.iconst 1, 1) := by decide +kernel
theorem dL_carrier_11 : decode cL_carrier 11 = .ok (.ireturn, 1) := by decide +kernel
theorem dL_carrier_12 : decode cL_carrier 12 = .ok (.astore_n 3, 1) := by decide +kernel
theorem dL_carrier_13 : decode cL_carrier 13 = .ok (.iconst 2, 1) := by decide +kernel
theorem dL_carrier_14 : decode cL_carrier 14 = .ok (.ireturn, 1) := by decide +kernel
theorem dL_carrier_15 : decode cL_carrier 15 = .ok (.astore_n 3, 1) := by decide +kernel
theorem dL_carrier_16 : decode cL_carrier 16 = .ok (.iconst 3, 1) := by decide +kernel
theorem dL_carrier_17 : decode cL_carrier 17 = .ok (.ireturn, 1) := by decide +kernel
theorem dL_carrier_18 : decode cL_carrier 18 = .ok (.iconst 0, 1) := by decide +kernel
theorem dL_carrier_19 : decode cL_carrier 19 = .ok (.ireturn, 1) := by decide +kernel
theorem dL_hour_0 : decode cL_hour 0 = .ok (.aload 4, 2) := by decide +kernel
theorem dL_hour_2 : decode cL_hour 2 = .ok (.iconst 0, 1) := by decide +kernel
theorem dL_hour_3 : decode cL_hour 3 = .ok (.aload_n 0, 1) := by decide +kernel
theorem dL_hour_4 : decode cL_hour 4 = .ok (.iload_n 1, 1) := by decide +kernel
theorem dL_hour_5 : decode cL_hour 5 = .ok (.iload_n 2, 1) := by decide +kernel
theorem dL_hour_6 : decode cL_hour 6 = .ok (.iload_n 3, 1) := by decide +kernel
theorem dL_hour_7 : decode cL_hour 7 = .ok (.invokevirtual 28, 3) := by decide +kernel
theorem dL_hour_10 : decode cL_hour 10 = .ok (.i2l, 1) := by decide +kernel
theorem dL_hour_11 : decode cL_hour 11 = .ok (.lastore, 1) := by decide +kernel
theorem dL_hour_12 : decode cL_hour 12 = .ok (.goto 11, 3) := by decide +kernel
theorem dL_hour_15 : decode cL_hour 15 = .ok (.astore 5, 2) := by decide +kernel
theorem dL_hour_17 : decode cL_hour 17 = .ok (.iconst 1, 1) := by decide +kernel
theorem dL_hour_18 : decode cL_hour 18 = .ok (.ireturn, 1) := by decide +kernel
theorem dL_hour_19 : decode cL_hour 19 = .ok (.astore 5, 2) := by decide +kernel
theorem dL_hour_21 : decode cL_hour 21 = .ok (.iconst 2, 1) := by decide +kernel
theorem dL_hour_22 : decode cL_hour 22 = .ok (.ireturn, 1) := by decide +kernel
theorem dL_hour_23 : decode cL_hour 23 = .ok (.iconst 0, 1) := by decide +kernel
theorem dL_hour_24 : decode cL_hour 24 = .ok (.ireturn, 1) := by decide +kernel
theorem dL_stock_0 : decode cL_stock 0 = .ok (.aload_n 0, 1) := by decide +kernel
theorem dL_stock_1 : decode cL_stock 1 = .ok (.iload_n 1, 1) := by decide +kernel
theorem dL_stock_2 : decode cL_stock 2 = .ok (.iload_n 2, 1) := by decide +kernel
theorem dL_stock_3 : decode cL_stock 3 = .ok (.invokevirtual 31, 3) := by decide +kernel
theorem dL_stock_6 : decode cL_stock 6 = .ok (.goto 6, 3) := by decide +kernel
theorem dL_stock_9 : decode cL_stock 9 = .ok (.astore_n 3, 1) := by decide +kernel
theorem dL_stock_10 : decode cL_stock 10 = .ok (.iconst 1, 1) := by decide +kernel
theorem dL_stock_11 : decode cL_stock 11 = .ok (.ireturn, 1) := by decide +kernel
theorem dL_stock_12 : decode cL_stock 12 = .ok (.iconst 0, 1) := by decide +kernel
theorem dL_stock_13 : decode cL_stock 13 = .ok (.ireturn, 1) := by decide +kernel
theorem dL_plan_0 : decode cL_plan 0 = .ok (.aload_n 1, 1) := by decide +kernel
theorem dL_plan_1 : decode cL_plan 1 = .ok (.iconst 0, 1) := by decide +kernel
theorem dL_plan_2 : decode cL_plan 2 = .ok (.aload_n 0, 1) := by decide +kernel
theorem dL_plan_3 : decode cL_plan 3 = .ok (.invokevirtual 34, 3) := by decide +kernel
theorem dL_plan_6 : decode cL_plan 6 = .ok (.i2l, 1) := by decide +kernel
theorem dL_plan_7 : decode cL_plan 7 = .ok (.lastore, 1) := by decide +kernel
theorem dL_plan_8 : decode cL_plan 8 = .ok (.goto 6, 3) := by decide +kernel
theorem dL_plan_11 : decode cL_plan 11 = .ok (.astore_n 2, 1) := by decide +kernel
theorem dL_plan_12 : decode cL_plan 12 = .ok (.iconst 1, 1) := by decide +kernel
theorem dL_plan_13 : decode cL_plan 13 = .ok (.ireturn, 1) := by decide +kernel
theorem dL_plan_14 : decode cL_plan 14 = .ok (.iconst 0, 1) := by decide +kernel
theorem dL_plan_15 : decode cL_plan 15 = .ok (.ireturn, 1) := by decide +kernel
theorem dL_wave_0 : decode cL_wave 0 = .ok (.aload_n 2, 1) := by decide +kernel
theorem dL_wave_1 : decode cL_wave 1 = .ok (.iconst 0, 1) := by decide +kernel
theorem dL_wave_2 : decode cL_wave 2 = .ok (.aload_n 0, 1) := by decide +kernel
theorem dL_wave_3 : decode cL_wave 3 = .ok (.iload_n 1, 1) := by decide +kernel
theorem dL_wave_4 : decode cL_wave 4 = .ok (.invokevirtual 38, 3) := by decide +kernel
theorem dL_wave_7 : decode cL_wave 7 = .ok (.i2l, 1) := by decide +kernel
theorem dL_wave_8 : decode cL_wave 8 = .ok (.lastore, 1) := by decide +kernel
theorem dL_wave_9 : decode cL_wave 9 = .ok (.goto 6, 3) := by decide +kernel
theorem dL_wave_12 : decode cL_wave 12 = .ok (.astore_n 3, 1) := by decide +kernel
theorem dL_wave_13 : decode cL_wave 13 = .ok (.iconst 1, 1) := by decide +kernel
theorem dL_wave_14 : decode cL_wave 14 = .ok (.ireturn, 1) := by decide +kernel
theorem dL_wave_15 : decode cL_wave 15 = .ok (.iconst 0, 1) := by decide +kernel
theorem dL_wave_16 : decode cL_wave 16 = .ok (.ireturn, 1) := by decide +kernel
theorem dL_told_0 : decode cL_told 0 = .ok (.aload_n 3, 1) := by decide +kernel
theorem dL_told_1 : decode cL_told 1 = .ok (.iconst 0, 1) := by decide +kernel
theorem dL_told_2 : decode cL_told 2 = .ok (.aload_n 0, 1) := by decide +kernel
theorem dL_told_3 : decode cL_told 3 = .ok (.iload_n 1, 1) := by decide +kernel
theorem dL_told_4 : decode cL_told 4 = .ok (.iload_n 2, 1) := by decide +kernel
theorem dL_told_5 : decode cL_told 5 = .ok (.invokevirtual 42, 3) := by decide +kernel
theorem dL_told_8 : decode cL_told 8 = .ok (.i2l, 1) := by decide +kernel
theorem dL_told_9 : decode cL_told 9 = .ok (.lastore, 1) := by decide +kernel
theorem dL_told_10 : decode cL_told 10 = .ok (.goto 11, 3) := by decide +kernel
theorem dL_told_13 : decode cL_told 13 = .ok (.astore 4, 2) := by decide +kernel
theorem dL_told_15 : decode cL_told 15 = .ok (.iconst 1, 1) := by decide +kernel
theorem dL_told_16 : decode cL_told 16 = .ok (.ireturn, 1) := by decide +kernel
theorem dL_told_17 : decode cL_told 17 = .ok (.astore 4, 2) := by decide +kernel
theorem dL_told_19 : decode cL_told 19 = .ok (.iconst 2, 1) := by decide +kernel
theorem dL_told_20 : decode cL_told 20 = .ok (.ireturn, 1) := by decide +kernel
theorem dL_told_21 : decode cL_told 21 = .ok (.iconst 0, 1) := by decide +kernel
theorem dL_told_22 : decode cL_told 22 = .ok (.ireturn, 1) := by decide +kernel
theorem dL_member_0 : decode cL_member 0 = .ok (.aload_n 3, 1) := by decide +kernel
theorem dL_member_1 : decode cL_member 1 = .ok (.iconst 0, 1) := by decide +kernel
theorem dL_member_2 : decode cL_member 2 = .ok (.aload_n 0, 1) := by decide +kernel
theorem dL_member_3 : decode cL_member 3 = .ok (.iload_n 1, 1) := by decide +kernel
theorem dL_member_4 : decode cL_member 4 = .ok (.iload_n 2, 1) := by decide +kernel
theorem dL_member_5 : decode cL_member 5 = .ok (.invokevirtual 46, 3) := by decide +kernel
theorem dL_member_8 : decode cL_member 8 = .ok (.i2l, 1) := by decide +kernel
theorem dL_member_9 : decode cL_member 9 = .ok (.lastore, 1) := by decide +kernel
theorem dL_member_10 : decode cL_member 10 = .ok (.goto 7, 3) := by decide +kernel
theorem dL_member_13 : decode cL_member 13 = .ok (.astore 4, 2) := by decide +kernel
theorem dL_member_15 : decode cL_member 15 = .ok (.iconst 1, 1) := by decide +kernel
theorem dL_member_16 : decode cL_member 16 = .ok (.ireturn, 1) := by decide +kernel
theorem dL_member_17 : decode cL_member 17 = .ok (.iconst 0, 1) := by decide +kernel
theorem dL_member_18 : decode cL_member 18 = .ok (.ireturn, 1) := by decide +kernel
theorem dL_replenish_0 : decode cL_replenish 0 = .ok (.aload_n 3, 1) := by decide +kernel
theorem dL_replenish_1 : decode cL_replenish 1 = .ok (.iconst 0, 1) := by decide +kernel
theorem dL_replenish_2 : decode cL_replenish 2 = .ok (.aload_n 0, 1) := by decide +kernel
theorem dL_replenish_3 : decode cL_replenish 3 = .ok (.iload_n 1, 1) := by decide +kernel
theorem dL_replenish_4 : decode cL_replenish 4 = .ok (.iload_n 2, 1) := by decide +kernel
theorem dL_replenish_5 : decode cL_replenish 5 = .ok (.invokevirtual 49, 3) := by decide +kernel
theorem dL_replenish_8 : decode cL_replenish 8 = .ok (.i2l, 1) := by decide +kernel
theorem dL_replenish_9 : decode cL_replenish 9 = .ok (.lastore, 1) := by decide +kernel
theorem dL_replenish_10 : decode cL_replenish 10 = .ok (.goto 11, 3) := by decide +kernel
theorem dL_replenish_13 : decode cL_replenish 13 = .ok (.astore 4, 2) := by decide +kernel
theorem dL_replenish_15 : decode cL_replenish 15 = .ok (.iconst 1, 1) := by decide +kernel
theorem dL_replenish_16 : decode cL_replenish 16 = .ok (.ireturn, 1) := by decide +kernel
theorem dL_replenish_17 : decode cL_replenish 17 = .ok (.astore 4, 2) := by decide +kernel
theorem dL_replenish_19 : decode cL_replenish 19 = .ok (.iconst 2, 1) := by decide +kernel
theorem dL_replenish_20 : decode cL_replenish 20 = .ok (.ireturn, 1) := by decide +kernel
theorem dL_replenish_21 : decode cL_replenish 21 = .ok (.iconst 0, 1) := by decide +kernel
theorem dL_replenish_22 : decode cL_replenish 22 = .ok (.ireturn, 1) := by decide +kernel
theorem dL_lacks_0 : decode cL_lacks 0 = .ok (.aload_n 3, 1) := by decide +kernel
theorem dL_lacks_1 : decode cL_lacks 1 = .ok (.iconst 0, 1) := by decide +kernel
theorem dL_lacks_2 : decode cL_lacks 2 = .ok (.aload_n 0, 1) := by decide +kernel
theorem dL_lacks_3 : decode cL_lacks 3 = .ok (.iload_n 1, 1) := by decide +kernel
theorem dL_lacks_4 : decode cL_lacks 4 = .ok (.iload_n 2, 1) := by decide +kernel
theorem dL_lacks_5 : decode cL_lacks 5 = .ok (.invokevirtual 52, 3) := by decide +kernel
theorem dL_lacks_8 : decode cL_lacks 8 = .ok (.i2l, 1) := by decide +kernel
theorem dL_lacks_9 : decode cL_lacks 9 = .ok (.lastore, 1) := by decide +kernel
theorem dL_lacks_10 : decode cL_lacks 10 = .ok (.goto 11, 3) := by decide +kernel
theorem dL_lacks_13 : decode cL_lacks 13 = .ok (.astore 4, 2) := by decide +kernel
theorem dL_lacks_15 : decode cL_lacks 15 = .ok (.iconst 1, 1) := by decide +kernel
theorem dL_lacks_16 : decode cL_lacks 16 = .ok (.ireturn, 1) := by decide +kernel
theorem dL_lacks_17 : decode cL_lacks 17 = .ok (.astore 4, 2) := by decide +kernel
theorem dL_lacks_19 : decode cL_lacks 19 = .ok (.iconst 2, 1) := by decide +kernel
theorem dL_lacks_20 : decode cL_lacks 20 = .ok (.ireturn, 1) := by decide +kernel
theorem dL_lacks_21 : decode cL_lacks 21 = .ok (.iconst 0, 1) := by decide +kernel
theorem dL_lacks_22 : decode cL_lacks 22 = .ok (.ireturn, 1) := by decide +kernel
theorem dL_release_0 : decode cL_release 0 = .ok (.aload_n 2, 1) := by decide +kernel
theorem dL_release_1 : decode cL_release 1 = .ok (.iconst 0, 1) := by decide +kernel
theorem dL_release_2 : decode cL_release 2 = .ok (.aload_n 0, 1) := by decide +kernel
theorem dL_release_3 : decode cL_release 3 = .ok (.iload_n 1, 1) := by decide +kernel
theorem dL_release_4 : decode cL_release 4 = .ok (.invokevirtual 55, 3) := by decide +kernel
theorem dL_release_7 : decode cL_release 7 = .ok (.i2l, 1) := by decide +kernel
theorem dL_release_8 : decode cL_release 8 = .ok (.lastore, 1) := by decide +kernel
theorem dL_release_9 : decode cL_release 9 = .ok (.goto 9, 3) := by decide +kernel
theorem dL_release_12 : decode cL_release 12 = .ok (.astore_n 3, 1) := by decide +kernel
theorem dL_release_13 : decode cL_release 13 = .ok (.iconst 1, 1) := by decide +kernel
theorem dL_release_14 : decode cL_release 14 = .ok (.ireturn, 1) := by decide +kernel
theorem dL_release_15 : decode cL_release 15 = .ok (.astore_n 3, 1) := by decide +kernel
theorem dL_release_16 : decode cL_release 16 = .ok (.iconst 2, 1) := by decide +kernel
theorem dL_release_17 : decode cL_release 17 = .ok (.ireturn, 1) := by decide +kernel
theorem dL_release_18 : decode cL_release 18 = .ok (.iconst 0, 1) := by decide +kernel
theorem dL_release_19 : decode cL_release 19 = .ok (.ireturn, 1) := by decide +kernel
theorem dL_done_0 : decode cL_done 0 = .ok (.aload_n 2, 1) := by decide +kernel
theorem dL_done_1 : decode cL_done 1 = .ok (.iconst 0, 1) := by decide +kernel
theorem dL_done_2 : decode cL_done 2 = .ok (.aload_n 0, 1) := by decide +kernel
theorem dL_done_3 : decode cL_done 3 = .ok (.iload_n 1, 1) := by decide +kernel
theorem dL_done_4 : decode cL_done 4 = .ok (.invokevirtual 58, 3) := by decide +kernel
theorem dL_done_7 : decode cL_done 7 = .ok (.i2l, 1) := by decide +kernel
theorem dL_done_8 : decode cL_done 8 = .ok (.lastore, 1) := by decide +kernel
theorem dL_done_9 : decode cL_done 9 = .ok (.goto 9, 3) := by decide +kernel
theorem dL_done_12 : decode cL_done 12 = .ok (.astore_n 3, 1) := by decide +kernel
theorem dL_done_13 : decode cL_done 13 = .ok (.iconst 1, 1) := by decide +kernel
theorem dL_done_14 : decode cL_done 14 = .ok (.ireturn, 1) := by decide +kernel
theorem dL_done_15 : decode cL_done 15 = .ok (.astore_n 3, 1) := by decide +kernel
theorem dL_done_16 : decode cL_done 16 = .ok (.iconst 2, 1) := by decide +kernel
theorem dL_done_17 : decode cL_done 17 = .ok (.ireturn, 1) := by decide +kernel
theorem dL_done_18 : decode cL_done 18 = .ok (.iconst 0, 1) := by decide +kernel
theorem dL_done_19 : decode cL_done 19 = .ok (.ireturn, 1) := by decide +kernel
theorem dL_change_0 : decode cL_change 0 = .ok (.aload_n 3, 1) := by decide +kernel
theorem dL_change_1 : decode cL_change 1 = .ok (.iconst 0, 1) := by decide +kernel
theorem dL_change_2 : decode cL_change 2 = .ok (.aload_n 0, 1) := by decide +kernel
theorem dL_change_3 : decode cL_change 3 = .ok (.iload_n 1, 1) := by decide +kernel
theorem dL_change_4 : decode cL_change 4 = .ok (.iload_n 2, 1) := by decide +kernel
theorem dL_change_5 : decode cL_change 5 = .ok (.invokevirtual 61, 3) := by decide +kernel
theorem dL_change_8 : decode cL_change 8 = .ok (.ifCond .eq 7, 3) := by decide +kernel
theorem dL_change_11 : decode cL_change 11 = .ok (.lconst 1, 1) := by decide +kernel
theorem dL_change_12 : decode cL_change 12 = .ok (.goto 4, 3) := by decide +kernel
theorem dL_change_15 : decode cL_change 15 = .ok (.lconst 0, 1) := by decide +kernel
theorem dL_change_16 : decode cL_change 16 = .ok (.lastore, 1) := by decide +kernel
theorem dL_change_17 : decode cL_change 17 = .ok (.goto 15, 3) := by decide +kernel
theorem dL_change_20 : decode cL_change 20 = .ok (.astore 4, 2) := by decide +kernel
theorem dL_change_22 : decode cL_change 22 = .ok (.iconst 1, 1) := by decide +kernel
theorem dL_change_23 : decode cL_change 23 = .ok (.ireturn, 1) := by decide +kernel
theorem dL_change_24 : decode cL_change 24 = .ok (.astore 4, 2) := by decide +kernel
theorem dL_change_26 : decode cL_change 26 = .ok (.iconst 2, 1) := by decide +kernel
theorem dL_change_27 : decode cL_change 27 = .ok (.ireturn, 1) := by decide +kernel
theorem dL_change_28 : decode cL_change 28 = .ok (.astore 4, 2) := by decide +kernel
theorem dL_change_30 : decode cL_change 30 = .ok (.iconst 3, 1) := by decide +kernel
theorem dL_change_31 : decode cL_change 31 = .ok (.ireturn, 1) := by decide +kernel
theorem dL_change_32 : decode cL_change 32 = .ok (.iconst 0, 1) := by decide +kernel
theorem dL_change_33 : decode cL_change 33 = .ok (.ireturn, 1) := by decide +kernel
theorem dL_join_0 : decode cL_join 0 = .ok (.aload_n 3, 1) := by decide +kernel
theorem dL_join_1 : decode cL_join 1 = .ok (.iconst 0, 1) := by decide +kernel
theorem dL_join_2 : decode cL_join 2 = .ok (.aload_n 0, 1) := by decide +kernel
theorem dL_join_3 : decode cL_join 3 = .ok (.iload_n 1, 1) := by decide +kernel
theorem dL_join_4 : decode cL_join 4 = .ok (.iload_n 2, 1) := by decide +kernel
theorem dL_join_5 : decode cL_join 5 = .ok (.invokevirtual 65, 3) := by decide +kernel
theorem dL_join_8 : decode cL_join 8 = .ok (.i2l, 1) := by decide +kernel
theorem dL_join_9 : decode cL_join 9 = .ok (.lastore, 1) := by decide +kernel
theorem dL_join_10 : decode cL_join 10 = .ok (.goto 11, 3) := by decide +kernel
theorem dL_join_13 : decode cL_join 13 = .ok (.astore 4, 2) := by decide +kernel
theorem dL_join_15 : decode cL_join 15 = .ok (.iconst 1, 1) := by decide +kernel
theorem dL_join_16 : decode cL_join 16 = .ok (.ireturn, 1) := by decide +kernel
theorem dL_join_17 : decode cL_join 17 = .ok (.astore 4, 2) := by decide +kernel
theorem dL_join_19 : decode cL_join 19 = .ok (.iconst 2, 1) := by decide +kernel
theorem dL_join_20 : decode cL_join 20 = .ok (.ireturn, 1) := by decide +kernel
theorem dL_join_21 : decode cL_join 21 = .ok (.iconst 0, 1) := by decide +kernel
theorem dL_join_22 : decode cL_join 22 = .ok (.ireturn, 1) := by decide +kernel
theorem dL_cutoff_0 : decode cL_cutoff 0 = .ok (.aload_n 3, 1) := by decide +kernel
theorem dL_cutoff_1 : decode cL_cutoff 1 = .ok (.iconst 0, 1) := by decide +kernel
theorem dL_cutoff_2 : decode cL_cutoff 2 = .ok (.aload_n 0, 1) := by decide +kernel
theorem dL_cutoff_3 : decode cL_cutoff 3 = .ok (.iload_n 1, 1) := by decide +kernel
theorem dL_cutoff_4 : decode cL_cutoff 4 = .ok (.iload_n 2, 1) := by decide +kernel
theorem dL_cutoff_5 : decode cL_cutoff 5 = .ok (.invokevirtual 68, 3) := by decide +kernel
theorem dL_cutoff_8 : decode cL_cutoff 8 = .ok (.i2l, 1) := by decide +kernel
theorem dL_cutoff_9 : decode cL_cutoff 9 = .ok (.lastore, 1) := by decide +kernel
theorem dL_cutoff_10 : decode cL_cutoff 10 = .ok (.goto 7, 3) := by decide +kernel
theorem dL_cutoff_13 : decode cL_cutoff 13 = .ok (.astore 4, 2) := by decide +kernel
theorem dL_cutoff_15 : decode cL_cutoff 15 = .ok (.iconst 1, 1) := by decide +kernel
theorem dL_cutoff_16 : decode cL_cutoff 16 = .ok (.ireturn, 1) := by decide +kernel
theorem dL_cutoff_17 : decode cL_cutoff 17 = .ok (.iconst 0, 1) := by decide +kernel
theorem dL_cutoff_18 : decode cL_cutoff 18 = .ok (.ireturn, 1) := by decide +kernel
theorem dL_late_0 : decode cL_late 0 = .ok (.aload_n 2, 1) := by decide +kernel
theorem dL_late_1 : decode cL_late 1 = .ok (.iconst 0, 1) := by decide +kernel
theorem dL_late_2 : decode cL_late 2 = .ok (.aload_n 0, 1) := by decide +kernel
theorem dL_late_3 : decode cL_late 3 = .ok (.iload_n 1, 1) := by decide +kernel
theorem dL_late_4 : decode cL_late 4 = .ok (.invokevirtual 71, 3) := by decide +kernel
theorem dL_late_7 : decode cL_late 7 = .ok (.i2l, 1) := by decide +kernel
theorem dL_late_8 : decode cL_late 8 = .ok (.lastore, 1) := by decide +kernel
theorem dL_late_9 : decode cL_late 9 = .ok (.goto 6, 3) := by decide +kernel
theorem dL_late_12 : decode cL_late 12 = .ok (.astore_n 3, 1) := by decide +kernel
theorem dL_late_13 : decode cL_late 13 = .ok (.iconst 1, 1) := by decide +kernel
theorem dL_late_14 : decode cL_late 14 = .ok (.ireturn, 1) := by decide +kernel
theorem dL_late_15 : decode cL_late 15 = .ok (.iconst 0, 1) := by decide +kernel
theorem dL_late_16 : decode cL_late 16 = .ok (.ireturn, 1) := by decide +kernel
