def TB : List Cond := lw_tbl.filter goodWord
theorem tbm {w : Cond} (i : Nat) (h : tables_1[i]? = some w) (g : goodWord w = true) : w ∈ TB := List.mem_filter.mpr ⟨List.mem_append_right _ (List.mem_of_getElem? h), g⟩
theorem tbs {w : Cond} (i : Nat) (h : (k2_sels lw_privs)[i]? = some w) (g : goodWord w = true) : w ∈ TB := List.mem_filter.mpr ⟨List.mem_append_left _ (List.mem_of_getElem? h), g⟩
set_option maxRecDepth 20000 in
theorem inX0 : ∀ w ∈ wsX00, w ∈ TB := fun w h => List.mem_filter.mpr ⟨(show ∀ w ∈ wsX00, w ∈ lw_tbl by decide +kernel) w h, (show ∀ w ∈ wsX00, goodWord w = true by decide +kernel) w h⟩
set_option maxRecDepth 20000 in
theorem inX1 : ∀ w ∈ wsX10, w ∈ TB := fun w h => List.mem_filter.mpr ⟨(show ∀ w ∈ wsX10, w ∈ lw_tbl by decide +kernel) w h, (show ∀ w ∈ wsX10, goodWord w = true by decide +kernel) w h⟩
set_option maxRecDepth 20000 in
theorem inX2 : ∀ w ∈ wsX20, w ∈ TB := fun w h => List.mem_filter.mpr ⟨(show ∀ w ∈ wsX20, w ∈ lw_tbl by decide +kernel) w h, (show ∀ w ∈ wsX20, goodWord w = true by decide +kernel) w h⟩
set_option maxRecDepth 20000 in
theorem inX3 : ∀ w ∈ wsX30, w ∈ TB := fun w h => List.mem_filter.mpr ⟨(show ∀ w ∈ wsX30, w ∈ lw_tbl by decide +kernel) w h, (show ∀ w ∈ wsX30, goodWord w = true by decide +kernel) w h⟩
set_option maxRecDepth 20000 in
theorem inX4 : ∀ w ∈ wsX40, w ∈ TB := fun w h => List.mem_filter.mpr ⟨(show ∀ w ∈ wsX40, w ∈ lw_tbl by decide +kernel) w h, (show ∀ w ∈ wsX40, goodWord w = true by decide +kernel) w h⟩
set_option maxRecDepth 20000 in
theorem tk_0 : Cond.initialized RL ∈ TB := tbm 0 (by decide +kernel) (by decide)
set_option maxRecDepth 20000 in
theorem tk_1 : Cond.initialized RX3 ∈ TB := tbm 1 (by decide +kernel) (by decide)
set_option maxRecDepth 20000 in
theorem tk_2 : Cond.initialized RJ9 ∈ TB := tbm 2 (by decide +kernel) (by decide)
set_option maxRecDepth 20000 in
theorem tk_3 : Cond.initialized RX0 ∈ TB := tbm 3 (by decide +kernel) (by decide)
set_option maxRecDepth 20000 in
theorem tk_4 : Cond.initialized RX1 ∈ TB := tbm 4 (by decide +kernel) (by decide)
set_option maxRecDepth 20000 in
theorem tk_5 : Cond.initialized RX2 ∈ TB := tbm 5 (by decide +kernel) (by decide)
set_option maxRecDepth 20000 in
theorem tk_6 : Cond.initialized RX4 ∈ TB := tbm 6 (by decide +kernel) (by decide)
set_option maxRecDepth 20000 in
theorem tk_7 : Cond.initialized "java/lang/Throwable" ∈ TB := tbm 7 (by decide +kernel) (by decide)
set_option maxRecDepth 20000 in
theorem tk_8 : Cond.initialized "java/lang/Exception" ∈ TB := tbm 8 (by decide +kernel) (by decide)
set_option maxRecDepth 20000 in
theorem tk_9 : Cond.initialized "java/lang/RuntimeException" ∈ TB := tbm 9 (by decide +kernel) (by decide)
set_option maxRecDepth 20000 in
theorem tk_10 : Cond.initialized "java/lang/IllegalArgumentException" ∈ TB := tbm 10 (by decide +kernel) (by decide)
set_option maxRecDepth 20000 in
theorem tk_11 : Cond.initialized "java/lang/UnsupportedOperationException" ∈ TB := tbm 11 (by decide +kernel) (by decide)
set_option maxRecDepth 20000 in
theorem tk_12 : Cond.initialized "java/util/NoSuchElementException" ∈ TB := tbm 12 (by decide +kernel) (by decide)
set_option maxRecDepth 20000 in
theorem tk_13 : Cond.initialized "java/lang/IllegalStateException" ∈ TB := tbm 13 (by decide +kernel) (by decide)
set_option maxRecDepth 20000 in
theorem tk_14 : Cond.classLink RL 8 RX3 ∈ TB := tbm 14 (by decide +kernel) (by decide)
set_option maxRecDepth 20000 in
theorem tk_15 : Cond.instantiable RX3 8 ∈ TB := tbm 15 (by decide +kernel) (by decide)
set_option maxRecDepth 20000 in
theorem tk_16 : Cond.methodLink RL 80 yX3_init ∈ TB := tbm 16 (by decide +kernel) (by decide)
set_option maxRecDepth 20000 in
theorem tk_17 : Cond.instanceMethod yX3_init ∈ TB := tbm 17 (by decide +kernel) (by decide)
set_option maxRecDepth 20000 in
theorem tk_18 : Cond.code yX3_init cX3_init 3 none ∈ TB := tbm 18 (by decide +kernel) (by decide)
set_option maxRecDepth 20000 in
theorem tk_19 : Cond.methodLink RX3 1 objectInit ∈ TB := tbm 19 (by decide +kernel) (by decide)
set_option maxRecDepth 20000 in
theorem tk_20 : Cond.instanceMethod objectInit ∈ TB := tbm 20 (by decide +kernel) (by decide)
set_option maxRecDepth 20000 in
theorem tk_21 : Cond.code objectInit ⟨#[0xb1]⟩ 1 none ∈ TB := tbm 21 (by decide +kernel) (by decide)
set_option maxRecDepth 20000 in
theorem tk_22 : Cond.constant RX3 9 (65536) ∈ TB := tbm 22 (by decide +kernel) (by decide)
set_option maxRecDepth 20000 in
theorem tk_23 : Cond.methodLink RX3 10 Lib.Math.min.name ∈ TB := tbm 23 (by decide +kernel) (by decide)
set_option maxRecDepth 20000 in
theorem tk_24 : Cond.static Lib.Math.min.name ∈ TB := tbm 24 (by decide +kernel) (by decide)
set_option maxRecDepth 20000 in
theorem tk_25 : Cond.code Lib.Math.min.name Lib.Math.min.code 2 (some .int) ∈ TB := tbm 25 (by decide +kernel) (by decide)
set_option maxRecDepth 20000 in
theorem tk_26 : Cond.methodLink RX3 16 Lib.Math.max.name ∈ TB := tbm 26 (by decide +kernel) (by decide)
set_option maxRecDepth 20000 in
theorem tk_27 : Cond.static Lib.Math.max.name ∈ TB := tbm 27 (by decide +kernel) (by decide)
set_option maxRecDepth 20000 in
theorem tk_28 : Cond.code Lib.Math.max.name Lib.Math.max.code 2 (some .int) ∈ TB := tbm 28 (by decide +kernel) (by decide)
set_option maxRecDepth 20000 in
theorem tk_29 : Cond.classLink RX3 23 RX0 ∈ TB := tbm 29 (by decide +kernel) (by decide)
set_option maxRecDepth 20000 in
theorem tk_30 : Cond.instantiable RX0 4 ∈ TB := tbm 30 (by decide +kernel) (by decide)
set_option maxRecDepth 20000 in
theorem tk_32 : Cond.instanceMethod yX0_init ∈ TB := tbm 32 (by decide +kernel) (by decide)
set_option maxRecDepth 20000 in
theorem tk_33 : Cond.code yX0_init cX0_init 1 none ∈ TB := tbm 33 (by decide +kernel) (by decide)
set_option maxRecDepth 20000 in
theorem tk_34 : Cond.methodLink RX0 3 objectInit ∈ TB := tbm 34 (by decide +kernel) (by decide)
set_option maxRecDepth 20000 in
theorem tk_35 : Cond.fieldLink RX0 9 "WavePlans$Docks" "carriers" "[I" ∈ TB := tbm 35 (by decide +kernel) (by decide)
set_option maxRecDepth 20000 in
theorem tk_36 : Cond.fieldLink RX0 15 "WavePlans$Docks" "from" "[I" ∈ TB := tbm 36 (by decide +kernel) (by decide)
set_option maxRecDepth 20000 in
theorem tk_37 : Cond.fieldLink RX0 18 "WavePlans$Docks" "to" "[I" ∈ TB := tbm 37 (by decide +kernel) (by decide)
set_option maxRecDepth 20000 in
theorem tk_38 : Cond.fieldLink RX0 21 "WavePlans$Docks" "size" "I" ∈ TB := tbm 38 (by decide +kernel) (by decide)
set_option maxRecDepth 20000 in
theorem tk_49 : Cond.arrayClass .int ∈ TB := tbm 49 (by decide +kernel) (by decide)
set_option maxRecDepth 20000 in
theorem tk_50 : Cond.classLink RX3 34 RX1 ∈ TB := tbm 50 (by decide +kernel) (by decide)
set_option maxRecDepth 20000 in
theorem tk_52 : Cond.instantiable RX1 9 ∈ TB := tbm 52 (by decide +kernel) (by decide)
set_option maxRecDepth 20000 in
theorem tk_54 : Cond.instanceMethod yX1_init ∈ TB := tbm 54 (by decide +kernel) (by decide)
set_option maxRecDepth 20000 in
theorem tk_55 : Cond.code yX1_init cX1_init 1 none ∈ TB := tbm 55 (by decide +kernel) (by decide)
set_option maxRecDepth 20000 in
theorem tk_56 : Cond.methodLink RX1 3 objectInit ∈ TB := tbm 56 (by decide +kernel) (by decide)
set_option maxRecDepth 20000 in
theorem tk_58 : Cond.fieldLink RX1 19 "WavePlans$Order" "zone" "I" ∈ TB := tbm 58 (by decide +kernel) (by decide)
set_option maxRecDepth 20000 in
theorem tk_61 : Cond.fieldLink RX1 28 "WavePlans$Order" "seconds" "I" ∈ TB := tbm 61 (by decide +kernel) (by decide)
set_option maxRecDepth 20000 in
theorem tk_64 : Cond.fieldLink RX1 9 "WavePlans$Order" "wanted" "[I" ∈ TB := tbm 64 (by decide +kernel) (by decide)
set_option maxRecDepth 20000 in
theorem tk_66 : Cond.fieldLink RX1 15 "WavePlans$Order" "place" "I" ∈ TB := tbm 66 (by decide +kernel) (by decide)
set_option maxRecDepth 20000 in
theorem tk_89 : Cond.classLink RX3 41 RX2 ∈ TB := tbm 89 (by decide +kernel) (by decide)
set_option maxRecDepth 20000 in
theorem tk_91 : Cond.instantiable RX2 4 ∈ TB := tbm 91 (by decide +kernel) (by decide)
set_option maxRecDepth 20000 in
theorem tk_93 : Cond.instanceMethod yX2_init ∈ TB := tbm 93 (by decide +kernel) (by decide)
set_option maxRecDepth 20000 in
theorem tk_94 : Cond.code yX2_init cX2_init 1 none ∈ TB := tbm 94 (by decide +kernel) (by decide)
set_option maxRecDepth 20000 in
theorem tk_95 : Cond.methodLink RX2 3 objectInit ∈ TB := tbm 95 (by decide +kernel) (by decide)
set_option maxRecDepth 20000 in
theorem tk_96 : Cond.fieldLink RX2 9 "WavePlans$Wave" "members" "[I" ∈ TB := tbm 96 (by decide +kernel) (by decide)
set_option maxRecDepth 20000 in
theorem tk_98 : Cond.fieldLink RX2 15 "WavePlans$Wave" "size" "I" ∈ TB := tbm 98 (by decide +kernel) (by decide)
set_option maxRecDepth 20000 in
theorem tk_111 : Cond.fieldLink RX3 19 "WavePlans" "capacity" "I" ∈ TB := tbm 111 (by decide +kernel) (by decide)
set_option maxRecDepth 20000 in
theorem tk_112 : Cond.fieldLink RX3 26 "WavePlans" "docks" "LWavePlans$Docks;" ∈ TB := tbm 112 (by decide +kernel) (by decide)
set_option maxRecDepth 20000 in
theorem tk_113 : Cond.fieldLink RX3 30 "WavePlans" "pieces" "[I" ∈ TB := tbm 113 (by decide +kernel) (by decide)
set_option maxRecDepth 20000 in
theorem tk_114 : Cond.fieldLink RX3 36 "WavePlans" "orders" "[LWavePlans$Order;" ∈ TB := tbm 114 (by decide +kernel) (by decide)
set_option maxRecDepth 20000 in
theorem tk_115 : Cond.fieldLink RX3 57 "WavePlans" "orderCount" "I" ∈ TB := tbm 115 (by decide +kernel) (by decide)
set_option maxRecDepth 20000 in
theorem tk_116 : Cond.fieldLink RX3 43 "WavePlans" "waves" "[LWavePlans$Wave;" ∈ TB := tbm 116 (by decide +kernel) (by decide)
set_option maxRecDepth 20000 in
theorem tk_117 : Cond.fieldLink RX3 112 "WavePlans" "waveCount" "I" ∈ TB := tbm 117 (by decide +kernel) (by decide)
set_option maxRecDepth 20000 in
theorem tk_118 : Cond.fieldLink RX3 48 "WavePlans" "trial" "LWavePlans$Wave;" ∈ TB := tbm 118 (by decide +kernel) (by decide)
set_option maxRecDepth 20000 in
theorem tk_136 : Cond.methodLink RL 145 yX3_count ∈ TB := tbm 136 (by decide +kernel) (by decide)
set_option maxRecDepth 20000 in
theorem tk_137 : Cond.instanceMethod yX3_count ∈ TB := tbm 137 (by decide +kernel) (by decide)
set_option maxRecDepth 20000 in
theorem tk_138 : Cond.selects RX3 yX3_count yX3_count ∈ TB := tbm 138 (by decide +kernel) (by decide)
set_option maxRecDepth 20000 in
theorem tk_139 : Cond.code yX3_count cX3_count 2 (some .int) ∈ TB := tbm 139 (by decide +kernel) (by decide)
set_option maxRecDepth 20000 in
theorem tk_140 : Cond.methodLink RX3 215 yX3_wavesWithOrders ∈ TB := tbm 140 (by decide +kernel) (by decide)
set_option maxRecDepth 20000 in
theorem tk_142 : Cond.instanceMethod yX3_wavesWithOrders ∈ TB := tbm 142 (by decide +kernel) (by decide)
set_option maxRecDepth 20000 in
theorem tk_143 : Cond.code yX3_wavesWithOrders cX3_wavesWithOrders 3 (some .int) ∈ TB := tbm 143 (by decide +kernel) (by decide)
set_option maxRecDepth 20000 in
theorem tk_144 : Cond.methodLink RX3 219 yX3_ordersAt ∈ TB := tbm 144 (by decide +kernel) (by decide)
set_option maxRecDepth 20000 in
theorem tk_146 : Cond.instanceMethod yX3_ordersAt ∈ TB := tbm 146 (by decide +kernel) (by decide)
set_option maxRecDepth 20000 in
theorem tk_147 : Cond.code yX3_ordersAt cX3_ordersAt 4 (some .int) ∈ TB := tbm 147 (by decide +kernel) (by decide)
set_option maxRecDepth 20000 in
theorem tk_148 : Cond.methodLink RX3 222 yX3_finishedOrders ∈ TB := tbm 148 (by decide +kernel) (by decide)
set_option maxRecDepth 20000 in
theorem tk_150 : Cond.instanceMethod yX3_finishedOrders ∈ TB := tbm 150 (by decide +kernel) (by decide)
set_option maxRecDepth 20000 in
theorem tk_151 : Cond.code yX3_finishedOrders cX3_finishedOrders 3 (some .int) ∈ TB := tbm 151 (by decide +kernel) (by decide)
set_option maxRecDepth 20000 in
theorem tk_152 : Cond.methodLink RX3 125 yX3_savedBehind ∈ TB := tbm 152 (by decide +kernel) (by decide)
set_option maxRecDepth 20000 in
theorem tk_154 : Cond.instanceMethod yX3_savedBehind ∈ TB := tbm 154 (by decide +kernel) (by decide)
set_option maxRecDepth 20000 in
theorem tk_155 : Cond.code yX3_savedBehind cX3_savedBehind 4 (some .int) ∈ TB := tbm 155 (by decide +kernel) (by decide)
set_option maxRecDepth 20000 in
theorem tk_156 : Cond.methodLink RX3 139 yX3_savedOf ∈ TB := tbm 156 (by decide +kernel) (by decide)
set_option maxRecDepth 20000 in
theorem tk_158 : Cond.instanceMethod yX3_savedOf ∈ TB := tbm 158 (by decide +kernel) (by decide)
set_option maxRecDepth 20000 in
theorem tk_159 : Cond.code yX3_savedOf cX3_savedOf 4 (some .int) ∈ TB := tbm 159 (by decide +kernel) (by decide)
set_option maxRecDepth 20000 in
theorem tk_160 : Cond.methodLink RX3 256 yX3_greatestSaving ∈ TB := tbm 160 (by decide +kernel) (by decide)
set_option maxRecDepth 20000 in
theorem tk_162 : Cond.instanceMethod yX3_greatestSaving ∈ TB := tbm 162 (by decide +kernel) (by decide)
set_option maxRecDepth 20000 in
theorem tk_163 : Cond.code yX3_greatestSaving cX3_greatestSaving 6 (some .int) ∈ TB := tbm 163 (by decide +kernel) (by decide)
set_option maxRecDepth 20000 in
theorem tk_166 : Cond.instanceMethod yX1_savingWith ∈ TB := tbm 166 (by decide +kernel) (by decide)
set_option maxRecDepth 20000 in
theorem tk_167 : Cond.code yX1_savingWith cX1_savingWith 4 (some .int) ∈ TB := tbm 167 (by decide +kernel) (by decide)
set_option maxRecDepth 20000 in
theorem tk_168 : Cond.methodLink RX1 22 Lib.Math.abs.name ∈ TB := tbm 168 (by decide +kernel) (by decide)
set_option maxRecDepth 20000 in
theorem tk_169 : Cond.static Lib.Math.abs.name ∈ TB := tbm 169 (by decide +kernel) (by decide)
set_option maxRecDepth 20000 in
theorem tk_170 : Cond.code Lib.Math.abs.name Lib.Math.abs.code 1 (some .int) ∈ TB := tbm 170 (by decide +kernel) (by decide)
set_option maxRecDepth 20000 in
theorem tk_171 : Cond.methodLink RX1 31 Lib.Math.min.name ∈ TB := tbm 171 (by decide +kernel) (by decide)
set_option maxRecDepth 20000 in
theorem tk_172 : Cond.methodLink RL 74 yL_cell ∈ TB := tbm 172 (by decide +kernel) (by decide)
set_option maxRecDepth 20000 in
theorem tk_173 : Cond.static yL_cell ∈ TB := tbm 173 (by decide +kernel) (by decide)
set_option maxRecDepth 20000 in
theorem tk_174 : Cond.code yL_cell cL_cell 2 (some .int) ∈ TB := tbm 174 (by decide +kernel) (by decide)
set_option maxRecDepth 20000 in
theorem tk_175 : Cond.methodLink RL 86 yL_order ∈ TB := tbm 175 (by decide +kernel) (by decide)
set_option maxRecDepth 20000 in
theorem tk_176 : Cond.static yL_order ∈ TB := tbm 176 (by decide +kernel) (by decide)
set_option maxRecDepth 20000 in
theorem tk_177 : Cond.codeWith yL_order cL_order 6 (some .int) [(0, 12, 15, 13), (0, 12, 19, 15)] ∈ TB := tbm 177 (by decide +kernel) (by decide)
set_option maxRecDepth 20000 in
theorem tk_178 : Cond.classLink RL 13 "java/lang/IllegalArgumentException" ∈ TB := tbm 178 (by decide +kernel) (by decide)
set_option maxRecDepth 20000 in
theorem tk_179 : Cond.classLink RL 15 "java/lang/UnsupportedOperationException" ∈ TB := tbm 179 (by decide +kernel) (by decide)
set_option maxRecDepth 20000 in
theorem tk_180 : Cond.methodLink RL 7 yX3_order ∈ TB := tbm 180 (by decide +kernel) (by decide)
set_option maxRecDepth 20000 in
theorem tk_181 : Cond.instanceMethod yX3_order ∈ TB := tbm 181 (by decide +kernel) (by decide)
set_option maxRecDepth 20000 in
theorem tk_182 : Cond.selects RX3 yX3_order yX3_order ∈ TB := tbm 182 (by decide +kernel) (by decide)
set_option maxRecDepth 20000 in
theorem tk_183 : Cond.code yX3_order cX3_order 5 (some .int) ∈ TB := tbm 183 (by decide +kernel) (by decide)
set_option maxRecDepth 20000 in
theorem tk_184 : Cond.constant RX3 52 (100000) ∈ TB := tbm 184 (by decide +kernel) (by decide)
set_option maxRecDepth 20000 in
theorem tk_185 : Cond.methodLink RX3 53 yX3_requireRange ∈ TB := tbm 185 (by decide +kernel) (by decide)
set_option maxRecDepth 20000 in
theorem tk_186 : Cond.static yX3_requireRange ∈ TB := tbm 186 (by decide +kernel) (by decide)
set_option maxRecDepth 20000 in
theorem tk_187 : Cond.code yX3_requireRange cX3_requireRange 3 none ∈ TB := tbm 187 (by decide +kernel) (by decide)
set_option maxRecDepth 20000 in
theorem tk_188 : Cond.classLink RX3 154 "java/lang/IllegalArgumentException" ∈ TB := tbm 188 (by decide +kernel) (by decide)
set_option maxRecDepth 20000 in
theorem tk_189 : Cond.instantiable "java/lang/IllegalArgumentException" 6 ∈ TB := tbm 189 (by decide +kernel) (by decide)
set_option maxRecDepth 20000 in
theorem tk_209 : Cond.fieldLink "java/lang/Throwable" 198 "java/lang/Throwable" "backtrace" "Ljava/lang/Object;" ∈ TB := tbm 209 (by decide +kernel) (by decide)
set_option maxRecDepth 20000 in
theorem tk_213 : Cond.methodLink "java/lang/Throwable" 1 objectInit ∈ TB := tbm 213 (by decide +kernel) (by decide)
set_option maxRecDepth 20000 in
theorem tk_214 : Cond.fieldLink "java/lang/Throwable" 13 "java/lang/Throwable" "UNASSIGNED_STACK" "[Ljava/lang/StackTraceElement;" ∈ TB := tbm 214 (by decide +kernel) (by decide)
set_option maxRecDepth 20000 in
theorem tk_216 : Cond.fieldLink "java/lang/Throwable" 20 "java/lang/Throwable" "SUPPRESSED_SENTINEL" "Ljava/util/List;" ∈ TB := tbm 216 (by decide +kernel) (by decide)
set_option maxRecDepth 20000 in
theorem tk_228 : Cond.instantiable "java/lang/Throwable" 6 ∈ TB := tbm 228 (by decide +kernel) (by decide)
set_option maxRecDepth 20000 in
theorem tk_243 : Cond.fieldLink "java/lang/Throwable" 198 "java/lang/Throwable" "backtrace" "Ljava/lang/Object;" ∈ TB := tbm 243 (by decide +kernel) (by decide)
set_option maxRecDepth 20000 in
theorem tk_244 : Cond.fieldLink "java/lang/Throwable" 31 "java/lang/Throwable" "detailMessage" "Ljava/lang/String;" ∈ TB := tbm 244 (by decide +kernel) (by decide)
set_option maxRecDepth 20000 in
theorem tk_245 : Cond.fieldLink "java/lang/Throwable" 7 "java/lang/Throwable" "cause" "Ljava/lang/Throwable;" ∈ TB := tbm 245 (by decide +kernel) (by decide)
set_option maxRecDepth 20000 in
theorem tk_246 : Cond.fieldLink "java/lang/Throwable" 17 "java/lang/Throwable" "stackTrace" "[Ljava/lang/StackTraceElement;" ∈ TB := tbm 246 (by decide +kernel) (by decide)
set_option maxRecDepth 20000 in
theorem tk_247 : Cond.fieldLink "java/lang/Throwable" 24 "java/lang/Throwable" "suppressedExceptions" "Ljava/util/List;" ∈ TB := tbm 247 (by decide +kernel) (by decide)
set_option maxRecDepth 20000 in
theorem tk_257 : Cond.classLink RX3 60 "java/lang/UnsupportedOperationException" ∈ TB := tbm 257 (by decide +kernel) (by decide)
set_option maxRecDepth 20000 in
theorem tk_258 : Cond.instantiable "java/lang/UnsupportedOperationException" 6 ∈ TB := tbm 258 (by decide +kernel) (by decide)
set_option maxRecDepth 20000 in
theorem tk_273 : Cond.methodLink RL 93 yL_line ∈ TB := tbm 273 (by decide +kernel) (by decide)
set_option maxRecDepth 20000 in
theorem tk_274 : Cond.static yL_line ∈ TB := tbm 274 (by decide +kernel) (by decide)
set_option maxRecDepth 20000 in
theorem tk_275 : Cond.codeWith yL_line cL_line 6 (some .int) [(0, 12, 15, 20), (0, 12, 19, 13), (0, 12, 23, 22), (0, 12, 27, 15)] ∈ TB := tbm 275 (by decide +kernel) (by decide)
set_option maxRecDepth 20000 in
theorem tk_276 : Cond.classLink RL 20 "java/util/NoSuchElementException" ∈ TB := tbm 276 (by decide +kernel) (by decide)
set_option maxRecDepth 20000 in
theorem tk_277 : Cond.classLink RL 22 "java/lang/IllegalStateException" ∈ TB := tbm 277 (by decide +kernel) (by decide)
set_option maxRecDepth 20000 in
theorem tk_278 : Cond.methodLink RL 17 yX3_line ∈ TB := tbm 278 (by decide +kernel) (by decide)
set_option maxRecDepth 20000 in
theorem tk_279 : Cond.instanceMethod yX3_line ∈ TB := tbm 279 (by decide +kernel) (by decide)
set_option maxRecDepth 20000 in
theorem tk_280 : Cond.selects RX3 yX3_line yX3_line ∈ TB := tbm 280 (by decide +kernel) (by decide)
set_option maxRecDepth 20000 in
theorem tk_281 : Cond.code yX3_line cX3_line 5 (some .int) ∈ TB := tbm 281 (by decide +kernel) (by decide)
set_option maxRecDepth 20000 in
theorem tk_282 : Cond.methodLink RX3 76 yX3_requireOrder ∈ TB := tbm 282 (by decide +kernel) (by decide)
set_option maxRecDepth 20000 in
theorem tk_284 : Cond.instanceMethod yX3_requireOrder ∈ TB := tbm 284 (by decide +kernel) (by decide)
set_option maxRecDepth 20000 in
theorem tk_285 : Cond.code yX3_requireOrder cX3_requireOrder 2 (some (.object "WavePlans$Order")) ∈ TB := tbm 285 (by decide +kernel) (by decide)
set_option maxRecDepth 20000 in
theorem tk_286 : Cond.classLink RX3 159 "java/util/NoSuchElementException" ∈ TB := tbm 286 (by decide +kernel) (by decide)
set_option maxRecDepth 20000 in
theorem tk_287 : Cond.instantiable "java/util/NoSuchElementException" 6 ∈ TB := tbm 287 (by decide +kernel) (by decide)
set_option maxRecDepth 20000 in
theorem tk_302 : Cond.methodLink RX3 80 yX3_requireFree ∈ TB := tbm 302 (by decide +kernel) (by decide)
set_option maxRecDepth 20000 in
theorem tk_303 : Cond.static yX3_requireFree ∈ TB := tbm 303 (by decide +kernel) (by decide)
set_option maxRecDepth 20000 in
theorem tk_304 : Cond.code yX3_requireFree cX3_requireFree 1 none ∈ TB := tbm 304 (by decide +kernel) (by decide)
set_option maxRecDepth 20000 in
theorem tk_305 : Cond.classLink RX3 87 "java/lang/IllegalStateException" ∈ TB := tbm 305 (by decide +kernel) (by decide)
set_option maxRecDepth 20000 in
theorem tk_306 : Cond.instantiable "java/lang/IllegalStateException" 6 ∈ TB := tbm 306 (by decide +kernel) (by decide)
set_option maxRecDepth 20000 in
theorem tk_323 : Cond.methodLink RL 96 yL_carrier ∈ TB := tbm 323 (by decide +kernel) (by decide)
set_option maxRecDepth 20000 in
theorem tk_324 : Cond.static yL_carrier ∈ TB := tbm 324 (by decide +kernel) (by decide)
set_option maxRecDepth 20000 in
theorem tk_325 : Cond.codeWith yL_carrier cL_carrier 4 (some .int) [(0, 6, 9, 20), (0, 6, 12, 13), (0, 6, 15, 22)] ∈ TB := tbm 325 (by decide +kernel) (by decide)
set_option maxRecDepth 20000 in
theorem tk_326 : Cond.methodLink RL 24 yX3_carrier ∈ TB := tbm 326 (by decide +kernel) (by decide)
set_option maxRecDepth 20000 in
theorem tk_327 : Cond.instanceMethod yX3_carrier ∈ TB := tbm 327 (by decide +kernel) (by decide)
set_option maxRecDepth 20000 in
theorem tk_328 : Cond.selects RX3 yX3_carrier yX3_carrier ∈ TB := tbm 328 (by decide +kernel) (by decide)
set_option maxRecDepth 20000 in
theorem tk_329 : Cond.code yX3_carrier cX3_carrier 4 none ∈ TB := tbm 329 (by decide +kernel) (by decide)
set_option maxRecDepth 20000 in
theorem tk_330 : Cond.methodLink RL 100 yL_hour ∈ TB := tbm 330 (by decide +kernel) (by decide)
set_option maxRecDepth 20000 in
theorem tk_331 : Cond.static yL_hour ∈ TB := tbm 331 (by decide +kernel) (by decide)
set_option maxRecDepth 20000 in
theorem tk_332 : Cond.codeWith yL_hour cL_hour 6 (some .int) [(0, 12, 15, 13), (0, 12, 19, 15)] ∈ TB := tbm 332 (by decide +kernel) (by decide)
set_option maxRecDepth 20000 in
theorem tk_333 : Cond.methodLink RL 28 yX3_hour ∈ TB := tbm 333 (by decide +kernel) (by decide)
set_option maxRecDepth 20000 in
theorem tk_334 : Cond.instanceMethod yX3_hour ∈ TB := tbm 334 (by decide +kernel) (by decide)
set_option maxRecDepth 20000 in
theorem tk_335 : Cond.selects RX3 yX3_hour yX3_hour ∈ TB := tbm 335 (by decide +kernel) (by decide)
set_option maxRecDepth 20000 in
theorem tk_336 : Cond.code yX3_hour cX3_hour 4 (some .int) ∈ TB := tbm 336 (by decide +kernel) (by decide)
set_option maxRecDepth 20000 in
theorem tk_340 : Cond.instanceMethod yX0_open ∈ TB := tbm 340 (by decide +kernel) (by decide)
set_option maxRecDepth 20000 in
theorem tk_341 : Cond.code yX0_open cX0_open 4 none ∈ TB := tbm 341 (by decide +kernel) (by decide)
set_option maxRecDepth 20000 in
theorem tk_344 : Cond.instanceMethod yX0_hoursOf ∈ TB := tbm 344 (by decide +kernel) (by decide)
set_option maxRecDepth 20000 in
theorem tk_345 : Cond.code yX0_hoursOf cX0_hoursOf 4 (some .int) ∈ TB := tbm 345 (by decide +kernel) (by decide)
set_option maxRecDepth 20000 in
theorem tk_346 : Cond.methodLink RL 103 yL_stock ∈ TB := tbm 346 (by decide +kernel) (by decide)
set_option maxRecDepth 20000 in
theorem tk_347 : Cond.static yL_stock ∈ TB := tbm 347 (by decide +kernel) (by decide)
set_option maxRecDepth 20000 in
theorem tk_348 : Cond.codeWith yL_stock cL_stock 4 (some .int) [(0, 6, 9, 13)] ∈ TB := tbm 348 (by decide +kernel) (by decide)
set_option maxRecDepth 20000 in
theorem tk_349 : Cond.methodLink RL 31 yX3_stock ∈ TB := tbm 349 (by decide +kernel) (by decide)
set_option maxRecDepth 20000 in
theorem tk_350 : Cond.instanceMethod yX3_stock ∈ TB := tbm 350 (by decide +kernel) (by decide)
set_option maxRecDepth 20000 in
theorem tk_351 : Cond.selects RX3 yX3_stock yX3_stock ∈ TB := tbm 351 (by decide +kernel) (by decide)
set_option maxRecDepth 20000 in
theorem tk_352 : Cond.code yX3_stock cX3_stock 3 none ∈ TB := tbm 352 (by decide +kernel) (by decide)
set_option maxRecDepth 20000 in
theorem tk_353 : Cond.methodLink RL 106 yL_plan ∈ TB := tbm 353 (by decide +kernel) (by decide)
set_option maxRecDepth 20000 in
theorem tk_354 : Cond.static yL_plan ∈ TB := tbm 354 (by decide +kernel) (by decide)
set_option maxRecDepth 20000 in
theorem tk_355 : Cond.codeWith yL_plan cL_plan 3 (some .int) [(0, 8, 11, 15)] ∈ TB := tbm 355 (by decide +kernel) (by decide)
set_option maxRecDepth 20000 in
theorem tk_356 : Cond.methodLink RL 34 yX3_plan ∈ TB := tbm 356 (by decide +kernel) (by decide)
set_option maxRecDepth 20000 in
theorem tk_357 : Cond.instanceMethod yX3_plan ∈ TB := tbm 357 (by decide +kernel) (by decide)
set_option maxRecDepth 20000 in
theorem tk_358 : Cond.selects RX3 yX3_plan yX3_plan ∈ TB := tbm 358 (by decide +kernel) (by decide)
set_option maxRecDepth 20000 in
theorem tk_359 : Cond.code yX3_plan cX3_plan 2 (some .int) ∈ TB := tbm 359 (by decide +kernel) (by decide)
set_option maxRecDepth 20000 in
theorem tk_360 : Cond.methodLink RX3 115 yX3_makeWaves ∈ TB := tbm 360 (by decide +kernel) (by decide)
set_option maxRecDepth 20000 in
theorem tk_362 : Cond.instanceMethod yX3_makeWaves ∈ TB := tbm 362 (by decide +kernel) (by decide)
set_option maxRecDepth 20000 in
theorem tk_363 : Cond.code yX3_makeWaves cX3_makeWaves 3 (some .boolean) ∈ TB := tbm 363 (by decide +kernel) (by decide)
set_option maxRecDepth 20000 in
theorem tk_364 : Cond.methodLink RX3 247 yX3_nextBeginning ∈ TB := tbm 364 (by decide +kernel) (by decide)
set_option maxRecDepth 20000 in
theorem tk_366 : Cond.instanceMethod yX3_nextBeginning ∈ TB := tbm 366 (by decide +kernel) (by decide)
set_option maxRecDepth 20000 in
theorem tk_367 : Cond.code yX3_nextBeginning cX3_nextBeginning 4 (some .int) ∈ TB := tbm 367 (by decide +kernel) (by decide)
set_option maxRecDepth 20000 in
theorem tk_368 : Cond.methodLink RX3 253 yX3_mayBePlanned ∈ TB := tbm 368 (by decide +kernel) (by decide)
set_option maxRecDepth 20000 in
theorem tk_370 : Cond.instanceMethod yX3_mayBePlanned ∈ TB := tbm 370 (by decide +kernel) (by decide)
set_option maxRecDepth 20000 in
theorem tk_371 : Cond.code yX3_mayBePlanned cX3_mayBePlanned 2 (some .boolean) ∈ TB := tbm 371 (by decide +kernel) (by decide)
set_option maxRecDepth 20000 in
theorem tk_372 : Cond.methodLink RX3 198 yX3_fits ∈ TB := tbm 372 (by decide +kernel) (by decide)
set_option maxRecDepth 20000 in
theorem tk_374 : Cond.instanceMethod yX3_fits ∈ TB := tbm 374 (by decide +kernel) (by decide)
set_option maxRecDepth 20000 in
theorem tk_375 : Cond.code yX3_fits cX3_fits 2 (some .boolean) ∈ TB := tbm 375 (by decide +kernel) (by decide)
set_option maxRecDepth 20000 in
theorem tk_378 : Cond.instanceMethod yX0_have ∈ TB := tbm 378 (by decide +kernel) (by decide)
set_option maxRecDepth 20000 in
theorem tk_379 : Cond.code yX0_have cX0_have 4 (some .boolean) ∈ TB := tbm 379 (by decide +kernel) (by decide)
set_option maxRecDepth 20000 in
theorem tk_380 : Cond.methodLink RX3 250 yX3_makeWave ∈ TB := tbm 380 (by decide +kernel) (by decide)
set_option maxRecDepth 20000 in
theorem tk_382 : Cond.instanceMethod yX3_makeWave ∈ TB := tbm 382 (by decide +kernel) (by decide)
set_option maxRecDepth 20000 in
theorem tk_383 : Cond.code yX3_makeWave cX3_makeWave 7 none ∈ TB := tbm 383 (by decide +kernel) (by decide)
set_option maxRecDepth 20000 in
theorem tk_386 : Cond.instanceMethod yX2_add ∈ TB := tbm 386 (by decide +kernel) (by decide)
set_option maxRecDepth 20000 in
theorem tk_387 : Cond.code yX2_add cX2_add 2 none ∈ TB := tbm 387 (by decide +kernel) (by decide)
set_option maxRecDepth 20000 in
theorem tk_388 : Cond.methodLink RX3 263 yX3_bestAddition ∈ TB := tbm 388 (by decide +kernel) (by decide)
set_option maxRecDepth 20000 in
theorem tk_390 : Cond.instanceMethod yX3_bestAddition ∈ TB := tbm 390 (by decide +kernel) (by decide)
set_option maxRecDepth 20000 in
theorem tk_391 : Cond.code yX3_bestAddition cX3_bestAddition 9 (some .int) ∈ TB := tbm 391 (by decide +kernel) (by decide)
set_option maxRecDepth 20000 in
theorem tk_392 : Cond.methodLink RX3 119 yX3_undoWavesBehind ∈ TB := tbm 392 (by decide +kernel) (by decide)
set_option maxRecDepth 20000 in
theorem tk_394 : Cond.instanceMethod yX3_undoWavesBehind ∈ TB := tbm 394 (by decide +kernel) (by decide)
set_option maxRecDepth 20000 in
theorem tk_395 : Cond.code yX3_undoWavesBehind cX3_undoWavesBehind 3 none ∈ TB := tbm 395 (by decide +kernel) (by decide)
set_option maxRecDepth 20000 in
theorem tk_398 : Cond.instanceMethod yX2_empty ∈ TB := tbm 398 (by decide +kernel) (by decide)
set_option maxRecDepth 20000 in
theorem tk_399 : Cond.code yX2_empty cX2_empty 1 none ∈ TB := tbm 399 (by decide +kernel) (by decide)
set_option maxRecDepth 20000 in
theorem tk_401 : Cond.methodLink RL 110 yL_wave ∈ TB := tbm 401 (by decide +kernel) (by decide)
set_option maxRecDepth 20000 in
theorem tk_402 : Cond.static yL_wave ∈ TB := tbm 402 (by decide +kernel) (by decide)
set_option maxRecDepth 20000 in
theorem tk_403 : Cond.codeWith yL_wave cL_wave 4 (some .int) [(0, 9, 12, 20)] ∈ TB := tbm 403 (by decide +kernel) (by decide)
set_option maxRecDepth 20000 in
theorem tk_404 : Cond.methodLink RL 38 yX3_wave ∈ TB := tbm 404 (by decide +kernel) (by decide)
set_option maxRecDepth 20000 in
theorem tk_405 : Cond.instanceMethod yX3_wave ∈ TB := tbm 405 (by decide +kernel) (by decide)
set_option maxRecDepth 20000 in
theorem tk_406 : Cond.selects RX3 yX3_wave yX3_wave ∈ TB := tbm 406 (by decide +kernel) (by decide)
set_option maxRecDepth 20000 in
theorem tk_407 : Cond.code yX3_wave cX3_wave 2 (some .int) ∈ TB := tbm 407 (by decide +kernel) (by decide)
set_option maxRecDepth 20000 in
theorem tk_408 : Cond.methodLink RL 114 yL_told ∈ TB := tbm 408 (by decide +kernel) (by decide)
set_option maxRecDepth 20000 in
theorem tk_409 : Cond.static yL_told ∈ TB := tbm 409 (by decide +kernel) (by decide)
set_option maxRecDepth 20000 in
theorem tk_410 : Cond.codeWith yL_told cL_told 5 (some .int) [(0, 10, 13, 20), (0, 10, 17, 13)] ∈ TB := tbm 410 (by decide +kernel) (by decide)
set_option maxRecDepth 20000 in
theorem tk_411 : Cond.methodLink RL 42 yX3_told ∈ TB := tbm 411 (by decide +kernel) (by decide)
set_option maxRecDepth 20000 in
theorem tk_412 : Cond.instanceMethod yX3_told ∈ TB := tbm 412 (by decide +kernel) (by decide)
set_option maxRecDepth 20000 in
theorem tk_413 : Cond.selects RX3 yX3_told yX3_told ∈ TB := tbm 413 (by decide +kernel) (by decide)
set_option maxRecDepth 20000 in
theorem tk_414 : Cond.code yX3_told cX3_told 4 (some .int) ∈ TB := tbm 414 (by decide +kernel) (by decide)
set_option maxRecDepth 20000 in
theorem tk_415 : Cond.methodLink RX3 131 yX3_requireWave ∈ TB := tbm 415 (by decide +kernel) (by decide)
set_option maxRecDepth 20000 in
theorem tk_417 : Cond.instanceMethod yX3_requireWave ∈ TB := tbm 417 (by decide +kernel) (by decide)
set_option maxRecDepth 20000 in
theorem tk_418 : Cond.code yX3_requireWave cX3_requireWave 2 (some (.object "WavePlans$Wave")) ∈ TB := tbm 418 (by decide +kernel) (by decide)
set_option maxRecDepth 20000 in
theorem tk_420 : Cond.methodLink RX3 135 yX3_secondsOf ∈ TB := tbm 420 (by decide +kernel) (by decide)
set_option maxRecDepth 20000 in
theorem tk_422 : Cond.instanceMethod yX3_secondsOf ∈ TB := tbm 422 (by decide +kernel) (by decide)
set_option maxRecDepth 20000 in
theorem tk_423 : Cond.code yX3_secondsOf cX3_secondsOf 4 (some .int) ∈ TB := tbm 423 (by decide +kernel) (by decide)
set_option maxRecDepth 20000 in
theorem tk_424 : Cond.methodLink RX3 143 yX3_dueOf ∈ TB := tbm 424 (by decide +kernel) (by decide)
set_option maxRecDepth 20000 in
theorem tk_426 : Cond.instanceMethod yX3_dueOf ∈ TB := tbm 426 (by decide +kernel) (by decide)
set_option maxRecDepth 20000 in
theorem tk_427 : Cond.code yX3_dueOf cX3_dueOf 4 (some .int) ∈ TB := tbm 427 (by decide +kernel) (by decide)
set_option maxRecDepth 20000 in
theorem tk_428 : Cond.methodLink RX3 151 yX3_finishedOf ∈ TB := tbm 428 (by decide +kernel) (by decide)
set_option maxRecDepth 20000 in
theorem tk_430 : Cond.instanceMethod yX3_finishedOf ∈ TB := tbm 430 (by decide +kernel) (by decide)
set_option maxRecDepth 20000 in
theorem tk_431 : Cond.code yX3_finishedOf cX3_finishedOf 4 (some .int) ∈ TB := tbm 431 (by decide +kernel) (by decide)
set_option maxRecDepth 20000 in
theorem tk_433 : Cond.methodLink RL 118 yL_member ∈ TB := tbm 433 (by decide +kernel) (by decide)
set_option maxRecDepth 20000 in
theorem tk_434 : Cond.static yL_member ∈ TB := tbm 434 (by decide +kernel) (by decide)
set_option maxRecDepth 20000 in
theorem tk_435 : Cond.codeWith yL_member cL_member 5 (some .int) [(0, 10, 13, 20)] ∈ TB := tbm 435 (by decide +kernel) (by decide)
set_option maxRecDepth 20000 in
theorem tk_436 : Cond.methodLink RL 46 yX3_member ∈ TB := tbm 436 (by decide +kernel) (by decide)
set_option maxRecDepth 20000 in
theorem tk_437 : Cond.instanceMethod yX3_member ∈ TB := tbm 437 (by decide +kernel) (by decide)
set_option maxRecDepth 20000 in
theorem tk_438 : Cond.selects RX3 yX3_member yX3_member ∈ TB := tbm 438 (by decide +kernel) (by decide)
set_option maxRecDepth 20000 in
theorem tk_439 : Cond.code yX3_member cX3_member 4 (some .int) ∈ TB := tbm 439 (by decide +kernel) (by decide)
set_option maxRecDepth 20000 in
theorem tk_441 : Cond.methodLink RL 121 yL_replenish ∈ TB := tbm 441 (by decide +kernel) (by decide)
set_option maxRecDepth 20000 in
theorem tk_442 : Cond.static yL_replenish ∈ TB := tbm 442 (by decide +kernel) (by decide)
set_option maxRecDepth 20000 in
theorem tk_443 : Cond.codeWith yL_replenish cL_replenish 5 (some .int) [(0, 10, 13, 20), (0, 10, 17, 13)] ∈ TB := tbm 443 (by decide +kernel) (by decide)
set_option maxRecDepth 20000 in
theorem tk_444 : Cond.methodLink RL 49 yX3_replenish ∈ TB := tbm 444 (by decide +kernel) (by decide)
set_option maxRecDepth 20000 in
theorem tk_445 : Cond.instanceMethod yX3_replenish ∈ TB := tbm 445 (by decide +kernel) (by decide)
set_option maxRecDepth 20000 in
theorem tk_446 : Cond.selects RX3 yX3_replenish yX3_replenish ∈ TB := tbm 446 (by decide +kernel) (by decide)
set_option maxRecDepth 20000 in
theorem tk_447 : Cond.code yX3_replenish cX3_replenish 3 (some .int) ∈ TB := tbm 447 (by decide +kernel) (by decide)
set_option maxRecDepth 20000 in
theorem tk_448 : Cond.methodLink RX3 167 yX3_requireNotNegative ∈ TB := tbm 448 (by decide +kernel) (by decide)
set_option maxRecDepth 20000 in
theorem tk_449 : Cond.static yX3_requireNotNegative ∈ TB := tbm 449 (by decide +kernel) (by decide)
set_option maxRecDepth 20000 in
theorem tk_450 : Cond.code yX3_requireNotNegative cX3_requireNotNegative 1 none ∈ TB := tbm 450 (by decide +kernel) (by decide)
set_option maxRecDepth 20000 in
theorem tk_452 : Cond.methodLink RX3 170 yX3_lackedGood ∈ TB := tbm 452 (by decide +kernel) (by decide)
set_option maxRecDepth 20000 in
theorem tk_454 : Cond.instanceMethod yX3_lackedGood ∈ TB := tbm 454 (by decide +kernel) (by decide)
set_option maxRecDepth 20000 in
theorem tk_455 : Cond.code yX3_lackedGood cX3_lackedGood 5 (some .int) ∈ TB := tbm 455 (by decide +kernel) (by decide)
set_option maxRecDepth 20000 in
theorem tk_456 : Cond.methodLink RX3 173 yX3_lackOf ∈ TB := tbm 456 (by decide +kernel) (by decide)
set_option maxRecDepth 20000 in
theorem tk_458 : Cond.instanceMethod yX3_lackOf ∈ TB := tbm 458 (by decide +kernel) (by decide)
set_option maxRecDepth 20000 in
theorem tk_459 : Cond.code yX3_lackOf cX3_lackOf 5 (some .int) ∈ TB := tbm 459 (by decide +kernel) (by decide)
set_option maxRecDepth 20000 in
theorem tk_460 : Cond.methodLink RX3 271 yX3_wantedOf ∈ TB := tbm 460 (by decide +kernel) (by decide)
set_option maxRecDepth 20000 in
theorem tk_462 : Cond.instanceMethod yX3_wantedOf ∈ TB := tbm 462 (by decide +kernel) (by decide)
set_option maxRecDepth 20000 in
theorem tk_463 : Cond.code yX3_wantedOf cX3_wantedOf 6 (some .int) ∈ TB := tbm 463 (by decide +kernel) (by decide)
set_option maxRecDepth 20000 in
theorem tk_464 : Cond.methodLink RL 124 yL_lacks ∈ TB := tbm 464 (by decide +kernel) (by decide)
set_option maxRecDepth 20000 in
theorem tk_465 : Cond.static yL_lacks ∈ TB := tbm 465 (by decide +kernel) (by decide)
set_option maxRecDepth 20000 in
theorem tk_466 : Cond.codeWith yL_lacks cL_lacks 5 (some .int) [(0, 10, 13, 20), (0, 10, 17, 13)] ∈ TB := tbm 466 (by decide +kernel) (by decide)
set_option maxRecDepth 20000 in
theorem tk_467 : Cond.methodLink RL 52 yX3_lacks ∈ TB := tbm 467 (by decide +kernel) (by decide)
set_option maxRecDepth 20000 in
theorem tk_468 : Cond.instanceMethod yX3_lacks ∈ TB := tbm 468 (by decide +kernel) (by decide)
set_option maxRecDepth 20000 in
theorem tk_469 : Cond.selects RX3 yX3_lacks yX3_lacks ∈ TB := tbm 469 (by decide +kernel) (by decide)
set_option maxRecDepth 20000 in
theorem tk_470 : Cond.code yX3_lacks cX3_lacks 3 (some .int) ∈ TB := tbm 470 (by decide +kernel) (by decide)
set_option maxRecDepth 20000 in
theorem tk_471 : Cond.methodLink RL 127 yL_release ∈ TB := tbm 471 (by decide +kernel) (by decide)
set_option maxRecDepth 20000 in
theorem tk_472 : Cond.static yL_release ∈ TB := tbm 472 (by decide +kernel) (by decide)
set_option maxRecDepth 20000 in
theorem tk_473 : Cond.codeWith yL_release cL_release 4 (some .int) [(0, 9, 12, 20), (0, 9, 15, 22)] ∈ TB := tbm 473 (by decide +kernel) (by decide)
set_option maxRecDepth 20000 in
theorem tk_474 : Cond.methodLink RL 55 yX3_release ∈ TB := tbm 474 (by decide +kernel) (by decide)
set_option maxRecDepth 20000 in
theorem tk_475 : Cond.instanceMethod yX3_release ∈ TB := tbm 475 (by decide +kernel) (by decide)
set_option maxRecDepth 20000 in
theorem tk_476 : Cond.selects RX3 yX3_release yX3_release ∈ TB := tbm 476 (by decide +kernel) (by decide)
set_option maxRecDepth 20000 in
theorem tk_477 : Cond.code yX3_release cX3_release 3 (some .int) ∈ TB := tbm 477 (by decide +kernel) (by decide)
set_option maxRecDepth 20000 in
theorem tk_478 : Cond.methodLink RX3 176 yX3_requirePlanned ∈ TB := tbm 478 (by decide +kernel) (by decide)
set_option maxRecDepth 20000 in
theorem tk_479 : Cond.static yX3_requirePlanned ∈ TB := tbm 479 (by decide +kernel) (by decide)
set_option maxRecDepth 20000 in
theorem tk_480 : Cond.code yX3_requirePlanned cX3_requirePlanned 1 none ∈ TB := tbm 480 (by decide +kernel) (by decide)
set_option maxRecDepth 20000 in
theorem tk_482 : Cond.methodLink RX3 180 yX3_allFit ∈ TB := tbm 482 (by decide +kernel) (by decide)
set_option maxRecDepth 20000 in
theorem tk_484 : Cond.instanceMethod yX3_allFit ∈ TB := tbm 484 (by decide +kernel) (by decide)
set_option maxRecDepth 20000 in
theorem tk_485 : Cond.code yX3_allFit cX3_allFit 3 (some .boolean) ∈ TB := tbm 485 (by decide +kernel) (by decide)
set_option maxRecDepth 20000 in
theorem tk_486 : Cond.methodLink RL 130 yL_done ∈ TB := tbm 486 (by decide +kernel) (by decide)
set_option maxRecDepth 20000 in
theorem tk_487 : Cond.static yL_done ∈ TB := tbm 487 (by decide +kernel) (by decide)
set_option maxRecDepth 20000 in
theorem tk_488 : Cond.codeWith yL_done cL_done 4 (some .int) [(0, 9, 12, 20), (0, 9, 15, 22)] ∈ TB := tbm 488 (by decide +kernel) (by decide)
set_option maxRecDepth 20000 in
theorem tk_489 : Cond.methodLink RL 58 yX3_done ∈ TB := tbm 489 (by decide +kernel) (by decide)
set_option maxRecDepth 20000 in
theorem tk_490 : Cond.instanceMethod yX3_done ∈ TB := tbm 490 (by decide +kernel) (by decide)
set_option maxRecDepth 20000 in
theorem tk_491 : Cond.selects RX3 yX3_done yX3_done ∈ TB := tbm 491 (by decide +kernel) (by decide)
set_option maxRecDepth 20000 in
theorem tk_492 : Cond.code yX3_done cX3_done 4 (some .int) ∈ TB := tbm 492 (by decide +kernel) (by decide)
set_option maxRecDepth 20000 in
theorem tk_493 : Cond.methodLink RX3 184 yX3_isReleased ∈ TB := tbm 493 (by decide +kernel) (by decide)
set_option maxRecDepth 20000 in
theorem tk_495 : Cond.instanceMethod yX3_isReleased ∈ TB := tbm 495 (by decide +kernel) (by decide)
set_option maxRecDepth 20000 in
theorem tk_496 : Cond.code yX3_isReleased cX3_isReleased 2 (some .boolean) ∈ TB := tbm 496 (by decide +kernel) (by decide)
set_option maxRecDepth 20000 in
theorem tk_498 : Cond.methodLink RX3 193 yX3_takeFromStock ∈ TB := tbm 498 (by decide +kernel) (by decide)
set_option maxRecDepth 20000 in
theorem tk_500 : Cond.instanceMethod yX3_takeFromStock ∈ TB := tbm 500 (by decide +kernel) (by decide)
set_option maxRecDepth 20000 in
theorem tk_501 : Cond.code yX3_takeFromStock cX3_takeFromStock 3 none ∈ TB := tbm 501 (by decide +kernel) (by decide)
set_option maxRecDepth 20000 in
theorem tk_502 : Cond.methodLink RL 133 yL_change ∈ TB := tbm 502 (by decide +kernel) (by decide)
set_option maxRecDepth 20000 in
theorem tk_503 : Cond.static yL_change ∈ TB := tbm 503 (by decide +kernel) (by decide)
set_option maxRecDepth 20000 in
theorem tk_504 : Cond.codeWith yL_change cL_change 5 (some .int) [(0, 17, 20, 20), (0, 17, 24, 13), (0, 17, 28, 22)] ∈ TB := tbm 504 (by decide +kernel) (by decide)
set_option maxRecDepth 20000 in
theorem tk_505 : Cond.methodLink RL 61 yX3_change ∈ TB := tbm 505 (by decide +kernel) (by decide)
set_option maxRecDepth 20000 in
theorem tk_506 : Cond.instanceMethod yX3_change ∈ TB := tbm 506 (by decide +kernel) (by decide)
set_option maxRecDepth 20000 in
theorem tk_507 : Cond.selects RX3 yX3_change yX3_change ∈ TB := tbm 507 (by decide +kernel) (by decide)
set_option maxRecDepth 20000 in
theorem tk_508 : Cond.code yX3_change cX3_change 5 (some .boolean) ∈ TB := tbm 508 (by decide +kernel) (by decide)
set_option maxRecDepth 20000 in
theorem tk_510 : Cond.methodLink RX3 201 yX3_takeOut ∈ TB := tbm 510 (by decide +kernel) (by decide)
set_option maxRecDepth 20000 in
theorem tk_512 : Cond.instanceMethod yX3_takeOut ∈ TB := tbm 512 (by decide +kernel) (by decide)
set_option maxRecDepth 20000 in
theorem tk_513 : Cond.code yX3_takeOut cX3_takeOut 4 none ∈ TB := tbm 513 (by decide +kernel) (by decide)
set_option maxRecDepth 20000 in
theorem tk_516 : Cond.instanceMethod yX2_remove ∈ TB := tbm 516 (by decide +kernel) (by decide)
set_option maxRecDepth 20000 in
theorem tk_517 : Cond.code yX2_remove cX2_remove 4 none ∈ TB := tbm 517 (by decide +kernel) (by decide)
set_option maxRecDepth 20000 in
theorem tk_518 : Cond.methodLink RL 136 yL_join ∈ TB := tbm 518 (by decide +kernel) (by decide)
set_option maxRecDepth 20000 in
theorem tk_519 : Cond.static yL_join ∈ TB := tbm 519 (by decide +kernel) (by decide)
set_option maxRecDepth 20000 in
theorem tk_520 : Cond.codeWith yL_join cL_join 5 (some .int) [(0, 10, 13, 20), (0, 10, 17, 22)] ∈ TB := tbm 520 (by decide +kernel) (by decide)
set_option maxRecDepth 20000 in
theorem tk_521 : Cond.methodLink RL 65 yX3_join ∈ TB := tbm 521 (by decide +kernel) (by decide)
set_option maxRecDepth 20000 in
theorem tk_522 : Cond.instanceMethod yX3_join ∈ TB := tbm 522 (by decide +kernel) (by decide)
set_option maxRecDepth 20000 in
theorem tk_523 : Cond.selects RX3 yX3_join yX3_join ∈ TB := tbm 523 (by decide +kernel) (by decide)
set_option maxRecDepth 20000 in
theorem tk_524 : Cond.code yX3_join cX3_join 7 (some .int) ∈ TB := tbm 524 (by decide +kernel) (by decide)
set_option maxRecDepth 20000 in
theorem tk_528 : Cond.instanceMethod yX2_addAll ∈ TB := tbm 528 (by decide +kernel) (by decide)
set_option maxRecDepth 20000 in
theorem tk_529 : Cond.code yX2_addAll cX2_addAll 3 none ∈ TB := tbm 529 (by decide +kernel) (by decide)
set_option maxRecDepth 20000 in
theorem tk_530 : Cond.methodLink RX2 19 yX2_add ∈ TB := tbm 530 (by decide +kernel) (by decide)
set_option maxRecDepth 20000 in
theorem tk_532 : Cond.methodLink RL 139 yL_cutoff ∈ TB := tbm 532 (by decide +kernel) (by decide)
set_option maxRecDepth 20000 in
theorem tk_533 : Cond.static yL_cutoff ∈ TB := tbm 533 (by decide +kernel) (by decide)
set_option maxRecDepth 20000 in
theorem tk_534 : Cond.codeWith yL_cutoff cL_cutoff 5 (some .int) [(0, 10, 13, 13)] ∈ TB := tbm 534 (by decide +kernel) (by decide)
set_option maxRecDepth 20000 in
theorem tk_535 : Cond.methodLink RL 68 yX3_cutoff ∈ TB := tbm 535 (by decide +kernel) (by decide)
set_option maxRecDepth 20000 in
theorem tk_536 : Cond.instanceMethod yX3_cutoff ∈ TB := tbm 536 (by decide +kernel) (by decide)
set_option maxRecDepth 20000 in
theorem tk_537 : Cond.selects RX3 yX3_cutoff yX3_cutoff ∈ TB := tbm 537 (by decide +kernel) (by decide)
set_option maxRecDepth 20000 in
theorem tk_538 : Cond.code yX3_cutoff cX3_cutoff 6 (some .int) ∈ TB := tbm 538 (by decide +kernel) (by decide)
set_option maxRecDepth 20000 in
theorem tk_539 : Cond.methodLink RL 142 yL_late ∈ TB := tbm 539 (by decide +kernel) (by decide)
set_option maxRecDepth 20000 in
theorem tk_540 : Cond.static yL_late ∈ TB := tbm 540 (by decide +kernel) (by decide)
set_option maxRecDepth 20000 in
theorem tk_541 : Cond.codeWith yL_late cL_late 4 (some .int) [(0, 9, 12, 13)] ∈ TB := tbm 541 (by decide +kernel) (by decide)
set_option maxRecDepth 20000 in
theorem tk_542 : Cond.methodLink RL 71 yX3_late ∈ TB := tbm 542 (by decide +kernel) (by decide)
set_option maxRecDepth 20000 in
theorem tk_543 : Cond.instanceMethod yX3_late ∈ TB := tbm 543 (by decide +kernel) (by decide)
set_option maxRecDepth 20000 in
theorem tk_544 : Cond.selects RX3 yX3_late yX3_late ∈ TB := tbm 544 (by decide +kernel) (by decide)
set_option maxRecDepth 20000 in
theorem tk_545 : Cond.code yX3_late cX3_late 4 (some .int) ∈ TB := tbm 545 (by decide +kernel) (by decide)
set_option maxRecDepth 20000 in
theorem tk_546 : Cond.classLink RL 83 RX4 ∈ TB := tbm 546 (by decide +kernel) (by decide)
set_option maxRecDepth 20000 in
theorem tk_547 : Cond.instantiable RX4 22 ∈ TB := tbm 547 (by decide +kernel) (by decide)
set_option maxRecDepth 20000 in
theorem tk_548 : Cond.methodLink RL 85 yX4_init ∈ TB := tbm 548 (by decide +kernel) (by decide)
set_option maxRecDepth 20000 in
theorem tk_549 : Cond.instanceMethod yX4_init ∈ TB := tbm 549 (by decide +kernel) (by decide)
set_option maxRecDepth 20000 in
theorem tk_550 : Cond.code yX4_init cX4_init 2 none ∈ TB := tbm 550 (by decide +kernel) (by decide)
set_option maxRecDepth 20000 in
theorem tk_551 : Cond.methodLink RX4 1 objectInit ∈ TB := tbm 551 (by decide +kernel) (by decide)
set_option maxRecDepth 20000 in
theorem tk_552 : Cond.constant RX4 59 (65536) ∈ TB := tbm 552 (by decide +kernel) (by decide)
set_option maxRecDepth 20000 in
theorem tk_553 : Cond.fieldLink RX4 64 "WavePlansModel" "code" "I" ∈ TB := tbm 553 (by decide +kernel) (by decide)
set_option maxRecDepth 20000 in
theorem tk_554 : Cond.fieldLink RX4 60 "WavePlansModel" "capacity" "I" ∈ TB := tbm 554 (by decide +kernel) (by decide)
set_option maxRecDepth 20000 in
theorem tk_555 : Cond.fieldLink RX4 67 "WavePlansModel" "orders" "I" ∈ TB := tbm 555 (by decide +kernel) (by decide)
set_option maxRecDepth 20000 in
theorem tk_556 : Cond.fieldLink RX4 7 "WavePlansModel" "due" "[I" ∈ TB := tbm 556 (by decide +kernel) (by decide)
set_option maxRecDepth 20000 in
theorem tk_557 : Cond.fieldLink RX4 13 "WavePlansModel" "zone" "[I" ∈ TB := tbm 557 (by decide +kernel) (by decide)
set_option maxRecDepth 20000 in
theorem tk_558 : Cond.fieldLink RX4 16 "WavePlansModel" "seconds" "[I" ∈ TB := tbm 558 (by decide +kernel) (by decide)
set_option maxRecDepth 20000 in
theorem tk_559 : Cond.fieldLink RX4 19 "WavePlansModel" "carrier" "[I" ∈ TB := tbm 559 (by decide +kernel) (by decide)
set_option maxRecDepth 20000 in
theorem tk_560 : Cond.fieldLink RX4 22 "WavePlansModel" "waveOf" "[I" ∈ TB := tbm 560 (by decide +kernel) (by decide)
set_option maxRecDepth 20000 in
theorem tk_561 : Cond.fieldLink RX4 25 "WavePlansModel" "came" "[I" ∈ TB := tbm 561 (by decide +kernel) (by decide)
set_option maxRecDepth 20000 in
theorem tk_562 : Cond.fieldLink RX4 28 "WavePlansModel" "done" "[Z" ∈ TB := tbm 562 (by decide +kernel) (by decide)
set_option maxRecDepth 20000 in
theorem tk_563 : Cond.fieldLink RX4 32 "WavePlansModel" "wants" "[I" ∈ TB := tbm 563 (by decide +kernel) (by decide)
set_option maxRecDepth 20000 in
theorem tk_564 : Cond.fieldLink RX4 109 "WavePlansModel" "coming" "I" ∈ TB := tbm 564 (by decide +kernel) (by decide)
set_option maxRecDepth 20000 in
theorem tk_565 : Cond.fieldLink RX4 86 "WavePlansModel" "hours" "I" ∈ TB := tbm 565 (by decide +kernel) (by decide)
set_option maxRecDepth 20000 in
theorem tk_566 : Cond.fieldLink RX4 35 "WavePlansModel" "hourCarrier" "[I" ∈ TB := tbm 566 (by decide +kernel) (by decide)
set_option maxRecDepth 20000 in
theorem tk_567 : Cond.fieldLink RX4 38 "WavePlansModel" "hourFrom" "[I" ∈ TB := tbm 567 (by decide +kernel) (by decide)
set_option maxRecDepth 20000 in
theorem tk_568 : Cond.fieldLink RX4 41 "WavePlansModel" "hourTo" "[I" ∈ TB := tbm 568 (by decide +kernel) (by decide)
set_option maxRecDepth 20000 in
theorem tk_569 : Cond.fieldLink RX4 99 "WavePlansModel" "waves" "I" ∈ TB := tbm 569 (by decide +kernel) (by decide)
set_option maxRecDepth 20000 in
theorem tk_570 : Cond.fieldLink RX4 44 "WavePlansModel" "released" "[Z" ∈ TB := tbm 570 (by decide +kernel) (by decide)
set_option maxRecDepth 20000 in
theorem tk_571 : Cond.fieldLink RX4 47 "WavePlansModel" "stock" "[I" ∈ TB := tbm 571 (by decide +kernel) (by decide)
set_option maxRecDepth 20000 in
theorem tk_572 : Cond.fieldLink RX4 50 "WavePlansModel" "newWave" "[I" ∈ TB := tbm 572 (by decide +kernel) (by decide)
set_option maxRecDepth 20000 in
theorem tk_573 : Cond.fieldLink RX4 53 "WavePlansModel" "newCame" "[I" ∈ TB := tbm 573 (by decide +kernel) (by decide)
set_option maxRecDepth 20000 in
theorem tk_574 : Cond.fieldLink RX4 56 "WavePlansModel" "looked" "[Z" ∈ TB := tbm 574 (by decide +kernel) (by decide)
set_option maxRecDepth 20000 in
theorem tk_620 : Cond.arrayClass .boolean ∈ TB := tbm 620 (by decide +kernel) (by decide)
set_option maxRecDepth 20000 in
theorem tk_621 : Cond.methodLink RL 90 yX4_thrown ∈ TB := tbm 621 (by decide +kernel) (by decide)
set_option maxRecDepth 20000 in
theorem tk_622 : Cond.instanceMethod yX4_thrown ∈ TB := tbm 622 (by decide +kernel) (by decide)
set_option maxRecDepth 20000 in
theorem tk_623 : Cond.selects RX4 yX4_thrown yX4_thrown ∈ TB := tbm 623 (by decide +kernel) (by decide)
set_option maxRecDepth 20000 in
theorem tk_624 : Cond.code yX4_thrown cX4_thrown 1 (some .int) ∈ TB := tbm 624 (by decide +kernel) (by decide)
set_option maxRecDepth 20000 in
theorem tk_625 : Cond.methodLink RL 89 yX4_order ∈ TB := tbm 625 (by decide +kernel) (by decide)
set_option maxRecDepth 20000 in
theorem tk_626 : Cond.instanceMethod yX4_order ∈ TB := tbm 626 (by decide +kernel) (by decide)
set_option maxRecDepth 20000 in
theorem tk_627 : Cond.selects RX4 yX4_order yX4_order ∈ TB := tbm 627 (by decide +kernel) (by decide)
set_option maxRecDepth 20000 in
theorem tk_628 : Cond.code yX4_order cX4_order 4 (some .int) ∈ TB := tbm 628 (by decide +kernel) (by decide)
set_option maxRecDepth 20000 in
theorem tk_629 : Cond.methodLink RX4 75 yX4_isTime ∈ TB := tbm 629 (by decide +kernel) (by decide)
set_option maxRecDepth 20000 in
theorem tk_630 : Cond.static yX4_isTime ∈ TB := tbm 630 (by decide +kernel) (by decide)
set_option maxRecDepth 20000 in
theorem tk_631 : Cond.code yX4_isTime cX4_isTime 1 (some .boolean) ∈ TB := tbm 631 (by decide +kernel) (by decide)
set_option maxRecDepth 20000 in
theorem tk_632 : Cond.constant RX4 74 (100000) ∈ TB := tbm 632 (by decide +kernel) (by decide)
set_option maxRecDepth 20000 in
theorem tk_633 : Cond.methodLink RX4 70 yX4_in ∈ TB := tbm 633 (by decide +kernel) (by decide)
set_option maxRecDepth 20000 in
theorem tk_634 : Cond.static yX4_in ∈ TB := tbm 634 (by decide +kernel) (by decide)
set_option maxRecDepth 20000 in
theorem tk_635 : Cond.code yX4_in cX4_in 3 (some .boolean) ∈ TB := tbm 635 (by decide +kernel) (by decide)
set_option maxRecDepth 20000 in
theorem tk_636 : Cond.methodLink RL 95 yX4_line ∈ TB := tbm 636 (by decide +kernel) (by decide)
set_option maxRecDepth 20000 in
theorem tk_637 : Cond.instanceMethod yX4_line ∈ TB := tbm 637 (by decide +kernel) (by decide)
set_option maxRecDepth 20000 in
theorem tk_638 : Cond.selects RX4 yX4_line yX4_line ∈ TB := tbm 638 (by decide +kernel) (by decide)
set_option maxRecDepth 20000 in
theorem tk_639 : Cond.code yX4_line cX4_line 4 (some .int) ∈ TB := tbm 639 (by decide +kernel) (by decide)
set_option maxRecDepth 20000 in
theorem tk_640 : Cond.methodLink RX4 79 yX4_isOrder ∈ TB := tbm 640 (by decide +kernel) (by decide)
set_option maxRecDepth 20000 in
theorem tk_642 : Cond.instanceMethod yX4_isOrder ∈ TB := tbm 642 (by decide +kernel) (by decide)
set_option maxRecDepth 20000 in
theorem tk_643 : Cond.code yX4_isOrder cX4_isOrder 2 (some .boolean) ∈ TB := tbm 643 (by decide +kernel) (by decide)
set_option maxRecDepth 20000 in
theorem tk_644 : Cond.methodLink RX4 82 yX4_lines ∈ TB := tbm 644 (by decide +kernel) (by decide)
set_option maxRecDepth 20000 in
theorem tk_646 : Cond.instanceMethod yX4_lines ∈ TB := tbm 646 (by decide +kernel) (by decide)
set_option maxRecDepth 20000 in
theorem tk_647 : Cond.code yX4_lines cX4_lines 4 (some .int) ∈ TB := tbm 647 (by decide +kernel) (by decide)
set_option maxRecDepth 20000 in
theorem tk_648 : Cond.methodLink RL 99 yX4_carrier ∈ TB := tbm 648 (by decide +kernel) (by decide)
set_option maxRecDepth 20000 in
theorem tk_649 : Cond.instanceMethod yX4_carrier ∈ TB := tbm 649 (by decide +kernel) (by decide)
set_option maxRecDepth 20000 in
theorem tk_650 : Cond.selects RX4 yX4_carrier yX4_carrier ∈ TB := tbm 650 (by decide +kernel) (by decide)
set_option maxRecDepth 20000 in
theorem tk_651 : Cond.code yX4_carrier cX4_carrier 3 none ∈ TB := tbm 651 (by decide +kernel) (by decide)
set_option maxRecDepth 20000 in
theorem tk_652 : Cond.methodLink RL 102 yX4_hour ∈ TB := tbm 652 (by decide +kernel) (by decide)
set_option maxRecDepth 20000 in
theorem tk_653 : Cond.instanceMethod yX4_hour ∈ TB := tbm 653 (by decide +kernel) (by decide)
set_option maxRecDepth 20000 in
theorem tk_654 : Cond.selects RX4 yX4_hour yX4_hour ∈ TB := tbm 654 (by decide +kernel) (by decide)
set_option maxRecDepth 20000 in
theorem tk_655 : Cond.code yX4_hour cX4_hour 6 (some .int) ∈ TB := tbm 655 (by decide +kernel) (by decide)
set_option maxRecDepth 20000 in
theorem tk_656 : Cond.methodLink RL 105 yX4_stock ∈ TB := tbm 656 (by decide +kernel) (by decide)
set_option maxRecDepth 20000 in
theorem tk_657 : Cond.instanceMethod yX4_stock ∈ TB := tbm 657 (by decide +kernel) (by decide)
set_option maxRecDepth 20000 in
theorem tk_658 : Cond.selects RX4 yX4_stock yX4_stock ∈ TB := tbm 658 (by decide +kernel) (by decide)
set_option maxRecDepth 20000 in
theorem tk_659 : Cond.code yX4_stock cX4_stock 3 none ∈ TB := tbm 659 (by decide +kernel) (by decide)
set_option maxRecDepth 20000 in
theorem tk_660 : Cond.methodLink RL 109 yX4_plan ∈ TB := tbm 660 (by decide +kernel) (by decide)
set_option maxRecDepth 20000 in
theorem tk_661 : Cond.instanceMethod yX4_plan ∈ TB := tbm 661 (by decide +kernel) (by decide)
set_option maxRecDepth 20000 in
theorem tk_662 : Cond.selects RX4 yX4_plan yX4_plan ∈ TB := tbm 662 (by decide +kernel) (by decide)
set_option maxRecDepth 20000 in
theorem tk_663 : Cond.code yX4_plan cX4_plan 5 (some .int) ∈ TB := tbm 663 (by decide +kernel) (by decide)
set_option maxRecDepth 20000 in
theorem tk_664 : Cond.methodLink RX4 112 yX4_begin ∈ TB := tbm 664 (by decide +kernel) (by decide)
set_option maxRecDepth 20000 in
theorem tk_666 : Cond.instanceMethod yX4_begin ∈ TB := tbm 666 (by decide +kernel) (by decide)
set_option maxRecDepth 20000 in
theorem tk_667 : Cond.code yX4_begin cX4_begin 3 (some .int) ∈ TB := tbm 667 (by decide +kernel) (by decide)
set_option maxRecDepth 20000 in
theorem tk_668 : Cond.methodLink RX4 123 yX4_isOpen ∈ TB := tbm 668 (by decide +kernel) (by decide)
set_option maxRecDepth 20000 in
theorem tk_670 : Cond.instanceMethod yX4_isOpen ∈ TB := tbm 670 (by decide +kernel) (by decide)
set_option maxRecDepth 20000 in
theorem tk_671 : Cond.code yX4_isOpen cX4_isOpen 2 (some .boolean) ∈ TB := tbm 671 (by decide +kernel) (by decide)
set_option maxRecDepth 20000 in
theorem tk_672 : Cond.methodLink RX4 105 yX4_fits ∈ TB := tbm 672 (by decide +kernel) (by decide)
set_option maxRecDepth 20000 in
theorem tk_674 : Cond.instanceMethod yX4_fits ∈ TB := tbm 674 (by decide +kernel) (by decide)
set_option maxRecDepth 20000 in
theorem tk_675 : Cond.code yX4_fits cX4_fits 4 (some .boolean) ∈ TB := tbm 675 (by decide +kernel) (by decide)
set_option maxRecDepth 20000 in
theorem tk_676 : Cond.methodLink RX4 126 yX4_isEarlier ∈ TB := tbm 676 (by decide +kernel) (by decide)
set_option maxRecDepth 20000 in
theorem tk_678 : Cond.instanceMethod yX4_isEarlier ∈ TB := tbm 678 (by decide +kernel) (by decide)
set_option maxRecDepth 20000 in
theorem tk_679 : Cond.code yX4_isEarlier cX4_isEarlier 3 (some .boolean) ∈ TB := tbm 679 (by decide +kernel) (by decide)
set_option maxRecDepth 20000 in
theorem tk_680 : Cond.methodLink RX4 116 yX4_put ∈ TB := tbm 680 (by decide +kernel) (by decide)
set_option maxRecDepth 20000 in
theorem tk_682 : Cond.instanceMethod yX4_put ∈ TB := tbm 682 (by decide +kernel) (by decide)
set_option maxRecDepth 20000 in
theorem tk_683 : Cond.code yX4_put cX4_put 3 none ∈ TB := tbm 683 (by decide +kernel) (by decide)
set_option maxRecDepth 20000 in
theorem tk_684 : Cond.methodLink RX4 120 yX4_fill ∈ TB := tbm 684 (by decide +kernel) (by decide)
set_option maxRecDepth 20000 in
theorem tk_686 : Cond.instanceMethod yX4_fill ∈ TB := tbm 686 (by decide +kernel) (by decide)
set_option maxRecDepth 20000 in
theorem tk_687 : Cond.code yX4_fill cX4_fill 7 (some .int) ∈ TB := tbm 687 (by decide +kernel) (by decide)
set_option maxRecDepth 20000 in
theorem tk_688 : Cond.methodLink RX4 129 yX4_best ∈ TB := tbm 688 (by decide +kernel) (by decide)
set_option maxRecDepth 20000 in
theorem tk_690 : Cond.instanceMethod yX4_best ∈ TB := tbm 690 (by decide +kernel) (by decide)
set_option maxRecDepth 20000 in
theorem tk_691 : Cond.code yX4_best cX4_best 6 (some .int) ∈ TB := tbm 691 (by decide +kernel) (by decide)
set_option maxRecDepth 20000 in
theorem tk_692 : Cond.methodLink RX4 133 yX4_most ∈ TB := tbm 692 (by decide +kernel) (by decide)
set_option maxRecDepth 20000 in
theorem tk_694 : Cond.instanceMethod yX4_most ∈ TB := tbm 694 (by decide +kernel) (by decide)
set_option maxRecDepth 20000 in
theorem tk_695 : Cond.code yX4_most cX4_most 5 (some .int) ∈ TB := tbm 695 (by decide +kernel) (by decide)
set_option maxRecDepth 20000 in
theorem tk_696 : Cond.methodLink RX4 89 yX4_saving ∈ TB := tbm 696 (by decide +kernel) (by decide)
set_option maxRecDepth 20000 in
theorem tk_698 : Cond.instanceMethod yX4_saving ∈ TB := tbm 698 (by decide +kernel) (by decide)
set_option maxRecDepth 20000 in
theorem tk_699 : Cond.code yX4_saving cX4_saving 6 (some .int) ∈ TB := tbm 699 (by decide +kernel) (by decide)
set_option maxRecDepth 20000 in
theorem tk_700 : Cond.methodLink RL 113 yX4_wave ∈ TB := tbm 700 (by decide +kernel) (by decide)
set_option maxRecDepth 20000 in
theorem tk_701 : Cond.instanceMethod yX4_wave ∈ TB := tbm 701 (by decide +kernel) (by decide)
set_option maxRecDepth 20000 in
theorem tk_702 : Cond.selects RX4 yX4_wave yX4_wave ∈ TB := tbm 702 (by decide +kernel) (by decide)
set_option maxRecDepth 20000 in
theorem tk_703 : Cond.code yX4_wave cX4_wave 2 (some .int) ∈ TB := tbm 703 (by decide +kernel) (by decide)
set_option maxRecDepth 20000 in
theorem tk_704 : Cond.methodLink RL 117 yX4_told ∈ TB := tbm 704 (by decide +kernel) (by decide)
set_option maxRecDepth 20000 in
theorem tk_705 : Cond.instanceMethod yX4_told ∈ TB := tbm 705 (by decide +kernel) (by decide)
set_option maxRecDepth 20000 in
theorem tk_706 : Cond.selects RX4 yX4_told yX4_told ∈ TB := tbm 706 (by decide +kernel) (by decide)
set_option maxRecDepth 20000 in
theorem tk_707 : Cond.code yX4_told cX4_told 6 (some .int) ∈ TB := tbm 707 (by decide +kernel) (by decide)
set_option maxRecDepth 20000 in
theorem tk_708 : Cond.methodLink RX4 136 yX4_isWave ∈ TB := tbm 708 (by decide +kernel) (by decide)
set_option maxRecDepth 20000 in
theorem tk_710 : Cond.instanceMethod yX4_isWave ∈ TB := tbm 710 (by decide +kernel) (by decide)
set_option maxRecDepth 20000 in
theorem tk_711 : Cond.code yX4_isWave cX4_isWave 2 (some .boolean) ∈ TB := tbm 711 (by decide +kernel) (by decide)
set_option maxRecDepth 20000 in
theorem tk_712 : Cond.methodLink RX4 102 yX4_sizeOf ∈ TB := tbm 712 (by decide +kernel) (by decide)
set_option maxRecDepth 20000 in
theorem tk_714 : Cond.instanceMethod yX4_sizeOf ∈ TB := tbm 714 (by decide +kernel) (by decide)
set_option maxRecDepth 20000 in
theorem tk_715 : Cond.code yX4_sizeOf cX4_sizeOf 4 (some .int) ∈ TB := tbm 715 (by decide +kernel) (by decide)
set_option maxRecDepth 20000 in
theorem tk_716 : Cond.methodLink RX4 139 yX4_secondsOf ∈ TB := tbm 716 (by decide +kernel) (by decide)
set_option maxRecDepth 20000 in
theorem tk_718 : Cond.instanceMethod yX4_secondsOf ∈ TB := tbm 718 (by decide +kernel) (by decide)
set_option maxRecDepth 20000 in
theorem tk_719 : Cond.code yX4_secondsOf cX4_secondsOf 4 (some .int) ∈ TB := tbm 719 (by decide +kernel) (by decide)
set_option maxRecDepth 20000 in
theorem tk_720 : Cond.methodLink RX4 96 yX4_savedOf ∈ TB := tbm 720 (by decide +kernel) (by decide)
set_option maxRecDepth 20000 in
theorem tk_722 : Cond.instanceMethod yX4_savedOf ∈ TB := tbm 722 (by decide +kernel) (by decide)
set_option maxRecDepth 20000 in
theorem tk_723 : Cond.code yX4_savedOf cX4_savedOf 4 (some .int) ∈ TB := tbm 723 (by decide +kernel) (by decide)
set_option maxRecDepth 20000 in
theorem tk_724 : Cond.methodLink RX4 93 yX4_savedBy ∈ TB := tbm 724 (by decide +kernel) (by decide)
set_option maxRecDepth 20000 in
theorem tk_726 : Cond.instanceMethod yX4_savedBy ∈ TB := tbm 726 (by decide +kernel) (by decide)
set_option maxRecDepth 20000 in
theorem tk_727 : Cond.code yX4_savedBy cX4_savedBy 4 (some .int) ∈ TB := tbm 727 (by decide +kernel) (by decide)
set_option maxRecDepth 20000 in
theorem tk_728 : Cond.methodLink RX4 142 yX4_memberAt ∈ TB := tbm 728 (by decide +kernel) (by decide)
set_option maxRecDepth 20000 in
theorem tk_730 : Cond.instanceMethod yX4_memberAt ∈ TB := tbm 730 (by decide +kernel) (by decide)
set_option maxRecDepth 20000 in
theorem tk_731 : Cond.code yX4_memberAt cX4_memberAt 6 (some .int) ∈ TB := tbm 731 (by decide +kernel) (by decide)
set_option maxRecDepth 20000 in
theorem tk_732 : Cond.methodLink RL 120 yX4_member ∈ TB := tbm 732 (by decide +kernel) (by decide)
set_option maxRecDepth 20000 in
theorem tk_733 : Cond.instanceMethod yX4_member ∈ TB := tbm 733 (by decide +kernel) (by decide)
set_option maxRecDepth 20000 in
theorem tk_734 : Cond.selects RX4 yX4_member yX4_member ∈ TB := tbm 734 (by decide +kernel) (by decide)
set_option maxRecDepth 20000 in
theorem tk_735 : Cond.code yX4_member cX4_member 4 (some .int) ∈ TB := tbm 735 (by decide +kernel) (by decide)
set_option maxRecDepth 20000 in
theorem tk_736 : Cond.methodLink RL 123 yX4_replenish ∈ TB := tbm 736 (by decide +kernel) (by decide)
set_option maxRecDepth 20000 in
theorem tk_737 : Cond.instanceMethod yX4_replenish ∈ TB := tbm 737 (by decide +kernel) (by decide)
set_option maxRecDepth 20000 in
theorem tk_738 : Cond.selects RX4 yX4_replenish yX4_replenish ∈ TB := tbm 738 (by decide +kernel) (by decide)
set_option maxRecDepth 20000 in
theorem tk_739 : Cond.code yX4_replenish cX4_replenish 5 (some .int) ∈ TB := tbm 739 (by decide +kernel) (by decide)
set_option maxRecDepth 20000 in
theorem tk_740 : Cond.methodLink RX4 148 yX4_lackOf ∈ TB := tbm 740 (by decide +kernel) (by decide)
set_option maxRecDepth 20000 in
theorem tk_742 : Cond.instanceMethod yX4_lackOf ∈ TB := tbm 742 (by decide +kernel) (by decide)
set_option maxRecDepth 20000 in
theorem tk_743 : Cond.code yX4_lackOf cX4_lackOf 5 (some .int) ∈ TB := tbm 743 (by decide +kernel) (by decide)
set_option maxRecDepth 20000 in
theorem tk_744 : Cond.methodLink RX4 145 yX4_wantsOf ∈ TB := tbm 744 (by decide +kernel) (by decide)
set_option maxRecDepth 20000 in
theorem tk_746 : Cond.instanceMethod yX4_wantsOf ∈ TB := tbm 746 (by decide +kernel) (by decide)
set_option maxRecDepth 20000 in
theorem tk_747 : Cond.code yX4_wantsOf cX4_wantsOf 5 (some .int) ∈ TB := tbm 747 (by decide +kernel) (by decide)
set_option maxRecDepth 20000 in
theorem tk_748 : Cond.methodLink RL 126 yX4_lacks ∈ TB := tbm 748 (by decide +kernel) (by decide)
set_option maxRecDepth 20000 in
theorem tk_749 : Cond.instanceMethod yX4_lacks ∈ TB := tbm 749 (by decide +kernel) (by decide)
set_option maxRecDepth 20000 in
theorem tk_750 : Cond.selects RX4 yX4_lacks yX4_lacks ∈ TB := tbm 750 (by decide +kernel) (by decide)
set_option maxRecDepth 20000 in
theorem tk_751 : Cond.code yX4_lacks cX4_lacks 3 (some .int) ∈ TB := tbm 751 (by decide +kernel) (by decide)
set_option maxRecDepth 20000 in
theorem tk_752 : Cond.methodLink RL 129 yX4_release ∈ TB := tbm 752 (by decide +kernel) (by decide)
set_option maxRecDepth 20000 in
theorem tk_753 : Cond.instanceMethod yX4_release ∈ TB := tbm 753 (by decide +kernel) (by decide)
set_option maxRecDepth 20000 in
theorem tk_754 : Cond.selects RX4 yX4_release yX4_release ∈ TB := tbm 754 (by decide +kernel) (by decide)
set_option maxRecDepth 20000 in
theorem tk_755 : Cond.code yX4_release cX4_release 3 (some .int) ∈ TB := tbm 755 (by decide +kernel) (by decide)
set_option maxRecDepth 20000 in
theorem tk_756 : Cond.methodLink RL 132 yX4_done ∈ TB := tbm 756 (by decide +kernel) (by decide)
set_option maxRecDepth 20000 in
theorem tk_757 : Cond.instanceMethod yX4_done ∈ TB := tbm 757 (by decide +kernel) (by decide)
set_option maxRecDepth 20000 in
theorem tk_758 : Cond.selects RX4 yX4_done yX4_done ∈ TB := tbm 758 (by decide +kernel) (by decide)
set_option maxRecDepth 20000 in
theorem tk_759 : Cond.code yX4_done cX4_done 4 (some .int) ∈ TB := tbm 759 (by decide +kernel) (by decide)
set_option maxRecDepth 20000 in
theorem tk_760 : Cond.methodLink RL 135 yX4_change ∈ TB := tbm 760 (by decide +kernel) (by decide)
set_option maxRecDepth 20000 in
theorem tk_761 : Cond.instanceMethod yX4_change ∈ TB := tbm 761 (by decide +kernel) (by decide)
set_option maxRecDepth 20000 in
theorem tk_762 : Cond.selects RX4 yX4_change yX4_change ∈ TB := tbm 762 (by decide +kernel) (by decide)
set_option maxRecDepth 20000 in
theorem tk_763 : Cond.code yX4_change cX4_change 4 (some .boolean) ∈ TB := tbm 763 (by decide +kernel) (by decide)
set_option maxRecDepth 20000 in
theorem tk_764 : Cond.methodLink RL 138 yX4_join ∈ TB := tbm 764 (by decide +kernel) (by decide)
set_option maxRecDepth 20000 in
theorem tk_765 : Cond.instanceMethod yX4_join ∈ TB := tbm 765 (by decide +kernel) (by decide)
set_option maxRecDepth 20000 in
theorem tk_766 : Cond.selects RX4 yX4_join yX4_join ∈ TB := tbm 766 (by decide +kernel) (by decide)
set_option maxRecDepth 20000 in
theorem tk_767 : Cond.code yX4_join cX4_join 6 (some .int) ∈ TB := tbm 767 (by decide +kernel) (by decide)
set_option maxRecDepth 20000 in
theorem tk_768 : Cond.methodLink RL 141 yX4_cutoff ∈ TB := tbm 768 (by decide +kernel) (by decide)
set_option maxRecDepth 20000 in
theorem tk_769 : Cond.instanceMethod yX4_cutoff ∈ TB := tbm 769 (by decide +kernel) (by decide)
set_option maxRecDepth 20000 in
theorem tk_770 : Cond.selects RX4 yX4_cutoff yX4_cutoff ∈ TB := tbm 770 (by decide +kernel) (by decide)
set_option maxRecDepth 20000 in
theorem tk_771 : Cond.code yX4_cutoff cX4_cutoff 5 (some .int) ∈ TB := tbm 771 (by decide +kernel) (by decide)
set_option maxRecDepth 20000 in
theorem tk_772 : Cond.methodLink RL 144 yX4_late ∈ TB := tbm 772 (by decide +kernel) (by decide)
set_option maxRecDepth 20000 in
theorem tk_773 : Cond.instanceMethod yX4_late ∈ TB := tbm 773 (by decide +kernel) (by decide)
set_option maxRecDepth 20000 in
theorem tk_774 : Cond.selects RX4 yX4_late yX4_late ∈ TB := tbm 774 (by decide +kernel) (by decide)
set_option maxRecDepth 20000 in
theorem tk_775 : Cond.code yX4_late cX4_late 4 (some .int) ∈ TB := tbm 775 (by decide +kernel) (by decide)
set_option maxRecDepth 20000 in
theorem tk_776 : Cond.methodLink RL 148 yX4_count ∈ TB := tbm 776 (by decide +kernel) (by decide)
set_option maxRecDepth 20000 in
theorem tk_777 : Cond.instanceMethod yX4_count ∈ TB := tbm 777 (by decide +kernel) (by decide)
set_option maxRecDepth 20000 in
theorem tk_778 : Cond.selects RX4 yX4_count yX4_count ∈ TB := tbm 778 (by decide +kernel) (by decide)
set_option maxRecDepth 20000 in
theorem tk_779 : Cond.code yX4_count cX4_count 4 (some .int) ∈ TB := tbm 779 (by decide +kernel) (by decide)
set_option maxRecDepth 20000 in
theorem tk_780 : Cond.arrayClass .long ∈ TB := tbm 780 (by decide +kernel) (by decide)
set_option maxRecDepth 20000 in
theorem tu_0 : Cond.selects RX3 yX3_wavesWithOrders yX3_wavesWithOrders ∈ TB := tbs 0 (by decide +kernel) (by decide)
set_option maxRecDepth 20000 in
theorem tu_1 : Cond.selects RX3 yX3_ordersAt yX3_ordersAt ∈ TB := tbs 1 (by decide +kernel) (by decide)
set_option maxRecDepth 20000 in
theorem tu_2 : Cond.selects RX3 yX3_finishedOrders yX3_finishedOrders ∈ TB := tbs 2 (by decide +kernel) (by decide)
set_option maxRecDepth 20000 in
theorem tu_3 : Cond.selects RX3 yX3_savedBehind yX3_savedBehind ∈ TB := tbs 3 (by decide +kernel) (by decide)
set_option maxRecDepth 20000 in
theorem tu_4 : Cond.selects RX3 yX3_savedOf yX3_savedOf ∈ TB := tbs 4 (by decide +kernel) (by decide)
set_option maxRecDepth 20000 in
theorem tu_5 : Cond.selects RX3 yX3_greatestSaving yX3_greatestSaving ∈ TB := tbs 5 (by decide +kernel) (by decide)
set_option maxRecDepth 20000 in
theorem tu_6 : Cond.selects RX1 yX1_savingWith yX1_savingWith ∈ TB := tbs 6 (by decide +kernel) (by decide)
set_option maxRecDepth 20000 in
theorem tu_8 : Cond.selects RX3 yX3_requireOrder yX3_requireOrder ∈ TB := tbs 8 (by decide +kernel) (by decide)
set_option maxRecDepth 20000 in
theorem tu_9 : Cond.selects RX0 yX0_open yX0_open ∈ TB := tbs 9 (by decide +kernel) (by decide)
set_option maxRecDepth 20000 in
theorem tu_10 : Cond.selects RX0 yX0_hoursOf yX0_hoursOf ∈ TB := tbs 10 (by decide +kernel) (by decide)
set_option maxRecDepth 20000 in
theorem tu_11 : Cond.selects RX3 yX3_makeWaves yX3_makeWaves ∈ TB := tbs 11 (by decide +kernel) (by decide)
set_option maxRecDepth 20000 in
theorem tu_12 : Cond.selects RX3 yX3_nextBeginning yX3_nextBeginning ∈ TB := tbs 12 (by decide +kernel) (by decide)
set_option maxRecDepth 20000 in
theorem tu_13 : Cond.selects RX3 yX3_mayBePlanned yX3_mayBePlanned ∈ TB := tbs 13 (by decide +kernel) (by decide)
set_option maxRecDepth 20000 in
theorem tu_14 : Cond.selects RX3 yX3_fits yX3_fits ∈ TB := tbs 14 (by decide +kernel) (by decide)
set_option maxRecDepth 20000 in
theorem tu_15 : Cond.selects RX0 yX0_have yX0_have ∈ TB := tbs 15 (by decide +kernel) (by decide)
set_option maxRecDepth 20000 in
theorem tu_16 : Cond.selects RX3 yX3_makeWave yX3_makeWave ∈ TB := tbs 16 (by decide +kernel) (by decide)
set_option maxRecDepth 20000 in
theorem tu_17 : Cond.selects RX2 yX2_add yX2_add ∈ TB := tbs 17 (by decide +kernel) (by decide)
set_option maxRecDepth 20000 in
theorem tu_18 : Cond.selects RX3 yX3_bestAddition yX3_bestAddition ∈ TB := tbs 18 (by decide +kernel) (by decide)
set_option maxRecDepth 20000 in
theorem tu_19 : Cond.selects RX3 yX3_undoWavesBehind yX3_undoWavesBehind ∈ TB := tbs 19 (by decide +kernel) (by decide)
set_option maxRecDepth 20000 in
theorem tu_20 : Cond.selects RX2 yX2_empty yX2_empty ∈ TB := tbs 20 (by decide +kernel) (by decide)
set_option maxRecDepth 20000 in
theorem tu_21 : Cond.selects RX3 yX3_requireWave yX3_requireWave ∈ TB := tbs 21 (by decide +kernel) (by decide)
set_option maxRecDepth 20000 in
theorem tu_22 : Cond.selects RX3 yX3_secondsOf yX3_secondsOf ∈ TB := tbs 22 (by decide +kernel) (by decide)
set_option maxRecDepth 20000 in
theorem tu_23 : Cond.selects RX3 yX3_dueOf yX3_dueOf ∈ TB := tbs 23 (by decide +kernel) (by decide)
set_option maxRecDepth 20000 in
theorem tu_24 : Cond.selects RX3 yX3_finishedOf yX3_finishedOf ∈ TB := tbs 24 (by decide +kernel) (by decide)
set_option maxRecDepth 20000 in
theorem tu_25 : Cond.selects RX3 yX3_lackedGood yX3_lackedGood ∈ TB := tbs 25 (by decide +kernel) (by decide)
set_option maxRecDepth 20000 in
theorem tu_26 : Cond.selects RX3 yX3_lackOf yX3_lackOf ∈ TB := tbs 26 (by decide +kernel) (by decide)
set_option maxRecDepth 20000 in
theorem tu_27 : Cond.selects RX3 yX3_wantedOf yX3_wantedOf ∈ TB := tbs 27 (by decide +kernel) (by decide)
set_option maxRecDepth 20000 in
theorem tu_28 : Cond.selects RX3 yX3_allFit yX3_allFit ∈ TB := tbs 28 (by decide +kernel) (by decide)
set_option maxRecDepth 20000 in
theorem tu_29 : Cond.selects RX3 yX3_isReleased yX3_isReleased ∈ TB := tbs 29 (by decide +kernel) (by decide)
set_option maxRecDepth 20000 in
theorem tu_30 : Cond.selects RX3 yX3_takeFromStock yX3_takeFromStock ∈ TB := tbs 30 (by decide +kernel) (by decide)
set_option maxRecDepth 20000 in
theorem tu_31 : Cond.selects RX3 yX3_takeOut yX3_takeOut ∈ TB := tbs 31 (by decide +kernel) (by decide)
set_option maxRecDepth 20000 in
theorem tu_32 : Cond.selects RX2 yX2_remove yX2_remove ∈ TB := tbs 32 (by decide +kernel) (by decide)
set_option maxRecDepth 20000 in
theorem tu_33 : Cond.selects RX2 yX2_addAll yX2_addAll ∈ TB := tbs 33 (by decide +kernel) (by decide)
set_option maxRecDepth 20000 in
theorem tu_34 : Cond.selects RX4 yX4_isOrder yX4_isOrder ∈ TB := tbs 34 (by decide +kernel) (by decide)
set_option maxRecDepth 20000 in
theorem tu_35 : Cond.selects RX4 yX4_lines yX4_lines ∈ TB := tbs 35 (by decide +kernel) (by decide)
set_option maxRecDepth 20000 in
theorem tu_36 : Cond.selects RX4 yX4_begin yX4_begin ∈ TB := tbs 36 (by decide +kernel) (by decide)
set_option maxRecDepth 20000 in
theorem tu_37 : Cond.selects RX4 yX4_isOpen yX4_isOpen ∈ TB := tbs 37 (by decide +kernel) (by decide)
set_option maxRecDepth 20000 in
theorem tu_38 : Cond.selects RX4 yX4_fits yX4_fits ∈ TB := tbs 38 (by decide +kernel) (by decide)
set_option maxRecDepth 20000 in
theorem tu_39 : Cond.selects RX4 yX4_isEarlier yX4_isEarlier ∈ TB := tbs 39 (by decide +kernel) (by decide)
set_option maxRecDepth 20000 in
theorem tu_40 : Cond.selects RX4 yX4_put yX4_put ∈ TB := tbs 40 (by decide +kernel) (by decide)
set_option maxRecDepth 20000 in
theorem tu_41 : Cond.selects RX4 yX4_fill yX4_fill ∈ TB := tbs 41 (by decide +kernel) (by decide)
set_option maxRecDepth 20000 in
theorem tu_42 : Cond.selects RX4 yX4_best yX4_best ∈ TB := tbs 42 (by decide +kernel) (by decide)
set_option maxRecDepth 20000 in
theorem tu_43 : Cond.selects RX4 yX4_most yX4_most ∈ TB := tbs 43 (by decide +kernel) (by decide)
set_option maxRecDepth 20000 in
theorem tu_44 : Cond.selects RX4 yX4_saving yX4_saving ∈ TB := tbs 44 (by decide +kernel) (by decide)
set_option maxRecDepth 20000 in
theorem tu_45 : Cond.selects RX4 yX4_isWave yX4_isWave ∈ TB := tbs 45 (by decide +kernel) (by decide)
set_option maxRecDepth 20000 in
theorem tu_46 : Cond.selects RX4 yX4_sizeOf yX4_sizeOf ∈ TB := tbs 46 (by decide +kernel) (by decide)
set_option maxRecDepth 20000 in
theorem tu_47 : Cond.selects RX4 yX4_secondsOf yX4_secondsOf ∈ TB := tbs 47 (by decide +kernel) (by decide)
set_option maxRecDepth 20000 in
theorem tu_48 : Cond.selects RX4 yX4_savedOf yX4_savedOf ∈ TB := tbs 48 (by decide +kernel) (by decide)
set_option maxRecDepth 20000 in
theorem tu_49 : Cond.selects RX4 yX4_savedBy yX4_savedBy ∈ TB := tbs 49 (by decide +kernel) (by decide)
set_option maxRecDepth 20000 in
theorem tu_50 : Cond.selects RX4 yX4_memberAt yX4_memberAt ∈ TB := tbs 50 (by decide +kernel) (by decide)
set_option maxRecDepth 20000 in
theorem tu_51 : Cond.selects RX4 yX4_lackOf yX4_lackOf ∈ TB := tbs 51 (by decide +kernel) (by decide)
set_option maxRecDepth 20000 in
theorem tu_52 : Cond.selects RX4 yX4_wantsOf yX4_wantsOf ∈ TB := tbs 52 (by decide +kernel) (by decide)
def nst : List Cond := [Cond.methodLinkNest RX3 25 yX0_init "WavePlans", Cond.fieldLinkNest RX3 100 "WavePlans$Docks" "size" "I" "WavePlans", Cond.methodLinkNest RX3 40 yX1_init "WavePlans", Cond.fieldLinkNest RX3 67 "WavePlans$Order" "due" "I" "WavePlans", Cond.fieldLinkNest RX3 70 "WavePlans$Order" "zone" "I" "WavePlans", Cond.fieldLinkNest RX3 73 "WavePlans$Order" "seconds" "I" "WavePlans", Cond.fieldLinkNest RX3 97 "WavePlans$Order" "carrier" "I" "WavePlans", Cond.fieldLinkNest RX3 92 "WavePlans$Order" "lines" "I" "WavePlans", Cond.fieldLinkNest RX3 84 "WavePlans$Order" "wanted" "[I" "WavePlans", Cond.fieldLinkNest RX3 128 "WavePlans$Order" "place" "I" "WavePlans", Cond.fieldLinkNest RX3 188 "WavePlans$Order" "finished" "Z" "WavePlans", Cond.fieldLinkNest RX3 244 "WavePlans$Order" "looked" "Z" "WavePlans", Cond.methodLinkNest RX3 47 yX2_init "WavePlans", Cond.fieldLinkNest RX3 164 "WavePlans$Wave" "members" "[I" "WavePlans", Cond.fieldLinkNest RX3 142 "WavePlans$Wave" "size" "I" "WavePlans", Cond.fieldLinkNest RX3 146 "WavePlans$Wave" "carrier" "I" "WavePlans", Cond.fieldLinkNest RX3 147 "WavePlans$Wave" "released" "Z" "WavePlans", Cond.methodLinkNest RX3 267 yX1_savingWith "WavePlans", Cond.castable "java/lang/IllegalArgumentException" "java/lang/IllegalArgumentException", Cond.declares ⟨"java/lang/RuntimeException", "<init>", "()V"⟩, Cond.declares ⟨"java/lang/RuntimeException", "<init>", "(Ljava/lang/String;)V"⟩, Cond.declares ⟨"java/lang/Exception", "<init>", "()V"⟩, Cond.declares ⟨"java/lang/Exception", "<init>", "(Ljava/lang/String;)V"⟩, Cond.declares ⟨"java/lang/Throwable", "<init>", "()V"⟩, Cond.declares ⟨"java/lang/Throwable", "<init>", "(Ljava/lang/String;)V"⟩, Cond.castable "java/lang/UnsupportedOperationException" "java/lang/UnsupportedOperationException", Cond.castable "java/util/NoSuchElementException" "java/util/NoSuchElementException", Cond.castable "java/lang/IllegalStateException" "java/lang/IllegalStateException", Cond.methodLinkNest RX3 105 yX0_open "WavePlans", Cond.methodLinkNest RX3 108 yX0_hoursOf "WavePlans", Cond.methodLinkNest RX3 237 yX0_have "WavePlans", Cond.methodLinkNest RX3 260 yX2_add "WavePlans", Cond.methodLinkNest RX3 207 yX2_empty "WavePlans", Cond.methodLinkNest RX3 241 yX2_remove "WavePlans", Cond.methodLinkNest RX3 210 yX2_addAll "WavePlans"]
def strs : List (Nat × String) := [(225, "a number is outside its range"), (62, "no room for an order"), (233, "no such order"), (229, "the order is not free"), (89, "the order has a line of this good"), (95, "no room for a line"), (103, "no room for an hour"), (123, "no room for the waves"), (235, "no such wave"), (156, "nothing such is told of a wave"), (161, "no such order in the wave"), (227, "a place is below 0"), (231, "the wave is released"), (191, "the order is not in a released wave, or it is done"), (196, "the order is late or done"), (205, "the waves are the same one, or their carriers differ"), (213, "the waves have more seconds than the capacity")]
set_option maxRecDepth 20000 in
theorem nst_in : ∀ w ∈ nst, w ∈ tables_1 := by decide +kernel
set_option maxRecDepth 20000 in
theorem strs_in : ∀ q ∈ strs, Cond.stringRef RX3 q.1 q.2 ∈ tables_1 := by decide +kernel
theorem tn_0 : Cond.methodLinkNest RX3 25 yX0_init "WavePlans" ∈ nst := List.mem_of_getElem? (i := 0) rfl
theorem tn_1 : Cond.fieldLinkNest RX3 100 "WavePlans$Docks" "size" "I" "WavePlans" ∈ nst := List.mem_of_getElem? (i := 1) rfl
theorem tn_2 : Cond.methodLinkNest RX3 40 yX1_init "WavePlans" ∈ nst := List.mem_of_getElem? (i := 2) rfl
theorem tn_3 : Cond.fieldLinkNest RX3 67 "WavePlans$Order" "due" "I" "WavePlans" ∈ nst := List.mem_of_getElem? (i := 3) rfl
theorem tn_4 : Cond.fieldLinkNest RX3 70 "WavePlans$Order" "zone" "I" "WavePlans" ∈ nst := List.mem_of_getElem? (i := 4) rfl
theorem tn_5 : Cond.fieldLinkNest RX3 73 "WavePlans$Order" "seconds" "I" "WavePlans" ∈ nst := List.mem_of_getElem? (i := 5) rfl
theorem tn_6 : Cond.fieldLinkNest RX3 97 "WavePlans$Order" "carrier" "I" "WavePlans" ∈ nst := List.mem_of_getElem? (i := 6) rfl
theorem tn_7 : Cond.fieldLinkNest RX3 92 "WavePlans$Order" "lines" "I" "WavePlans" ∈ nst := List.mem_of_getElem? (i := 7) rfl
theorem tn_8 : Cond.fieldLinkNest RX3 84 "WavePlans$Order" "wanted" "[I" "WavePlans" ∈ nst := List.mem_of_getElem? (i := 8) rfl
theorem tn_9 : Cond.fieldLinkNest RX3 128 "WavePlans$Order" "place" "I" "WavePlans" ∈ nst := List.mem_of_getElem? (i := 9) rfl
theorem tn_10 : Cond.fieldLinkNest RX3 188 "WavePlans$Order" "finished" "Z" "WavePlans" ∈ nst := List.mem_of_getElem? (i := 10) rfl
theorem tn_11 : Cond.fieldLinkNest RX3 244 "WavePlans$Order" "looked" "Z" "WavePlans" ∈ nst := List.mem_of_getElem? (i := 11) rfl
theorem tn_12 : Cond.methodLinkNest RX3 47 yX2_init "WavePlans" ∈ nst := List.mem_of_getElem? (i := 12) rfl
theorem tn_13 : Cond.fieldLinkNest RX3 164 "WavePlans$Wave" "members" "[I" "WavePlans" ∈ nst := List.mem_of_getElem? (i := 13) rfl
theorem tn_14 : Cond.fieldLinkNest RX3 142 "WavePlans$Wave" "size" "I" "WavePlans" ∈ nst := List.mem_of_getElem? (i := 14) rfl
theorem tn_15 : Cond.fieldLinkNest RX3 146 "WavePlans$Wave" "carrier" "I" "WavePlans" ∈ nst := List.mem_of_getElem? (i := 15) rfl
theorem tn_16 : Cond.fieldLinkNest RX3 147 "WavePlans$Wave" "released" "Z" "WavePlans" ∈ nst := List.mem_of_getElem? (i := 16) rfl
theorem tn_17 : Cond.methodLinkNest RX3 267 yX1_savingWith "WavePlans" ∈ nst := List.mem_of_getElem? (i := 17) rfl
theorem tn_18 : Cond.castable "java/lang/IllegalArgumentException" "java/lang/IllegalArgumentException" ∈ nst := List.mem_of_getElem? (i := 18) rfl
theorem tn_19 : Cond.declares ⟨"java/lang/RuntimeException", "<init>", "()V"⟩ ∈ nst := List.mem_of_getElem? (i := 19) rfl
theorem tn_20 : Cond.declares ⟨"java/lang/RuntimeException", "<init>", "(Ljava/lang/String;)V"⟩ ∈ nst := List.mem_of_getElem? (i := 20) rfl
theorem tn_21 : Cond.declares ⟨"java/lang/Exception", "<init>", "()V"⟩ ∈ nst := List.mem_of_getElem? (i := 21) rfl
theorem tn_22 : Cond.declares ⟨"java/lang/Exception", "<init>", "(Ljava/lang/String;)V"⟩ ∈ nst := List.mem_of_getElem? (i := 22) rfl
theorem tn_23 : Cond.declares ⟨"java/lang/Throwable", "<init>", "()V"⟩ ∈ nst := List.mem_of_getElem? (i := 23) rfl
theorem tn_24 : Cond.declares ⟨"java/lang/Throwable", "<init>", "(Ljava/lang/String;)V"⟩ ∈ nst := List.mem_of_getElem? (i := 24) rfl
theorem tn_25 : Cond.castable "java/lang/UnsupportedOperationException" "java/lang/UnsupportedOperationException" ∈ nst := List.mem_of_getElem? (i := 25) rfl
theorem tn_26 : Cond.castable "java/util/NoSuchElementException" "java/util/NoSuchElementException" ∈ nst := List.mem_of_getElem? (i := 26) rfl
theorem tn_27 : Cond.castable "java/lang/IllegalStateException" "java/lang/IllegalStateException" ∈ nst := List.mem_of_getElem? (i := 27) rfl
theorem tn_28 : Cond.methodLinkNest RX3 105 yX0_open "WavePlans" ∈ nst := List.mem_of_getElem? (i := 28) rfl
theorem tn_29 : Cond.methodLinkNest RX3 108 yX0_hoursOf "WavePlans" ∈ nst := List.mem_of_getElem? (i := 29) rfl
theorem tn_30 : Cond.methodLinkNest RX3 237 yX0_have "WavePlans" ∈ nst := List.mem_of_getElem? (i := 30) rfl
theorem tn_31 : Cond.methodLinkNest RX3 260 yX2_add "WavePlans" ∈ nst := List.mem_of_getElem? (i := 31) rfl
theorem tn_32 : Cond.methodLinkNest RX3 207 yX2_empty "WavePlans" ∈ nst := List.mem_of_getElem? (i := 32) rfl
theorem tn_33 : Cond.methodLinkNest RX3 241 yX2_remove "WavePlans" ∈ nst := List.mem_of_getElem? (i := 33) rfl
theorem tn_34 : Cond.methodLinkNest RX3 210 yX2_addAll "WavePlans" ∈ nst := List.mem_of_getElem? (i := 34) rfl
