set_option maxRecDepth 20000 in
theorem ggX0_perform_X0_run : GoodIn wsX0_perform wsX0_run := goodIn_r _ [7, 2, 1, 3, 8, 9, 6, 10, 11, 12, 13, 14, 15, 16, 17, 18, 19, 20, 21, 22, 4, 5, 23, 24, 25, 26, 27] (by decide +kernel) (by decide +kernel)
set_option maxRecDepth 20000 in
theorem gX0_perform_X0_run : GoodIn wsX0_perform (va_wsS RX0 28 yX0_run wsX0_run) := goodIn_app (goodIn_of _ (by decide +kernel)) ggX0_perform_X0_run
theorem dX0_perform_0 : decode cX0_perform 0 = .ok (.aload_n 0, 1) := by decide +kernel
theorem dX0_perform_1 : decode cX0_perform 1 = .ok (.iload_n 1, 1) := by decide +kernel
theorem dX0_perform_2 : decode cX0_perform 2 = .ok (.putfield 19, 3) := by decide +kernel
theorem dX0_perform_5 : decode cX0_perform 5 = .ok (.aload_n 0, 1) := by decide +kernel
theorem dX0_perform_6 : decode cX0_perform 6 = .ok (.iload_n 2, 1) := by decide +kernel
theorem dX0_perform_7 : decode cX0_perform 7 = .ok (.putfield 22, 3) := by decide +kernel
theorem dX0_perform_10 : decode cX0_perform 10 = .ok (.aload_n 0, 1) := by decide +kernel
theorem dX0_perform_11 : decode cX0_perform 11 = .ok (.iload_n 3, 1) := by decide +kernel
theorem dX0_perform_12 : decode cX0_perform 12 = .ok (.putfield 25, 3) := by decide +kernel
theorem dX0_perform_15 : decode cX0_perform 15 = .ok (.aload_n 0, 1) := by decide +kernel
theorem dX0_perform_16 : decode cX0_perform 16 = .ok (.iload_n 1, 1) := by decide +kernel
theorem dX0_perform_17 : decode cX0_perform 17 = .ok (.iload 4, 2) := by decide +kernel
theorem dX0_perform_19 : decode cX0_perform 19 = .ok (.iload 5, 2) := by decide +kernel
theorem dX0_perform_21 : decode cX0_perform 21 = .ok (.iconst 0, 1) := by decide +kernel
theorem dX0_perform_22 : decode cX0_perform 22 = .ok (.invokestatic 28, 3) := by decide +kernel
theorem dX0_perform_25 : decode cX0_perform 25 = .ok (.ireturn, 1) := by decide +kernel
theorem dX0_note_0 : decode cX0_note 0 = .ok (.aload_n 0, 1) := by decide +kernel
theorem dX0_note_1 : decode cX0_note 1 = .ok (.getfield 15, 3) := by decide +kernel
theorem dX0_note_4 : decode cX0_note 4 = .ok (.bipush 20, 2) := by decide +kernel
theorem dX0_note_6 : decode cX0_note 6 = .ok (.if_icmp .ge 13, 3) := by decide +kernel
theorem dX0_note_9 : decode cX0_note 9 = .ok (.aload_n 0, 1) := by decide +kernel
theorem dX0_note_10 : decode cX0_note 10 = .ok (.getfield 11, 3) := by decide +kernel
theorem dX0_note_13 : decode cX0_note 13 = .ok (.aload_n 0, 1) := by decide +kernel
theorem dX0_note_14 : decode cX0_note 14 = .ok (.getfield 15, 3) := by decide +kernel
theorem dX0_note_17 : decode cX0_note 17 = .ok (.iload_n 1, 1) := by decide +kernel
theorem dX0_note_18 : decode cX0_note 18 = .ok (.iastore, 1) := by decide +kernel
theorem dX0_note_19 : decode cX0_note 19 = .ok (.aload_n 0, 1) := by decide +kernel
theorem dX0_note_20 : decode cX0_note 20 = .ok (.dup, 1) := by decide +kernel
theorem dX0_note_21 : decode cX0_note 21 = .ok (.getfield 15, 3) := by decide +kernel
theorem dX0_note_24 : decode cX0_note 24 = .ok (.iconst 1, 1) := by decide +kernel
theorem dX0_note_25 : decode cX0_note 25 = .ok (.iadd, 1) := by decide +kernel
theorem dX0_note_26 : decode cX0_note 26 = .ok (.putfield 15, 3) := by decide +kernel
theorem dX0_note_29 : decode cX0_note 29 = .ok (.return_, 1) := by decide +kernel
set_option maxRecDepth 20000 in
theorem ggX0_bodyOf_X1_above : GoodIn wsX0_bodyOf wsX1_above := goodIn_r _ [5, 6] (by decide +kernel) (by decide +kernel)
set_option maxRecDepth 20000 in
theorem gX0_bodyOf_X1_above : GoodIn wsX0_bodyOf (va_wsS RX0 35 yX1_above wsX1_above) := goodIn_app (goodIn_of _ (by decide +kernel)) ggX0_bodyOf_X1_above
theorem dX0_bodyOf_0 : decode cX0_bodyOf 0 = .ok (.iload_n 0, 1) := by decide +kernel
theorem dX0_bodyOf_1 : decode cX0_bodyOf 1 = .ok (.istore_n 2, 1) := by decide +kernel
theorem dX0_bodyOf_2 : decode cX0_bodyOf 2 = .ok (.iconst 0, 1) := by decide +kernel
theorem dX0_bodyOf_3 : decode cX0_bodyOf 3 = .ok (.istore_n 3, 1) := by decide +kernel
theorem dX0_bodyOf_4 : decode cX0_bodyOf 4 = .ok (.iload_n 3, 1) := by decide +kernel
theorem dX0_bodyOf_5 : decode cX0_bodyOf 5 = .ok (.iconst 3, 1) := by decide +kernel
theorem dX0_bodyOf_6 : decode cX0_bodyOf 6 = .ok (.if_icmp .ge 56, 3) := by decide +kernel
theorem dX0_bodyOf_9 : decode cX0_bodyOf 9 = .ok (.iload_n 2, 1) := by decide +kernel
theorem dX0_bodyOf_10 : decode cX0_bodyOf 10 = .ok (.iconst (-1), 1) := by decide +kernel
theorem dX0_bodyOf_11 : decode cX0_bodyOf 11 = .ok (.if_icmp .eq 51, 3) := by decide +kernel
theorem dX0_bodyOf_14 : decode cX0_bodyOf 14 = .ok (.iconst 3, 1) := by decide +kernel
theorem dX0_bodyOf_15 : decode cX0_bodyOf 15 = .ok (.iload_n 2, 1) := by decide +kernel
theorem dX0_bodyOf_16 : decode cX0_bodyOf 16 = .ok (.imul, 1) := by decide +kernel
theorem dX0_bodyOf_17 : decode cX0_bodyOf 17 = .ok (.iload_n 1, 1) := by decide +kernel
theorem dX0_bodyOf_18 : decode cX0_bodyOf 18 = .ok (.iadd, 1) := by decide +kernel
theorem dX0_bodyOf_19 : decode cX0_bodyOf 19 = .ok (.istore 4, 2) := by decide +kernel
theorem dX0_bodyOf_21 : decode cX0_bodyOf 21 = .ok (.iload 4, 2) := by decide +kernel
theorem dX0_bodyOf_23 : decode cX0_bodyOf 23 = .ok (.ifCond .lt 28, 3) := by decide +kernel
theorem dX0_bodyOf_26 : decode cX0_bodyOf 26 = .ok (.iload 4, 2) := by decide +kernel
theorem dX0_bodyOf_28 : decode cX0_bodyOf 28 = .ok (.getstatic 32, 3) := by decide +kernel
theorem dX0_bodyOf_31 : decode cX0_bodyOf 31 = .ok (.arraylength, 1) := by decide +kernel
theorem dX0_bodyOf_32 : decode cX0_bodyOf 32 = .ok (.if_icmp .ge 19, 3) := by decide +kernel
theorem dX0_bodyOf_35 : decode cX0_bodyOf 35 = .ok (.getstatic 32, 3) := by decide +kernel
theorem dX0_bodyOf_38 : decode cX0_bodyOf 38 = .ok (.iload 4, 2) := by decide +kernel
theorem dX0_bodyOf_40 : decode cX0_bodyOf 40 = .ok (.iaload, 1) := by decide +kernel
theorem dX0_bodyOf_41 : decode cX0_bodyOf 41 = .ok (.ifCond .eq 10, 3) := by decide +kernel
theorem dX0_bodyOf_44 : decode cX0_bodyOf 44 = .ok (.getstatic 32, 3) := by decide +kernel
theorem dX0_bodyOf_47 : decode cX0_bodyOf 47 = .ok (.iload 4, 2) := by decide +kernel
theorem dX0_bodyOf_49 : decode cX0_bodyOf 49 = .ok (.iaload, 1) := by decide +kernel
theorem dX0_bodyOf_50 : decode cX0_bodyOf 50 = .ok (.ireturn, 1) := by decide +kernel
theorem dX0_bodyOf_51 : decode cX0_bodyOf 51 = .ok (.iload_n 2, 1) := by decide +kernel
theorem dX0_bodyOf_52 : decode cX0_bodyOf 52 = .ok (.invokestatic 35, 3) := by decide +kernel
theorem dX0_bodyOf_55 : decode cX0_bodyOf 55 = .ok (.istore_n 2, 1) := by decide +kernel
theorem dX0_bodyOf_56 : decode cX0_bodyOf 56 = .ok (.iinc 3 1, 3) := by decide +kernel
theorem dX0_bodyOf_59 : decode cX0_bodyOf 59 = .ok (.goto (-55), 3) := by decide +kernel
theorem dX0_bodyOf_62 : decode cX0_bodyOf 62 = .ok (.iconst 0, 1) := by decide +kernel
theorem dX0_bodyOf_63 : decode cX0_bodyOf 63 = .ok (.ireturn, 1) := by decide +kernel
set_option maxRecDepth 20000 in
theorem ggX0_run_X0_bodyOf : GoodIn wsX0_run wsX0_bodyOf := goodIn_r _ [7, 8, 9, 10, 11, 12, 13] (by decide +kernel) (by decide +kernel)
set_option maxRecDepth 20000 in
theorem gX0_run_X0_bodyOf : GoodIn wsX0_run (va_wsS RX0 41 yX0_bodyOf wsX0_bodyOf) := goodIn_app (goodIn_of _ (by decide +kernel)) ggX0_run_X0_bodyOf
set_option maxRecDepth 20000 in
theorem ggX0_run_X0_note : GoodIn wsX0_run wsX0_note := goodIn_r _ [17, 18, 19, 22, 23, 24, 25, 26] (by decide +kernel) (by decide +kernel)
set_option maxRecDepth 20000 in
theorem gX0_run_X0_note : GoodIn wsX0_run (wsV RX0 45 RX0 yX0_note wsX0_note) := goodIn_app (goodIn_of _ (by decide +kernel)) ggX0_run_X0_note
set_option maxRecDepth 20000 in
theorem ggX0_run_X0_run : GoodIn wsX0_run wsX0_run := goodIn_r _ [0, 1, 2, 3, 4, 5, 6, 7, 8, 9, 10, 11, 12, 13, 14, 15, 16, 17, 18, 19, 20, 21, 22, 23, 24, 25, 26] (by decide +kernel) (by decide +kernel)
set_option maxRecDepth 20000 in
theorem gX0_run_X0_run : GoodIn wsX0_run (va_wsS RX0 28 yX0_run wsX0_run) := goodIn_app (goodIn_of _ (by decide +kernel)) ggX0_run_X0_run
theorem dX0_run_0 : decode cX0_run 0 = .ok (.iload 4, 2) := by decide +kernel
theorem dX0_run_2 : decode cX0_run 2 = .ok (.bipush 40, 2) := by decide +kernel
theorem dX0_run_4 : decode cX0_run 4 = .ok (.if_icmp .lt 5, 3) := by decide +kernel
theorem dX0_run_7 : decode cX0_run 7 = .ok (.iconst 0, 1) := by decide +kernel
theorem dX0_run_8 : decode cX0_run 8 = .ok (.ireturn, 1) := by decide +kernel
theorem dX0_run_9 : decode cX0_run 9 = .ok (.iload 4, 2) := by decide +kernel
theorem dX0_run_11 : decode cX0_run 11 = .ok (.iconst 1, 1) := by decide +kernel
theorem dX0_run_12 : decode cX0_run 12 = .ok (.iadd, 1) := by decide +kernel
theorem dX0_run_13 : decode cX0_run 13 = .ok (.istore 5, 2) := by decide +kernel
theorem dX0_run_15 : decode cX0_run 15 = .ok (.iload_n 1, 1) := by decide +kernel
theorem dX0_run_16 : decode cX0_run 16 = .ok (.iload_n 2, 1) := by decide +kernel
theorem dX0_run_17 : decode cX0_run 17 = .ok (.invokestatic 41, 3) := by decide +kernel
theorem dX0_run_20 : decode cX0_run 20 = .ok (.istore 6, 2) := by decide +kernel
theorem dX0_run_22 : decode cX0_run 22 = .ok (.aload_n 0, 1) := by decide +kernel
theorem dX0_run_23 : decode cX0_run 23 = .ok (.iload 6, 2) := by decide +kernel
theorem dX0_run_25 : decode cX0_run 25 = .ok (.invokevirtual 45, 3) := by decide +kernel
theorem dX0_run_28 : decode cX0_run 28 = .ok (.iload 6, 2) := by decide +kernel
theorem dX0_run_30 : decode cX0_run 30 = .ok (.lookupswitch 259 #[(10, 98), (11, 105), (12, 120), (20, 155), (30, 170), (40, 182), (50, 194), (51, 205), (60, 220), (70, 232), (71, 244)], 98) := by decide +kernel
theorem dX0_run_128 : decode cX0_run 128 = .ok (.iload_n 3, 1) := by decide +kernel
theorem dX0_run_129 : decode cX0_run 129 = .ok (.aload_n 0, 1) := by decide +kernel
theorem dX0_run_130 : decode cX0_run 130 = .ok (.getfield 22, 3) := by decide +kernel
theorem dX0_run_133 : decode cX0_run 133 = .ok (.iadd, 1) := by decide +kernel
theorem dX0_run_134 : decode cX0_run 134 = .ok (.ireturn, 1) := by decide +kernel
theorem dX0_run_135 : decode cX0_run 135 = .ok (.aload_n 0, 1) := by decide +kernel
theorem dX0_run_136 : decode cX0_run 136 = .ok (.aload_n 0, 1) := by decide +kernel
theorem dX0_run_137 : decode cX0_run 137 = .ok (.getfield 19, 3) := by decide +kernel
theorem dX0_run_140 : decode cX0_run 140 = .ok (.iconst 0, 1) := by decide +kernel
theorem dX0_run_141 : decode cX0_run 141 = .ok (.iload_n 3, 1) := by decide +kernel
theorem dX0_run_142 : decode cX0_run 142 = .ok (.iload 5, 2) := by decide +kernel
theorem dX0_run_144 : decode cX0_run 144 = .ok (.invokestatic 28, 3) := by decide +kernel
theorem dX0_run_147 : decode cX0_run 147 = .ok (.iconst 2, 1) := by decide +kernel
theorem dX0_run_148 : decode cX0_run 148 = .ok (.imul, 1) := by decide +kernel
theorem dX0_run_149 : decode cX0_run 149 = .ok (.ireturn, 1) := by decide +kernel
theorem dX0_run_150 : decode cX0_run 150 = .ok (.aload_n 0, 1) := by decide +kernel
theorem dX0_run_151 : decode cX0_run 151 = .ok (.aload_n 0, 1) := by decide +kernel
theorem dX0_run_152 : decode cX0_run 152 = .ok (.getfield 19, 3) := by decide +kernel
theorem dX0_run_155 : decode cX0_run 155 = .ok (.iconst 1, 1) := by decide +kernel
theorem dX0_run_156 : decode cX0_run 156 = .ok (.iload_n 3, 1) := by decide +kernel
theorem dX0_run_157 : decode cX0_run 157 = .ok (.iload 5, 2) := by decide +kernel
theorem dX0_run_159 : decode cX0_run 159 = .ok (.invokestatic 28, 3) := by decide +kernel
theorem dX0_run_162 : decode cX0_run 162 = .ok (.istore 7, 2) := by decide +kernel
theorem dX0_run_164 : decode cX0_run 164 = .ok (.iload 7, 2) := by decide +kernel
theorem dX0_run_166 : decode cX0_run 166 = .ok (.aload_n 0, 1) := by decide +kernel
theorem dX0_run_167 : decode cX0_run 167 = .ok (.aload_n 0, 1) := by decide +kernel
theorem dX0_run_168 : decode cX0_run 168 = .ok (.getfield 19, 3) := by decide +kernel
theorem dX0_run_171 : decode cX0_run 171 = .ok (.iconst 0, 1) := by decide +kernel
theorem dX0_run_172 : decode cX0_run 172 = .ok (.iload_n 3, 1) := by decide +kernel
theorem dX0_run_173 : decode cX0_run 173 = .ok (.aload_n 0, 1) := by decide +kernel
theorem dX0_run_174 : decode cX0_run 174 = .ok (.getfield 25, 3) := by decide +kernel
theorem dX0_run_177 : decode cX0_run 177 = .ok (.isub, 1) := by decide +kernel
theorem dX0_run_178 : decode cX0_run 178 = .ok (.iload 5, 2) := by decide +kernel
theorem dX0_run_180 : decode cX0_run 180 = .ok (.invokestatic 28, 3) := by decide +kernel
theorem dX0_run_183 : decode cX0_run 183 = .ok (.ixor, 1) := by decide +kernel
theorem dX0_run_184 : decode cX0_run 184 = .ok (.ireturn, 1) := by decide +kernel
theorem dX0_run_185 : decode cX0_run 185 = .ok (.aload_n 0, 1) := by decide +kernel
theorem dX0_run_186 : decode cX0_run 186 = .ok (.iconst 0, 1) := by decide +kernel
theorem dX0_run_187 : decode cX0_run 187 = .ok (.iconst 0, 1) := by decide +kernel
theorem dX0_run_188 : decode cX0_run 188 = .ok (.iload_n 3, 1) := by decide +kernel
theorem dX0_run_189 : decode cX0_run 189 = .ok (.iload 5, 2) := by decide +kernel
theorem dX0_run_191 : decode cX0_run 191 = .ok (.invokestatic 28, 3) := by decide +kernel
theorem dX0_run_194 : decode cX0_run 194 = .ok (.aload_n 0, 1) := by decide +kernel
theorem dX0_run_195 : decode cX0_run 195 = .ok (.getfield 25, 3) := by decide +kernel
theorem dX0_run_198 : decode cX0_run 198 = .ok (.iadd, 1) := by decide +kernel
theorem dX0_run_199 : decode cX0_run 199 = .ok (.ireturn, 1) := by decide +kernel
theorem dX0_run_200 : decode cX0_run 200 = .ok (.aload_n 0, 1) := by decide +kernel
theorem dX0_run_201 : decode cX0_run 201 = .ok (.iconst 0, 1) := by decide +kernel
theorem dX0_run_202 : decode cX0_run 202 = .ok (.iconst 1, 1) := by decide +kernel
theorem dX0_run_203 : decode cX0_run 203 = .ok (.iload_n 3, 1) := by decide +kernel
theorem dX0_run_204 : decode cX0_run 204 = .ok (.iload 5, 2) := by decide +kernel
theorem dX0_run_206 : decode cX0_run 206 = .ok (.invokestatic 28, 3) := by decide +kernel
theorem dX0_run_209 : decode cX0_run 209 = .ok (.iconst 3, 1) := by decide +kernel
theorem dX0_run_210 : decode cX0_run 210 = .ok (.imul, 1) := by decide +kernel
theorem dX0_run_211 : decode cX0_run 211 = .ok (.ireturn, 1) := by decide +kernel
theorem dX0_run_212 : decode cX0_run 212 = .ok (.aload_n 0, 1) := by decide +kernel
theorem dX0_run_213 : decode cX0_run 213 = .ok (.iconst 1, 1) := by decide +kernel
theorem dX0_run_214 : decode cX0_run 214 = .ok (.iconst 1, 1) := by decide +kernel
theorem dX0_run_215 : decode cX0_run 215 = .ok (.iload_n 3, 1) := by decide +kernel
theorem dX0_run_216 : decode cX0_run 216 = .ok (.iconst 1, 1) := by decide +kernel
theorem dX0_run_217 : decode cX0_run 217 = .ok (.iadd, 1) := by decide +kernel
theorem dX0_run_218 : decode cX0_run 218 = .ok (.iload 5, 2) := by decide +kernel
theorem dX0_run_220 : decode cX0_run 220 = .ok (.invokestatic 28, 3) := by decide +kernel
theorem dX0_run_223 : decode cX0_run 223 = .ok (.ireturn, 1) := by decide +kernel
theorem dX0_run_224 : decode cX0_run 224 = .ok (.aload_n 0, 1) := by decide +kernel
theorem dX0_run_225 : decode cX0_run 225 = .ok (.iconst 0, 1) := by decide +kernel
theorem dX0_run_226 : decode cX0_run 226 = .ok (.iconst 2, 1) := by decide +kernel
theorem dX0_run_227 : decode cX0_run 227 = .ok (.iload_n 3, 1) := by decide +kernel
theorem dX0_run_228 : decode cX0_run 228 = .ok (.iload 5, 2) := by decide +kernel
theorem dX0_run_230 : decode cX0_run 230 = .ok (.invokestatic 28, 3) := by decide +kernel
theorem dX0_run_233 : decode cX0_run 233 = .ok (.ineg, 1) := by decide +kernel
theorem dX0_run_234 : decode cX0_run 234 = .ok (.ireturn, 1) := by decide +kernel
theorem dX0_run_235 : decode cX0_run 235 = .ok (.aload_n 0, 1) := by decide +kernel
theorem dX0_run_236 : decode cX0_run 236 = .ok (.iconst 0, 1) := by decide +kernel
theorem dX0_run_237 : decode cX0_run 237 = .ok (.iconst 0, 1) := by decide +kernel
theorem dX0_run_238 : decode cX0_run 238 = .ok (.iload_n 3, 1) := by decide +kernel
theorem dX0_run_239 : decode cX0_run 239 = .ok (.iload 5, 2) := by decide +kernel
theorem dX0_run_241 : decode cX0_run 241 = .ok (.invokestatic 28, 3) := by decide +kernel
theorem dX0_run_244 : decode cX0_run 244 = .ok (.aload_n 0, 1) := by decide +kernel
theorem dX0_run_245 : decode cX0_run 245 = .ok (.getfield 22, 3) := by decide +kernel
theorem dX0_run_248 : decode cX0_run 248 = .ok (.isub, 1) := by decide +kernel
theorem dX0_run_249 : decode cX0_run 249 = .ok (.ireturn, 1) := by decide +kernel
theorem dX0_run_250 : decode cX0_run 250 = .ok (.aload_n 0, 1) := by decide +kernel
theorem dX0_run_251 : decode cX0_run 251 = .ok (.iconst 2, 1) := by decide +kernel
theorem dX0_run_252 : decode cX0_run 252 = .ok (.iconst 2, 1) := by decide +kernel
theorem dX0_run_253 : decode cX0_run 253 = .ok (.iload_n 3, 1) := by decide +kernel
theorem dX0_run_254 : decode cX0_run 254 = .ok (.iload 5, 2) := by decide +kernel
theorem dX0_run_256 : decode cX0_run 256 = .ok (.invokestatic 28, 3) := by decide +kernel
theorem dX0_run_259 : decode cX0_run 259 = .ok (.iconst 5, 1) := by decide +kernel
theorem dX0_run_260 : decode cX0_run 260 = .ok (.ixor, 1) := by decide +kernel
theorem dX0_run_261 : decode cX0_run 261 = .ok (.ireturn, 1) := by decide +kernel
theorem dX0_run_262 : decode cX0_run 262 = .ok (.aload_n 0, 1) := by decide +kernel
theorem dX0_run_263 : decode cX0_run 263 = .ok (.iconst 4, 1) := by decide +kernel
theorem dX0_run_264 : decode cX0_run 264 = .ok (.iconst 0, 1) := by decide +kernel
theorem dX0_run_265 : decode cX0_run 265 = .ok (.iload_n 3, 1) := by decide +kernel
theorem dX0_run_266 : decode cX0_run 266 = .ok (.iload 5, 2) := by decide +kernel
theorem dX0_run_268 : decode cX0_run 268 = .ok (.invokestatic 28, 3) := by decide +kernel
theorem dX0_run_271 : decode cX0_run 271 = .ok (.iconst 2, 1) := by decide +kernel
theorem dX0_run_272 : decode cX0_run 272 = .ok (.imul, 1) := by decide +kernel
theorem dX0_run_273 : decode cX0_run 273 = .ok (.ireturn, 1) := by decide +kernel
theorem dX0_run_274 : decode cX0_run 274 = .ok (.aload_n 0, 1) := by decide +kernel
theorem dX0_run_275 : decode cX0_run 275 = .ok (.iconst 4, 1) := by decide +kernel
theorem dX0_run_276 : decode cX0_run 276 = .ok (.iconst 1, 1) := by decide +kernel
theorem dX0_run_277 : decode cX0_run 277 = .ok (.iload_n 3, 1) := by decide +kernel
theorem dX0_run_278 : decode cX0_run 278 = .ok (.aload_n 0, 1) := by decide +kernel
theorem dX0_run_279 : decode cX0_run 279 = .ok (.getfield 25, 3) := by decide +kernel
theorem dX0_run_282 : decode cX0_run 282 = .ok (.isub, 1) := by decide +kernel
theorem dX0_run_283 : decode cX0_run 283 = .ok (.iload 5, 2) := by decide +kernel
theorem dX0_run_285 : decode cX0_run 285 = .ok (.invokestatic 28, 3) := by decide +kernel
theorem dX0_run_288 : decode cX0_run 288 = .ok (.ireturn, 1) := by decide +kernel
theorem dX0_run_289 : decode cX0_run 289 = .ok (.iconst 0, 1) := by decide +kernel
theorem dX0_run_290 : decode cX0_run 290 = .ok (.ireturn, 1) := by decide +kernel
theorem dX1_above_0 : decode cX1_above 0 = .ok (.iload_n 0, 1) := by decide +kernel
theorem dX1_above_1 : decode cX1_above 1 = .ok (.ifCond .lt 19, 3) := by decide +kernel
theorem dX1_above_4 : decode cX1_above 4 = .ok (.iload_n 0, 1) := by decide +kernel
theorem dX1_above_5 : decode cX1_above 5 = .ok (.getstatic 9, 3) := by decide +kernel
theorem dX1_above_8 : decode cX1_above 8 = .ok (.arraylength, 1) := by decide +kernel
theorem dX1_above_9 : decode cX1_above 9 = .ok (.if_icmp .ge 11, 3) := by decide +kernel
theorem dX1_above_12 : decode cX1_above 12 = .ok (.getstatic 9, 3) := by decide +kernel
theorem dX1_above_15 : decode cX1_above 15 = .ok (.iload_n 0, 1) := by decide +kernel
theorem dX1_above_16 : decode cX1_above 16 = .ok (.iaload, 1) := by decide +kernel
theorem dX1_above_17 : decode cX1_above 17 = .ok (.goto 4, 3) := by decide +kernel
theorem dX1_above_20 : decode cX1_above 20 = .ok (.iconst (-1), 1) := by decide +kernel
theorem dX1_above_21 : decode cX1_above 21 = .ok (.ireturn, 1) := by decide +kernel
theorem dX1_weightOf_0 : decode cX1_weightOf 0 = .ok (.iload_n 0, 1) := by decide +kernel
theorem dX1_weightOf_1 : decode cX1_weightOf 1 = .ok (.ifCond .lt 19, 3) := by decide +kernel
theorem dX1_weightOf_4 : decode cX1_weightOf 4 = .ok (.iload_n 0, 1) := by decide +kernel
theorem dX1_weightOf_5 : decode cX1_weightOf 5 = .ok (.getstatic 15, 3) := by decide +kernel
theorem dX1_weightOf_8 : decode cX1_weightOf 8 = .ok (.arraylength, 1) := by decide +kernel
theorem dX1_weightOf_9 : decode cX1_weightOf 9 = .ok (.if_icmp .ge 11, 3) := by decide +kernel
theorem dX1_weightOf_12 : decode cX1_weightOf 12 = .ok (.getstatic 15, 3) := by decide +kernel
theorem dX1_weightOf_15 : decode cX1_weightOf 15 = .ok (.iload_n 0, 1) := by decide +kernel
theorem dX1_weightOf_16 : decode cX1_weightOf 16 = .ok (.iaload, 1) := by decide +kernel
theorem dX1_weightOf_17 : decode cX1_weightOf 17 = .ok (.goto 4, 3) := by decide +kernel
theorem dX1_weightOf_20 : decode cX1_weightOf 20 = .ok (.iconst 0, 1) := by decide +kernel
theorem dX1_weightOf_21 : decode cX1_weightOf 21 = .ok (.ireturn, 1) := by decide +kernel
set_option maxRecDepth 20000 in
theorem ggX1_isUnder_X1_above : GoodIn wsX1_isUnder wsX1_above := goodIn_r _ [5, 1] (by decide +kernel) (by decide +kernel)
set_option maxRecDepth 20000 in
theorem gX1_isUnder_X1_above : GoodIn wsX1_isUnder (va_wsS RX1 18 yX1_above wsX1_above) := goodIn_app (goodIn_of _ (by decide +kernel)) ggX1_isUnder_X1_above
theorem dX1_isUnder_0 : decode cX1_isUnder 0 = .ok (.iload_n 0, 1) := by decide +kernel
theorem dX1_isUnder_1 : decode cX1_isUnder 1 = .ok (.istore_n 2, 1) := by decide +kernel
theorem dX1_isUnder_2 : decode cX1_isUnder 2 = .ok (.iconst 0, 1) := by decide +kernel
theorem dX1_isUnder_3 : decode cX1_isUnder 3 = .ok (.istore_n 3, 1) := by decide +kernel
theorem dX1_isUnder_4 : decode cX1_isUnder 4 = .ok (.iload_n 3, 1) := by decide +kernel
theorem dX1_isUnder_5 : decode cX1_isUnder 5 = .ok (.getstatic 9, 3) := by decide +kernel
theorem dX1_isUnder_8 : decode cX1_isUnder 8 = .ok (.arraylength, 1) := by decide +kernel
theorem dX1_isUnder_9 : decode cX1_isUnder 9 = .ok (.if_icmp .ge 26, 3) := by decide +kernel
theorem dX1_isUnder_12 : decode cX1_isUnder 12 = .ok (.iload_n 2, 1) := by decide +kernel
theorem dX1_isUnder_13 : decode cX1_isUnder 13 = .ok (.iconst (-1), 1) := by decide +kernel
theorem dX1_isUnder_14 : decode cX1_isUnder 14 = .ok (.if_icmp .eq 21, 3) := by decide +kernel
theorem dX1_isUnder_17 : decode cX1_isUnder 17 = .ok (.iload_n 2, 1) := by decide +kernel
theorem dX1_isUnder_18 : decode cX1_isUnder 18 = .ok (.iload_n 1, 1) := by decide +kernel
theorem dX1_isUnder_19 : decode cX1_isUnder 19 = .ok (.if_icmp .ne 5, 3) := by decide +kernel
theorem dX1_isUnder_22 : decode cX1_isUnder 22 = .ok (.iconst 1, 1) := by decide +kernel
theorem dX1_isUnder_23 : decode cX1_isUnder 23 = .ok (.ireturn, 1) := by decide +kernel
theorem dX1_isUnder_24 : decode cX1_isUnder 24 = .ok (.iload_n 2, 1) := by decide +kernel
theorem dX1_isUnder_25 : decode cX1_isUnder 25 = .ok (.invokestatic 18, 3) := by decide +kernel
theorem dX1_isUnder_28 : decode cX1_isUnder 28 = .ok (.istore_n 2, 1) := by decide +kernel
theorem dX1_isUnder_29 : decode cX1_isUnder 29 = .ok (.iinc 3 1, 3) := by decide +kernel
theorem dX1_isUnder_32 : decode cX1_isUnder 32 = .ok (.goto (-28), 3) := by decide +kernel
theorem dX1_isUnder_35 : decode cX1_isUnder 35 = .ok (.iconst 0, 1) := by decide +kernel
theorem dX1_isUnder_36 : decode cX1_isUnder 36 = .ok (.ireturn, 1) := by decide +kernel
theorem dX2_init_0 : decode cX2_init 0 = .ok (.aload_n 0, 1) := by decide +kernel
theorem dX2_init_1 : decode cX2_init 1 = .ok (.invokespecial 1, 3) := by decide +kernel
theorem dX2_init_4 : decode cX2_init 4 = .ok (.return_, 1) := by decide +kernel
theorem dX2_worst_0 : decode cX2_worst 0 = .ok (.aload_n 0, 1) := by decide +kernel
theorem dX2_worst_1 : decode cX2_worst 1 = .ok (.getfield 7, 3) := by decide +kernel
theorem dX2_worst_4 : decode cX2_worst 4 = .ok (.ireturn, 1) := by decide +kernel
theorem dX2_worstBy_0 : decode cX2_worstBy 0 = .ok (.aload_n 0, 1) := by decide +kernel
theorem dX2_worstBy_1 : decode cX2_worstBy 1 = .ok (.getfield 13, 3) := by decide +kernel
theorem dX2_worstBy_4 : decode cX2_worstBy 4 = .ok (.l2i, 1) := by decide +kernel
theorem dX2_worstBy_5 : decode cX2_worstBy 5 = .ok (.ireturn, 1) := by decide +kernel
set_option maxRecDepth 20000 in
theorem ggX2_search_X3_setting : GoodIn wsX2_search wsX3_setting := goodIn_r _ [11, 12, 77, 78, 79, 80] (by decide +kernel) (by decide +kernel)
set_option maxRecDepth 20000 in
theorem gX2_search_X3_setting : GoodIn wsX2_search (wsV RX2 19 RX3 yX3_setting wsX3_setting) := goodIn_app (goodIn_of _ (by decide +kernel)) ggX2_search_X3_setting
set_option maxRecDepth 20000 in
theorem ggX2_search_X3_count : GoodIn wsX2_search wsX3_count := goodIn_r _ [16, 17, 77, 78, 79, 80] (by decide +kernel) (by decide +kernel)
set_option maxRecDepth 20000 in
theorem gX2_search_X3_count : GoodIn wsX2_search (wsV RX2 23 RX3 yX3_count wsX3_count) := goodIn_app (goodIn_of _ (by decide +kernel)) ggX2_search_X3_count
set_option maxRecDepth 20000 in
theorem ggX2_search_X3_riseOf : GoodIn wsX2_search wsX3_riseOf := goodIn_r _ [21, 22, 23, 24, 10, 25, 26, 27, 28, 29, 30, 31, 32, 33, 34, 35, 36, 37, 38, 39, 8, 9, 11, 12, 40, 41, 42, 43, 44, 45, 46, 47, 48, 49, 50, 51, 77, 78, 79, 80] (by decide +kernel) (by decide +kernel)
set_option maxRecDepth 20000 in
theorem gX2_search_X3_riseOf : GoodIn wsX2_search (wsV RX2 27 RX3 yX3_riseOf wsX3_riseOf) := goodIn_app (goodIn_of _ (by decide +kernel)) ggX2_search_X3_riseOf
set_option maxRecDepth 20000 in
theorem ggX2_search_X5_numberAt : GoodIn wsX2_search wsX5_numberAt := goodIn_r _ [56, 57, 58, 59, 55, 60, 61, 62, 63, 64, 65, 66, 67, 68, 69, 70, 71, 72, 73, 74, 81, 82, 83] (by decide +kernel) (by decide +kernel)
set_option maxRecDepth 20000 in
theorem gX2_search_X5_numberAt : GoodIn wsX2_search (wsV RX2 30 RX5 yX5_numberAt wsX5_numberAt) := goodIn_app (goodIn_of _ (by decide +kernel)) ggX2_search_X5_numberAt
theorem dX2_search_0 : decode cX2_search 0 = .ok (.iconst 0, 1) := by decide +kernel
theorem dX2_search_1 : decode cX2_search 1 = .ok (.istore 4, 2) := by decide +kernel
theorem dX2_search_3 : decode cX2_search 3 = .ok (.iconst 0, 1) := by decide +kernel
theorem dX2_search_4 : decode cX2_search 4 = .ok (.istore 5, 2) := by decide +kernel
theorem dX2_search_6 : decode cX2_search 6 = .ok (.aload_n 1, 1) := by decide +kernel
theorem dX2_search_7 : decode cX2_search 7 = .ok (.bipush 8, 2) := by decide +kernel
theorem dX2_search_9 : decode cX2_search 9 = .ok (.invokevirtual 19, 3) := by decide +kernel
theorem dX2_search_12 : decode cX2_search 12 = .ok (.i2l, 1) := by decide +kernel
theorem dX2_search_13 : decode cX2_search 13 = .ok (.lstore 6, 2) := by decide +kernel
theorem dX2_search_15 : decode cX2_search 15 = .ok (.lconst 0, 1) := by decide +kernel
theorem dX2_search_16 : decode cX2_search 16 = .ok (.lstore 8, 2) := by decide +kernel
theorem dX2_search_18 : decode cX2_search 18 = .ok (.iconst 1, 1) := by decide +kernel
theorem dX2_search_19 : decode cX2_search 19 = .ok (.istore 10, 2) := by decide +kernel
theorem dX2_search_21 : decode cX2_search 21 = .ok (.iload 10, 2) := by decide +kernel
theorem dX2_search_23 : decode cX2_search 23 = .ok (.aload_n 1, 1) := by decide +kernel
theorem dX2_search_24 : decode cX2_search 24 = .ok (.invokevirtual 23, 3) := by decide +kernel
theorem dX2_search_27 : decode cX2_search 27 = .ok (.if_icmp .gt 134, 3) := by decide +kernel
theorem dX2_search_30 : decode cX2_search 30 = .ok (.lload 8, 2) := by decide +kernel
theorem dX2_search_32 : decode cX2_search 32 = .ok (.aload_n 1, 1) := by decide +kernel
theorem dX2_search_33 : decode cX2_search 33 = .ok (.iload 10, 2) := by decide +kernel
theorem dX2_search_35 : decode cX2_search 35 = .ok (.iconst 1, 1) := by decide +kernel
theorem dX2_search_36 : decode cX2_search 36 = .ok (.isub, 1) := by decide +kernel
theorem dX2_search_37 : decode cX2_search 37 = .ok (.invokevirtual 27, 3) := by decide +kernel
theorem dX2_search_40 : decode cX2_search 40 = .ok (.i2l, 1) := by decide +kernel
theorem dX2_search_41 : decode cX2_search 41 = .ok (.ladd, 1) := by decide +kernel
theorem dX2_search_42 : decode cX2_search 42 = .ok (.lstore 8, 2) := by decide +kernel
theorem dX2_search_44 : decode cX2_search 44 = .ok (.iload 10, 2) := by decide +kernel
theorem dX2_search_46 : decode cX2_search 46 = .ok (.aload_n 1, 1) := by decide +kernel
theorem dX2_search_47 : decode cX2_search 47 = .ok (.invokevirtual 23, 3) := by decide +kernel
theorem dX2_search_50 : decode cX2_search 50 = .ok (.if_icmp .ne 7, 3) := by decide +kernel
theorem dX2_search_53 : decode cX2_search 53 = .ok (.iconst 1, 1) := by decide +kernel
theorem dX2_search_54 : decode cX2_search 54 = .ok (.goto 4, 3) := by decide +kernel
theorem dX2_search_57 : decode cX2_search 57 = .ok (.iconst 0, 1) := by decide +kernel
theorem dX2_search_58 : decode cX2_search 58 = .ok (.istore 11, 2) := by decide +kernel
theorem dX2_search_60 : decode cX2_search 60 = .ok (.iload 11, 2) := by decide +kernel
theorem dX2_search_62 : decode cX2_search 62 = .ok (.ifCond .eq 12, 3) := by decide +kernel
theorem dX2_search_65 : decode cX2_search 65 = .ok (.aload_n 1, 1) := by decide +kernel
theorem dX2_search_66 : decode cX2_search 66 = .ok (.bipush 8, 2) := by decide +kernel
theorem dX2_search_68 : decode cX2_search 68 = .ok (.invokevirtual 19, 3) := by decide +kernel
theorem dX2_search_71 : decode cX2_search 71 = .ok (.goto 10, 3) := by decide +kernel
theorem dX2_search_74 : decode cX2_search 74 = .ok (.aload_n 2, 1) := by decide +kernel
theorem dX2_search_75 : decode cX2_search 75 = .ok (.iload_n 3, 1) := by decide +kernel
theorem dX2_search_76 : decode cX2_search 76 = .ok (.iload 10, 2) := by decide +kernel
theorem dX2_search_78 : decode cX2_search 78 = .ok (.invokevirtual 30, 3) := by decide +kernel
theorem dX2_search_81 : decode cX2_search 81 = .ok (.istore 12, 2) := by decide +kernel
theorem dX2_search_83 : decode cX2_search 83 = .ok (.iload 11, 2) := by decide +kernel
theorem dX2_search_85 : decode cX2_search 85 = .ok (.ifCond .ne 11, 3) := by decide +kernel
theorem dX2_search_88 : decode cX2_search 88 = .ok (.iload 12, 2) := by decide +kernel
theorem dX2_search_90 : decode cX2_search 90 = .ok (.sipush (-32768), 3) := by decide +kernel
theorem dX2_search_93 : decode cX2_search 93 = .ok (.if_icmp .eq 62, 3) := by decide +kernel
theorem dX2_search_96 : decode cX2_search 96 = .ok (.lload 8, 2) := by decide +kernel
theorem dX2_search_98 : decode cX2_search 98 = .ok (.iload 12, 2) := by decide +kernel
theorem dX2_search_100 : decode cX2_search 100 = .ok (.i2l, 1) := by decide +kernel
theorem dX2_search_101 : decode cX2_search 101 = .ok (.lload 6, 2) := by decide +kernel
theorem dX2_search_103 : decode cX2_search 103 = .ok (.lsub, 1) := by decide +kernel
theorem dX2_search_104 : decode cX2_search 104 = .ok (.lsub, 1) := by decide +kernel
theorem dX2_search_105 : decode cX2_search 105 = .ok (.lstore 13, 2) := by decide +kernel
theorem dX2_search_107 : decode cX2_search 107 = .ok (.iload 4, 2) := by decide +kernel
theorem dX2_search_109 : decode cX2_search 109 = .ok (.ifCond .eq 19, 3) := by decide +kernel
theorem dX2_search_112 : decode cX2_search 112 = .ok (.lload 13, 2) := by decide +kernel
theorem dX2_search_114 : decode cX2_search 114 = .ok (.invokestatic 36, 3) := by decide +kernel
theorem dX2_search_117 : decode cX2_search 117 = .ok (.aload_n 0, 1) := by decide +kernel
theorem dX2_search_118 : decode cX2_search 118 = .ok (.getfield 13, 3) := by decide +kernel
theorem dX2_search_121 : decode cX2_search 121 = .ok (.invokestatic 36, 3) := by decide +kernel
theorem dX2_search_124 : decode cX2_search 124 = .ok (.lcmp, 1) := by decide +kernel
theorem dX2_search_125 : decode cX2_search 125 = .ok (.ifCond .le 15, 3) := by decide +kernel
theorem dX2_search_128 : decode cX2_search 128 = .ok (.aload_n 0, 1) := by decide +kernel
theorem dX2_search_129 : decode cX2_search 129 = .ok (.iload 5, 2) := by decide +kernel
theorem dX2_search_131 : decode cX2_search 131 = .ok (.putfield 7, 3) := by decide +kernel
theorem dX2_search_134 : decode cX2_search 134 = .ok (.aload_n 0, 1) := by decide +kernel
theorem dX2_search_135 : decode cX2_search 135 = .ok (.lload 13, 2) := by decide +kernel
theorem dX2_search_137 : decode cX2_search 137 = .ok (.putfield 13, 3) := by decide +kernel
theorem dX2_search_140 : decode cX2_search 140 = .ok (.iconst 1, 1) := by decide +kernel
theorem dX2_search_141 : decode cX2_search 141 = .ok (.istore 4, 2) := by decide +kernel
theorem dX2_search_143 : decode cX2_search 143 = .ok (.iload 10, 2) := by decide +kernel
theorem dX2_search_145 : decode cX2_search 145 = .ok (.istore 5, 2) := by decide +kernel
theorem dX2_search_147 : decode cX2_search 147 = .ok (.iload 12, 2) := by decide +kernel
theorem dX2_search_149 : decode cX2_search 149 = .ok (.i2l, 1) := by decide +kernel
theorem dX2_search_150 : decode cX2_search 150 = .ok (.lstore 6, 2) := by decide +kernel
theorem dX2_search_152 : decode cX2_search 152 = .ok (.lconst 0, 1) := by decide +kernel
theorem dX2_search_153 : decode cX2_search 153 = .ok (.lstore 8, 2) := by decide +kernel
theorem dX2_search_155 : decode cX2_search 155 = .ok (.iinc 10 1, 3) := by decide +kernel
theorem dX2_search_158 : decode cX2_search 158 = .ok (.goto (-137), 3) := by decide +kernel
theorem dX2_search_161 : decode cX2_search 161 = .ok (.return_, 1) := by decide +kernel
theorem dX3_init_0 : decode cX3_init 0 = .ok (.aload_n 0, 1) := by decide +kernel
theorem dX3_init_1 : decode cX3_init 1 = .ok (.invokespecial 1, 3) := by decide +kernel
theorem dX3_init_4 : decode cX3_init 4 = .ok (.aload_n 0, 1) := by decide +kernel
theorem dX3_init_5 : decode cX3_init 5 = .ok (.sipush 128, 3) := by decide +kernel
theorem dX3_init_8 : decode cX3_init 8 = .ok (.newarray .int, 2) := by decide +kernel
theorem dX3_init_10 : decode cX3_init 10 = .ok (.putfield 9, 3) := by decide +kernel
theorem dX3_init_13 : decode cX3_init 13 = .ok (.aload_n 0, 1) := by decide +kernel
theorem dX3_init_14 : decode cX3_init 14 = .ok (.iconst 3, 1) := by decide +kernel
theorem dX3_init_15 : decode cX3_init 15 = .ok (.newarray .int, 2) := by decide +kernel
theorem dX3_init_17 : decode cX3_init 17 = .ok (.dup, 1) := by decide +kernel
theorem dX3_init_18 : decode cX3_init 18 = .ok (.iconst 0, 1) := by decide +kernel
theorem dX3_init_19 : decode cX3_init 19 = .ok (.iconst 0, 1) := by decide +kernel
theorem dX3_init_20 : decode cX3_init 20 = .ok (.iastore, 1) := by decide +kernel
theorem dX3_init_21 : decode cX3_init 21 = .ok (.dup, 1) := by decide +kernel
theorem dX3_init_22 : decode cX3_init 22 = .ok (.iconst 1, 1) := by decide +kernel
theorem dX3_init_23 : decode cX3_init 23 = .ok (.iconst 1, 1) := by decide +kernel
theorem dX3_init_24 : decode cX3_init 24 = .ok (.iastore, 1) := by decide +kernel
theorem dX3_init_25 : decode cX3_init 25 = .ok (.dup, 1) := by decide +kernel
theorem dX3_init_26 : decode cX3_init 26 = .ok (.iconst 2, 1) := by decide +kernel
theorem dX3_init_27 : decode cX3_init 27 = .ok (.iconst 5, 1) := by decide +kernel
theorem dX3_init_28 : decode cX3_init 28 = .ok (.iastore, 1) := by decide +kernel
theorem dX3_init_29 : decode cX3_init 29 = .ok (.putfield 13, 3) := by decide +kernel
theorem dX3_init_32 : decode cX3_init 32 = .ok (.aload_n 0, 1) := by decide +kernel
theorem dX3_init_33 : decode cX3_init 33 = .ok (.iconst 0, 1) := by decide +kernel
theorem dX3_init_34 : decode cX3_init 34 = .ok (.putfield 16, 3) := by decide +kernel
theorem dX3_init_37 : decode cX3_init 37 = .ok (.aload_n 0, 1) := by decide +kernel
theorem dX3_init_38 : decode cX3_init 38 = .ok (.iconst 1, 1) := by decide +kernel
theorem dX3_init_39 : decode cX3_init 39 = .ok (.putfield 20, 3) := by decide +kernel
theorem dX3_init_42 : decode cX3_init 42 = .ok (.return_, 1) := by decide +kernel
theorem dX3_fits_0 : decode cX3_fits 0 = .ok (.iload_n 0, 1) := by decide +kernel
theorem dX3_fits_1 : decode cX3_fits 1 = .ok (.ifCond .lt 33, 3) := by decide +kernel
theorem dX3_fits_4 : decode cX3_fits 4 = .ok (.iload_n 0, 1) := by decide +kernel
theorem dX3_fits_5 : decode cX3_fits 5 = .ok (.getstatic 23, 3) := by decide +kernel
theorem dX3_fits_8 : decode cX3_fits 8 = .ok (.arraylength, 1) := by decide +kernel
theorem dX3_fits_9 : decode cX3_fits 9 = .ok (.if_icmp .ge 25, 3) := by decide +kernel
theorem dX3_fits_12 : decode cX3_fits 12 = .ok (.iload_n 1, 1) := by decide +kernel
theorem dX3_fits_13 : decode cX3_fits 13 = .ok (.getstatic 23, 3) := by decide +kernel
theorem dX3_fits_16 : decode cX3_fits 16 = .ok (.iload_n 0, 1) := by decide +kernel
theorem dX3_fits_17 : decode cX3_fits 17 = .ok (.iaload, 1) := by decide +kernel
theorem dX3_fits_18 : decode cX3_fits 18 = .ok (.if_icmp .lt 16, 3) := by decide +kernel
theorem dX3_fits_21 : decode cX3_fits 21 = .ok (.iload_n 1, 1) := by decide +kernel
theorem dX3_fits_22 : decode cX3_fits 22 = .ok (.getstatic 26, 3) := by decide +kernel
theorem dX3_fits_25 : decode cX3_fits 25 = .ok (.iload_n 0, 1) := by decide +kernel
theorem dX3_fits_26 : decode cX3_fits 26 = .ok (.iaload, 1) := by decide +kernel
theorem dX3_fits_27 : decode cX3_fits 27 = .ok (.if_icmp .gt 7, 3) := by decide +kernel
theorem dX3_fits_30 : decode cX3_fits 30 = .ok (.iconst 1, 1) := by decide +kernel
theorem dX3_fits_31 : decode cX3_fits 31 = .ok (.goto 4, 3) := by decide +kernel
theorem dX3_fits_34 : decode cX3_fits 34 = .ok (.iconst 0, 1) := by decide +kernel
theorem dX3_fits_35 : decode cX3_fits 35 = .ok (.ireturn, 1) := by decide +kernel
theorem dX3_count_0 : decode cX3_count 0 = .ok (.aload_n 0, 1) := by decide +kernel
theorem dX3_count_1 : decode cX3_count 1 = .ok (.getfield 16, 3) := by decide +kernel
theorem dX3_count_4 : decode cX3_count 4 = .ok (.ireturn, 1) := by decide +kernel
theorem dX3_hasSetUp_0 : decode cX3_hasSetUp 0 = .ok (.iload_n 1, 1) := by decide +kernel
theorem dX3_hasSetUp_1 : decode cX3_hasSetUp 1 = .ok (.ifCond .lt 15, 3) := by decide +kernel
theorem dX3_hasSetUp_4 : decode cX3_hasSetUp 4 = .ok (.iload_n 1, 1) := by decide +kernel
theorem dX3_hasSetUp_5 : decode cX3_hasSetUp 5 = .ok (.aload_n 0, 1) := by decide +kernel
theorem dX3_hasSetUp_6 : decode cX3_hasSetUp 6 = .ok (.getfield 16, 3) := by decide +kernel
theorem dX3_hasSetUp_9 : decode cX3_hasSetUp 9 = .ok (.if_icmp .ge 7, 3) := by decide +kernel
theorem dX3_hasSetUp_12 : decode cX3_hasSetUp 12 = .ok (.iconst 1, 1) := by decide +kernel
theorem dX3_hasSetUp_13 : decode cX3_hasSetUp 13 = .ok (.goto 4, 3) := by decide +kernel
theorem dX3_hasSetUp_16 : decode cX3_hasSetUp 16 = .ok (.iconst 0, 1) := by decide +kernel
theorem dX3_hasSetUp_17 : decode cX3_hasSetUp 17 = .ok (.ireturn, 1) := by decide +kernel
theorem dX3_hasRoomFor_0 : decode cX3_hasRoomFor 0 = .ok (.iload_n 1, 1) := by decide +kernel
theorem dX3_hasRoomFor_1 : decode cX3_hasRoomFor 1 = .ok (.bipush 16, 2) := by decide +kernel
theorem dX3_hasRoomFor_3 : decode cX3_hasRoomFor 3 = .ok (.aload_n 0, 1) := by decide +kernel
theorem dX3_hasRoomFor_4 : decode cX3_hasRoomFor 4 = .ok (.getfield 16, 3) := by decide +kernel
theorem dX3_hasRoomFor_7 : decode cX3_hasRoomFor 7 = .ok (.isub, 1) := by decide +kernel
theorem dX3_hasRoomFor_8 : decode cX3_hasRoomFor 8 = .ok (.if_icmp .gt 7, 3) := by decide +kernel
theorem dX3_hasRoomFor_11 : decode cX3_hasRoomFor 11 = .ok (.iconst 1, 1) := by decide +kernel
theorem dX3_hasRoomFor_12 : decode cX3_hasRoomFor 12 = .ok (.goto 4, 3) := by decide +kernel
theorem dX3_hasRoomFor_15 : decode cX3_hasRoomFor 15 = .ok (.iconst 0, 1) := by decide +kernel
theorem dX3_hasRoomFor_16 : decode cX3_hasRoomFor 16 = .ok (.ireturn, 1) := by decide +kernel
theorem dX3_get_0 : decode cX3_get 0 = .ok (.iload_n 1, 1) := by decide +kernel
theorem dX3_get_1 : decode cX3_get 1 = .ok (.ifCond .lt 23, 3) := by decide +kernel
theorem dX3_get_4 : decode cX3_get 4 = .ok (.iload_n 1, 1) := by decide +kernel
theorem dX3_get_5 : decode cX3_get 5 = .ok (.bipush 16, 2) := by decide +kernel
theorem dX3_get_7 : decode cX3_get 7 = .ok (.if_icmp .ge 17, 3) := by decide +kernel
theorem dX3_get_10 : decode cX3_get 10 = .ok (.iload_n 2, 1) := by decide +kernel
theorem dX3_get_11 : decode cX3_get 11 = .ok (.ifCond .lt 13, 3) := by decide +kernel
theorem dX3_get_14 : decode cX3_get 14 = .ok (.iload_n 2, 1) := by decide +kernel
theorem dX3_get_15 : decode cX3_get 15 = .ok (.bipush 8, 2) := by decide +kernel
theorem dX3_get_17 : decode cX3_get 17 = .ok (.if_icmp .ge 7, 3) := by decide +kernel
theorem dX3_get_20 : decode cX3_get 20 = .ok (.iconst 1, 1) := by decide +kernel
theorem dX3_get_21 : decode cX3_get 21 = .ok (.goto 4, 3) := by decide +kernel
theorem dX3_get_24 : decode cX3_get 24 = .ok (.iconst 0, 1) := by decide +kernel
theorem dX3_get_25 : decode cX3_get 25 = .ok (.istore_n 3, 1) := by decide +kernel
theorem dX3_get_26 : decode cX3_get 26 = .ok (.iload_n 3, 1) := by decide +kernel
theorem dX3_get_27 : decode cX3_get 27 = .ok (.ifCond .eq 17, 3) := by decide +kernel
theorem dX3_get_30 : decode cX3_get 30 = .ok (.aload_n 0, 1) := by decide +kernel
theorem dX3_get_31 : decode cX3_get 31 = .ok (.getfield 9, 3) := by decide +kernel
theorem dX3_get_34 : decode cX3_get 34 = .ok (.iload_n 1, 1) := by decide +kernel
theorem dX3_get_35 : decode cX3_get 35 = .ok (.bipush 8, 2) := by decide +kernel
theorem dX3_get_37 : decode cX3_get 37 = .ok (.imul, 1) := by decide +kernel
theorem dX3_get_38 : decode cX3_get 38 = .ok (.iload_n 2, 1) := by decide +kernel
theorem dX3_get_39 : decode cX3_get 39 = .ok (.iadd, 1) := by decide +kernel
theorem dX3_get_40 : decode cX3_get 40 = .ok (.iaload, 1) := by decide +kernel
theorem dX3_get_41 : decode cX3_get 41 = .ok (.goto 4, 3) := by decide +kernel
theorem dX3_get_44 : decode cX3_get 44 = .ok (.iconst 0, 1) := by decide +kernel
theorem dX3_get_45 : decode cX3_get 45 = .ok (.ireturn, 1) := by decide +kernel
theorem dX3_put_0 : decode cX3_put 0 = .ok (.iload_n 1, 1) := by decide +kernel
theorem dX3_put_1 : decode cX3_put 1 = .ok (.ifCond .lt 23, 3) := by decide +kernel
theorem dX3_put_4 : decode cX3_put 4 = .ok (.iload_n 1, 1) := by decide +kernel
theorem dX3_put_5 : decode cX3_put 5 = .ok (.bipush 16, 2) := by decide +kernel
theorem dX3_put_7 : decode cX3_put 7 = .ok (.if_icmp .ge 17, 3) := by decide +kernel
theorem dX3_put_10 : decode cX3_put 10 = .ok (.iload_n 2, 1) := by decide +kernel
theorem dX3_put_11 : decode cX3_put 11 = .ok (.ifCond .lt 13, 3) := by decide +kernel
theorem dX3_put_14 : decode cX3_put 14 = .ok (.iload_n 2, 1) := by decide +kernel
theorem dX3_put_15 : decode cX3_put 15 = .ok (.bipush 8, 2) := by decide +kernel
theorem dX3_put_17 : decode cX3_put 17 = .ok (.if_icmp .ge 7, 3) := by decide +kernel
theorem dX3_put_20 : decode cX3_put 20 = .ok (.iconst 1, 1) := by decide +kernel
theorem dX3_put_21 : decode cX3_put 21 = .ok (.goto 4, 3) := by decide +kernel
theorem dX3_put_24 : decode cX3_put 24 = .ok (.iconst 0, 1) := by decide +kernel
theorem dX3_put_25 : decode cX3_put 25 = .ok (.istore 4, 2) := by decide +kernel
theorem dX3_put_27 : decode cX3_put 27 = .ok (.iload 4, 2) := by decide +kernel
theorem dX3_put_29 : decode cX3_put 29 = .ok (.ifCond .eq 15, 3) := by decide +kernel
theorem dX3_put_32 : decode cX3_put 32 = .ok (.aload_n 0, 1) := by decide +kernel
theorem dX3_put_33 : decode cX3_put 33 = .ok (.getfield 9, 3) := by decide +kernel
theorem dX3_put_36 : decode cX3_put 36 = .ok (.iload_n 1, 1) := by decide +kernel
theorem dX3_put_37 : decode cX3_put 37 = .ok (.bipush 8, 2) := by decide +kernel
theorem dX3_put_39 : decode cX3_put 39 = .ok (.imul, 1) := by decide +kernel
theorem dX3_put_40 : decode cX3_put 40 = .ok (.iload_n 2, 1) := by decide +kernel
theorem dX3_put_41 : decode cX3_put 41 = .ok (.iadd, 1) := by decide +kernel
theorem dX3_put_42 : decode cX3_put 42 = .ok (.iload_n 3, 1) := by decide +kernel
theorem dX3_put_43 : decode cX3_put 43 = .ok (.iastore, 1) := by decide +kernel
theorem dX3_put_44 : decode cX3_put 44 = .ok (.return_, 1) := by decide +kernel
theorem dX3_setting_0 : decode cX3_setting 0 = .ok (.iload_n 1, 1) := by decide +kernel
theorem dX3_setting_1 : decode cX3_setting 1 = .ok (.bipush 8, 2) := by decide +kernel
theorem dX3_setting_3 : decode cX3_setting 3 = .ok (.isub, 1) := by decide +kernel
theorem dX3_setting_4 : decode cX3_setting 4 = .ok (.istore_n 2, 1) := by decide +kernel
theorem dX3_setting_5 : decode cX3_setting 5 = .ok (.iload_n 2, 1) := by decide +kernel
theorem dX3_setting_6 : decode cX3_setting 6 = .ok (.ifCond .lt 21, 3) := by decide +kernel
theorem dX3_setting_9 : decode cX3_setting 9 = .ok (.iload_n 2, 1) := by decide +kernel
theorem dX3_setting_10 : decode cX3_setting 10 = .ok (.aload_n 0, 1) := by decide +kernel
theorem dX3_setting_11 : decode cX3_setting 11 = .ok (.getfield 13, 3) := by decide +kernel
theorem dX3_setting_14 : decode cX3_setting 14 = .ok (.arraylength, 1) := by decide +kernel
theorem dX3_setting_15 : decode cX3_setting 15 = .ok (.if_icmp .ge 12, 3) := by decide +kernel
theorem dX3_setting_18 : decode cX3_setting 18 = .ok (.aload_n 0, 1) := by decide +kernel
theorem dX3_setting_19 : decode cX3_setting 19 = .ok (.getfield 13, 3) := by decide +kernel
theorem dX3_setting_22 : decode cX3_setting 22 = .ok (.iload_n 2, 1) := by decide +kernel
theorem dX3_setting_23 : decode cX3_setting 23 = .ok (.iaload, 1) := by decide +kernel
theorem dX3_setting_24 : decode cX3_setting 24 = .ok (.goto 4, 3) := by decide +kernel
theorem dX3_setting_27 : decode cX3_setting 27 = .ok (.iconst 0, 1) := by decide +kernel
theorem dX3_setting_28 : decode cX3_setting 28 = .ok (.ireturn, 1) := by decide +kernel
theorem dX3_putSetting_0 : decode cX3_putSetting 0 = .ok (.iload_n 1, 1) := by decide +kernel
theorem dX3_putSetting_1 : decode cX3_putSetting 1 = .ok (.bipush 8, 2) := by decide +kernel
theorem dX3_putSetting_3 : decode cX3_putSetting 3 = .ok (.isub, 1) := by decide +kernel
theorem dX3_putSetting_4 : decode cX3_putSetting 4 = .ok (.istore_n 3, 1) := by decide +kernel
theorem dX3_putSetting_5 : decode cX3_putSetting 5 = .ok (.iload_n 3, 1) := by decide +kernel
theorem dX3_putSetting_6 : decode cX3_putSetting 6 = .ok (.ifCond .lt 19, 3) := by decide +kernel
theorem dX3_putSetting_9 : decode cX3_putSetting 9 = .ok (.iload_n 3, 1) := by decide +kernel
theorem dX3_putSetting_10 : decode cX3_putSetting 10 = .ok (.aload_n 0, 1) := by decide +kernel
theorem dX3_putSetting_11 : decode cX3_putSetting 11 = .ok (.getfield 13, 3) := by decide +kernel
theorem dX3_putSetting_14 : decode cX3_putSetting 14 = .ok (.arraylength, 1) := by decide +kernel
theorem dX3_putSetting_15 : decode cX3_putSetting 15 = .ok (.if_icmp .ge 10, 3) := by decide +kernel
theorem dX3_putSetting_18 : decode cX3_putSetting 18 = .ok (.aload_n 0, 1) := by decide +kernel
theorem dX3_putSetting_19 : decode cX3_putSetting 19 = .ok (.getfield 13, 3) := by decide +kernel
theorem dX3_putSetting_22 : decode cX3_putSetting 22 = .ok (.iload_n 3, 1) := by decide +kernel
theorem dX3_putSetting_23 : decode cX3_putSetting 23 = .ok (.iload_n 2, 1) := by decide +kernel
theorem dX3_putSetting_24 : decode cX3_putSetting 24 = .ok (.iastore, 1) := by decide +kernel
theorem dX3_putSetting_25 : decode cX3_putSetting 25 = .ok (.return_, 1) := by decide +kernel
theorem dX3_seedNow_0 : decode cX3_seedNow 0 = .ok (.aload_n 0, 1) := by decide +kernel
theorem dX3_seedNow_1 : decode cX3_seedNow 1 = .ok (.getfield 20, 3) := by decide +kernel
theorem dX3_seedNow_4 : decode cX3_seedNow 4 = .ok (.ireturn, 1) := by decide +kernel
theorem dX3_putSeed_0 : decode cX3_putSeed 0 = .ok (.aload_n 0, 1) := by decide +kernel
theorem dX3_putSeed_1 : decode cX3_putSeed 1 = .ok (.iload_n 1, 1) := by decide +kernel
theorem dX3_putSeed_2 : decode cX3_putSeed 2 = .ok (.putfield 20, 3) := by decide +kernel
theorem dX3_putSeed_5 : decode cX3_putSeed 5 = .ok (.return_, 1) := by decide +kernel
set_option maxRecDepth 20000 in
theorem ggX3_add_X3_hasRoomFor : GoodIn wsX3_add wsX3_hasRoomFor := goodIn_r _ [6, 1, 12, 13, 14, 15] (by decide +kernel) (by decide +kernel)
set_option maxRecDepth 20000 in
theorem gX3_add_X3_hasRoomFor : GoodIn wsX3_add (wsV RX3 29 RX3 yX3_hasRoomFor wsX3_hasRoomFor) := goodIn_app (goodIn_of _ (by decide +kernel)) ggX3_add_X3_hasRoomFor
set_option maxRecDepth 20000 in
theorem ggX3_add_X3_put : GoodIn wsX3_add wsX3_put := goodIn_r _ [10, 11, 12, 13, 14, 15] (by decide +kernel) (by decide +kernel)
set_option maxRecDepth 20000 in
theorem gX3_add_X3_put : GoodIn wsX3_add (wsV RX3 33 RX3 yX3_put wsX3_put) := goodIn_app (goodIn_of _ (by decide +kernel)) ggX3_add_X3_put
theorem dX3_add_0 : decode cX3_add 0 = .ok (.aload_n 0, 1) := by decide +kernel
theorem dX3_add_1 : decode cX3_add 1 = .ok (.iconst 1, 1) := by decide +kernel
theorem dX3_add_2 : decode cX3_add 2 = .ok (.invokevirtual 29, 3) := by decide +kernel
theorem dX3_add_5 : decode cX3_add 5 = .ok (.ifCond .ne 4, 3) := by decide +kernel
theorem dX3_add_8 : decode cX3_add 8 = .ok (.return_, 1) := by decide +kernel
theorem dX3_add_9 : decode cX3_add 9 = .ok (.aload_n 0, 1) := by decide +kernel
theorem dX3_add_10 : decode cX3_add 10 = .ok (.aload_n 0, 1) := by decide +kernel
theorem dX3_add_11 : decode cX3_add 11 = .ok (.getfield 16, 3) := by decide +kernel
theorem dX3_add_14 : decode cX3_add 14 = .ok (.iconst 0, 1) := by decide +kernel
theorem dX3_add_15 : decode cX3_add 15 = .ok (.iload_n 1, 1) := by decide +kernel
theorem dX3_add_16 : decode cX3_add 16 = .ok (.invokevirtual 33, 3) := by decide +kernel
theorem dX3_add_19 : decode cX3_add 19 = .ok (.aload_n 0, 1) := by decide +kernel
theorem dX3_add_20 : decode cX3_add 20 = .ok (.aload_n 0, 1) := by decide +kernel
theorem dX3_add_21 : decode cX3_add 21 = .ok (.getfield 16, 3) := by decide +kernel
theorem dX3_add_24 : decode cX3_add 24 = .ok (.iconst 1, 1) := by decide +kernel
theorem dX3_add_25 : decode cX3_add 25 = .ok (.iload_n 2, 1) := by decide +kernel
theorem dX3_add_26 : decode cX3_add 26 = .ok (.invokevirtual 33, 3) := by decide +kernel
theorem dX3_add_29 : decode cX3_add 29 = .ok (.aload_n 0, 1) := by decide +kernel
theorem dX3_add_30 : decode cX3_add 30 = .ok (.aload_n 0, 1) := by decide +kernel
theorem dX3_add_31 : decode cX3_add 31 = .ok (.getfield 16, 3) := by decide +kernel
theorem dX3_add_34 : decode cX3_add 34 = .ok (.iconst 2, 1) := by decide +kernel
theorem dX3_add_35 : decode cX3_add 35 = .ok (.iload_n 3, 1) := by decide +kernel
theorem dX3_add_36 : decode cX3_add 36 = .ok (.invokevirtual 33, 3) := by decide +kernel
theorem dX3_add_39 : decode cX3_add 39 = .ok (.aload_n 0, 1) := by decide +kernel
theorem dX3_add_40 : decode cX3_add 40 = .ok (.aload_n 0, 1) := by decide +kernel
theorem dX3_add_41 : decode cX3_add 41 = .ok (.getfield 16, 3) := by decide +kernel
theorem dX3_add_44 : decode cX3_add 44 = .ok (.iconst 3, 1) := by decide +kernel
theorem dX3_add_45 : decode cX3_add 45 = .ok (.iload 4, 2) := by decide +kernel
theorem dX3_add_47 : decode cX3_add 47 = .ok (.invokevirtual 33, 3) := by decide +kernel
theorem dX3_add_50 : decode cX3_add 50 = .ok (.aload_n 0, 1) := by decide +kernel
theorem dX3_add_51 : decode cX3_add 51 = .ok (.aload_n 0, 1) := by decide +kernel
theorem dX3_add_52 : decode cX3_add 52 = .ok (.getfield 16, 3) := by decide +kernel
theorem dX3_add_55 : decode cX3_add 55 = .ok (.iconst 4, 1) := by decide +kernel
theorem dX3_add_56 : decode cX3_add 56 = .ok (.iload 5, 2) := by decide +kernel
theorem dX3_add_58 : decode cX3_add 58 = .ok (.invokevirtual 33, 3) := by decide +kernel
theorem dX3_add_61 : decode cX3_add 61 = .ok (.aload_n 0, 1) := by decide +kernel
theorem dX3_add_62 : decode cX3_add 62 = .ok (.aload_n 0, 1) := by decide +kernel
theorem dX3_add_63 : decode cX3_add 63 = .ok (.getfield 16, 3) := by decide +kernel
theorem dX3_add_66 : decode cX3_add 66 = .ok (.iconst 5, 1) := by decide +kernel
theorem dX3_add_67 : decode cX3_add 67 = .ok (.iload 6, 2) := by decide +kernel
theorem dX3_add_69 : decode cX3_add 69 = .ok (.invokevirtual 33, 3) := by decide +kernel
theorem dX3_add_72 : decode cX3_add 72 = .ok (.aload_n 0, 1) := by decide +kernel
theorem dX3_add_73 : decode cX3_add 73 = .ok (.aload_n 0, 1) := by decide +kernel
theorem dX3_add_74 : decode cX3_add 74 = .ok (.getfield 16, 3) := by decide +kernel
theorem dX3_add_77 : decode cX3_add 77 = .ok (.bipush 6, 2) := by decide +kernel
theorem dX3_add_79 : decode cX3_add 79 = .ok (.iconst 0, 1) := by decide +kernel
theorem dX3_add_80 : decode cX3_add 80 = .ok (.invokevirtual 33, 3) := by decide +kernel
theorem dX3_add_83 : decode cX3_add 83 = .ok (.aload_n 0, 1) := by decide +kernel
theorem dX3_add_84 : decode cX3_add 84 = .ok (.aload_n 0, 1) := by decide +kernel
theorem dX3_add_85 : decode cX3_add 85 = .ok (.getfield 16, 3) := by decide +kernel
theorem dX3_add_88 : decode cX3_add 88 = .ok (.bipush 7, 2) := by decide +kernel
theorem dX3_add_90 : decode cX3_add 90 = .ok (.iconst 0, 1) := by decide +kernel
theorem dX3_add_91 : decode cX3_add 91 = .ok (.invokevirtual 33, 3) := by decide +kernel
theorem dX3_add_94 : decode cX3_add 94 = .ok (.aload_n 0, 1) := by decide +kernel
theorem dX3_add_95 : decode cX3_add 95 = .ok (.dup, 1) := by decide +kernel
theorem dX3_add_96 : decode cX3_add 96 = .ok (.getfield 16, 3) := by decide +kernel
theorem dX3_add_99 : decode cX3_add 99 = .ok (.iconst 1, 1) := by decide +kernel
theorem dX3_add_100 : decode cX3_add 100 = .ok (.iadd, 1) := by decide +kernel
theorem dX3_add_101 : decode cX3_add 101 = .ok (.putfield 16, 3) := by decide +kernel
theorem dX3_add_104 : decode cX3_add 104 = .ok (.return_, 1) := by decide +kernel
theorem dX3_dropLast_0 : decode cX3_dropLast 0 = .ok (.aload_n 0, 1) := by decide +kernel
theorem dX3_dropLast_1 : decode cX3_dropLast 1 = .ok (.getfield 16, 3) := by decide +kernel
theorem dX3_dropLast_4 : decode cX3_dropLast 4 = .ok (.ifCond .le 13, 3) := by decide +kernel
theorem dX3_dropLast_7 : decode cX3_dropLast 7 = .ok (.aload_n 0, 1) := by decide +kernel
theorem dX3_dropLast_8 : decode cX3_dropLast 8 = .ok (.dup, 1) := by decide +kernel
theorem dX3_dropLast_9 : decode cX3_dropLast 9 = .ok (.getfield 16, 3) := by decide +kernel
theorem dX3_dropLast_12 : decode cX3_dropLast 12 = .ok (.iconst 1, 1) := by decide +kernel
theorem dX3_dropLast_13 : decode cX3_dropLast 13 = .ok (.isub, 1) := by decide +kernel
theorem dX3_dropLast_14 : decode cX3_dropLast 14 = .ok (.putfield 16, 3) := by decide +kernel
theorem dX3_dropLast_17 : decode cX3_dropLast 17 = .ok (.return_, 1) := by decide +kernel
theorem dX3_becomeLike_0 : decode cX3_becomeLike 0 = .ok (.aload_n 1, 1) := by decide +kernel
theorem dX3_becomeLike_1 : decode cX3_becomeLike 1 = .ok (.getfield 9, 3) := by decide +kernel
theorem dX3_becomeLike_4 : decode cX3_becomeLike 4 = .ok (.iconst 0, 1) := by decide +kernel
theorem dX3_becomeLike_5 : decode cX3_becomeLike 5 = .ok (.aload_n 0, 1) := by decide +kernel
theorem dX3_becomeLike_6 : decode cX3_becomeLike 6 = .ok (.getfield 9, 3) := by decide +kernel
theorem dX3_becomeLike_9 : decode cX3_becomeLike 9 = .ok (.iconst 0, 1) := by decide +kernel
theorem dX3_becomeLike_10 : decode cX3_becomeLike 10 = .ok (.aload_n 0, 1) := by decide +kernel
theorem dX3_becomeLike_11 : decode cX3_becomeLike 11 = .ok (.getfield 9, 3) := by decide +kernel
theorem dX3_becomeLike_14 : decode cX3_becomeLike 14 = .ok (.arraylength, 1) := by decide +kernel
theorem dX3_becomeLike_15 : decode cX3_becomeLike 15 = .ok (.invokestatic 37, 3) := by decide +kernel
theorem dX3_becomeLike_18 : decode cX3_becomeLike 18 = .ok (.aload_n 1, 1) := by decide +kernel
theorem dX3_becomeLike_19 : decode cX3_becomeLike 19 = .ok (.getfield 13, 3) := by decide +kernel
theorem dX3_becomeLike_22 : decode cX3_becomeLike 22 = .ok (.iconst 0, 1) := by decide +kernel
theorem dX3_becomeLike_23 : decode cX3_becomeLike 23 = .ok (.aload_n 0, 1) := by decide +kernel
theorem dX3_becomeLike_24 : decode cX3_becomeLike 24 = .ok (.getfield 13, 3) := by decide +kernel
theorem dX3_becomeLike_27 : decode cX3_becomeLike 27 = .ok (.iconst 0, 1) := by decide +kernel
theorem dX3_becomeLike_28 : decode cX3_becomeLike 28 = .ok (.aload_n 0, 1) := by decide +kernel
theorem dX3_becomeLike_29 : decode cX3_becomeLike 29 = .ok (.getfield 13, 3) := by decide +kernel
theorem dX3_becomeLike_32 : decode cX3_becomeLike 32 = .ok (.arraylength, 1) := by decide +kernel
theorem dX3_becomeLike_33 : decode cX3_becomeLike 33 = .ok (.invokestatic 37, 3) := by decide +kernel
theorem dX3_becomeLike_36 : decode cX3_becomeLike 36 = .ok (.aload_n 0, 1) := by decide +kernel
theorem dX3_becomeLike_37 : decode cX3_becomeLike 37 = .ok (.aload_n 1, 1) := by decide +kernel
theorem dX3_becomeLike_38 : decode cX3_becomeLike 38 = .ok (.getfield 16, 3) := by decide +kernel
theorem dX3_becomeLike_41 : decode cX3_becomeLike 41 = .ok (.putfield 16, 3) := by decide +kernel
theorem dX3_becomeLike_44 : decode cX3_becomeLike 44 = .ok (.aload_n 0, 1) := by decide +kernel
theorem dX3_becomeLike_45 : decode cX3_becomeLike 45 = .ok (.aload_n 1, 1) := by decide +kernel
theorem dX3_becomeLike_46 : decode cX3_becomeLike 46 = .ok (.getfield 20, 3) := by decide +kernel
theorem dX3_becomeLike_49 : decode cX3_becomeLike 49 = .ok (.putfield 20, 3) := by decide +kernel
theorem dX3_becomeLike_52 : decode cX3_becomeLike 52 = .ok (.return_, 1) := by decide +kernel
set_option maxRecDepth 20000 in
theorem ggX3_goOtherWay_X3_exchange : GoodIn wsX3_goOtherWay wsX3_exchange := goodIn_r _ [6, 7, 8, 9, 5, 10, 11, 12, 13, 14, 15, 16, 17, 18, 19] (by decide +kernel) (by decide +kernel)
set_option maxRecDepth 20000 in
theorem gX3_goOtherWay_X3_exchange : GoodIn wsX3_goOtherWay (wsV RX3 43 RX3 yX3_exchange wsX3_exchange) := goodIn_app (goodIn_of _ (by decide +kernel)) ggX3_goOtherWay_X3_exchange
set_option maxRecDepth 20000 in
theorem ggX3_goOtherWay_X3_get : GoodIn wsX3_goOtherWay wsX3_get := goodIn_r _ [10, 11, 16, 17, 18, 19] (by decide +kernel) (by decide +kernel)
set_option maxRecDepth 20000 in
theorem gX3_goOtherWay_X3_get : GoodIn wsX3_goOtherWay (wsV RX3 47 RX3 yX3_get wsX3_get) := goodIn_app (goodIn_of _ (by decide +kernel)) ggX3_goOtherWay_X3_get
set_option maxRecDepth 20000 in
theorem ggX3_goOtherWay_X3_put : GoodIn wsX3_goOtherWay wsX3_put := goodIn_r _ [15, 11, 16, 17, 18, 19] (by decide +kernel) (by decide +kernel)
set_option maxRecDepth 20000 in
theorem gX3_goOtherWay_X3_put : GoodIn wsX3_goOtherWay (wsV RX3 33 RX3 yX3_put wsX3_put) := goodIn_app (goodIn_of _ (by decide +kernel)) ggX3_goOtherWay_X3_put
theorem dX3_goOtherWay_0 : decode cX3_goOtherWay 0 = .ok (.iconst 0, 1) := by decide +kernel
theorem dX3_goOtherWay_1 : decode cX3_goOtherWay 1 = .ok (.istore_n 1, 1) := by decide +kernel
theorem dX3_goOtherWay_2 : decode cX3_goOtherWay 2 = .ok (.iload_n 1, 1) := by decide +kernel
theorem dX3_goOtherWay_3 : decode cX3_goOtherWay 3 = .ok (.aload_n 0, 1) := by decide +kernel
theorem dX3_goOtherWay_4 : decode cX3_goOtherWay 4 = .ok (.getfield 16, 3) := by decide +kernel
theorem dX3_goOtherWay_7 : decode cX3_goOtherWay 7 = .ok (.iconst 1, 1) := by decide +kernel
theorem dX3_goOtherWay_8 : decode cX3_goOtherWay 8 = .ok (.isub, 1) := by decide +kernel
theorem dX3_goOtherWay_9 : decode cX3_goOtherWay 9 = .ok (.iload_n 1, 1) := by decide +kernel
theorem dX3_goOtherWay_10 : decode cX3_goOtherWay 10 = .ok (.isub, 1) := by decide +kernel
theorem dX3_goOtherWay_11 : decode cX3_goOtherWay 11 = .ok (.if_icmp .ge 38, 3) := by decide +kernel
theorem dX3_goOtherWay_14 : decode cX3_goOtherWay 14 = .ok (.iconst 0, 1) := by decide +kernel
theorem dX3_goOtherWay_15 : decode cX3_goOtherWay 15 = .ok (.istore_n 2, 1) := by decide +kernel
theorem dX3_goOtherWay_16 : decode cX3_goOtherWay 16 = .ok (.iload_n 2, 1) := by decide +kernel
theorem dX3_goOtherWay_17 : decode cX3_goOtherWay 17 = .ok (.bipush 8, 2) := by decide +kernel
theorem dX3_goOtherWay_19 : decode cX3_goOtherWay 19 = .ok (.if_icmp .ge 24, 3) := by decide +kernel
theorem dX3_goOtherWay_22 : decode cX3_goOtherWay 22 = .ok (.aload_n 0, 1) := by decide +kernel
theorem dX3_goOtherWay_23 : decode cX3_goOtherWay 23 = .ok (.iload_n 1, 1) := by decide +kernel
theorem dX3_goOtherWay_24 : decode cX3_goOtherWay 24 = .ok (.iload_n 2, 1) := by decide +kernel
theorem dX3_goOtherWay_25 : decode cX3_goOtherWay 25 = .ok (.aload_n 0, 1) := by decide +kernel
theorem dX3_goOtherWay_26 : decode cX3_goOtherWay 26 = .ok (.getfield 16, 3) := by decide +kernel
theorem dX3_goOtherWay_29 : decode cX3_goOtherWay 29 = .ok (.iconst 1, 1) := by decide +kernel
theorem dX3_goOtherWay_30 : decode cX3_goOtherWay 30 = .ok (.isub, 1) := by decide +kernel
theorem dX3_goOtherWay_31 : decode cX3_goOtherWay 31 = .ok (.iload_n 1, 1) := by decide +kernel
theorem dX3_goOtherWay_32 : decode cX3_goOtherWay 32 = .ok (.isub, 1) := by decide +kernel
theorem dX3_goOtherWay_33 : decode cX3_goOtherWay 33 = .ok (.iload_n 2, 1) := by decide +kernel
theorem dX3_goOtherWay_34 : decode cX3_goOtherWay 34 = .ok (.invokevirtual 43, 3) := by decide +kernel
theorem dX3_goOtherWay_37 : decode cX3_goOtherWay 37 = .ok (.iinc 2 1, 3) := by decide +kernel
theorem dX3_goOtherWay_40 : decode cX3_goOtherWay 40 = .ok (.goto (-24), 3) := by decide +kernel
theorem dX3_goOtherWay_43 : decode cX3_goOtherWay 43 = .ok (.iinc 1 1, 3) := by decide +kernel
theorem dX3_goOtherWay_46 : decode cX3_goOtherWay 46 = .ok (.goto (-44), 3) := by decide +kernel
theorem dX3_goOtherWay_49 : decode cX3_goOtherWay 49 = .ok (.iconst 0, 1) := by decide +kernel
theorem dX3_goOtherWay_50 : decode cX3_goOtherWay 50 = .ok (.istore_n 1, 1) := by decide +kernel
theorem dX3_goOtherWay_51 : decode cX3_goOtherWay 51 = .ok (.iload_n 1, 1) := by decide +kernel
theorem dX3_goOtherWay_52 : decode cX3_goOtherWay 52 = .ok (.aload_n 0, 1) := by decide +kernel
theorem dX3_goOtherWay_53 : decode cX3_goOtherWay 53 = .ok (.getfield 16, 3) := by decide +kernel
theorem dX3_goOtherWay_56 : decode cX3_goOtherWay 56 = .ok (.if_icmp .ge 41, 3) := by decide +kernel
theorem dX3_goOtherWay_59 : decode cX3_goOtherWay 59 = .ok (.aload_n 0, 1) := by decide +kernel
theorem dX3_goOtherWay_60 : decode cX3_goOtherWay 60 = .ok (.iload_n 1, 1) := by decide +kernel
theorem dX3_goOtherWay_61 : decode cX3_goOtherWay 61 = .ok (.iconst 2, 1) := by decide +kernel
theorem dX3_goOtherWay_62 : decode cX3_goOtherWay 62 = .ok (.iload_n 1, 1) := by decide +kernel
theorem dX3_goOtherWay_63 : decode cX3_goOtherWay 63 = .ok (.iconst 3, 1) := by decide +kernel
theorem dX3_goOtherWay_64 : decode cX3_goOtherWay 64 = .ok (.invokevirtual 43, 3) := by decide +kernel
theorem dX3_goOtherWay_67 : decode cX3_goOtherWay 67 = .ok (.aload_n 0, 1) := by decide +kernel
theorem dX3_goOtherWay_68 : decode cX3_goOtherWay 68 = .ok (.iload_n 1, 1) := by decide +kernel
theorem dX3_goOtherWay_69 : decode cX3_goOtherWay 69 = .ok (.iconst 4, 1) := by decide +kernel
theorem dX3_goOtherWay_70 : decode cX3_goOtherWay 70 = .ok (.iload_n 1, 1) := by decide +kernel
theorem dX3_goOtherWay_71 : decode cX3_goOtherWay 71 = .ok (.iconst 5, 1) := by decide +kernel
theorem dX3_goOtherWay_72 : decode cX3_goOtherWay 72 = .ok (.invokevirtual 43, 3) := by decide +kernel
theorem dX3_goOtherWay_75 : decode cX3_goOtherWay 75 = .ok (.aload_n 0, 1) := by decide +kernel
theorem dX3_goOtherWay_76 : decode cX3_goOtherWay 76 = .ok (.iload_n 1, 1) := by decide +kernel
theorem dX3_goOtherWay_77 : decode cX3_goOtherWay 77 = .ok (.bipush 7, 2) := by decide +kernel
theorem dX3_goOtherWay_79 : decode cX3_goOtherWay 79 = .ok (.iconst 1, 1) := by decide +kernel
theorem dX3_goOtherWay_80 : decode cX3_goOtherWay 80 = .ok (.aload_n 0, 1) := by decide +kernel
theorem dX3_goOtherWay_81 : decode cX3_goOtherWay 81 = .ok (.iload_n 1, 1) := by decide +kernel
theorem dX3_goOtherWay_82 : decode cX3_goOtherWay 82 = .ok (.bipush 7, 2) := by decide +kernel
theorem dX3_goOtherWay_84 : decode cX3_goOtherWay 84 = .ok (.invokevirtual 47, 3) := by decide +kernel
theorem dX3_goOtherWay_87 : decode cX3_goOtherWay 87 = .ok (.isub, 1) := by decide +kernel
theorem dX3_goOtherWay_88 : decode cX3_goOtherWay 88 = .ok (.invokevirtual 33, 3) := by decide +kernel
theorem dX3_goOtherWay_91 : decode cX3_goOtherWay 91 = .ok (.iinc 1 1, 3) := by decide +kernel
theorem dX3_goOtherWay_94 : decode cX3_goOtherWay 94 = .ok (.goto (-43), 3) := by decide +kernel
theorem dX3_goOtherWay_97 : decode cX3_goOtherWay 97 = .ok (.return_, 1) := by decide +kernel
set_option maxRecDepth 20000 in
theorem ggX3_exchange_X3_get : GoodIn wsX3_exchange wsX3_get := goodIn_r _ [5, 6, 11, 12, 13, 14] (by decide +kernel) (by decide +kernel)
set_option maxRecDepth 20000 in
theorem gX3_exchange_X3_get : GoodIn wsX3_exchange (wsV RX3 47 RX3 yX3_get wsX3_get) := goodIn_app (goodIn_of _ (by decide +kernel)) ggX3_exchange_X3_get
set_option maxRecDepth 20000 in
theorem ggX3_exchange_X3_put : GoodIn wsX3_exchange wsX3_put := goodIn_r _ [10, 6, 11, 12, 13, 14] (by decide +kernel) (by decide +kernel)
set_option maxRecDepth 20000 in
theorem gX3_exchange_X3_put : GoodIn wsX3_exchange (wsV RX3 33 RX3 yX3_put wsX3_put) := goodIn_app (goodIn_of _ (by decide +kernel)) ggX3_exchange_X3_put
theorem dX3_exchange_0 : decode cX3_exchange 0 = .ok (.aload_n 0, 1) := by decide +kernel
theorem dX3_exchange_1 : decode cX3_exchange 1 = .ok (.iload_n 1, 1) := by decide +kernel
theorem dX3_exchange_2 : decode cX3_exchange 2 = .ok (.iload_n 2, 1) := by decide +kernel
theorem dX3_exchange_3 : decode cX3_exchange 3 = .ok (.invokevirtual 47, 3) := by decide +kernel
theorem dX3_exchange_6 : decode cX3_exchange 6 = .ok (.istore 5, 2) := by decide +kernel
theorem dX3_exchange_8 : decode cX3_exchange 8 = .ok (.aload_n 0, 1) := by decide +kernel
theorem dX3_exchange_9 : decode cX3_exchange 9 = .ok (.iload_n 1, 1) := by decide +kernel
theorem dX3_exchange_10 : decode cX3_exchange 10 = .ok (.iload_n 2, 1) := by decide +kernel
theorem dX3_exchange_11 : decode cX3_exchange 11 = .ok (.aload_n 0, 1) := by decide +kernel
theorem dX3_exchange_12 : decode cX3_exchange 12 = .ok (.iload_n 3, 1) := by decide +kernel
theorem dX3_exchange_13 : decode cX3_exchange 13 = .ok (.iload 4, 2) := by decide +kernel
theorem dX3_exchange_15 : decode cX3_exchange 15 = .ok (.invokevirtual 47, 3) := by decide +kernel
theorem dX3_exchange_18 : decode cX3_exchange 18 = .ok (.invokevirtual 33, 3) := by decide +kernel
theorem dX3_exchange_21 : decode cX3_exchange 21 = .ok (.aload_n 0, 1) := by decide +kernel
theorem dX3_exchange_22 : decode cX3_exchange 22 = .ok (.iload_n 3, 1) := by decide +kernel
theorem dX3_exchange_23 : decode cX3_exchange 23 = .ok (.iload 4, 2) := by decide +kernel
theorem dX3_exchange_25 : decode cX3_exchange 25 = .ok (.iload 5, 2) := by decide +kernel
theorem dX3_exchange_27 : decode cX3_exchange 27 = .ok (.invokevirtual 33, 3) := by decide +kernel
theorem dX3_exchange_30 : decode cX3_exchange 30 = .ok (.return_, 1) := by decide +kernel
set_option maxRecDepth 20000 in
theorem ggX3_yardsOf_X3_get : GoodIn wsX3_yardsOf wsX3_get := goodIn_r _ [5, 6, 7, 8, 9, 10] (by decide +kernel) (by decide +kernel)
set_option maxRecDepth 20000 in
theorem gX3_yardsOf_X3_get : GoodIn wsX3_yardsOf (wsV RX3 47 RX3 yX3_get wsX3_get) := goodIn_app (goodIn_of _ (by decide +kernel)) ggX3_yardsOf_X3_get
theorem dX3_yardsOf_0 : decode cX3_yardsOf 0 = .ok (.aload_n 0, 1) := by decide +kernel
theorem dX3_yardsOf_1 : decode cX3_yardsOf 1 = .ok (.iload_n 1, 1) := by decide +kernel
theorem dX3_yardsOf_2 : decode cX3_yardsOf 2 = .ok (.iconst 4, 1) := by decide +kernel
theorem dX3_yardsOf_3 : decode cX3_yardsOf 3 = .ok (.invokevirtual 47, 3) := by decide +kernel
theorem dX3_yardsOf_6 : decode cX3_yardsOf 6 = .ok (.aload_n 0, 1) := by decide +kernel
theorem dX3_yardsOf_7 : decode cX3_yardsOf 7 = .ok (.iload_n 1, 1) := by decide +kernel
theorem dX3_yardsOf_8 : decode cX3_yardsOf 8 = .ok (.iconst 5, 1) := by decide +kernel
theorem dX3_yardsOf_9 : decode cX3_yardsOf 9 = .ok (.invokevirtual 47, 3) := by decide +kernel
theorem dX3_yardsOf_12 : decode cX3_yardsOf 12 = .ok (.iadd, 1) := by decide +kernel
theorem dX3_yardsOf_13 : decode cX3_yardsOf 13 = .ok (.ireturn, 1) := by decide +kernel
set_option maxRecDepth 20000 in
theorem ggX3_bookedOf_X3_get : GoodIn wsX3_bookedOf wsX3_get := goodIn_r _ [5, 6, 7, 8, 9, 10] (by decide +kernel) (by decide +kernel)
set_option maxRecDepth 20000 in
theorem gX3_bookedOf_X3_get : GoodIn wsX3_bookedOf (wsV RX3 47 RX3 yX3_get wsX3_get) := goodIn_app (goodIn_of _ (by decide +kernel)) ggX3_bookedOf_X3_get
theorem dX3_bookedOf_0 : decode cX3_bookedOf 0 = .ok (.aload_n 0, 1) := by decide +kernel
theorem dX3_bookedOf_1 : decode cX3_bookedOf 1 = .ok (.iload_n 1, 1) := by decide +kernel
theorem dX3_bookedOf_2 : decode cX3_bookedOf 2 = .ok (.iconst 2, 1) := by decide +kernel
theorem dX3_bookedOf_3 : decode cX3_bookedOf 3 = .ok (.invokevirtual 47, 3) := by decide +kernel
theorem dX3_bookedOf_6 : decode cX3_bookedOf 6 = .ok (.aload_n 0, 1) := by decide +kernel
theorem dX3_bookedOf_7 : decode cX3_bookedOf 7 = .ok (.iload_n 1, 1) := by decide +kernel
theorem dX3_bookedOf_8 : decode cX3_bookedOf 8 = .ok (.iconst 3, 1) := by decide +kernel
theorem dX3_bookedOf_9 : decode cX3_bookedOf 9 = .ok (.invokevirtual 47, 3) := by decide +kernel
theorem dX3_bookedOf_12 : decode cX3_bookedOf 12 = .ok (.isub, 1) := by decide +kernel
theorem dX3_bookedOf_13 : decode cX3_bookedOf 13 = .ok (.ireturn, 1) := by decide +kernel
set_option maxRecDepth 20000 in
theorem ggX3_riseOf_X3_bookedOf : GoodIn wsX3_riseOf wsX3_bookedOf := goodIn_r _ [5, 6, 7, 8, 4, 9, 10, 36, 37, 38, 39] (by decide +kernel) (by decide +kernel)
set_option maxRecDepth 20000 in
theorem gX3_riseOf_X3_bookedOf : GoodIn wsX3_riseOf (wsV RX3 51 RX3 yX3_bookedOf wsX3_bookedOf) := goodIn_app (goodIn_of _ (by decide +kernel)) ggX3_riseOf_X3_bookedOf
set_option maxRecDepth 20000 in
theorem ggX3_riseOf_X3_errorOf : GoodIn wsX3_riseOf wsX3_errorOf := goodIn_r _ [14, 6, 7, 8, 4, 9, 10, 15, 16, 17, 18, 19, 20, 21, 22, 23, 24, 25, 26, 27, 28, 29, 30, 31, 32, 33, 34, 35, 36, 37, 38, 39] (by decide +kernel) (by decide +kernel)
set_option maxRecDepth 20000 in
theorem gX3_riseOf_X3_errorOf : GoodIn wsX3_riseOf (wsV RX3 55 RX3 yX3_errorOf wsX3_errorOf) := goodIn_app (goodIn_of _ (by decide +kernel)) ggX3_riseOf_X3_errorOf
theorem dX3_riseOf_0 : decode cX3_riseOf 0 = .ok (.aload_n 0, 1) := by decide +kernel
theorem dX3_riseOf_1 : decode cX3_riseOf 1 = .ok (.iload_n 1, 1) := by decide +kernel
theorem dX3_riseOf_2 : decode cX3_riseOf 2 = .ok (.invokevirtual 51, 3) := by decide +kernel
theorem dX3_riseOf_5 : decode cX3_riseOf 5 = .ok (.istore_n 2, 1) := by decide +kernel
theorem dX3_riseOf_6 : decode cX3_riseOf 6 = .ok (.iload_n 2, 1) := by decide +kernel
theorem dX3_riseOf_7 : decode cX3_riseOf 7 = .ok (.aload_n 0, 1) := by decide +kernel
theorem dX3_riseOf_8 : decode cX3_riseOf 8 = .ok (.iload_n 1, 1) := by decide +kernel
theorem dX3_riseOf_9 : decode cX3_riseOf 9 = .ok (.iload_n 2, 1) := by decide +kernel
theorem dX3_riseOf_10 : decode cX3_riseOf 10 = .ok (.invokevirtual 55, 3) := by decide +kernel
theorem dX3_riseOf_13 : decode cX3_riseOf 13 = .ok (.isub, 1) := by decide +kernel
theorem dX3_riseOf_14 : decode cX3_riseOf 14 = .ok (.ireturn, 1) := by decide +kernel
set_option maxRecDepth 20000 in
theorem ggX3_errorOf_X3_get : GoodIn wsX3_errorOf wsX3_get := goodIn_r _ [5, 6, 28, 29, 30, 31] (by decide +kernel) (by decide +kernel)
set_option maxRecDepth 20000 in
theorem gX3_errorOf_X3_get : GoodIn wsX3_errorOf (wsV RX3 47 RX3 yX3_get wsX3_get) := goodIn_app (goodIn_of _ (by decide +kernel)) ggX3_errorOf_X3_get
set_option maxRecDepth 20000 in
theorem ggX3_errorOf_X3_unevenError : GoodIn wsX3_errorOf wsX3_unevenError := goodIn_r _ [10, 11, 12, 13, 4, 14, 15, 1, 2, 3, 5, 6, 28, 29, 30, 31] (by decide +kernel) (by decide +kernel)
set_option maxRecDepth 20000 in
theorem gX3_errorOf_X3_unevenError : GoodIn wsX3_errorOf (wsV RX3 58 RX3 yX3_unevenError wsX3_unevenError) := goodIn_app (goodIn_of _ (by decide +kernel)) ggX3_errorOf_X3_unevenError
set_option maxRecDepth 20000 in
theorem ggX3_errorOf_X3_sunkBy : GoodIn wsX3_errorOf wsX3_sunkBy := goodIn_r _ [19, 1, 2, 3, 4, 5, 6, 28, 29, 30, 31] (by decide +kernel) (by decide +kernel)
set_option maxRecDepth 20000 in
theorem gX3_errorOf_X3_sunkBy : GoodIn wsX3_errorOf (wsV RX3 61 RX3 yX3_sunkBy wsX3_sunkBy) := goodIn_app (goodIn_of _ (by decide +kernel)) ggX3_errorOf_X3_sunkBy
set_option maxRecDepth 20000 in
theorem ggX3_errorOf_J6_signum_0f7a4 : GoodIn wsX3_errorOf wsJ6_signum_0f7a4 := goodIn_r _ [23] (by decide +kernel) (by decide +kernel)
set_option maxRecDepth 20000 in
theorem gX3_errorOf_J6_signum_0f7a4 : GoodIn wsX3_errorOf (va_wsS RX3 64 yJ6_signum_0f7a4 wsJ6_signum_0f7a4) := goodIn_app (goodIn_of _ (by decide +kernel)) ggX3_errorOf_J6_signum_0f7a4
set_option maxRecDepth 20000 in
theorem ggX3_errorOf_X3_yardsOf : GoodIn wsX3_errorOf wsX3_yardsOf := goodIn_r _ [27, 1, 2, 3, 4, 5, 6, 28, 29, 30, 31] (by decide +kernel) (by decide +kernel)
set_option maxRecDepth 20000 in
theorem gX3_errorOf_X3_yardsOf : GoodIn wsX3_errorOf (wsV RX3 69 RX3 yX3_yardsOf wsX3_yardsOf) := goodIn_app (goodIn_of _ (by decide +kernel)) ggX3_errorOf_X3_yardsOf
theorem dX3_errorOf_0 : decode cX3_errorOf 0 = .ok (.aload_n 0, 1) := by decide +kernel
theorem dX3_errorOf_1 : decode cX3_errorOf 1 = .ok (.iload_n 1, 1) := by decide +kernel
theorem dX3_errorOf_2 : decode cX3_errorOf 2 = .ok (.iconst 0, 1) := by decide +kernel
theorem dX3_errorOf_3 : decode cX3_errorOf 3 = .ok (.invokevirtual 47, 3) := by decide +kernel
theorem dX3_errorOf_6 : decode cX3_errorOf 6 = .ok (.tableswitch 118 1 6 #[38, 52, 44, 78, 52, 90], 38) := by decide +kernel
theorem dX3_errorOf_44 : decode cX3_errorOf 44 = .ok (.aload_n 0, 1) := by decide +kernel
theorem dX3_errorOf_45 : decode cX3_errorOf 45 = .ok (.iload_n 1, 1) := by decide +kernel
theorem dX3_errorOf_46 : decode cX3_errorOf 46 = .ok (.invokevirtual 58, 3) := by decide +kernel
theorem dX3_errorOf_49 : decode cX3_errorOf 49 = .ok (.ireturn, 1) := by decide +kernel
theorem dX3_errorOf_50 : decode cX3_errorOf 50 = .ok (.iconst 2, 1) := by decide +kernel
theorem dX3_errorOf_51 : decode cX3_errorOf 51 = .ok (.aload_n 0, 1) := by decide +kernel
theorem dX3_errorOf_52 : decode cX3_errorOf 52 = .ok (.iload_n 1, 1) := by decide +kernel
theorem dX3_errorOf_53 : decode cX3_errorOf 53 = .ok (.invokevirtual 58, 3) := by decide +kernel
theorem dX3_errorOf_56 : decode cX3_errorOf 56 = .ok (.imul, 1) := by decide +kernel
theorem dX3_errorOf_57 : decode cX3_errorOf 57 = .ok (.ireturn, 1) := by decide +kernel
theorem dX3_errorOf_58 : decode cX3_errorOf 58 = .ok (.aload_n 0, 1) := by decide +kernel
theorem dX3_errorOf_59 : decode cX3_errorOf 59 = .ok (.iload_n 1, 1) := by decide +kernel
theorem dX3_errorOf_60 : decode cX3_errorOf 60 = .ok (.bipush 7, 2) := by decide +kernel
theorem dX3_errorOf_62 : decode cX3_errorOf 62 = .ok (.invokevirtual 47, 3) := by decide +kernel
theorem dX3_errorOf_65 : decode cX3_errorOf 65 = .ok (.iconst 1, 1) := by decide +kernel
theorem dX3_errorOf_66 : decode cX3_errorOf 66 = .ok (.if_icmp .ne 12, 3) := by decide +kernel
theorem dX3_errorOf_69 : decode cX3_errorOf 69 = .ok (.aload_n 0, 1) := by decide +kernel
theorem dX3_errorOf_70 : decode cX3_errorOf 70 = .ok (.iload_n 1, 1) := by decide +kernel
theorem dX3_errorOf_71 : decode cX3_errorOf 71 = .ok (.invokevirtual 61, 3) := by decide +kernel
theorem dX3_errorOf_74 : decode cX3_errorOf 74 = .ok (.ineg, 1) := by decide +kernel
theorem dX3_errorOf_75 : decode cX3_errorOf 75 = .ok (.goto 8, 3) := by decide +kernel
theorem dX3_errorOf_78 : decode cX3_errorOf 78 = .ok (.aload_n 0, 1) := by decide +kernel
theorem dX3_errorOf_79 : decode cX3_errorOf 79 = .ok (.iload_n 1, 1) := by decide +kernel
theorem dX3_errorOf_80 : decode cX3_errorOf 80 = .ok (.invokevirtual 61, 3) := by decide +kernel
theorem dX3_errorOf_83 : decode cX3_errorOf 83 = .ok (.ireturn, 1) := by decide +kernel
theorem dX3_errorOf_84 : decode cX3_errorOf 84 = .ok (.iload_n 2, 1) := by decide +kernel
theorem dX3_errorOf_85 : decode cX3_errorOf 85 = .ok (.invokestatic 64, 3) := by decide +kernel
theorem dX3_errorOf_88 : decode cX3_errorOf 88 = .ok (.aload_n 0, 1) := by decide +kernel
theorem dX3_errorOf_89 : decode cX3_errorOf 89 = .ok (.iload_n 1, 1) := by decide +kernel
theorem dX3_errorOf_90 : decode cX3_errorOf 90 = .ok (.iconst 1, 1) := by decide +kernel
theorem dX3_errorOf_91 : decode cX3_errorOf 91 = .ok (.invokevirtual 47, 3) := by decide +kernel
theorem dX3_errorOf_94 : decode cX3_errorOf 94 = .ok (.imul, 1) := by decide +kernel
theorem dX3_errorOf_95 : decode cX3_errorOf 95 = .ok (.ireturn, 1) := by decide +kernel
theorem dX3_errorOf_96 : decode cX3_errorOf 96 = .ok (.iload_n 2, 1) := by decide +kernel
theorem dX3_errorOf_97 : decode cX3_errorOf 97 = .ok (.invokestatic 64, 3) := by decide +kernel
theorem dX3_errorOf_100 : decode cX3_errorOf 100 = .ok (.aload_n 0, 1) := by decide +kernel
theorem dX3_errorOf_101 : decode cX3_errorOf 101 = .ok (.iload_n 1, 1) := by decide +kernel
theorem dX3_errorOf_102 : decode cX3_errorOf 102 = .ok (.iconst 1, 1) := by decide +kernel
theorem dX3_errorOf_103 : decode cX3_errorOf 103 = .ok (.invokevirtual 47, 3) := by decide +kernel
theorem dX3_errorOf_106 : decode cX3_errorOf 106 = .ok (.aload_n 0, 1) := by decide +kernel
theorem dX3_errorOf_107 : decode cX3_errorOf 107 = .ok (.iload_n 1, 1) := by decide +kernel
theorem dX3_errorOf_108 : decode cX3_errorOf 108 = .ok (.invokevirtual 69, 3) := by decide +kernel
theorem dX3_errorOf_111 : decode cX3_errorOf 111 = .ok (.bipush 100, 2) := by decide +kernel
theorem dX3_errorOf_113 : decode cX3_errorOf 113 = .ok (.if_icmp .lt 7, 3) := by decide +kernel
theorem dX3_errorOf_116 : decode cX3_errorOf 116 = .ok (.iconst 1, 1) := by decide +kernel
theorem dX3_errorOf_117 : decode cX3_errorOf 117 = .ok (.goto 4, 3) := by decide +kernel
theorem dX3_errorOf_120 : decode cX3_errorOf 120 = .ok (.iconst 0, 1) := by decide +kernel
theorem dX3_errorOf_121 : decode cX3_errorOf 121 = .ok (.iadd, 1) := by decide +kernel
theorem dX3_errorOf_122 : decode cX3_errorOf 122 = .ok (.imul, 1) := by decide +kernel
theorem dX3_errorOf_123 : decode cX3_errorOf 123 = .ok (.ireturn, 1) := by decide +kernel
theorem dX3_errorOf_124 : decode cX3_errorOf 124 = .ok (.iconst 0, 1) := by decide +kernel
theorem dX3_errorOf_125 : decode cX3_errorOf 125 = .ok (.ireturn, 1) := by decide +kernel
set_option maxRecDepth 20000 in
theorem ggX3_unevenError_X3_setting : GoodIn wsX3_unevenError wsX3_setting := goodIn_r _ [5, 6, 12, 13, 14, 15] (by decide +kernel) (by decide +kernel)
set_option maxRecDepth 20000 in
theorem gX3_unevenError_X3_setting : GoodIn wsX3_unevenError (wsV RX3 72 RX3 yX3_setting wsX3_setting) := goodIn_app (goodIn_of _ (by decide +kernel)) ggX3_unevenError_X3_setting
set_option maxRecDepth 20000 in
theorem ggX3_unevenError_X3_get : GoodIn wsX3_unevenError wsX3_get := goodIn_r _ [10, 11, 12, 13, 14, 15] (by decide +kernel) (by decide +kernel)
set_option maxRecDepth 20000 in
theorem gX3_unevenError_X3_get : GoodIn wsX3_unevenError (wsV RX3 47 RX3 yX3_get wsX3_get) := goodIn_app (goodIn_of _ (by decide +kernel)) ggX3_unevenError_X3_get
theorem dX3_unevenError_0 : decode cX3_unevenError 0 = .ok (.aload_n 0, 1) := by decide +kernel
theorem dX3_unevenError_1 : decode cX3_unevenError 1 = .ok (.bipush 9, 2) := by decide +kernel
theorem dX3_unevenError_3 : decode cX3_unevenError 3 = .ok (.invokevirtual 72, 3) := by decide +kernel
theorem dX3_unevenError_6 : decode cX3_unevenError 6 = .ok (.aload_n 0, 1) := by decide +kernel
theorem dX3_unevenError_7 : decode cX3_unevenError 7 = .ok (.iload_n 1, 1) := by decide +kernel
theorem dX3_unevenError_8 : decode cX3_unevenError 8 = .ok (.iconst 4, 1) := by decide +kernel
theorem dX3_unevenError_9 : decode cX3_unevenError 9 = .ok (.invokevirtual 47, 3) := by decide +kernel
theorem dX3_unevenError_12 : decode cX3_unevenError 12 = .ok (.aload_n 0, 1) := by decide +kernel
theorem dX3_unevenError_13 : decode cX3_unevenError 13 = .ok (.iload_n 1, 1) := by decide +kernel
theorem dX3_unevenError_14 : decode cX3_unevenError 14 = .ok (.iconst 5, 1) := by decide +kernel
theorem dX3_unevenError_15 : decode cX3_unevenError 15 = .ok (.invokevirtual 47, 3) := by decide +kernel
theorem dX3_unevenError_18 : decode cX3_unevenError 18 = .ok (.isub, 1) := by decide +kernel
theorem dX3_unevenError_19 : decode cX3_unevenError 19 = .ok (.imul, 1) := by decide +kernel
theorem dX3_unevenError_20 : decode cX3_unevenError 20 = .ok (.bipush 10, 2) := by decide +kernel
theorem dX3_unevenError_22 : decode cX3_unevenError 22 = .ok (.idiv, 1) := by decide +kernel
theorem dX3_unevenError_23 : decode cX3_unevenError 23 = .ok (.ireturn, 1) := by decide +kernel
set_option maxRecDepth 20000 in
theorem ggX3_sunkBy_X3_get : GoodIn wsX3_sunkBy wsX3_get := goodIn_r _ [5, 6, 7, 8, 9, 10] (by decide +kernel) (by decide +kernel)
set_option maxRecDepth 20000 in
theorem gX3_sunkBy_X3_get : GoodIn wsX3_sunkBy (wsV RX3 47 RX3 yX3_get wsX3_get) := goodIn_app (goodIn_of _ (by decide +kernel)) ggX3_sunkBy_X3_get
theorem dX3_sunkBy_0 : decode cX3_sunkBy 0 = .ok (.aload_n 0, 1) := by decide +kernel
theorem dX3_sunkBy_1 : decode cX3_sunkBy 1 = .ok (.iload_n 1, 1) := by decide +kernel
theorem dX3_sunkBy_2 : decode cX3_sunkBy 2 = .ok (.iconst 0, 1) := by decide +kernel
theorem dX3_sunkBy_3 : decode cX3_sunkBy 3 = .ok (.invokevirtual 47, 3) := by decide +kernel
theorem dX3_sunkBy_6 : decode cX3_sunkBy 6 = .ok (.lookupswitch 42 #[(2, 26), (5, 33)], 26) := by decide +kernel
theorem dX3_sunkBy_32 : decode cX3_sunkBy 32 = .ok (.aload_n 0, 1) := by decide +kernel
theorem dX3_sunkBy_33 : decode cX3_sunkBy 33 = .ok (.iload_n 1, 1) := by decide +kernel
theorem dX3_sunkBy_34 : decode cX3_sunkBy 34 = .ok (.iconst 1, 1) := by decide +kernel
theorem dX3_sunkBy_35 : decode cX3_sunkBy 35 = .ok (.invokevirtual 47, 3) := by decide +kernel
theorem dX3_sunkBy_38 : decode cX3_sunkBy 38 = .ok (.ireturn, 1) := by decide +kernel
theorem dX3_sunkBy_39 : decode cX3_sunkBy 39 = .ok (.iconst 2, 1) := by decide +kernel
theorem dX3_sunkBy_40 : decode cX3_sunkBy 40 = .ok (.aload_n 0, 1) := by decide +kernel
theorem dX3_sunkBy_41 : decode cX3_sunkBy 41 = .ok (.iload_n 1, 1) := by decide +kernel
theorem dX3_sunkBy_42 : decode cX3_sunkBy 42 = .ok (.iconst 1, 1) := by decide +kernel
theorem dX3_sunkBy_43 : decode cX3_sunkBy 43 = .ok (.invokevirtual 47, 3) := by decide +kernel
theorem dX3_sunkBy_46 : decode cX3_sunkBy 46 = .ok (.imul, 1) := by decide +kernel
theorem dX3_sunkBy_47 : decode cX3_sunkBy 47 = .ok (.ireturn, 1) := by decide +kernel
theorem dX3_sunkBy_48 : decode cX3_sunkBy 48 = .ok (.iconst 0, 1) := by decide +kernel
theorem dX3_sunkBy_49 : decode cX3_sunkBy 49 = .ok (.ireturn, 1) := by decide +kernel
set_option maxRecDepth 20000 in
theorem ggX3_risesAheadOf_X3_riseOf : GoodIn wsX3_risesAheadOf wsX3_riseOf := goodIn_r _ [6, 7, 8, 9, 5, 10, 11, 12, 13, 14, 15, 16, 17, 18, 19, 20, 21, 22, 23, 24, 25, 26, 27, 28, 29, 30, 31, 32, 33, 34, 35, 36, 37, 38, 39, 40, 41, 42, 43, 44] (by decide +kernel) (by decide +kernel)
set_option maxRecDepth 20000 in
theorem gX3_risesAheadOf_X3_riseOf : GoodIn wsX3_risesAheadOf (wsV RX3 75 RX3 yX3_riseOf wsX3_riseOf) := goodIn_app (goodIn_of _ (by decide +kernel)) ggX3_risesAheadOf_X3_riseOf
theorem dX3_risesAheadOf_0 : decode cX3_risesAheadOf 0 = .ok (.iconst 0, 1) := by decide +kernel
theorem dX3_risesAheadOf_1 : decode cX3_risesAheadOf 1 = .ok (.istore_n 2, 1) := by decide +kernel
theorem dX3_risesAheadOf_2 : decode cX3_risesAheadOf 2 = .ok (.iconst 0, 1) := by decide +kernel
theorem dX3_risesAheadOf_3 : decode cX3_risesAheadOf 3 = .ok (.istore_n 3, 1) := by decide +kernel
theorem dX3_risesAheadOf_4 : decode cX3_risesAheadOf 4 = .ok (.iload_n 3, 1) := by decide +kernel
theorem dX3_risesAheadOf_5 : decode cX3_risesAheadOf 5 = .ok (.iload_n 1, 1) := by decide +kernel
theorem dX3_risesAheadOf_6 : decode cX3_risesAheadOf 6 = .ok (.if_icmp .ge 25, 3) := by decide +kernel
theorem dX3_risesAheadOf_9 : decode cX3_risesAheadOf 9 = .ok (.iload_n 3, 1) := by decide +kernel
theorem dX3_risesAheadOf_10 : decode cX3_risesAheadOf 10 = .ok (.aload_n 0, 1) := by decide +kernel
theorem dX3_risesAheadOf_11 : decode cX3_risesAheadOf 11 = .ok (.getfield 16, 3) := by decide +kernel
theorem dX3_risesAheadOf_14 : decode cX3_risesAheadOf 14 = .ok (.if_icmp .ge 17, 3) := by decide +kernel
theorem dX3_risesAheadOf_17 : decode cX3_risesAheadOf 17 = .ok (.iload_n 2, 1) := by decide +kernel
theorem dX3_risesAheadOf_18 : decode cX3_risesAheadOf 18 = .ok (.aload_n 0, 1) := by decide +kernel
theorem dX3_risesAheadOf_19 : decode cX3_risesAheadOf 19 = .ok (.iload_n 3, 1) := by decide +kernel
theorem dX3_risesAheadOf_20 : decode cX3_risesAheadOf 20 = .ok (.invokevirtual 75, 3) := by decide +kernel
theorem dX3_risesAheadOf_23 : decode cX3_risesAheadOf 23 = .ok (.iadd, 1) := by decide +kernel
theorem dX3_risesAheadOf_24 : decode cX3_risesAheadOf 24 = .ok (.istore_n 2, 1) := by decide +kernel
theorem dX3_risesAheadOf_25 : decode cX3_risesAheadOf 25 = .ok (.iinc 3 1, 3) := by decide +kernel
theorem dX3_risesAheadOf_28 : decode cX3_risesAheadOf 28 = .ok (.goto (-24), 3) := by decide +kernel
theorem dX3_risesAheadOf_31 : decode cX3_risesAheadOf 31 = .ok (.iload_n 2, 1) := by decide +kernel
theorem dX3_risesAheadOf_32 : decode cX3_risesAheadOf 32 = .ok (.ireturn, 1) := by decide +kernel
set_option maxRecDepth 20000 in
theorem ggX3_heightAt_X3_setting : GoodIn wsX3_heightAt wsX3_setting := goodIn_r _ [5, 6, 45, 46, 47, 48] (by decide +kernel) (by decide +kernel)
set_option maxRecDepth 20000 in
theorem gX3_heightAt_X3_setting : GoodIn wsX3_heightAt (wsV RX3 72 RX3 yX3_setting wsX3_setting) := goodIn_app (goodIn_of _ (by decide +kernel)) ggX3_heightAt_X3_setting
set_option maxRecDepth 20000 in
theorem ggX3_heightAt_X3_risesAheadOf : GoodIn wsX3_heightAt wsX3_risesAheadOf := goodIn_r _ [10, 11, 12, 13, 14, 4, 15, 16, 17, 18, 19, 20, 21, 22, 23, 24, 25, 26, 27, 28, 29, 30, 31, 32, 1, 2, 3, 5, 6, 33, 34, 35, 36, 37, 38, 39, 40, 41, 42, 43, 44, 45, 46, 47, 48] (by decide +kernel) (by decide +kernel)
set_option maxRecDepth 20000 in
theorem gX3_heightAt_X3_risesAheadOf : GoodIn wsX3_heightAt (wsV RX3 78 RX3 yX3_risesAheadOf wsX3_risesAheadOf) := goodIn_app (goodIn_of _ (by decide +kernel)) ggX3_heightAt_X3_risesAheadOf
theorem dX3_heightAt_0 : decode cX3_heightAt 0 = .ok (.aload_n 0, 1) := by decide +kernel
theorem dX3_heightAt_1 : decode cX3_heightAt 1 = .ok (.bipush 8, 2) := by decide +kernel
theorem dX3_heightAt_3 : decode cX3_heightAt 3 = .ok (.invokevirtual 72, 3) := by decide +kernel
theorem dX3_heightAt_6 : decode cX3_heightAt 6 = .ok (.aload_n 0, 1) := by decide +kernel
theorem dX3_heightAt_7 : decode cX3_heightAt 7 = .ok (.iload_n 1, 1) := by decide +kernel
theorem dX3_heightAt_8 : decode cX3_heightAt 8 = .ok (.invokevirtual 78, 3) := by decide +kernel
theorem dX3_heightAt_11 : decode cX3_heightAt 11 = .ok (.iadd, 1) := by decide +kernel
theorem dX3_heightAt_12 : decode cX3_heightAt 12 = .ok (.ireturn, 1) := by decide +kernel
set_option maxRecDepth 20000 in
theorem ggX3_risesHeldBy_X3_get : GoodIn wsX3_risesHeldBy wsX3_get := goodIn_r _ [6, 7, 41, 42, 43, 44] (by decide +kernel) (by decide +kernel)
set_option maxRecDepth 20000 in
theorem gX3_risesHeldBy_X3_get : GoodIn wsX3_risesHeldBy (wsV RX3 47 RX3 yX3_get wsX3_get) := goodIn_app (goodIn_of _ (by decide +kernel)) ggX3_risesHeldBy_X3_get
set_option maxRecDepth 20000 in
theorem ggX3_risesHeldBy_X3_riseOf : GoodIn wsX3_risesHeldBy wsX3_riseOf := goodIn_r _ [11, 12, 13, 14, 5, 15, 2, 3, 4, 6, 7, 16, 17, 18, 19, 20, 21, 22, 23, 24, 25, 26, 27, 28, 29, 30, 31, 32, 33, 34, 35, 36, 37, 38, 39, 40, 41, 42, 43, 44] (by decide +kernel) (by decide +kernel)
set_option maxRecDepth 20000 in
theorem gX3_risesHeldBy_X3_riseOf : GoodIn wsX3_risesHeldBy (wsV RX3 75 RX3 yX3_riseOf wsX3_riseOf) := goodIn_app (goodIn_of _ (by decide +kernel)) ggX3_risesHeldBy_X3_riseOf
theorem dX3_risesHeldBy_0 : decode cX3_risesHeldBy 0 = .ok (.iconst 0, 1) := by decide +kernel
theorem dX3_risesHeldBy_1 : decode cX3_risesHeldBy 1 = .ok (.istore_n 2, 1) := by decide +kernel
theorem dX3_risesHeldBy_2 : decode cX3_risesHeldBy 2 = .ok (.iconst 0, 1) := by decide +kernel
theorem dX3_risesHeldBy_3 : decode cX3_risesHeldBy 3 = .ok (.istore_n 3, 1) := by decide +kernel
theorem dX3_risesHeldBy_4 : decode cX3_risesHeldBy 4 = .ok (.iload_n 3, 1) := by decide +kernel
theorem dX3_risesHeldBy_5 : decode cX3_risesHeldBy 5 = .ok (.aload_n 0, 1) := by decide +kernel
theorem dX3_risesHeldBy_6 : decode cX3_risesHeldBy 6 = .ok (.getfield 16, 3) := by decide +kernel
theorem dX3_risesHeldBy_9 : decode cX3_risesHeldBy 9 = .ok (.if_icmp .ge 28, 3) := by decide +kernel
theorem dX3_risesHeldBy_12 : decode cX3_risesHeldBy 12 = .ok (.aload_n 0, 1) := by decide +kernel
theorem dX3_risesHeldBy_13 : decode cX3_risesHeldBy 13 = .ok (.iload_n 3, 1) := by decide +kernel
theorem dX3_risesHeldBy_14 : decode cX3_risesHeldBy 14 = .ok (.bipush 6, 2) := by decide +kernel
theorem dX3_risesHeldBy_16 : decode cX3_risesHeldBy 16 = .ok (.invokevirtual 47, 3) := by decide +kernel
theorem dX3_risesHeldBy_19 : decode cX3_risesHeldBy 19 = .ok (.iload_n 1, 1) := by decide +kernel
theorem dX3_risesHeldBy_20 : decode cX3_risesHeldBy 20 = .ok (.if_icmp .ne 11, 3) := by decide +kernel
theorem dX3_risesHeldBy_23 : decode cX3_risesHeldBy 23 = .ok (.iload_n 2, 1) := by decide +kernel
theorem dX3_risesHeldBy_24 : decode cX3_risesHeldBy 24 = .ok (.aload_n 0, 1) := by decide +kernel
theorem dX3_risesHeldBy_25 : decode cX3_risesHeldBy 25 = .ok (.iload_n 3, 1) := by decide +kernel
theorem dX3_risesHeldBy_26 : decode cX3_risesHeldBy 26 = .ok (.invokevirtual 75, 3) := by decide +kernel
theorem dX3_risesHeldBy_29 : decode cX3_risesHeldBy 29 = .ok (.iadd, 1) := by decide +kernel
theorem dX3_risesHeldBy_30 : decode cX3_risesHeldBy 30 = .ok (.istore_n 2, 1) := by decide +kernel
theorem dX3_risesHeldBy_31 : decode cX3_risesHeldBy 31 = .ok (.iinc 3 1, 3) := by decide +kernel
theorem dX3_risesHeldBy_34 : decode cX3_risesHeldBy 34 = .ok (.goto (-30), 3) := by decide +kernel
theorem dX3_risesHeldBy_37 : decode cX3_risesHeldBy 37 = .ok (.iload_n 2, 1) := by decide +kernel
theorem dX3_risesHeldBy_38 : decode cX3_risesHeldBy 38 = .ok (.ireturn, 1) := by decide +kernel
set_option maxRecDepth 20000 in
theorem ggX3_rawInAll_X3_bookedOf : GoodIn wsX3_rawInAll wsX3_bookedOf := goodIn_r _ [6, 7, 8, 9, 5, 10, 11, 12, 13, 14, 15] (by decide +kernel) (by decide +kernel)
set_option maxRecDepth 20000 in
theorem gX3_rawInAll_X3_bookedOf : GoodIn wsX3_rawInAll (wsV RX3 51 RX3 yX3_bookedOf wsX3_bookedOf) := goodIn_app (goodIn_of _ (by decide +kernel)) ggX3_rawInAll_X3_bookedOf
theorem dX3_rawInAll_0 : decode cX3_rawInAll 0 = .ok (.iconst 0, 1) := by decide +kernel
theorem dX3_rawInAll_1 : decode cX3_rawInAll 1 = .ok (.istore_n 1, 1) := by decide +kernel
theorem dX3_rawInAll_2 : decode cX3_rawInAll 2 = .ok (.iconst 0, 1) := by decide +kernel
theorem dX3_rawInAll_3 : decode cX3_rawInAll 3 = .ok (.istore_n 2, 1) := by decide +kernel
theorem dX3_rawInAll_4 : decode cX3_rawInAll 4 = .ok (.iload_n 2, 1) := by decide +kernel
theorem dX3_rawInAll_5 : decode cX3_rawInAll 5 = .ok (.aload_n 0, 1) := by decide +kernel
theorem dX3_rawInAll_6 : decode cX3_rawInAll 6 = .ok (.getfield 16, 3) := by decide +kernel
theorem dX3_rawInAll_9 : decode cX3_rawInAll 9 = .ok (.if_icmp .ge 17, 3) := by decide +kernel
theorem dX3_rawInAll_12 : decode cX3_rawInAll 12 = .ok (.iload_n 1, 1) := by decide +kernel
theorem dX3_rawInAll_13 : decode cX3_rawInAll 13 = .ok (.aload_n 0, 1) := by decide +kernel
theorem dX3_rawInAll_14 : decode cX3_rawInAll 14 = .ok (.iload_n 2, 1) := by decide +kernel
theorem dX3_rawInAll_15 : decode cX3_rawInAll 15 = .ok (.invokevirtual 51, 3) := by decide +kernel
theorem dX3_rawInAll_18 : decode cX3_rawInAll 18 = .ok (.iadd, 1) := by decide +kernel
theorem dX3_rawInAll_19 : decode cX3_rawInAll 19 = .ok (.istore_n 1, 1) := by decide +kernel
theorem dX3_rawInAll_20 : decode cX3_rawInAll 20 = .ok (.iinc 2 1, 3) := by decide +kernel
theorem dX3_rawInAll_23 : decode cX3_rawInAll 23 = .ok (.goto (-19), 3) := by decide +kernel
theorem dX3_rawInAll_26 : decode cX3_rawInAll 26 = .ok (.iload_n 1, 1) := by decide +kernel
theorem dX3_rawInAll_27 : decode cX3_rawInAll 27 = .ok (.ireturn, 1) := by decide +kernel
set_option maxRecDepth 20000 in
theorem ggX3_mayBeOff_X3_setting : GoodIn wsX3_mayBeOff wsX3_setting := goodIn_r _ [6, 7, 8, 9, 10, 11] (by decide +kernel) (by decide +kernel)
set_option maxRecDepth 20000 in
theorem gX3_mayBeOff_X3_setting : GoodIn wsX3_mayBeOff (wsV RX3 72 RX3 yX3_setting wsX3_setting) := goodIn_app (goodIn_of _ (by decide +kernel)) ggX3_mayBeOff_X3_setting
theorem dX3_mayBeOff_0 : decode cX3_mayBeOff 0 = .ok (.iconst 0, 1) := by decide +kernel
theorem dX3_mayBeOff_1 : decode cX3_mayBeOff 1 = .ok (.istore_n 1, 1) := by decide +kernel
theorem dX3_mayBeOff_2 : decode cX3_mayBeOff 2 = .ok (.iload_n 1, 1) := by decide +kernel
theorem dX3_mayBeOff_3 : decode cX3_mayBeOff 3 = .ok (.aload_n 0, 1) := by decide +kernel
theorem dX3_mayBeOff_4 : decode cX3_mayBeOff 4 = .ok (.getfield 16, 3) := by decide +kernel
theorem dX3_mayBeOff_7 : decode cX3_mayBeOff 7 = .ok (.if_icmp .ge 23, 3) := by decide +kernel
theorem dX3_mayBeOff_10 : decode cX3_mayBeOff 10 = .ok (.iload_n 1, 1) := by decide +kernel
theorem dX3_mayBeOff_11 : decode cX3_mayBeOff 11 = .ok (.iconst 1, 1) := by decide +kernel
theorem dX3_mayBeOff_12 : decode cX3_mayBeOff 12 = .ok (.iadd, 1) := by decide +kernel
theorem dX3_mayBeOff_13 : decode cX3_mayBeOff 13 = .ok (.iload_n 1, 1) := by decide +kernel
theorem dX3_mayBeOff_14 : decode cX3_mayBeOff 14 = .ok (.iconst 1, 1) := by decide +kernel
theorem dX3_mayBeOff_15 : decode cX3_mayBeOff 15 = .ok (.iadd, 1) := by decide +kernel
theorem dX3_mayBeOff_16 : decode cX3_mayBeOff 16 = .ok (.imul, 1) := by decide +kernel
theorem dX3_mayBeOff_17 : decode cX3_mayBeOff 17 = .ok (.aload_n 0, 1) := by decide +kernel
theorem dX3_mayBeOff_18 : decode cX3_mayBeOff 18 = .ok (.getfield 16, 3) := by decide +kernel
theorem dX3_mayBeOff_21 : decode cX3_mayBeOff 21 = .ok (.if_icmp .gt 9, 3) := by decide +kernel
theorem dX3_mayBeOff_24 : decode cX3_mayBeOff 24 = .ok (.iinc 1 1, 3) := by decide +kernel
theorem dX3_mayBeOff_27 : decode cX3_mayBeOff 27 = .ok (.goto (-25), 3) := by decide +kernel
theorem dX3_mayBeOff_30 : decode cX3_mayBeOff 30 = .ok (.aload_n 0, 1) := by decide +kernel
theorem dX3_mayBeOff_31 : decode cX3_mayBeOff 31 = .ok (.bipush 10, 2) := by decide +kernel
theorem dX3_mayBeOff_33 : decode cX3_mayBeOff 33 = .ok (.invokevirtual 72, 3) := by decide +kernel
theorem dX3_mayBeOff_36 : decode cX3_mayBeOff 36 = .ok (.iload_n 1, 1) := by decide +kernel
theorem dX3_mayBeOff_37 : decode cX3_mayBeOff 37 = .ok (.imul, 1) := by decide +kernel
theorem dX3_mayBeOff_38 : decode cX3_mayBeOff 38 = .ok (.ireturn, 1) := by decide +kernel
set_option maxRecDepth 20000 in
theorem ggX3_weightAheadOf_X3_yardsOf : GoodIn wsX3_weightAheadOf wsX3_yardsOf := goodIn_r _ [6, 7, 8, 9, 5, 10, 11, 12, 13, 14, 15] (by decide +kernel) (by decide +kernel)
set_option maxRecDepth 20000 in
theorem gX3_weightAheadOf_X3_yardsOf : GoodIn wsX3_weightAheadOf (wsV RX3 69 RX3 yX3_yardsOf wsX3_yardsOf) := goodIn_app (goodIn_of _ (by decide +kernel)) ggX3_weightAheadOf_X3_yardsOf
theorem dX3_weightAheadOf_0 : decode cX3_weightAheadOf 0 = .ok (.lconst 0, 1) := by decide +kernel
theorem dX3_weightAheadOf_1 : decode cX3_weightAheadOf 1 = .ok (.lstore_n 3, 1) := by decide +kernel
theorem dX3_weightAheadOf_2 : decode cX3_weightAheadOf 2 = .ok (.iconst 0, 1) := by decide +kernel
theorem dX3_weightAheadOf_3 : decode cX3_weightAheadOf 3 = .ok (.istore 5, 2) := by decide +kernel
theorem dX3_weightAheadOf_5 : decode cX3_weightAheadOf 5 = .ok (.iload 5, 2) := by decide +kernel
theorem dX3_weightAheadOf_7 : decode cX3_weightAheadOf 7 = .ok (.iload_n 1, 1) := by decide +kernel
theorem dX3_weightAheadOf_8 : decode cX3_weightAheadOf 8 = .ok (.if_icmp .ge 53, 3) := by decide +kernel
theorem dX3_weightAheadOf_11 : decode cX3_weightAheadOf 11 = .ok (.iload 5, 2) := by decide +kernel
theorem dX3_weightAheadOf_13 : decode cX3_weightAheadOf 13 = .ok (.aload_n 0, 1) := by decide +kernel
theorem dX3_weightAheadOf_14 : decode cX3_weightAheadOf 14 = .ok (.getfield 16, 3) := by decide +kernel
theorem dX3_weightAheadOf_17 : decode cX3_weightAheadOf 17 = .ok (.if_icmp .ge 44, 3) := by decide +kernel
theorem dX3_weightAheadOf_20 : decode cX3_weightAheadOf 20 = .ok (.aload_n 0, 1) := by decide +kernel
theorem dX3_weightAheadOf_21 : decode cX3_weightAheadOf 21 = .ok (.iload 5, 2) := by decide +kernel
theorem dX3_weightAheadOf_23 : decode cX3_weightAheadOf 23 = .ok (.invokevirtual 69, 3) := by decide +kernel
theorem dX3_weightAheadOf_26 : decode cX3_weightAheadOf 26 = .ok (.i2l, 1) := by decide +kernel
theorem dX3_weightAheadOf_27 : decode cX3_weightAheadOf 27 = .ok (.lstore 6, 2) := by decide +kernel
theorem dX3_weightAheadOf_29 : decode cX3_weightAheadOf 29 = .ok (.lload_n 3, 1) := by decide +kernel
theorem dX3_weightAheadOf_30 : decode cX3_weightAheadOf 30 = .ok (.iload_n 2, 1) := by decide +kernel
theorem dX3_weightAheadOf_31 : decode cX3_weightAheadOf 31 = .ok (.ifCond .ne 7, 3) := by decide +kernel
theorem dX3_weightAheadOf_34 : decode cX3_weightAheadOf 34 = .ok (.lconst 1, 1) := by decide +kernel
theorem dX3_weightAheadOf_35 : decode cX3_weightAheadOf 35 = .ok (.goto 18, 3) := by decide +kernel
theorem dX3_weightAheadOf_38 : decode cX3_weightAheadOf 38 = .ok (.iload_n 2, 1) := by decide +kernel
theorem dX3_weightAheadOf_39 : decode cX3_weightAheadOf 39 = .ok (.iconst 1, 1) := by decide +kernel
theorem dX3_weightAheadOf_40 : decode cX3_weightAheadOf 40 = .ok (.if_icmp .ne 8, 3) := by decide +kernel
theorem dX3_weightAheadOf_43 : decode cX3_weightAheadOf 43 = .ok (.lload 6, 2) := by decide +kernel
theorem dX3_weightAheadOf_45 : decode cX3_weightAheadOf 45 = .ok (.goto 8, 3) := by decide +kernel
theorem dX3_weightAheadOf_48 : decode cX3_weightAheadOf 48 = .ok (.lload 6, 2) := by decide +kernel
theorem dX3_weightAheadOf_50 : decode cX3_weightAheadOf 50 = .ok (.lload 6, 2) := by decide +kernel
theorem dX3_weightAheadOf_52 : decode cX3_weightAheadOf 52 = .ok (.lmul, 1) := by decide +kernel
theorem dX3_weightAheadOf_53 : decode cX3_weightAheadOf 53 = .ok (.ladd, 1) := by decide +kernel
theorem dX3_weightAheadOf_54 : decode cX3_weightAheadOf 54 = .ok (.lstore_n 3, 1) := by decide +kernel
theorem dX3_weightAheadOf_55 : decode cX3_weightAheadOf 55 = .ok (.iinc 5 1, 3) := by decide +kernel
theorem dX3_weightAheadOf_58 : decode cX3_weightAheadOf 58 = .ok (.goto (-53), 3) := by decide +kernel
theorem dX3_weightAheadOf_61 : decode cX3_weightAheadOf 61 = .ok (.lload_n 3, 1) := by decide +kernel
theorem dX3_weightAheadOf_62 : decode cX3_weightAheadOf 62 = .ok (.lreturn, 1) := by decide +kernel
set_option maxRecDepth 20000 in
theorem ggX3_readByDraws_X3_draw : GoodIn wsX3_readByDraws wsX3_draw := goodIn_r _ [13, 14, 15, 25, 26, 27, 28] (by decide +kernel) (by decide +kernel)
set_option maxRecDepth 20000 in
theorem gX3_readByDraws_X3_draw : GoodIn wsX3_readByDraws (wsV RX3 81 RX3 yX3_draw wsX3_draw) := goodIn_app (goodIn_of _ (by decide +kernel)) ggX3_readByDraws_X3_draw
set_option maxRecDepth 20000 in
theorem ggX3_readByDraws_X3_get : GoodIn wsX3_readByDraws wsX3_get := goodIn_r _ [19, 20, 25, 26, 27, 28] (by decide +kernel) (by decide +kernel)
set_option maxRecDepth 20000 in
theorem gX3_readByDraws_X3_get : GoodIn wsX3_readByDraws (wsV RX3 47 RX3 yX3_get wsX3_get) := goodIn_app (goodIn_of _ (by decide +kernel)) ggX3_readByDraws_X3_get
set_option maxRecDepth 20000 in
theorem ggX3_readByDraws_X3_put : GoodIn wsX3_readByDraws wsX3_put := goodIn_r _ [24, 20, 25, 26, 27, 28] (by decide +kernel) (by decide +kernel)
set_option maxRecDepth 20000 in
theorem gX3_readByDraws_X3_put : GoodIn wsX3_readByDraws (wsV RX3 33 RX3 yX3_put wsX3_put) := goodIn_app (goodIn_of _ (by decide +kernel)) ggX3_readByDraws_X3_put
theorem dX3_readByDraws_0 : decode cX3_readByDraws 0 = .ok (.aload_n 0, 1) := by decide +kernel
theorem dX3_readByDraws_1 : decode cX3_readByDraws 1 = .ok (.aload_n 0, 1) := by decide +kernel
theorem dX3_readByDraws_2 : decode cX3_readByDraws 2 = .ok (.getfield 16, 3) := by decide +kernel
theorem dX3_readByDraws_5 : decode cX3_readByDraws 5 = .ok (.invokevirtual 81, 3) := by decide +kernel
theorem dX3_readByDraws_8 : decode cX3_readByDraws 8 = .ok (.istore_n 1, 1) := by decide +kernel
theorem dX3_readByDraws_9 : decode cX3_readByDraws 9 = .ok (.aload_n 0, 1) := by decide +kernel
theorem dX3_readByDraws_10 : decode cX3_readByDraws 10 = .ok (.iload_n 1, 1) := by decide +kernel
theorem dX3_readByDraws_11 : decode cX3_readByDraws 11 = .ok (.iconst 2, 1) := by decide +kernel
theorem dX3_readByDraws_12 : decode cX3_readByDraws 12 = .ok (.invokevirtual 47, 3) := by decide +kernel
theorem dX3_readByDraws_15 : decode cX3_readByDraws 15 = .ok (.aload_n 0, 1) := by decide +kernel
theorem dX3_readByDraws_16 : decode cX3_readByDraws 16 = .ok (.iconst 3, 1) := by decide +kernel
theorem dX3_readByDraws_17 : decode cX3_readByDraws 17 = .ok (.invokevirtual 81, 3) := by decide +kernel
theorem dX3_readByDraws_20 : decode cX3_readByDraws 20 = .ok (.iadd, 1) := by decide +kernel
theorem dX3_readByDraws_21 : decode cX3_readByDraws 21 = .ok (.iconst 1, 1) := by decide +kernel
theorem dX3_readByDraws_22 : decode cX3_readByDraws 22 = .ok (.isub, 1) := by decide +kernel
theorem dX3_readByDraws_23 : decode cX3_readByDraws 23 = .ok (.istore_n 2, 1) := by decide +kernel
theorem dX3_readByDraws_24 : decode cX3_readByDraws 24 = .ok (.aload_n 0, 1) := by decide +kernel
theorem dX3_readByDraws_25 : decode cX3_readByDraws 25 = .ok (.iload_n 1, 1) := by decide +kernel
theorem dX3_readByDraws_26 : decode cX3_readByDraws 26 = .ok (.iconst 2, 1) := by decide +kernel
theorem dX3_readByDraws_27 : decode cX3_readByDraws 27 = .ok (.iconst 0, 1) := by decide +kernel
theorem dX3_readByDraws_28 : decode cX3_readByDraws 28 = .ok (.sipush 9999, 3) := by decide +kernel
theorem dX3_readByDraws_31 : decode cX3_readByDraws 31 = .ok (.iload_n 2, 1) := by decide +kernel
theorem dX3_readByDraws_32 : decode cX3_readByDraws 32 = .ok (.invokestatic 84, 3) := by decide +kernel
theorem dX3_readByDraws_35 : decode cX3_readByDraws 35 = .ok (.invokestatic 89, 3) := by decide +kernel
theorem dX3_readByDraws_38 : decode cX3_readByDraws 38 = .ok (.invokevirtual 33, 3) := by decide +kernel
theorem dX3_readByDraws_41 : decode cX3_readByDraws 41 = .ok (.aload_n 0, 1) := by decide +kernel
theorem dX3_readByDraws_42 : decode cX3_readByDraws 42 = .ok (.iload_n 1, 1) := by decide +kernel
theorem dX3_readByDraws_43 : decode cX3_readByDraws 43 = .ok (.iconst 3, 1) := by decide +kernel
theorem dX3_readByDraws_44 : decode cX3_readByDraws 44 = .ok (.invokevirtual 47, 3) := by decide +kernel
theorem dX3_readByDraws_47 : decode cX3_readByDraws 47 = .ok (.istore_n 3, 1) := by decide +kernel
theorem dX3_readByDraws_48 : decode cX3_readByDraws 48 = .ok (.aload_n 0, 1) := by decide +kernel
theorem dX3_readByDraws_49 : decode cX3_readByDraws 49 = .ok (.bipush 20, 2) := by decide +kernel
theorem dX3_readByDraws_51 : decode cX3_readByDraws 51 = .ok (.invokevirtual 81, 3) := by decide +kernel
theorem dX3_readByDraws_54 : decode cX3_readByDraws 54 = .ok (.ifCond .ne 19, 3) := by decide +kernel
theorem dX3_readByDraws_57 : decode cX3_readByDraws 57 = .ok (.iload_n 3, 1) := by decide +kernel
theorem dX3_readByDraws_58 : decode cX3_readByDraws 58 = .ok (.bipush 100, 2) := by decide +kernel
theorem dX3_readByDraws_60 : decode cX3_readByDraws 60 = .ok (.if_icmp .lt 13, 3) := by decide +kernel
theorem dX3_readByDraws_63 : decode cX3_readByDraws 63 = .ok (.aload_n 0, 1) := by decide +kernel
theorem dX3_readByDraws_64 : decode cX3_readByDraws 64 = .ok (.iload_n 1, 1) := by decide +kernel
theorem dX3_readByDraws_65 : decode cX3_readByDraws 65 = .ok (.iconst 3, 1) := by decide +kernel
theorem dX3_readByDraws_66 : decode cX3_readByDraws 66 = .ok (.iload_n 3, 1) := by decide +kernel
theorem dX3_readByDraws_67 : decode cX3_readByDraws 67 = .ok (.bipush 100, 2) := by decide +kernel
theorem dX3_readByDraws_69 : decode cX3_readByDraws 69 = .ok (.isub, 1) := by decide +kernel
theorem dX3_readByDraws_70 : decode cX3_readByDraws 70 = .ok (.invokevirtual 33, 3) := by decide +kernel
theorem dX3_readByDraws_73 : decode cX3_readByDraws 73 = .ok (.return_, 1) := by decide +kernel
theorem dX3_draw_0 : decode cX3_draw 0 = .ok (.aload_n 0, 1) := by decide +kernel
theorem dX3_draw_1 : decode cX3_draw 1 = .ok (.aload_n 0, 1) := by decide +kernel
theorem dX3_draw_2 : decode cX3_draw 2 = .ok (.getfield 20, 3) := by decide +kernel
theorem dX3_draw_5 : decode cX3_draw 5 = .ok (.ldc 92, 2) := by decide +kernel
theorem dX3_draw_7 : decode cX3_draw 7 = .ok (.imul, 1) := by decide +kernel
theorem dX3_draw_8 : decode cX3_draw 8 = .ok (.sipush 12345, 3) := by decide +kernel
theorem dX3_draw_11 : decode cX3_draw 11 = .ok (.iadd, 1) := by decide +kernel
theorem dX3_draw_12 : decode cX3_draw 12 = .ok (.putfield 20, 3) := by decide +kernel
theorem dX3_draw_15 : decode cX3_draw 15 = .ok (.iload_n 1, 1) := by decide +kernel
theorem dX3_draw_16 : decode cX3_draw 16 = .ok (.iconst 1, 1) := by decide +kernel
theorem dX3_draw_17 : decode cX3_draw 17 = .ok (.if_icmp .ge 7, 3) := by decide +kernel
theorem dX3_draw_20 : decode cX3_draw 20 = .ok (.iconst 0, 1) := by decide +kernel
theorem dX3_draw_21 : decode cX3_draw 21 = .ok (.goto 12, 3) := by decide +kernel
theorem dX3_draw_24 : decode cX3_draw 24 = .ok (.aload_n 0, 1) := by decide +kernel
theorem dX3_draw_25 : decode cX3_draw 25 = .ok (.getfield 20, 3) := by decide +kernel
theorem dX3_draw_28 : decode cX3_draw 28 = .ok (.bipush 16, 2) := by decide +kernel
theorem dX3_draw_30 : decode cX3_draw 30 = .ok (.iushr, 1) := by decide +kernel
theorem dX3_draw_31 : decode cX3_draw 31 = .ok (.iload_n 1, 1) := by decide +kernel
theorem dX3_draw_32 : decode cX3_draw 32 = .ok (.irem, 1) := by decide +kernel
theorem dX3_draw_33 : decode cX3_draw 33 = .ok (.ireturn, 1) := by decide +kernel
set_option maxRecDepth 20000 in
theorem ggX4_init_X3_init : GoodIn wsX4_init wsX3_init := goodIn_r _ [12, 13, 2, 3, 8, 14, 15, 16, 17, 18, 19, 20, 21] (by decide +kernel) (by decide +kernel)
set_option maxRecDepth 20000 in
theorem gX4_init_X3_init_n11 : GoodIn wsX4_init (wsX3_init) := ggX4_init_X3_init
theorem dX4_init_0 : decode cX4_init 0 = .ok (.aload_n 0, 1) := by decide +kernel
theorem dX4_init_1 : decode cX4_init 1 = .ok (.invokespecial 3, 3) := by decide +kernel
theorem dX4_init_4 : decode cX4_init 4 = .ok (.aload_n 0, 1) := by decide +kernel
theorem dX4_init_5 : decode cX4_init 5 = .ok (.new 9, 3) := by decide +kernel
theorem dX4_init_8 : decode cX4_init 8 = .ok (.dup, 1) := by decide +kernel
theorem dX4_init_9 : decode cX4_init 9 = .ok (.invokespecial 11, 3) := by decide +kernel
theorem dX4_init_12 : decode cX4_init 12 = .ok (.putfield 12, 3) := by decide +kernel
theorem dX4_init_15 : decode cX4_init 15 = .ok (.aload_n 0, 1) := by decide +kernel
theorem dX4_init_16 : decode cX4_init 16 = .ok (.bipush 6, 2) := by decide +kernel
theorem dX4_init_18 : decode cX4_init 18 = .ok (.newarray .int, 2) := by decide +kernel
theorem dX4_init_20 : decode cX4_init 20 = .ok (.putfield 18, 3) := by decide +kernel
theorem dX4_init_23 : decode cX4_init 23 = .ok (.aload_n 0, 1) := by decide +kernel
theorem dX4_init_24 : decode cX4_init 24 = .ok (.sipush 160, 3) := by decide +kernel
theorem dX4_init_27 : decode cX4_init 27 = .ok (.newarray .int, 2) := by decide +kernel
theorem dX4_init_29 : decode cX4_init 29 = .ok (.putfield 24, 3) := by decide +kernel
theorem dX4_init_32 : decode cX4_init 32 = .ok (.return_, 1) := by decide +kernel
theorem dX4_faultPlace_0 : decode cX4_faultPlace 0 = .ok (.aload_n 0, 1) := by decide +kernel
theorem dX4_faultPlace_1 : decode cX4_faultPlace 1 = .ok (.getfield 27, 3) := by decide +kernel
theorem dX4_faultPlace_4 : decode cX4_faultPlace 4 = .ok (.ireturn, 1) := by decide +kernel
set_option maxRecDepth 20000 in
theorem ggX4_readOver_X5_lengthOf : GoodIn wsX4_readOver wsX5_lengthOf := goodIn_r _ [14, 15, 16, 17, 18, 13, 19, 175, 176, 177] (by decide +kernel) (by decide +kernel)
set_option maxRecDepth 20000 in
theorem gX4_readOver_X5_lengthOf : GoodIn wsX4_readOver (wsV RX4 31 RX5 yX5_lengthOf wsX5_lengthOf) := goodIn_app (goodIn_of _ (by decide +kernel)) ggX4_readOver_X5_lengthOf
set_option maxRecDepth 20000 in
theorem ggX4_readOver_X5_numberAt : GoodIn wsX4_readOver wsX5_numberAt := goodIn_r _ [23, 24, 25, 26, 13, 27, 28, 29, 30, 31, 32, 33, 11, 12, 14, 15, 16, 17, 18, 19, 175, 176, 177] (by decide +kernel) (by decide +kernel)
set_option maxRecDepth 20000 in
theorem gX4_readOver_X5_numberAt : GoodIn wsX4_readOver (wsV RX4 44 RX5 yX5_numberAt wsX5_numberAt) := goodIn_app (goodIn_of _ (by decide +kernel)) ggX4_readOver_X5_numberAt
set_option maxRecDepth 20000 in
theorem ggX4_readOver_X3_becomeLike : GoodIn wsX4_readOver wsX3_becomeLike := goodIn_r _ [38, 39, 40, 41, 42, 43, 44, 45, 46, 178, 179, 180, 181] (by decide +kernel) (by decide +kernel)
set_option maxRecDepth 20000 in
theorem gX4_readOver_X3_becomeLike : GoodIn wsX4_readOver (wsV RX4 50 RX3 yX3_becomeLike wsX3_becomeLike) := goodIn_app (goodIn_of _ (by decide +kernel)) ggX4_readOver_X3_becomeLike
set_option maxRecDepth 20000 in
theorem ggX4_readOver_X4_readItem : GoodIn wsX4_readOver wsX4_readItem := goodIn_r _ [51, 7, 9, 52, 53, 54, 50, 55, 56, 57, 58, 59, 60, 61, 62, 63, 64, 65, 66, 67, 68, 69, 70, 71, 72, 73, 74, 75, 76, 77, 78, 6, 1, 79, 80, 81, 82, 83, 84, 85, 86, 87, 88, 89, 90, 91, 92, 93, 94, 95, 96, 97, 98, 99, 100, 101, 102, 103, 104, 105, 106, 107, 108, 109, 110, 111, 112, 113, 114, 115, 116, 117, 118, 119, 8, 120, 121, 122, 37, 123, 45, 124, 125, 126, 127, 128, 129, 130, 131, 132, 133, 134, 135, 136, 137, 138, 139, 140, 141, 142, 143, 144, 145, 146, 147, 148, 149, 150, 151, 152, 153, 154, 155, 156, 157, 158, 159, 160, 161, 162, 163, 39, 164, 165, 166, 167, 168, 44, 169, 170, 171, 172, 173, 174, 178, 179, 180, 181] (by decide +kernel) (by decide +kernel)
set_option maxRecDepth 20000 in
theorem gX4_readOver_X4_readItem : GoodIn wsX4_readOver (wsV RX4 54 RX4 yX4_readItem wsX4_readItem) := goodIn_app (goodIn_of _ (by decide +kernel)) ggX4_readOver_X4_readItem
set_option maxRecDepth 20000 in
theorem ggX4_readOver_X4_sign : GoodIn wsX4_readOver wsX4_sign := goodIn_r _ [131, 7, 75, 76, 77, 50, 78, 6, 1, 116, 117, 118, 119, 8, 169, 170, 171, 172, 173, 174] (by decide +kernel) (by decide +kernel)
set_option maxRecDepth 20000 in
theorem gX4_readOver_X4_sign : GoodIn wsX4_readOver (wsV RX4 58 RX4 yX4_sign wsX4_sign) := goodIn_app (goodIn_of _ (by decide +kernel)) ggX4_readOver_X4_sign
theorem dX4_readOver_0 : decode cX4_readOver 0 = .ok (.aload_n 0, 1) := by decide +kernel
theorem dX4_readOver_1 : decode cX4_readOver 1 = .ok (.aload_n 0, 1) := by decide +kernel
theorem dX4_readOver_2 : decode cX4_readOver 2 = .ok (.getfield 24, 3) := by decide +kernel
theorem dX4_readOver_5 : decode cX4_readOver 5 = .ok (.arraylength, 1) := by decide +kernel
theorem dX4_readOver_6 : decode cX4_readOver 6 = .ok (.aload_n 2, 1) := by decide +kernel
theorem dX4_readOver_7 : decode cX4_readOver 7 = .ok (.iload_n 3, 1) := by decide +kernel
theorem dX4_readOver_8 : decode cX4_readOver 8 = .ok (.invokevirtual 31, 3) := by decide +kernel
theorem dX4_readOver_11 : decode cX4_readOver 11 = .ok (.invokestatic 35, 3) := by decide +kernel
theorem dX4_readOver_14 : decode cX4_readOver 14 = .ok (.putfield 41, 3) := by decide +kernel
theorem dX4_readOver_17 : decode cX4_readOver 17 = .ok (.iconst 0, 1) := by decide +kernel
theorem dX4_readOver_18 : decode cX4_readOver 18 = .ok (.istore 4, 2) := by decide +kernel
theorem dX4_readOver_20 : decode cX4_readOver 20 = .ok (.iload 4, 2) := by decide +kernel
theorem dX4_readOver_22 : decode cX4_readOver 22 = .ok (.aload_n 0, 1) := by decide +kernel
theorem dX4_readOver_23 : decode cX4_readOver 23 = .ok (.getfield 41, 3) := by decide +kernel
theorem dX4_readOver_26 : decode cX4_readOver 26 = .ok (.if_icmp .ge 23, 3) := by decide +kernel
theorem dX4_readOver_29 : decode cX4_readOver 29 = .ok (.aload_n 0, 1) := by decide +kernel
theorem dX4_readOver_30 : decode cX4_readOver 30 = .ok (.getfield 24, 3) := by decide +kernel
theorem dX4_readOver_33 : decode cX4_readOver 33 = .ok (.iload 4, 2) := by decide +kernel
theorem dX4_readOver_35 : decode cX4_readOver 35 = .ok (.aload_n 2, 1) := by decide +kernel
theorem dX4_readOver_36 : decode cX4_readOver 36 = .ok (.iload_n 3, 1) := by decide +kernel
theorem dX4_readOver_37 : decode cX4_readOver 37 = .ok (.iload 4, 2) := by decide +kernel
theorem dX4_readOver_39 : decode cX4_readOver 39 = .ok (.invokevirtual 44, 3) := by decide +kernel
theorem dX4_readOver_42 : decode cX4_readOver 42 = .ok (.iastore, 1) := by decide +kernel
theorem dX4_readOver_43 : decode cX4_readOver 43 = .ok (.iinc 4 1, 3) := by decide +kernel
theorem dX4_readOver_46 : decode cX4_readOver 46 = .ok (.goto (-26), 3) := by decide +kernel
theorem dX4_readOver_49 : decode cX4_readOver 49 = .ok (.aload_n 0, 1) := by decide +kernel
theorem dX4_readOver_50 : decode cX4_readOver 50 = .ok (.iconst 0, 1) := by decide +kernel
theorem dX4_readOver_51 : decode cX4_readOver 51 = .ok (.putfield 47, 3) := by decide +kernel
theorem dX4_readOver_54 : decode cX4_readOver 54 = .ok (.aload_n 0, 1) := by decide +kernel
theorem dX4_readOver_55 : decode cX4_readOver 55 = .ok (.iconst (-1), 1) := by decide +kernel
theorem dX4_readOver_56 : decode cX4_readOver 56 = .ok (.putfield 27, 3) := by decide +kernel
theorem dX4_readOver_59 : decode cX4_readOver 59 = .ok (.aload_n 0, 1) := by decide +kernel
theorem dX4_readOver_60 : decode cX4_readOver 60 = .ok (.getfield 12, 3) := by decide +kernel
theorem dX4_readOver_63 : decode cX4_readOver 63 = .ok (.aload_n 1, 1) := by decide +kernel
theorem dX4_readOver_64 : decode cX4_readOver 64 = .ok (.invokevirtual 50, 3) := by decide +kernel
theorem dX4_readOver_67 : decode cX4_readOver 67 = .ok (.iconst 0, 1) := by decide +kernel
theorem dX4_readOver_68 : decode cX4_readOver 68 = .ok (.istore 4, 2) := by decide +kernel
theorem dX4_readOver_70 : decode cX4_readOver 70 = .ok (.iconst 1, 1) := by decide +kernel
theorem dX4_readOver_71 : decode cX4_readOver 71 = .ok (.istore 5, 2) := by decide +kernel
theorem dX4_readOver_73 : decode cX4_readOver 73 = .ok (.iload 5, 2) := by decide +kernel
theorem dX4_readOver_75 : decode cX4_readOver 75 = .ok (.ifCond .eq 52, 3) := by decide +kernel
theorem dX4_readOver_78 : decode cX4_readOver 78 = .ok (.iload 4, 2) := by decide +kernel
theorem dX4_readOver_80 : decode cX4_readOver 80 = .ok (.aload_n 0, 1) := by decide +kernel
theorem dX4_readOver_81 : decode cX4_readOver 81 = .ok (.getfield 41, 3) := by decide +kernel
theorem dX4_readOver_84 : decode cX4_readOver 84 = .ok (.if_icmp .gt 43, 3) := by decide +kernel
theorem dX4_readOver_87 : decode cX4_readOver 87 = .ok (.aload_n 0, 1) := by decide +kernel
theorem dX4_readOver_88 : decode cX4_readOver 88 = .ok (.invokevirtual 54, 3) := by decide +kernel
theorem dX4_readOver_91 : decode cX4_readOver 91 = .ok (.ifCond .eq 27, 3) := by decide +kernel
theorem dX4_readOver_94 : decode cX4_readOver 94 = .ok (.aload_n 0, 1) := by decide +kernel
theorem dX4_readOver_95 : decode cX4_readOver 95 = .ok (.getfield 47, 3) := by decide +kernel
theorem dX4_readOver_98 : decode cX4_readOver 98 = .ok (.aload_n 0, 1) := by decide +kernel
theorem dX4_readOver_99 : decode cX4_readOver 99 = .ok (.getfield 41, 3) := by decide +kernel
theorem dX4_readOver_102 : decode cX4_readOver 102 = .ok (.if_icmp .ge 16, 3) := by decide +kernel
theorem dX4_readOver_105 : decode cX4_readOver 105 = .ok (.aload_n 0, 1) := by decide +kernel
theorem dX4_readOver_106 : decode cX4_readOver 106 = .ok (.bipush 59, 2) := by decide +kernel
theorem dX4_readOver_108 : decode cX4_readOver 108 = .ok (.invokevirtual 58, 3) := by decide +kernel
theorem dX4_readOver_111 : decode cX4_readOver 111 = .ok (.ifCond .eq 7, 3) := by decide +kernel
theorem dX4_readOver_114 : decode cX4_readOver 114 = .ok (.iconst 1, 1) := by decide +kernel
theorem dX4_readOver_115 : decode cX4_readOver 115 = .ok (.goto 4, 3) := by decide +kernel
theorem dX4_readOver_118 : decode cX4_readOver 118 = .ok (.iconst 0, 1) := by decide +kernel
theorem dX4_readOver_119 : decode cX4_readOver 119 = .ok (.istore 5, 2) := by decide +kernel
theorem dX4_readOver_121 : decode cX4_readOver 121 = .ok (.iinc 4 1, 3) := by decide +kernel
theorem dX4_readOver_124 : decode cX4_readOver 124 = .ok (.goto (-51), 3) := by decide +kernel
theorem dX4_readOver_127 : decode cX4_readOver 127 = .ok (.aload_n 0, 1) := by decide +kernel
theorem dX4_readOver_128 : decode cX4_readOver 128 = .ok (.getfield 27, 3) := by decide +kernel
theorem dX4_readOver_131 : decode cX4_readOver 131 = .ok (.iconst (-1), 1) := by decide +kernel
theorem dX4_readOver_132 : decode cX4_readOver 132 = .ok (.if_icmp .ne 11, 3) := by decide +kernel
theorem dX4_readOver_135 : decode cX4_readOver 135 = .ok (.aload_n 1, 1) := by decide +kernel
theorem dX4_readOver_136 : decode cX4_readOver 136 = .ok (.aload_n 0, 1) := by decide +kernel
theorem dX4_readOver_137 : decode cX4_readOver 137 = .ok (.getfield 12, 3) := by decide +kernel
theorem dX4_readOver_140 : decode cX4_readOver 140 = .ok (.invokevirtual 50, 3) := by decide +kernel
theorem dX4_readOver_143 : decode cX4_readOver 143 = .ok (.iload 4, 2) := by decide +kernel
theorem dX4_readOver_145 : decode cX4_readOver 145 = .ok (.ireturn, 1) := by decide +kernel
set_option maxRecDepth 20000 in
theorem ggX4_readItem_X4_longestWordHere : GoodIn wsX4_readItem wsX4_longestWordHere := goodIn_r _ [7, 8, 9, 10, 6, 11, 1, 12, 13, 14, 15, 16, 17, 18, 19, 20, 21, 22, 23, 24, 25, 26, 27, 28, 29, 30, 31, 32, 33, 34, 35, 36, 37, 38, 39, 40, 41, 42, 43, 44, 45, 46, 47, 48, 49, 50, 51, 52, 53, 54, 55, 56, 57, 58, 59, 60, 61, 62, 63, 64, 65, 66, 67, 68, 69, 128, 129, 130, 131, 132, 133] (by decide +kernel) (by decide +kernel)
set_option maxRecDepth 20000 in
theorem gX4_readItem_X4_longestWordHere : GoodIn wsX4_readItem (wsV RX4 62 RX4 yX4_longestWordHere wsX4_longestWordHere) := goodIn_app (goodIn_of _ (by decide +kernel)) ggX4_readItem_X4_longestWordHere
set_option maxRecDepth 20000 in
theorem ggX4_readItem_X4_matchedOf : GoodIn wsX4_readItem wsX4_matchedOf := goodIn_r _ [11, 1, 12, 13, 6, 14, 15, 16, 17, 18, 19, 20, 21, 22, 23, 24, 25, 26, 27, 28, 29, 30, 31, 32, 33, 34, 35, 36, 37, 38, 39, 40, 41, 42, 43, 44, 45, 46, 47, 48, 49, 50, 51, 52, 53, 54, 55, 56, 57, 58, 59, 60, 61, 62, 63, 64, 65, 66, 67, 68, 69, 128, 129, 130, 131, 132, 133] (by decide +kernel) (by decide +kernel)
set_option maxRecDepth 20000 in
theorem gX4_readItem_X4_matchedOf : GoodIn wsX4_readItem (wsV RX4 66 RX4 yX4_matchedOf wsX4_matchedOf) := goodIn_app (goodIn_of _ (by decide +kernel)) ggX4_readItem_X4_matchedOf
set_option maxRecDepth 20000 in
theorem ggX4_readItem_X4_wordOf : GoodIn wsX4_readItem wsX4_wordOf := goodIn_r _ [14] (by decide +kernel) (by decide +kernel)
set_option maxRecDepth 20000 in
theorem gX4_readItem_X4_wordOf : GoodIn wsX4_readItem (va_wsS RX4 69 yX4_wordOf wsX4_wordOf) := goodIn_app (goodIn_of _ (by decide +kernel)) ggX4_readItem_X4_wordOf
set_option maxRecDepth 20000 in
theorem ggX4_readItem_J0_length_8abf5 : GoodIn wsX4_readItem wsJ0_length_8abf5 := goodIn_r _ [19, 20, 21, 22, 23, 18, 24, 25, 26] (by decide +kernel) (by decide +kernel)
set_option maxRecDepth 20000 in
theorem gX4_readItem_J0_length_8abf5 : GoodIn wsX4_readItem (wsV RX4 73 RJ0 yJ0_length_8abf5 wsJ0_length_8abf5) := goodIn_app (goodIn_of _ (by decide +kernel)) ggX4_readItem_J0_length_8abf5
set_option maxRecDepth 20000 in
theorem ggX4_readItem_X4_faultIs : GoodIn wsX4_readItem wsX4_faultIs := goodIn_r _ [73, 74, 128, 129, 130, 131, 132, 133] (by decide +kernel) (by decide +kernel)
set_option maxRecDepth 20000 in
theorem gX4_readItem_X4_faultIs : GoodIn wsX4_readItem (wsV RX4 77 RX4 yX4_faultIs wsX4_faultIs) := goodIn_app (goodIn_of _ (by decide +kernel)) ggX4_readItem_X4_faultIs
set_option maxRecDepth 20000 in
theorem ggX4_readItem_X3_hasRoomFor : GoodIn wsX4_readItem wsX3_hasRoomFor := goodIn_r _ [79, 80, 134, 135, 136, 137] (by decide +kernel) (by decide +kernel)
set_option maxRecDepth 20000 in
theorem gX4_readItem_X3_hasRoomFor : GoodIn wsX4_readItem (wsV RX4 81 RX3 yX3_hasRoomFor wsX3_hasRoomFor) := goodIn_app (goodIn_of _ (by decide +kernel)) ggX4_readItem_X3_hasRoomFor
set_option maxRecDepth 20000 in
theorem ggX4_readItem_X4_numbersFrom : GoodIn wsX4_readItem wsX4_numbersFrom := goodIn_r _ [83, 84] (by decide +kernel) (by decide +kernel)
set_option maxRecDepth 20000 in
theorem gX4_readItem_X4_numbersFrom : GoodIn wsX4_readItem (va_wsS RX4 84 yX4_numbersFrom wsX4_numbersFrom) := goodIn_app (goodIn_of _ (by decide +kernel)) ggX4_readItem_X4_numbersFrom
set_option maxRecDepth 20000 in
theorem ggX4_readItem_X4_sign : GoodIn wsX4_readItem wsX4_sign := goodIn_r _ [88, 1, 27, 28, 29, 6, 30, 31, 32, 70, 71, 72, 73, 74, 128, 129, 130, 131, 132, 133] (by decide +kernel) (by decide +kernel)
set_option maxRecDepth 20000 in
theorem gX4_readItem_X4_sign : GoodIn wsX4_readItem (wsV RX4 58 RX4 yX4_sign wsX4_sign) := goodIn_app (goodIn_of _ (by decide +kernel)) ggX4_readItem_X4_sign
set_option maxRecDepth 20000 in
theorem ggX4_readItem_X4_number : GoodIn wsX4_readItem wsX4_number := goodIn_r _ [92, 1, 93, 27, 28, 29, 6, 30, 31, 32, 94, 95, 96, 97, 98, 2, 99, 100, 101, 78, 102, 80, 103, 104, 105, 106, 107, 70, 71, 72, 73, 74, 128, 129, 130, 131, 132, 133, 134, 135, 136, 137] (by decide +kernel) (by decide +kernel)
set_option maxRecDepth 20000 in
theorem gX4_readItem_X4_number : GoodIn wsX4_readItem (wsV RX4 87 RX4 yX4_number wsX4_number) := goodIn_app (goodIn_of _ (by decide +kernel)) ggX4_readItem_X4_number
set_option maxRecDepth 20000 in
theorem ggX4_readItem_X4_tellItem : GoodIn wsX4_readItem wsX4_tellItem := goodIn_r _ [111, 2, 93, 112, 113, 114, 78, 115, 80, 116, 76, 77, 79, 117, 118, 119, 120, 121, 122, 123, 124, 125, 126, 127, 128, 129, 130, 131, 132, 133, 134, 135, 136, 137] (by decide +kernel) (by decide +kernel)
set_option maxRecDepth 20000 in
theorem gX4_readItem_X4_tellItem : GoodIn wsX4_readItem (wsV RX4 91 RX4 yX4_tellItem wsX4_tellItem) := goodIn_app (goodIn_of _ (by decide +kernel)) ggX4_readItem_X4_tellItem
theorem dX4_readItem_0 : decode cX4_readItem 0 = .ok (.aload_n 0, 1) := by decide +kernel
theorem dX4_readItem_1 : decode cX4_readItem 1 = .ok (.invokevirtual 62, 3) := by decide +kernel
theorem dX4_readItem_4 : decode cX4_readItem 4 = .ok (.istore_n 1, 1) := by decide +kernel
theorem dX4_readItem_5 : decode cX4_readItem 5 = .ok (.aload_n 0, 1) := by decide +kernel
theorem dX4_readItem_6 : decode cX4_readItem 6 = .ok (.iload_n 1, 1) := by decide +kernel
theorem dX4_readItem_7 : decode cX4_readItem 7 = .ok (.invokevirtual 66, 3) := by decide +kernel
theorem dX4_readItem_10 : decode cX4_readItem 10 = .ok (.istore_n 2, 1) := by decide +kernel
theorem dX4_readItem_11 : decode cX4_readItem 11 = .ok (.iload_n 2, 1) := by decide +kernel
theorem dX4_readItem_12 : decode cX4_readItem 12 = .ok (.iload_n 1, 1) := by decide +kernel
theorem dX4_readItem_13 : decode cX4_readItem 13 = .ok (.invokestatic 69, 3) := by decide +kernel
theorem dX4_readItem_16 : decode cX4_readItem 16 = .ok (.invokevirtual 73, 3) := by decide +kernel
theorem dX4_readItem_19 : decode cX4_readItem 19 = .ok (.if_icmp .ge 14, 3) := by decide +kernel
theorem dX4_readItem_22 : decode cX4_readItem 22 = .ok (.aload_n 0, 1) := by decide +kernel
theorem dX4_readItem_23 : decode cX4_readItem 23 = .ok (.aload_n 0, 1) := by decide +kernel
theorem dX4_readItem_24 : decode cX4_readItem 24 = .ok (.getfield 47, 3) := by decide +kernel
theorem dX4_readItem_27 : decode cX4_readItem 27 = .ok (.iload_n 2, 1) := by decide +kernel
theorem dX4_readItem_28 : decode cX4_readItem 28 = .ok (.iadd, 1) := by decide +kernel
theorem dX4_readItem_29 : decode cX4_readItem 29 = .ok (.invokevirtual 77, 3) := by decide +kernel
theorem dX4_readItem_32 : decode cX4_readItem 32 = .ok (.ireturn, 1) := by decide +kernel
theorem dX4_readItem_33 : decode cX4_readItem 33 = .ok (.iload_n 1, 1) := by decide +kernel
theorem dX4_readItem_34 : decode cX4_readItem 34 = .ok (.ifCond .ne 23, 3) := by decide +kernel
theorem dX4_readItem_37 : decode cX4_readItem 37 = .ok (.aload_n 0, 1) := by decide +kernel
theorem dX4_readItem_38 : decode cX4_readItem 38 = .ok (.getfield 12, 3) := by decide +kernel
theorem dX4_readItem_41 : decode cX4_readItem 41 = .ok (.iconst 1, 1) := by decide +kernel
theorem dX4_readItem_42 : decode cX4_readItem 42 = .ok (.invokevirtual 81, 3) := by decide +kernel
theorem dX4_readItem_45 : decode cX4_readItem 45 = .ok (.ifCond .ne 12, 3) := by decide +kernel
theorem dX4_readItem_48 : decode cX4_readItem 48 = .ok (.aload_n 0, 1) := by decide +kernel
theorem dX4_readItem_49 : decode cX4_readItem 49 = .ok (.aload_n 0, 1) := by decide +kernel
theorem dX4_readItem_50 : decode cX4_readItem 50 = .ok (.getfield 47, 3) := by decide +kernel
theorem dX4_readItem_53 : decode cX4_readItem 53 = .ok (.invokevirtual 77, 3) := by decide +kernel
theorem dX4_readItem_56 : decode cX4_readItem 56 = .ok (.ireturn, 1) := by decide +kernel
theorem dX4_readItem_57 : decode cX4_readItem 57 = .ok (.aload_n 0, 1) := by decide +kernel
theorem dX4_readItem_58 : decode cX4_readItem 58 = .ok (.dup, 1) := by decide +kernel
theorem dX4_readItem_59 : decode cX4_readItem 59 = .ok (.getfield 47, 3) := by decide +kernel
theorem dX4_readItem_62 : decode cX4_readItem 62 = .ok (.iload_n 2, 1) := by decide +kernel
theorem dX4_readItem_63 : decode cX4_readItem 63 = .ok (.iadd, 1) := by decide +kernel
theorem dX4_readItem_64 : decode cX4_readItem 64 = .ok (.putfield 47, 3) := by decide +kernel
theorem dX4_readItem_67 : decode cX4_readItem 67 = .ok (.iload_n 1, 1) := by decide +kernel
theorem dX4_readItem_68 : decode cX4_readItem 68 = .ok (.invokestatic 84, 3) := by decide +kernel
theorem dX4_readItem_71 : decode cX4_readItem 71 = .ok (.istore_n 3, 1) := by decide +kernel
theorem dX4_readItem_72 : decode cX4_readItem 72 = .ok (.iload_n 1, 1) := by decide +kernel
theorem dX4_readItem_73 : decode cX4_readItem 73 = .ok (.iconst 1, 1) := by decide +kernel
theorem dX4_readItem_74 : decode cX4_readItem 74 = .ok (.iadd, 1) := by decide +kernel
theorem dX4_readItem_75 : decode cX4_readItem 75 = .ok (.invokestatic 84, 3) := by decide +kernel
theorem dX4_readItem_78 : decode cX4_readItem 78 = .ok (.iload_n 3, 1) := by decide +kernel
theorem dX4_readItem_79 : decode cX4_readItem 79 = .ok (.isub, 1) := by decide +kernel
theorem dX4_readItem_80 : decode cX4_readItem 80 = .ok (.istore 4, 2) := by decide +kernel
theorem dX4_readItem_82 : decode cX4_readItem 82 = .ok (.iconst 0, 1) := by decide +kernel
theorem dX4_readItem_83 : decode cX4_readItem 83 = .ok (.istore 5, 2) := by decide +kernel
theorem dX4_readItem_85 : decode cX4_readItem 85 = .ok (.iload 5, 2) := by decide +kernel
theorem dX4_readItem_87 : decode cX4_readItem 87 = .ok (.iload 4, 2) := by decide +kernel
theorem dX4_readItem_89 : decode cX4_readItem 89 = .ok (.if_icmp .ge 33, 3) := by decide +kernel
theorem dX4_readItem_92 : decode cX4_readItem 92 = .ok (.aload_n 0, 1) := by decide +kernel
theorem dX4_readItem_93 : decode cX4_readItem 93 = .ok (.bipush 32, 2) := by decide +kernel
theorem dX4_readItem_95 : decode cX4_readItem 95 = .ok (.invokevirtual 58, 3) := by decide +kernel
theorem dX4_readItem_98 : decode cX4_readItem 98 = .ok (.ifCond .eq 16, 3) := by decide +kernel
theorem dX4_readItem_101 : decode cX4_readItem 101 = .ok (.aload_n 0, 1) := by decide +kernel
theorem dX4_readItem_102 : decode cX4_readItem 102 = .ok (.iload 5, 2) := by decide +kernel
theorem dX4_readItem_104 : decode cX4_readItem 104 = .ok (.iload_n 3, 1) := by decide +kernel
theorem dX4_readItem_105 : decode cX4_readItem 105 = .ok (.iload 5, 2) := by decide +kernel
theorem dX4_readItem_107 : decode cX4_readItem 107 = .ok (.iadd, 1) := by decide +kernel
theorem dX4_readItem_108 : decode cX4_readItem 108 = .ok (.invokevirtual 87, 3) := by decide +kernel
theorem dX4_readItem_111 : decode cX4_readItem 111 = .ok (.ifCond .ne 5, 3) := by decide +kernel
theorem dX4_readItem_114 : decode cX4_readItem 114 = .ok (.iconst 0, 1) := by decide +kernel
theorem dX4_readItem_115 : decode cX4_readItem 115 = .ok (.ireturn, 1) := by decide +kernel
theorem dX4_readItem_116 : decode cX4_readItem 116 = .ok (.iinc 5 1, 3) := by decide +kernel
theorem dX4_readItem_119 : decode cX4_readItem 119 = .ok (.goto (-34), 3) := by decide +kernel
theorem dX4_readItem_122 : decode cX4_readItem 122 = .ok (.aload_n 0, 1) := by decide +kernel
theorem dX4_readItem_123 : decode cX4_readItem 123 = .ok (.iload_n 1, 1) := by decide +kernel
theorem dX4_readItem_124 : decode cX4_readItem 124 = .ok (.invokevirtual 91, 3) := by decide +kernel
theorem dX4_readItem_127 : decode cX4_readItem 127 = .ok (.iconst 1, 1) := by decide +kernel
theorem dX4_readItem_128 : decode cX4_readItem 128 = .ok (.ireturn, 1) := by decide +kernel
theorem dX4_faultIs_0 : decode cX4_faultIs 0 = .ok (.aload_n 0, 1) := by decide +kernel
theorem dX4_faultIs_1 : decode cX4_faultIs 1 = .ok (.iload_n 1, 1) := by decide +kernel
theorem dX4_faultIs_2 : decode cX4_faultIs 2 = .ok (.putfield 27, 3) := by decide +kernel
theorem dX4_faultIs_5 : decode cX4_faultIs 5 = .ok (.iconst 0, 1) := by decide +kernel
theorem dX4_faultIs_6 : decode cX4_faultIs 6 = .ok (.ireturn, 1) := by decide +kernel
theorem dX4_letterAt_0 : decode cX4_letterAt 0 = .ok (.iload_n 1, 1) := by decide +kernel
theorem dX4_letterAt_1 : decode cX4_letterAt 1 = .ok (.ifCond .lt 29, 3) := by decide +kernel
theorem dX4_letterAt_4 : decode cX4_letterAt 4 = .ok (.iload_n 1, 1) := by decide +kernel
theorem dX4_letterAt_5 : decode cX4_letterAt 5 = .ok (.aload_n 0, 1) := by decide +kernel
theorem dX4_letterAt_6 : decode cX4_letterAt 6 = .ok (.getfield 41, 3) := by decide +kernel
theorem dX4_letterAt_9 : decode cX4_letterAt 9 = .ok (.if_icmp .ge 21, 3) := by decide +kernel
theorem dX4_letterAt_12 : decode cX4_letterAt 12 = .ok (.iload_n 1, 1) := by decide +kernel
theorem dX4_letterAt_13 : decode cX4_letterAt 13 = .ok (.aload_n 0, 1) := by decide +kernel
theorem dX4_letterAt_14 : decode cX4_letterAt 14 = .ok (.getfield 24, 3) := by decide +kernel
theorem dX4_letterAt_17 : decode cX4_letterAt 17 = .ok (.arraylength, 1) := by decide +kernel
theorem dX4_letterAt_18 : decode cX4_letterAt 18 = .ok (.if_icmp .ge 12, 3) := by decide +kernel
theorem dX4_letterAt_21 : decode cX4_letterAt 21 = .ok (.aload_n 0, 1) := by decide +kernel
theorem dX4_letterAt_22 : decode cX4_letterAt 22 = .ok (.getfield 24, 3) := by decide +kernel
theorem dX4_letterAt_25 : decode cX4_letterAt 25 = .ok (.iload_n 1, 1) := by decide +kernel
theorem dX4_letterAt_26 : decode cX4_letterAt 26 = .ok (.iaload, 1) := by decide +kernel
theorem dX4_letterAt_27 : decode cX4_letterAt 27 = .ok (.goto 4, 3) := by decide +kernel
theorem dX4_letterAt_30 : decode cX4_letterAt 30 = .ok (.iconst (-1), 1) := by decide +kernel
theorem dX4_letterAt_31 : decode cX4_letterAt 31 = .ok (.ireturn, 1) := by decide +kernel
set_option maxRecDepth 20000 in
theorem ggX4_sign_X4_letterAt : GoodIn wsX4_sign wsX4_letterAt := goodIn_r _ [6, 7, 8, 14, 15, 16, 17, 18, 19] (by decide +kernel) (by decide +kernel)
set_option maxRecDepth 20000 in
theorem gX4_sign_X4_letterAt : GoodIn wsX4_sign (wsV RX4 95 RX4 yX4_letterAt wsX4_letterAt) := goodIn_app (goodIn_of _ (by decide +kernel)) ggX4_sign_X4_letterAt
set_option maxRecDepth 20000 in
theorem ggX4_sign_X4_faultIs : GoodIn wsX4_sign wsX4_faultIs := goodIn_r _ [12, 13, 14, 15, 16, 17, 18, 19] (by decide +kernel) (by decide +kernel)
set_option maxRecDepth 20000 in
theorem gX4_sign_X4_faultIs : GoodIn wsX4_sign (wsV RX4 77 RX4 yX4_faultIs wsX4_faultIs) := goodIn_app (goodIn_of _ (by decide +kernel)) ggX4_sign_X4_faultIs
theorem dX4_sign_0 : decode cX4_sign 0 = .ok (.aload_n 0, 1) := by decide +kernel
theorem dX4_sign_1 : decode cX4_sign 1 = .ok (.aload_n 0, 1) := by decide +kernel
theorem dX4_sign_2 : decode cX4_sign 2 = .ok (.getfield 47, 3) := by decide +kernel
theorem dX4_sign_5 : decode cX4_sign 5 = .ok (.invokevirtual 95, 3) := by decide +kernel
theorem dX4_sign_8 : decode cX4_sign 8 = .ok (.iload_n 1, 1) := by decide +kernel
theorem dX4_sign_9 : decode cX4_sign 9 = .ok (.if_icmp .eq 12, 3) := by decide +kernel
theorem dX4_sign_12 : decode cX4_sign 12 = .ok (.aload_n 0, 1) := by decide +kernel
theorem dX4_sign_13 : decode cX4_sign 13 = .ok (.aload_n 0, 1) := by decide +kernel
theorem dX4_sign_14 : decode cX4_sign 14 = .ok (.getfield 47, 3) := by decide +kernel
theorem dX4_sign_17 : decode cX4_sign 17 = .ok (.invokevirtual 77, 3) := by decide +kernel
theorem dX4_sign_20 : decode cX4_sign 20 = .ok (.ireturn, 1) := by decide +kernel
theorem dX4_sign_21 : decode cX4_sign 21 = .ok (.aload_n 0, 1) := by decide +kernel
theorem dX4_sign_22 : decode cX4_sign 22 = .ok (.dup, 1) := by decide +kernel
theorem dX4_sign_23 : decode cX4_sign 23 = .ok (.getfield 47, 3) := by decide +kernel
theorem dX4_sign_26 : decode cX4_sign 26 = .ok (.iconst 1, 1) := by decide +kernel
theorem dX4_sign_27 : decode cX4_sign 27 = .ok (.iadd, 1) := by decide +kernel
theorem dX4_sign_28 : decode cX4_sign 28 = .ok (.putfield 47, 3) := by decide +kernel
theorem dX4_sign_31 : decode cX4_sign 31 = .ok (.iconst 1, 1) := by decide +kernel
theorem dX4_sign_32 : decode cX4_sign 32 = .ok (.ireturn, 1) := by decide +kernel
set_option maxRecDepth 20000 in
theorem ggX4_number_X4_letterAt : GoodIn wsX4_number wsX4_letterAt := goodIn_r _ [7, 8, 9, 32, 33, 34, 35, 36, 37] (by decide +kernel) (by decide +kernel)
set_option maxRecDepth 20000 in
theorem gX4_number_X4_letterAt : GoodIn wsX4_number (wsV RX4 95 RX4 yX4_letterAt wsX4_letterAt) := goodIn_app (goodIn_of _ (by decide +kernel)) ggX4_number_X4_letterAt
set_option maxRecDepth 20000 in
theorem ggX4_number_X4_mayStand : GoodIn wsX4_number wsX4_mayStand := goodIn_r _ [13, 14, 15, 16, 17, 18, 19, 20, 21, 22, 23, 24, 25, 26, 32, 33, 34, 35, 36, 37, 38, 39, 40, 41] (by decide +kernel) (by decide +kernel)
set_option maxRecDepth 20000 in
theorem gX4_number_X4_mayStand : GoodIn wsX4_number (wsV RX4 98 RX4 yX4_mayStand wsX4_mayStand) := goodIn_app (goodIn_of _ (by decide +kernel)) ggX4_number_X4_mayStand
set_option maxRecDepth 20000 in
theorem ggX4_number_X4_faultIs : GoodIn wsX4_number wsX4_faultIs := goodIn_r _ [30, 31, 32, 33, 34, 35, 36, 37] (by decide +kernel) (by decide +kernel)
set_option maxRecDepth 20000 in
theorem gX4_number_X4_faultIs : GoodIn wsX4_number (wsV RX4 77 RX4 yX4_faultIs wsX4_faultIs) := goodIn_app (goodIn_of _ (by decide +kernel)) ggX4_number_X4_faultIs
theorem dX4_number_0 : decode cX4_number 0 = .ok (.aload_n 0, 1) := by decide +kernel
theorem dX4_number_1 : decode cX4_number 1 = .ok (.getfield 47, 3) := by decide +kernel
theorem dX4_number_4 : decode cX4_number 4 = .ok (.istore_n 3, 1) := by decide +kernel
theorem dX4_number_5 : decode cX4_number 5 = .ok (.iconst 0, 1) := by decide +kernel
theorem dX4_number_6 : decode cX4_number 6 = .ok (.istore 4, 2) := by decide +kernel
theorem dX4_number_8 : decode cX4_number 8 = .ok (.aload_n 0, 1) := by decide +kernel
theorem dX4_number_9 : decode cX4_number 9 = .ok (.getfield 47, 3) := by decide +kernel
theorem dX4_number_12 : decode cX4_number 12 = .ok (.iload_n 3, 1) := by decide +kernel
theorem dX4_number_13 : decode cX4_number 13 = .ok (.isub, 1) := by decide +kernel
theorem dX4_number_14 : decode cX4_number 14 = .ok (.iconst 4, 1) := by decide +kernel
theorem dX4_number_15 : decode cX4_number 15 = .ok (.if_icmp .ge 61, 3) := by decide +kernel
theorem dX4_number_18 : decode cX4_number 18 = .ok (.aload_n 0, 1) := by decide +kernel
theorem dX4_number_19 : decode cX4_number 19 = .ok (.aload_n 0, 1) := by decide +kernel
theorem dX4_number_20 : decode cX4_number 20 = .ok (.getfield 47, 3) := by decide +kernel
theorem dX4_number_23 : decode cX4_number 23 = .ok (.invokevirtual 95, 3) := by decide +kernel
theorem dX4_number_26 : decode cX4_number 26 = .ok (.bipush 48, 2) := by decide +kernel
theorem dX4_number_28 : decode cX4_number 28 = .ok (.if_icmp .lt 48, 3) := by decide +kernel
theorem dX4_number_31 : decode cX4_number 31 = .ok (.aload_n 0, 1) := by decide +kernel
theorem dX4_number_32 : decode cX4_number 32 = .ok (.aload_n 0, 1) := by decide +kernel
theorem dX4_number_33 : decode cX4_number 33 = .ok (.getfield 47, 3) := by decide +kernel
theorem dX4_number_36 : decode cX4_number 36 = .ok (.invokevirtual 95, 3) := by decide +kernel
theorem dX4_number_39 : decode cX4_number 39 = .ok (.bipush 57, 2) := by decide +kernel
theorem dX4_number_41 : decode cX4_number 41 = .ok (.if_icmp .gt 35, 3) := by decide +kernel
theorem dX4_number_44 : decode cX4_number 44 = .ok (.bipush 10, 2) := by decide +kernel
theorem dX4_number_46 : decode cX4_number 46 = .ok (.iload 4, 2) := by decide +kernel
theorem dX4_number_48 : decode cX4_number 48 = .ok (.imul, 1) := by decide +kernel
theorem dX4_number_49 : decode cX4_number 49 = .ok (.aload_n 0, 1) := by decide +kernel
theorem dX4_number_50 : decode cX4_number 50 = .ok (.aload_n 0, 1) := by decide +kernel
theorem dX4_number_51 : decode cX4_number 51 = .ok (.getfield 47, 3) := by decide +kernel
theorem dX4_number_54 : decode cX4_number 54 = .ok (.invokevirtual 95, 3) := by decide +kernel
theorem dX4_number_57 : decode cX4_number 57 = .ok (.iadd, 1) := by decide +kernel
theorem dX4_number_58 : decode cX4_number 58 = .ok (.bipush 48, 2) := by decide +kernel
theorem dX4_number_60 : decode cX4_number 60 = .ok (.isub, 1) := by decide +kernel
theorem dX4_number_61 : decode cX4_number 61 = .ok (.istore 4, 2) := by decide +kernel
theorem dX4_number_63 : decode cX4_number 63 = .ok (.aload_n 0, 1) := by decide +kernel
theorem dX4_number_64 : decode cX4_number 64 = .ok (.dup, 1) := by decide +kernel
theorem dX4_number_65 : decode cX4_number 65 = .ok (.getfield 47, 3) := by decide +kernel
theorem dX4_number_68 : decode cX4_number 68 = .ok (.iconst 1, 1) := by decide +kernel
theorem dX4_number_69 : decode cX4_number 69 = .ok (.iadd, 1) := by decide +kernel
theorem dX4_number_70 : decode cX4_number 70 = .ok (.putfield 47, 3) := by decide +kernel
theorem dX4_number_73 : decode cX4_number 73 = .ok (.goto (-65), 3) := by decide +kernel
theorem dX4_number_76 : decode cX4_number 76 = .ok (.aload_n 0, 1) := by decide +kernel
theorem dX4_number_77 : decode cX4_number 77 = .ok (.getfield 47, 3) := by decide +kernel
theorem dX4_number_80 : decode cX4_number 80 = .ok (.iload_n 3, 1) := by decide +kernel
theorem dX4_number_81 : decode cX4_number 81 = .ok (.if_icmp .le 17, 3) := by decide +kernel
theorem dX4_number_84 : decode cX4_number 84 = .ok (.aload_n 0, 1) := by decide +kernel
theorem dX4_number_85 : decode cX4_number 85 = .ok (.iload_n 2, 1) := by decide +kernel
theorem dX4_number_86 : decode cX4_number 86 = .ok (.iload 4, 2) := by decide +kernel
theorem dX4_number_88 : decode cX4_number 88 = .ok (.invokevirtual 98, 3) := by decide +kernel
theorem dX4_number_91 : decode cX4_number 91 = .ok (.ifCond .eq 7, 3) := by decide +kernel
theorem dX4_number_94 : decode cX4_number 94 = .ok (.iconst 1, 1) := by decide +kernel
theorem dX4_number_95 : decode cX4_number 95 = .ok (.goto 4, 3) := by decide +kernel
theorem dX4_number_98 : decode cX4_number 98 = .ok (.iconst 0, 1) := by decide +kernel
theorem dX4_number_99 : decode cX4_number 99 = .ok (.istore 5, 2) := by decide +kernel
theorem dX4_number_101 : decode cX4_number 101 = .ok (.iload 5, 2) := by decide +kernel
theorem dX4_number_103 : decode cX4_number 103 = .ok (.ifCond .eq 24, 3) := by decide +kernel
theorem dX4_number_106 : decode cX4_number 106 = .ok (.iload_n 1, 1) := by decide +kernel
theorem dX4_number_107 : decode cX4_number 107 = .ok (.ifCond .lt 20, 3) := by decide +kernel
theorem dX4_number_110 : decode cX4_number 110 = .ok (.iload_n 1, 1) := by decide +kernel
theorem dX4_number_111 : decode cX4_number 111 = .ok (.aload_n 0, 1) := by decide +kernel
theorem dX4_number_112 : decode cX4_number 112 = .ok (.getfield 18, 3) := by decide +kernel
theorem dX4_number_115 : decode cX4_number 115 = .ok (.arraylength, 1) := by decide +kernel
theorem dX4_number_116 : decode cX4_number 116 = .ok (.if_icmp .ge 11, 3) := by decide +kernel
theorem dX4_number_119 : decode cX4_number 119 = .ok (.aload_n 0, 1) := by decide +kernel
theorem dX4_number_120 : decode cX4_number 120 = .ok (.getfield 18, 3) := by decide +kernel
theorem dX4_number_123 : decode cX4_number 123 = .ok (.iload_n 1, 1) := by decide +kernel
theorem dX4_number_124 : decode cX4_number 124 = .ok (.iload 4, 2) := by decide +kernel
theorem dX4_number_126 : decode cX4_number 126 = .ok (.iastore, 1) := by decide +kernel
theorem dX4_number_127 : decode cX4_number 127 = .ok (.iload 5, 2) := by decide +kernel
theorem dX4_number_129 : decode cX4_number 129 = .ok (.ifCond .ne 11, 3) := by decide +kernel
theorem dX4_number_132 : decode cX4_number 132 = .ok (.aload_n 0, 1) := by decide +kernel
theorem dX4_number_133 : decode cX4_number 133 = .ok (.iload_n 3, 1) := by decide +kernel
theorem dX4_number_134 : decode cX4_number 134 = .ok (.invokevirtual 77, 3) := by decide +kernel
theorem dX4_number_137 : decode cX4_number 137 = .ok (.ifCond .eq 7, 3) := by decide +kernel
theorem dX4_number_140 : decode cX4_number 140 = .ok (.iconst 1, 1) := by decide +kernel
theorem dX4_number_141 : decode cX4_number 141 = .ok (.goto 4, 3) := by decide +kernel
theorem dX4_number_144 : decode cX4_number 144 = .ok (.iconst 0, 1) := by decide +kernel
theorem dX4_number_145 : decode cX4_number 145 = .ok (.ireturn, 1) := by decide +kernel
set_option maxRecDepth 20000 in
theorem ggX4_mayStand_X3_hasSetUp : GoodIn wsX4_mayStand wsX3_hasSetUp := goodIn_r _ [7, 8, 20, 21, 22, 23] (by decide +kernel) (by decide +kernel)
set_option maxRecDepth 20000 in
theorem gX4_mayStand_X3_hasSetUp : GoodIn wsX4_mayStand (wsV RX4 104 RX3 yX3_hasSetUp wsX3_hasSetUp) := goodIn_app (goodIn_of _ (by decide +kernel)) ggX4_mayStand_X3_hasSetUp
set_option maxRecDepth 20000 in
theorem ggX4_mayStand_X3_fits : GoodIn wsX4_mayStand wsX3_fits := goodIn_r _ [11, 12, 13] (by decide +kernel) (by decide +kernel)
set_option maxRecDepth 20000 in
theorem gX4_mayStand_X3_fits : GoodIn wsX4_mayStand (va_wsS RX4 107 yX3_fits wsX3_fits) := goodIn_app (goodIn_of _ (by decide +kernel)) ggX4_mayStand_X3_fits
theorem dX4_mayStand_0 : decode cX4_mayStand 0 = .ok (.iload_n 1, 1) := by decide +kernel
theorem dX4_mayStand_1 : decode cX4_mayStand 1 = .ok (.ifCond .lt 11, 3) := by decide +kernel
theorem dX4_mayStand_4 : decode cX4_mayStand 4 = .ok (.iload_n 1, 1) := by decide +kernel
theorem dX4_mayStand_5 : decode cX4_mayStand 5 = .ok (.getstatic 101, 3) := by decide +kernel
theorem dX4_mayStand_8 : decode cX4_mayStand 8 = .ok (.arraylength, 1) := by decide +kernel
theorem dX4_mayStand_9 : decode cX4_mayStand 9 = .ok (.if_icmp .lt 5, 3) := by decide +kernel
theorem dX4_mayStand_12 : decode cX4_mayStand 12 = .ok (.iconst 0, 1) := by decide +kernel
theorem dX4_mayStand_13 : decode cX4_mayStand 13 = .ok (.ireturn, 1) := by decide +kernel
theorem dX4_mayStand_14 : decode cX4_mayStand 14 = .ok (.getstatic 101, 3) := by decide +kernel
theorem dX4_mayStand_17 : decode cX4_mayStand 17 = .ok (.iload_n 1, 1) := by decide +kernel
theorem dX4_mayStand_18 : decode cX4_mayStand 18 = .ok (.iaload, 1) := by decide +kernel
theorem dX4_mayStand_19 : decode cX4_mayStand 19 = .ok (.bipush 11, 2) := by decide +kernel
theorem dX4_mayStand_21 : decode cX4_mayStand 21 = .ok (.if_icmp .ne 14, 3) := by decide +kernel
theorem dX4_mayStand_24 : decode cX4_mayStand 24 = .ok (.aload_n 0, 1) := by decide +kernel
theorem dX4_mayStand_25 : decode cX4_mayStand 25 = .ok (.getfield 12, 3) := by decide +kernel
theorem dX4_mayStand_28 : decode cX4_mayStand 28 = .ok (.iload_n 2, 1) := by decide +kernel
theorem dX4_mayStand_29 : decode cX4_mayStand 29 = .ok (.invokevirtual 104, 3) := by decide +kernel
theorem dX4_mayStand_32 : decode cX4_mayStand 32 = .ok (.goto 12, 3) := by decide +kernel
theorem dX4_mayStand_35 : decode cX4_mayStand 35 = .ok (.getstatic 101, 3) := by decide +kernel
theorem dX4_mayStand_38 : decode cX4_mayStand 38 = .ok (.iload_n 1, 1) := by decide +kernel
theorem dX4_mayStand_39 : decode cX4_mayStand 39 = .ok (.iaload, 1) := by decide +kernel
theorem dX4_mayStand_40 : decode cX4_mayStand 40 = .ok (.iload_n 2, 1) := by decide +kernel
theorem dX4_mayStand_41 : decode cX4_mayStand 41 = .ok (.invokestatic 107, 3) := by decide +kernel
theorem dX4_mayStand_44 : decode cX4_mayStand 44 = .ok (.ireturn, 1) := by decide +kernel
set_option maxRecDepth 20000 in
theorem ggX4_longestWordHere_X4_matchedOf : GoodIn wsX4_longestWordHere wsX4_matchedOf := goodIn_r _ [5, 6, 7, 8, 4, 9, 10, 11, 12, 13, 14, 15, 16, 17, 18, 19, 20, 21, 22, 23, 24, 25, 26, 27, 28, 29, 30, 31, 32, 33, 34, 35, 36, 37, 38, 39, 40, 41, 42, 43, 44, 45, 46, 47, 48, 49, 50, 51, 52, 53, 54, 55, 56, 57, 58, 59, 60, 61, 62, 63, 64, 65, 66, 67, 68, 69, 70] (by decide +kernel) (by decide +kernel)
set_option maxRecDepth 20000 in
theorem gX4_longestWordHere_X4_matchedOf : GoodIn wsX4_longestWordHere (wsV RX4 66 RX4 yX4_matchedOf wsX4_matchedOf) := goodIn_app (goodIn_of _ (by decide +kernel)) ggX4_longestWordHere_X4_matchedOf
theorem dX4_longestWordHere_0 : decode cX4_longestWordHere 0 = .ok (.iconst 0, 1) := by decide +kernel
theorem dX4_longestWordHere_1 : decode cX4_longestWordHere 1 = .ok (.istore_n 1, 1) := by decide +kernel
theorem dX4_longestWordHere_2 : decode cX4_longestWordHere 2 = .ok (.iconst 1, 1) := by decide +kernel
theorem dX4_longestWordHere_3 : decode cX4_longestWordHere 3 = .ok (.istore_n 2, 1) := by decide +kernel
theorem dX4_longestWordHere_4 : decode cX4_longestWordHere 4 = .ok (.iload_n 2, 1) := by decide +kernel
theorem dX4_longestWordHere_5 : decode cX4_longestWordHere 5 = .ok (.bipush 7, 2) := by decide +kernel
theorem dX4_longestWordHere_7 : decode cX4_longestWordHere 7 = .ok (.if_icmp .ge 24, 3) := by decide +kernel
theorem dX4_longestWordHere_10 : decode cX4_longestWordHere 10 = .ok (.aload_n 0, 1) := by decide +kernel
theorem dX4_longestWordHere_11 : decode cX4_longestWordHere 11 = .ok (.iload_n 2, 1) := by decide +kernel
theorem dX4_longestWordHere_12 : decode cX4_longestWordHere 12 = .ok (.invokevirtual 66, 3) := by decide +kernel
theorem dX4_longestWordHere_15 : decode cX4_longestWordHere 15 = .ok (.aload_n 0, 1) := by decide +kernel
theorem dX4_longestWordHere_16 : decode cX4_longestWordHere 16 = .ok (.iload_n 1, 1) := by decide +kernel
theorem dX4_longestWordHere_17 : decode cX4_longestWordHere 17 = .ok (.invokevirtual 66, 3) := by decide +kernel
theorem dX4_longestWordHere_20 : decode cX4_longestWordHere 20 = .ok (.if_icmp .le 5, 3) := by decide +kernel
theorem dX4_longestWordHere_23 : decode cX4_longestWordHere 23 = .ok (.iload_n 2, 1) := by decide +kernel
theorem dX4_longestWordHere_24 : decode cX4_longestWordHere 24 = .ok (.istore_n 1, 1) := by decide +kernel
theorem dX4_longestWordHere_25 : decode cX4_longestWordHere 25 = .ok (.iinc 2 1, 3) := by decide +kernel
theorem dX4_longestWordHere_28 : decode cX4_longestWordHere 28 = .ok (.goto (-24), 3) := by decide +kernel
theorem dX4_longestWordHere_31 : decode cX4_longestWordHere 31 = .ok (.iload_n 1, 1) := by decide +kernel
theorem dX4_longestWordHere_32 : decode cX4_longestWordHere 32 = .ok (.ireturn, 1) := by decide +kernel
set_option maxRecDepth 20000 in
theorem ggX4_matchedOf_X4_wordOf : GoodIn wsX4_matchedOf wsX4_wordOf := goodIn_r _ [5] (by decide +kernel) (by decide +kernel)
set_option maxRecDepth 20000 in
theorem gX4_matchedOf_X4_wordOf : GoodIn wsX4_matchedOf (va_wsS RX4 69 yX4_wordOf wsX4_wordOf) := goodIn_app (goodIn_of _ (by decide +kernel)) ggX4_matchedOf_X4_wordOf
set_option maxRecDepth 20000 in
theorem ggX4_matchedOf_J0_length_8abf5 : GoodIn wsX4_matchedOf wsJ0_length_8abf5 := goodIn_r _ [10, 11, 12, 13, 14, 9, 15, 16, 17] (by decide +kernel) (by decide +kernel)
set_option maxRecDepth 20000 in
theorem gX4_matchedOf_J0_length_8abf5 : GoodIn wsX4_matchedOf (wsV RX4 73 RJ0 yJ0_length_8abf5 wsJ0_length_8abf5) := goodIn_app (goodIn_of _ (by decide +kernel)) ggX4_matchedOf_J0_length_8abf5
set_option maxRecDepth 20000 in
theorem ggX4_matchedOf_X4_letterAt : GoodIn wsX4_matchedOf wsX4_letterAt := goodIn_r _ [21, 22, 23, 61, 62, 63, 64, 65, 66] (by decide +kernel) (by decide +kernel)
set_option maxRecDepth 20000 in
theorem gX4_matchedOf_X4_letterAt : GoodIn wsX4_matchedOf (wsV RX4 95 RX4 yX4_letterAt wsX4_letterAt) := goodIn_app (goodIn_of _ (by decide +kernel)) ggX4_matchedOf_X4_letterAt
set_option maxRecDepth 20000 in
theorem ggX4_matchedOf_J0_charAt_5068e : GoodIn wsX4_matchedOf wsJ0_charAt_5068e := goodIn_r _ [27, 11, 28, 29, 30, 9, 31, 16, 17, 32, 33, 34, 35, 36, 37, 38, 39, 40, 41, 42, 43, 44, 45, 46, 47, 48, 49, 50, 51, 52, 53, 54, 55, 56, 57, 58, 59, 60] (by decide +kernel) (by decide +kernel)
set_option maxRecDepth 20000 in
theorem gX4_matchedOf_J0_charAt_5068e : GoodIn wsX4_matchedOf (wsV RX4 110 RJ0 yJ0_charAt_5068e wsJ0_charAt_5068e) := goodIn_app (goodIn_of _ (by decide +kernel)) ggX4_matchedOf_J0_charAt_5068e
theorem dX4_matchedOf_0 : decode cX4_matchedOf 0 = .ok (.iload_n 1, 1) := by decide +kernel
theorem dX4_matchedOf_1 : decode cX4_matchedOf 1 = .ok (.invokestatic 69, 3) := by decide +kernel
theorem dX4_matchedOf_4 : decode cX4_matchedOf 4 = .ok (.astore_n 2, 1) := by decide +kernel
theorem dX4_matchedOf_5 : decode cX4_matchedOf 5 = .ok (.iconst 0, 1) := by decide +kernel
theorem dX4_matchedOf_6 : decode cX4_matchedOf 6 = .ok (.istore_n 3, 1) := by decide +kernel
theorem dX4_matchedOf_7 : decode cX4_matchedOf 7 = .ok (.iload_n 3, 1) := by decide +kernel
theorem dX4_matchedOf_8 : decode cX4_matchedOf 8 = .ok (.aload_n 2, 1) := by decide +kernel
theorem dX4_matchedOf_9 : decode cX4_matchedOf 9 = .ok (.invokevirtual 73, 3) := by decide +kernel
theorem dX4_matchedOf_12 : decode cX4_matchedOf 12 = .ok (.if_icmp .ge 27, 3) := by decide +kernel
theorem dX4_matchedOf_15 : decode cX4_matchedOf 15 = .ok (.aload_n 0, 1) := by decide +kernel
theorem dX4_matchedOf_16 : decode cX4_matchedOf 16 = .ok (.aload_n 0, 1) := by decide +kernel
theorem dX4_matchedOf_17 : decode cX4_matchedOf 17 = .ok (.getfield 47, 3) := by decide +kernel
theorem dX4_matchedOf_20 : decode cX4_matchedOf 20 = .ok (.iload_n 3, 1) := by decide +kernel
theorem dX4_matchedOf_21 : decode cX4_matchedOf 21 = .ok (.iadd, 1) := by decide +kernel
theorem dX4_matchedOf_22 : decode cX4_matchedOf 22 = .ok (.invokevirtual 95, 3) := by decide +kernel
theorem dX4_matchedOf_25 : decode cX4_matchedOf 25 = .ok (.aload_n 2, 1) := by decide +kernel
theorem dX4_matchedOf_26 : decode cX4_matchedOf 26 = .ok (.iload_n 3, 1) := by decide +kernel
theorem dX4_matchedOf_27 : decode cX4_matchedOf 27 = .ok (.invokevirtual 110, 3) := by decide +kernel
theorem dX4_matchedOf_30 : decode cX4_matchedOf 30 = .ok (.if_icmp .ne 9, 3) := by decide +kernel
theorem dX4_matchedOf_33 : decode cX4_matchedOf 33 = .ok (.iinc 3 1, 3) := by decide +kernel
theorem dX4_matchedOf_36 : decode cX4_matchedOf 36 = .ok (.goto (-29), 3) := by decide +kernel
theorem dX4_matchedOf_39 : decode cX4_matchedOf 39 = .ok (.iload_n 3, 1) := by decide +kernel
theorem dX4_matchedOf_40 : decode cX4_matchedOf 40 = .ok (.ireturn, 1) := by decide +kernel
theorem dX4_numbersFrom_0 : decode cX4_numbersFrom 0 = .ok (.iload_n 0, 1) := by decide +kernel
theorem dX4_numbersFrom_1 : decode cX4_numbersFrom 1 = .ok (.ifCond .lt 19, 3) := by decide +kernel
theorem dX4_numbersFrom_4 : decode cX4_numbersFrom 4 = .ok (.iload_n 0, 1) := by decide +kernel
theorem dX4_numbersFrom_5 : decode cX4_numbersFrom 5 = .ok (.getstatic 114, 3) := by decide +kernel
theorem dX4_numbersFrom_8 : decode cX4_numbersFrom 8 = .ok (.arraylength, 1) := by decide +kernel
theorem dX4_numbersFrom_9 : decode cX4_numbersFrom 9 = .ok (.if_icmp .ge 11, 3) := by decide +kernel
theorem dX4_numbersFrom_12 : decode cX4_numbersFrom 12 = .ok (.getstatic 114, 3) := by decide +kernel
theorem dX4_numbersFrom_15 : decode cX4_numbersFrom 15 = .ok (.iload_n 0, 1) := by decide +kernel
theorem dX4_numbersFrom_16 : decode cX4_numbersFrom 16 = .ok (.iaload, 1) := by decide +kernel
theorem dX4_numbersFrom_17 : decode cX4_numbersFrom 17 = .ok (.goto 4, 3) := by decide +kernel
theorem dX4_numbersFrom_20 : decode cX4_numbersFrom 20 = .ok (.iconst 0, 1) := by decide +kernel
theorem dX4_numbersFrom_21 : decode cX4_numbersFrom 21 = .ok (.ireturn, 1) := by decide +kernel
theorem dX4_wordOf_0 : decode cX4_wordOf 0 = .ok (.iload_n 0, 1) := by decide +kernel
theorem dX4_wordOf_1 : decode cX4_wordOf 1 = .ok (.tableswitch 57 0 5 #[39, 42, 45, 48, 51, 54], 39) := by decide +kernel
theorem dX4_wordOf_40 : decode cX4_wordOf 40 = .ok (.ldc 117, 2) := by decide +kernel
theorem dX4_wordOf_42 : decode cX4_wordOf 42 = .ok (.areturn, 1) := by decide +kernel
theorem dX4_wordOf_43 : decode cX4_wordOf 43 = .ok (.ldc 119, 2) := by decide +kernel
theorem dX4_wordOf_45 : decode cX4_wordOf 45 = .ok (.areturn, 1) := by decide +kernel
theorem dX4_wordOf_46 : decode cX4_wordOf 46 = .ok (.ldc 121, 2) := by decide +kernel
theorem dX4_wordOf_48 : decode cX4_wordOf 48 = .ok (.areturn, 1) := by decide +kernel
theorem dX4_wordOf_49 : decode cX4_wordOf 49 = .ok (.ldc 123, 2) := by decide +kernel
theorem dX4_wordOf_51 : decode cX4_wordOf 51 = .ok (.areturn, 1) := by decide +kernel
theorem dX4_wordOf_52 : decode cX4_wordOf 52 = .ok (.ldc 125, 2) := by decide +kernel
theorem dX4_wordOf_54 : decode cX4_wordOf 54 = .ok (.areturn, 1) := by decide +kernel
theorem dX4_wordOf_55 : decode cX4_wordOf 55 = .ok (.ldc 127, 2) := by decide +kernel
theorem dX4_wordOf_57 : decode cX4_wordOf 57 = .ok (.areturn, 1) := by decide +kernel
theorem dX4_wordOf_58 : decode cX4_wordOf 58 = .ok (.ldc 129, 2) := by decide +kernel
theorem dX4_wordOf_60 : decode cX4_wordOf 60 = .ok (.areturn, 1) := by decide +kernel
set_option maxRecDepth 20000 in
theorem ggX4_tellItem_X3_add : GoodIn wsX4_tellItem wsX3_add := goodIn_r _ [7, 8, 9, 10, 11, 6, 12, 13, 14, 15, 16, 17, 30, 31, 32, 33] (by decide +kernel) (by decide +kernel)
set_option maxRecDepth 20000 in
theorem gX4_tellItem_X3_add : GoodIn wsX4_tellItem (wsV RX4 131 RX3 yX3_add wsX3_add) := goodIn_app (goodIn_of _ (by decide +kernel)) ggX4_tellItem_X3_add
set_option maxRecDepth 20000 in
theorem ggX4_tellItem_X3_put : GoodIn wsX4_tellItem wsX3_put := goodIn_r _ [16, 17, 30, 31, 32, 33] (by decide +kernel) (by decide +kernel)
set_option maxRecDepth 20000 in
theorem gX4_tellItem_X3_put : GoodIn wsX4_tellItem (wsV RX4 135 RX3 yX3_put wsX3_put) := goodIn_app (goodIn_of _ (by decide +kernel)) ggX4_tellItem_X3_put
set_option maxRecDepth 20000 in
theorem ggX4_tellItem_X3_putSetting : GoodIn wsX4_tellItem wsX3_putSetting := goodIn_r _ [22, 23, 30, 31, 32, 33] (by decide +kernel) (by decide +kernel)
set_option maxRecDepth 20000 in
theorem gX4_tellItem_X3_putSetting : GoodIn wsX4_tellItem (wsV RX4 139 RX3 yX3_putSetting wsX3_putSetting) := goodIn_app (goodIn_of _ (by decide +kernel)) ggX4_tellItem_X3_putSetting
theorem dX4_tellItem_0 : decode cX4_tellItem 0 = .ok (.iload_n 1, 1) := by decide +kernel
theorem dX4_tellItem_1 : decode cX4_tellItem 1 = .ok (.tableswitch 187 0 5 #[39, 85, 109, 133, 151, 169], 39) := by decide +kernel
theorem dX4_tellItem_40 : decode cX4_tellItem 40 = .ok (.aload_n 0, 1) := by decide +kernel
theorem dX4_tellItem_41 : decode cX4_tellItem 41 = .ok (.getfield 12, 3) := by decide +kernel
theorem dX4_tellItem_44 : decode cX4_tellItem 44 = .ok (.aload_n 0, 1) := by decide +kernel
theorem dX4_tellItem_45 : decode cX4_tellItem 45 = .ok (.getfield 18, 3) := by decide +kernel
theorem dX4_tellItem_48 : decode cX4_tellItem 48 = .ok (.iconst 0, 1) := by decide +kernel
theorem dX4_tellItem_49 : decode cX4_tellItem 49 = .ok (.iaload, 1) := by decide +kernel
theorem dX4_tellItem_50 : decode cX4_tellItem 50 = .ok (.aload_n 0, 1) := by decide +kernel
theorem dX4_tellItem_51 : decode cX4_tellItem 51 = .ok (.getfield 18, 3) := by decide +kernel
theorem dX4_tellItem_54 : decode cX4_tellItem 54 = .ok (.iconst 1, 1) := by decide +kernel
theorem dX4_tellItem_55 : decode cX4_tellItem 55 = .ok (.iaload, 1) := by decide +kernel
theorem dX4_tellItem_56 : decode cX4_tellItem 56 = .ok (.aload_n 0, 1) := by decide +kernel
theorem dX4_tellItem_57 : decode cX4_tellItem 57 = .ok (.getfield 18, 3) := by decide +kernel
theorem dX4_tellItem_60 : decode cX4_tellItem 60 = .ok (.iconst 2, 1) := by decide +kernel
theorem dX4_tellItem_61 : decode cX4_tellItem 61 = .ok (.iaload, 1) := by decide +kernel
theorem dX4_tellItem_62 : decode cX4_tellItem 62 = .ok (.aload_n 0, 1) := by decide +kernel
theorem dX4_tellItem_63 : decode cX4_tellItem 63 = .ok (.getfield 18, 3) := by decide +kernel
theorem dX4_tellItem_66 : decode cX4_tellItem 66 = .ok (.iconst 3, 1) := by decide +kernel
theorem dX4_tellItem_67 : decode cX4_tellItem 67 = .ok (.iaload, 1) := by decide +kernel
theorem dX4_tellItem_68 : decode cX4_tellItem 68 = .ok (.aload_n 0, 1) := by decide +kernel
theorem dX4_tellItem_69 : decode cX4_tellItem 69 = .ok (.getfield 18, 3) := by decide +kernel
theorem dX4_tellItem_72 : decode cX4_tellItem 72 = .ok (.iconst 4, 1) := by decide +kernel
theorem dX4_tellItem_73 : decode cX4_tellItem 73 = .ok (.iaload, 1) := by decide +kernel
theorem dX4_tellItem_74 : decode cX4_tellItem 74 = .ok (.aload_n 0, 1) := by decide +kernel
theorem dX4_tellItem_75 : decode cX4_tellItem 75 = .ok (.getfield 18, 3) := by decide +kernel
theorem dX4_tellItem_78 : decode cX4_tellItem 78 = .ok (.iconst 5, 1) := by decide +kernel
theorem dX4_tellItem_79 : decode cX4_tellItem 79 = .ok (.iaload, 1) := by decide +kernel
theorem dX4_tellItem_80 : decode cX4_tellItem 80 = .ok (.invokevirtual 131, 3) := by decide +kernel
theorem dX4_tellItem_83 : decode cX4_tellItem 83 = .ok (.goto 145, 3) := by decide +kernel
theorem dX4_tellItem_86 : decode cX4_tellItem 86 = .ok (.aload_n 0, 1) := by decide +kernel
theorem dX4_tellItem_87 : decode cX4_tellItem 87 = .ok (.getfield 12, 3) := by decide +kernel
theorem dX4_tellItem_90 : decode cX4_tellItem 90 = .ok (.aload_n 0, 1) := by decide +kernel
theorem dX4_tellItem_91 : decode cX4_tellItem 91 = .ok (.getfield 18, 3) := by decide +kernel
theorem dX4_tellItem_94 : decode cX4_tellItem 94 = .ok (.iconst 0, 1) := by decide +kernel
theorem dX4_tellItem_95 : decode cX4_tellItem 95 = .ok (.iaload, 1) := by decide +kernel
theorem dX4_tellItem_96 : decode cX4_tellItem 96 = .ok (.bipush 6, 2) := by decide +kernel
theorem dX4_tellItem_98 : decode cX4_tellItem 98 = .ok (.aload_n 0, 1) := by decide +kernel
theorem dX4_tellItem_99 : decode cX4_tellItem 99 = .ok (.getfield 18, 3) := by decide +kernel
theorem dX4_tellItem_102 : decode cX4_tellItem 102 = .ok (.iconst 1, 1) := by decide +kernel
theorem dX4_tellItem_103 : decode cX4_tellItem 103 = .ok (.iaload, 1) := by decide +kernel
theorem dX4_tellItem_104 : decode cX4_tellItem 104 = .ok (.invokevirtual 135, 3) := by decide +kernel
theorem dX4_tellItem_107 : decode cX4_tellItem 107 = .ok (.goto 121, 3) := by decide +kernel
theorem dX4_tellItem_110 : decode cX4_tellItem 110 = .ok (.aload_n 0, 1) := by decide +kernel
theorem dX4_tellItem_111 : decode cX4_tellItem 111 = .ok (.getfield 12, 3) := by decide +kernel
theorem dX4_tellItem_114 : decode cX4_tellItem 114 = .ok (.aload_n 0, 1) := by decide +kernel
theorem dX4_tellItem_115 : decode cX4_tellItem 115 = .ok (.getfield 18, 3) := by decide +kernel
theorem dX4_tellItem_118 : decode cX4_tellItem 118 = .ok (.iconst 0, 1) := by decide +kernel
theorem dX4_tellItem_119 : decode cX4_tellItem 119 = .ok (.iaload, 1) := by decide +kernel
theorem dX4_tellItem_120 : decode cX4_tellItem 120 = .ok (.bipush 7, 2) := by decide +kernel
theorem dX4_tellItem_122 : decode cX4_tellItem 122 = .ok (.aload_n 0, 1) := by decide +kernel
theorem dX4_tellItem_123 : decode cX4_tellItem 123 = .ok (.getfield 18, 3) := by decide +kernel
theorem dX4_tellItem_126 : decode cX4_tellItem 126 = .ok (.iconst 1, 1) := by decide +kernel
theorem dX4_tellItem_127 : decode cX4_tellItem 127 = .ok (.iaload, 1) := by decide +kernel
theorem dX4_tellItem_128 : decode cX4_tellItem 128 = .ok (.invokevirtual 135, 3) := by decide +kernel
theorem dX4_tellItem_131 : decode cX4_tellItem 131 = .ok (.goto 97, 3) := by decide +kernel
theorem dX4_tellItem_134 : decode cX4_tellItem 134 = .ok (.aload_n 0, 1) := by decide +kernel
theorem dX4_tellItem_135 : decode cX4_tellItem 135 = .ok (.getfield 12, 3) := by decide +kernel
theorem dX4_tellItem_138 : decode cX4_tellItem 138 = .ok (.bipush 8, 2) := by decide +kernel
theorem dX4_tellItem_140 : decode cX4_tellItem 140 = .ok (.aload_n 0, 1) := by decide +kernel
theorem dX4_tellItem_141 : decode cX4_tellItem 141 = .ok (.getfield 18, 3) := by decide +kernel
theorem dX4_tellItem_144 : decode cX4_tellItem 144 = .ok (.iconst 0, 1) := by decide +kernel
theorem dX4_tellItem_145 : decode cX4_tellItem 145 = .ok (.iaload, 1) := by decide +kernel
theorem dX4_tellItem_146 : decode cX4_tellItem 146 = .ok (.invokevirtual 139, 3) := by decide +kernel
theorem dX4_tellItem_149 : decode cX4_tellItem 149 = .ok (.goto 79, 3) := by decide +kernel
theorem dX4_tellItem_152 : decode cX4_tellItem 152 = .ok (.aload_n 0, 1) := by decide +kernel
theorem dX4_tellItem_153 : decode cX4_tellItem 153 = .ok (.getfield 12, 3) := by decide +kernel
theorem dX4_tellItem_156 : decode cX4_tellItem 156 = .ok (.bipush 9, 2) := by decide +kernel
theorem dX4_tellItem_158 : decode cX4_tellItem 158 = .ok (.aload_n 0, 1) := by decide +kernel
theorem dX4_tellItem_159 : decode cX4_tellItem 159 = .ok (.getfield 18, 3) := by decide +kernel
theorem dX4_tellItem_162 : decode cX4_tellItem 162 = .ok (.iconst 0, 1) := by decide +kernel
theorem dX4_tellItem_163 : decode cX4_tellItem 163 = .ok (.iaload, 1) := by decide +kernel
theorem dX4_tellItem_164 : decode cX4_tellItem 164 = .ok (.invokevirtual 139, 3) := by decide +kernel
theorem dX4_tellItem_167 : decode cX4_tellItem 167 = .ok (.goto 61, 3) := by decide +kernel
theorem dX4_tellItem_170 : decode cX4_tellItem 170 = .ok (.aload_n 0, 1) := by decide +kernel
theorem dX4_tellItem_171 : decode cX4_tellItem 171 = .ok (.getfield 12, 3) := by decide +kernel
theorem dX4_tellItem_174 : decode cX4_tellItem 174 = .ok (.bipush 10, 2) := by decide +kernel
theorem dX4_tellItem_176 : decode cX4_tellItem 176 = .ok (.aload_n 0, 1) := by decide +kernel
theorem dX4_tellItem_177 : decode cX4_tellItem 177 = .ok (.getfield 18, 3) := by decide +kernel
theorem dX4_tellItem_180 : decode cX4_tellItem 180 = .ok (.iconst 0, 1) := by decide +kernel
theorem dX4_tellItem_181 : decode cX4_tellItem 181 = .ok (.iaload, 1) := by decide +kernel
theorem dX4_tellItem_182 : decode cX4_tellItem 182 = .ok (.invokevirtual 139, 3) := by decide +kernel
theorem dX4_tellItem_185 : decode cX4_tellItem 185 = .ok (.goto 43, 3) := by decide +kernel
theorem dX4_tellItem_188 : decode cX4_tellItem 188 = .ok (.aload_n 0, 1) := by decide +kernel
theorem dX4_tellItem_189 : decode cX4_tellItem 189 = .ok (.getfield 12, 3) := by decide +kernel
theorem dX4_tellItem_192 : decode cX4_tellItem 192 = .ok (.aload_n 0, 1) := by decide +kernel
theorem dX4_tellItem_193 : decode cX4_tellItem 193 = .ok (.getfield 18, 3) := by decide +kernel
theorem dX4_tellItem_196 : decode cX4_tellItem 196 = .ok (.iconst 0, 1) := by decide +kernel
theorem dX4_tellItem_197 : decode cX4_tellItem 197 = .ok (.iaload, 1) := by decide +kernel
theorem dX4_tellItem_198 : decode cX4_tellItem 198 = .ok (.iconst 2, 1) := by decide +kernel
theorem dX4_tellItem_199 : decode cX4_tellItem 199 = .ok (.aload_n 0, 1) := by decide +kernel
theorem dX4_tellItem_200 : decode cX4_tellItem 200 = .ok (.getfield 18, 3) := by decide +kernel
theorem dX4_tellItem_203 : decode cX4_tellItem 203 = .ok (.iconst 1, 1) := by decide +kernel
theorem dX4_tellItem_204 : decode cX4_tellItem 204 = .ok (.iaload, 1) := by decide +kernel
theorem dX4_tellItem_205 : decode cX4_tellItem 205 = .ok (.invokevirtual 135, 3) := by decide +kernel
theorem dX4_tellItem_208 : decode cX4_tellItem 208 = .ok (.aload_n 0, 1) := by decide +kernel
theorem dX4_tellItem_209 : decode cX4_tellItem 209 = .ok (.getfield 12, 3) := by decide +kernel
theorem dX4_tellItem_212 : decode cX4_tellItem 212 = .ok (.aload_n 0, 1) := by decide +kernel
theorem dX4_tellItem_213 : decode cX4_tellItem 213 = .ok (.getfield 18, 3) := by decide +kernel
theorem dX4_tellItem_216 : decode cX4_tellItem 216 = .ok (.iconst 0, 1) := by decide +kernel
theorem dX4_tellItem_217 : decode cX4_tellItem 217 = .ok (.iaload, 1) := by decide +kernel
theorem dX4_tellItem_218 : decode cX4_tellItem 218 = .ok (.iconst 3, 1) := by decide +kernel
theorem dX4_tellItem_219 : decode cX4_tellItem 219 = .ok (.aload_n 0, 1) := by decide +kernel
theorem dX4_tellItem_220 : decode cX4_tellItem 220 = .ok (.getfield 18, 3) := by decide +kernel
theorem dX4_tellItem_223 : decode cX4_tellItem 223 = .ok (.iconst 2, 1) := by decide +kernel
theorem dX4_tellItem_224 : decode cX4_tellItem 224 = .ok (.iaload, 1) := by decide +kernel
theorem dX4_tellItem_225 : decode cX4_tellItem 225 = .ok (.invokevirtual 135, 3) := by decide +kernel
theorem dX4_tellItem_228 : decode cX4_tellItem 228 = .ok (.return_, 1) := by decide +kernel
theorem dX5_init_0 : decode cX5_init 0 = .ok (.aload_n 0, 1) := by decide +kernel
theorem dX5_init_1 : decode cX5_init 1 = .ok (.invokespecial 3, 3) := by decide +kernel
theorem dX5_init_4 : decode cX5_init 4 = .ok (.aload_n 0, 1) := by decide +kernel
theorem dX5_init_5 : decode cX5_init 5 = .ok (.bipush 8, 2) := by decide +kernel
theorem dX5_init_7 : decode cX5_init 7 = .ok (.newarray .int, 2) := by decide +kernel
theorem dX5_init_9 : decode cX5_init 9 = .ok (.putfield 11, 3) := by decide +kernel
theorem dX5_init_12 : decode cX5_init 12 = .ok (.aload_n 0, 1) := by decide +kernel
theorem dX5_init_13 : decode cX5_init 13 = .ok (.bipush 8, 2) := by decide +kernel
theorem dX5_init_15 : decode cX5_init 15 = .ok (.newarray .int, 2) := by decide +kernel
theorem dX5_init_17 : decode cX5_init 17 = .ok (.putfield 15, 3) := by decide +kernel
theorem dX5_init_20 : decode cX5_init 20 = .ok (.aload_n 0, 1) := by decide +kernel
theorem dX5_init_21 : decode cX5_init 21 = .ok (.sipush 1280, 3) := by decide +kernel
theorem dX5_init_24 : decode cX5_init 24 = .ok (.newarray .long, 2) := by decide +kernel
theorem dX5_init_26 : decode cX5_init 26 = .ok (.putfield 18, 3) := by decide +kernel
theorem dX5_init_29 : decode cX5_init 29 = .ok (.iconst 0, 1) := by decide +kernel
theorem dX5_init_30 : decode cX5_init 30 = .ok (.istore_n 1, 1) := by decide +kernel
theorem dX5_init_31 : decode cX5_init 31 = .ok (.iload_n 1, 1) := by decide +kernel
theorem dX5_init_32 : decode cX5_init 32 = .ok (.bipush 8, 2) := by decide +kernel
theorem dX5_init_34 : decode cX5_init 34 = .ok (.if_icmp .ge 16, 3) := by decide +kernel
theorem dX5_init_37 : decode cX5_init 37 = .ok (.aload_n 0, 1) := by decide +kernel
theorem dX5_init_38 : decode cX5_init 38 = .ok (.getfield 11, 3) := by decide +kernel
theorem dX5_init_41 : decode cX5_init 41 = .ok (.iload_n 1, 1) := by decide +kernel
theorem dX5_init_42 : decode cX5_init 42 = .ok (.iconst (-1), 1) := by decide +kernel
theorem dX5_init_43 : decode cX5_init 43 = .ok (.iastore, 1) := by decide +kernel
theorem dX5_init_44 : decode cX5_init 44 = .ok (.iinc 1 1, 3) := by decide +kernel
theorem dX5_init_47 : decode cX5_init 47 = .ok (.goto (-16), 3) := by decide +kernel
theorem dX5_init_50 : decode cX5_init 50 = .ok (.return_, 1) := by decide +kernel
theorem dX5_has_0 : decode cX5_has 0 = .ok (.iload_n 1, 1) := by decide +kernel
theorem dX5_has_1 : decode cX5_has 1 = .ok (.ifCond .lt 13, 3) := by decide +kernel
theorem dX5_has_4 : decode cX5_has 4 = .ok (.iload_n 1, 1) := by decide +kernel
theorem dX5_has_5 : decode cX5_has 5 = .ok (.bipush 8, 2) := by decide +kernel
theorem dX5_has_7 : decode cX5_has 7 = .ok (.if_icmp .ge 7, 3) := by decide +kernel
theorem dX5_has_10 : decode cX5_has 10 = .ok (.iconst 1, 1) := by decide +kernel
theorem dX5_has_11 : decode cX5_has 11 = .ok (.goto 4, 3) := by decide +kernel
theorem dX5_has_14 : decode cX5_has 14 = .ok (.iconst 0, 1) := by decide +kernel
theorem dX5_has_15 : decode cX5_has 15 = .ok (.ireturn, 1) := by decide +kernel
set_option maxRecDepth 20000 in
theorem ggX5_heldBy_X5_has : GoodIn wsX5_heldBy wsX5_has := goodIn_r _ [6] (by decide +kernel) (by decide +kernel)
set_option maxRecDepth 20000 in
theorem gX5_heldBy_X5_has : GoodIn wsX5_heldBy (wsV RX5 22 RX5 yX5_has wsX5_has) := goodIn_app (goodIn_of _ (by decide +kernel)) ggX5_heldBy_X5_has
theorem dX5_heldBy_0 : decode cX5_heldBy 0 = .ok (.aload_n 0, 1) := by decide +kernel
theorem dX5_heldBy_1 : decode cX5_heldBy 1 = .ok (.iload_n 1, 1) := by decide +kernel
theorem dX5_heldBy_2 : decode cX5_heldBy 2 = .ok (.invokevirtual 22, 3) := by decide +kernel
theorem dX5_heldBy_5 : decode cX5_heldBy 5 = .ok (.ifCond .eq 12, 3) := by decide +kernel
theorem dX5_heldBy_8 : decode cX5_heldBy 8 = .ok (.aload_n 0, 1) := by decide +kernel
theorem dX5_heldBy_9 : decode cX5_heldBy 9 = .ok (.getfield 11, 3) := by decide +kernel
theorem dX5_heldBy_12 : decode cX5_heldBy 12 = .ok (.iload_n 1, 1) := by decide +kernel
theorem dX5_heldBy_13 : decode cX5_heldBy 13 = .ok (.iaload, 1) := by decide +kernel
theorem dX5_heldBy_14 : decode cX5_heldBy 14 = .ok (.goto 4, 3) := by decide +kernel
theorem dX5_heldBy_17 : decode cX5_heldBy 17 = .ok (.iconst (-1), 1) := by decide +kernel
theorem dX5_heldBy_18 : decode cX5_heldBy 18 = .ok (.ireturn, 1) := by decide +kernel
set_option maxRecDepth 20000 in
theorem ggX5_holdsSetUp_X5_has : GoodIn wsX5_holdsSetUp wsX5_has := goodIn_r _ [6] (by decide +kernel) (by decide +kernel)
set_option maxRecDepth 20000 in
theorem gX5_holdsSetUp_X5_has : GoodIn wsX5_holdsSetUp (wsV RX5 22 RX5 yX5_has wsX5_has) := goodIn_app (goodIn_of _ (by decide +kernel)) ggX5_holdsSetUp_X5_has
theorem dX5_holdsSetUp_0 : decode cX5_holdsSetUp 0 = .ok (.aload_n 0, 1) := by decide +kernel
theorem dX5_holdsSetUp_1 : decode cX5_holdsSetUp 1 = .ok (.iload_n 1, 1) := by decide +kernel
theorem dX5_holdsSetUp_2 : decode cX5_holdsSetUp 2 = .ok (.invokevirtual 22, 3) := by decide +kernel
theorem dX5_holdsSetUp_5 : decode cX5_holdsSetUp 5 = .ok (.ifCond .eq 28, 3) := by decide +kernel
theorem dX5_holdsSetUp_8 : decode cX5_holdsSetUp 8 = .ok (.aload_n 0, 1) := by decide +kernel
theorem dX5_holdsSetUp_9 : decode cX5_holdsSetUp 9 = .ok (.getfield 11, 3) := by decide +kernel
theorem dX5_holdsSetUp_12 : decode cX5_holdsSetUp 12 = .ok (.iload_n 1, 1) := by decide +kernel
theorem dX5_holdsSetUp_13 : decode cX5_holdsSetUp 13 = .ok (.iaload, 1) := by decide +kernel
theorem dX5_holdsSetUp_14 : decode cX5_holdsSetUp 14 = .ok (.iconst (-1), 1) := by decide +kernel
theorem dX5_holdsSetUp_15 : decode cX5_holdsSetUp 15 = .ok (.if_icmp .eq 18, 3) := by decide +kernel
theorem dX5_holdsSetUp_18 : decode cX5_holdsSetUp 18 = .ok (.aload_n 0, 1) := by decide +kernel
theorem dX5_holdsSetUp_19 : decode cX5_holdsSetUp 19 = .ok (.getfield 11, 3) := by decide +kernel
theorem dX5_holdsSetUp_22 : decode cX5_holdsSetUp 22 = .ok (.iload_n 1, 1) := by decide +kernel
theorem dX5_holdsSetUp_23 : decode cX5_holdsSetUp 23 = .ok (.iaload, 1) := by decide +kernel
theorem dX5_holdsSetUp_24 : decode cX5_holdsSetUp 24 = .ok (.bipush 100, 2) := by decide +kernel
theorem dX5_holdsSetUp_26 : decode cX5_holdsSetUp 26 = .ok (.if_icmp .ge 7, 3) := by decide +kernel
theorem dX5_holdsSetUp_29 : decode cX5_holdsSetUp 29 = .ok (.iconst 1, 1) := by decide +kernel
theorem dX5_holdsSetUp_30 : decode cX5_holdsSetUp 30 = .ok (.goto 4, 3) := by decide +kernel
theorem dX5_holdsSetUp_33 : decode cX5_holdsSetUp 33 = .ok (.iconst 0, 1) := by decide +kernel
theorem dX5_holdsSetUp_34 : decode cX5_holdsSetUp 34 = .ok (.ireturn, 1) := by decide +kernel
set_option maxRecDepth 20000 in
theorem ggX5_lengthOf_X5_has : GoodIn wsX5_lengthOf wsX5_has := goodIn_r _ [6] (by decide +kernel) (by decide +kernel)
set_option maxRecDepth 20000 in
theorem gX5_lengthOf_X5_has : GoodIn wsX5_lengthOf (wsV RX5 22 RX5 yX5_has wsX5_has) := goodIn_app (goodIn_of _ (by decide +kernel)) ggX5_lengthOf_X5_has
theorem dX5_lengthOf_0 : decode cX5_lengthOf 0 = .ok (.aload_n 0, 1) := by decide +kernel
theorem dX5_lengthOf_1 : decode cX5_lengthOf 1 = .ok (.iload_n 1, 1) := by decide +kernel
theorem dX5_lengthOf_2 : decode cX5_lengthOf 2 = .ok (.invokevirtual 22, 3) := by decide +kernel
theorem dX5_lengthOf_5 : decode cX5_lengthOf 5 = .ok (.ifCond .eq 12, 3) := by decide +kernel
theorem dX5_lengthOf_8 : decode cX5_lengthOf 8 = .ok (.aload_n 0, 1) := by decide +kernel
theorem dX5_lengthOf_9 : decode cX5_lengthOf 9 = .ok (.getfield 15, 3) := by decide +kernel
theorem dX5_lengthOf_12 : decode cX5_lengthOf 12 = .ok (.iload_n 1, 1) := by decide +kernel
theorem dX5_lengthOf_13 : decode cX5_lengthOf 13 = .ok (.iaload, 1) := by decide +kernel
theorem dX5_lengthOf_14 : decode cX5_lengthOf 14 = .ok (.goto 4, 3) := by decide +kernel
theorem dX5_lengthOf_17 : decode cX5_lengthOf 17 = .ok (.iconst 0, 1) := by decide +kernel
theorem dX5_lengthOf_18 : decode cX5_lengthOf 18 = .ok (.ireturn, 1) := by decide +kernel
set_option maxRecDepth 20000 in
theorem ggX5_hasElement_X5_lengthOf : GoodIn wsX5_hasElement wsX5_lengthOf := goodIn_r _ [5, 6, 7, 8, 9, 4, 10, 11, 12, 13] (by decide +kernel) (by decide +kernel)
set_option maxRecDepth 20000 in
theorem gX5_hasElement_X5_lengthOf : GoodIn wsX5_hasElement (wsV RX5 26 RX5 yX5_lengthOf wsX5_lengthOf) := goodIn_app (goodIn_of _ (by decide +kernel)) ggX5_hasElement_X5_lengthOf
theorem dX5_hasElement_0 : decode cX5_hasElement 0 = .ok (.iload_n 2, 1) := by decide +kernel
theorem dX5_hasElement_1 : decode cX5_hasElement 1 = .ok (.ifCond .lt 16, 3) := by decide +kernel
theorem dX5_hasElement_4 : decode cX5_hasElement 4 = .ok (.iload_n 2, 1) := by decide +kernel
theorem dX5_hasElement_5 : decode cX5_hasElement 5 = .ok (.aload_n 0, 1) := by decide +kernel
theorem dX5_hasElement_6 : decode cX5_hasElement 6 = .ok (.iload_n 1, 1) := by decide +kernel
theorem dX5_hasElement_7 : decode cX5_hasElement 7 = .ok (.invokevirtual 26, 3) := by decide +kernel
theorem dX5_hasElement_10 : decode cX5_hasElement 10 = .ok (.if_icmp .ge 7, 3) := by decide +kernel
theorem dX5_hasElement_13 : decode cX5_hasElement 13 = .ok (.iconst 1, 1) := by decide +kernel
theorem dX5_hasElement_14 : decode cX5_hasElement 14 = .ok (.goto 4, 3) := by decide +kernel
theorem dX5_hasElement_17 : decode cX5_hasElement 17 = .ok (.iconst 0, 1) := by decide +kernel
theorem dX5_hasElement_18 : decode cX5_hasElement 18 = .ok (.ireturn, 1) := by decide +kernel
set_option maxRecDepth 20000 in
theorem ggX5_hasStretch_X5_lengthOf : GoodIn wsX5_hasStretch wsX5_lengthOf := goodIn_r _ [5, 6, 7, 8, 9, 4, 10, 11, 12, 13] (by decide +kernel) (by decide +kernel)
set_option maxRecDepth 20000 in
theorem gX5_hasStretch_X5_lengthOf : GoodIn wsX5_hasStretch (wsV RX5 26 RX5 yX5_lengthOf wsX5_lengthOf) := goodIn_app (goodIn_of _ (by decide +kernel)) ggX5_hasStretch_X5_lengthOf
theorem dX5_hasStretch_0 : decode cX5_hasStretch 0 = .ok (.iload_n 2, 1) := by decide +kernel
theorem dX5_hasStretch_1 : decode cX5_hasStretch 1 = .ok (.ifCond .lt 26, 3) := by decide +kernel
theorem dX5_hasStretch_4 : decode cX5_hasStretch 4 = .ok (.iload_n 3, 1) := by decide +kernel
theorem dX5_hasStretch_5 : decode cX5_hasStretch 5 = .ok (.ifCond .lt 22, 3) := by decide +kernel
theorem dX5_hasStretch_8 : decode cX5_hasStretch 8 = .ok (.iload_n 2, 1) := by decide +kernel
theorem dX5_hasStretch_9 : decode cX5_hasStretch 9 = .ok (.i2l, 1) := by decide +kernel
theorem dX5_hasStretch_10 : decode cX5_hasStretch 10 = .ok (.iload_n 3, 1) := by decide +kernel
theorem dX5_hasStretch_11 : decode cX5_hasStretch 11 = .ok (.i2l, 1) := by decide +kernel
theorem dX5_hasStretch_12 : decode cX5_hasStretch 12 = .ok (.ladd, 1) := by decide +kernel
theorem dX5_hasStretch_13 : decode cX5_hasStretch 13 = .ok (.aload_n 0, 1) := by decide +kernel
theorem dX5_hasStretch_14 : decode cX5_hasStretch 14 = .ok (.iload_n 1, 1) := by decide +kernel
theorem dX5_hasStretch_15 : decode cX5_hasStretch 15 = .ok (.invokevirtual 26, 3) := by decide +kernel
theorem dX5_hasStretch_18 : decode cX5_hasStretch 18 = .ok (.i2l, 1) := by decide +kernel
theorem dX5_hasStretch_19 : decode cX5_hasStretch 19 = .ok (.lcmp, 1) := by decide +kernel
theorem dX5_hasStretch_20 : decode cX5_hasStretch 20 = .ok (.ifCond .gt 7, 3) := by decide +kernel
theorem dX5_hasStretch_23 : decode cX5_hasStretch 23 = .ok (.iconst 1, 1) := by decide +kernel
theorem dX5_hasStretch_24 : decode cX5_hasStretch 24 = .ok (.goto 4, 3) := by decide +kernel
theorem dX5_hasStretch_27 : decode cX5_hasStretch 27 = .ok (.iconst 0, 1) := by decide +kernel
theorem dX5_hasStretch_28 : decode cX5_hasStretch 28 = .ok (.ireturn, 1) := by decide +kernel
set_option maxRecDepth 20000 in
theorem ggX5_elementAt_X5_hasElement : GoodIn wsX5_elementAt wsX5_hasElement := goodIn_r _ [6, 7, 8, 9, 5, 10, 11, 12, 13, 14, 15, 16, 17, 18] (by decide +kernel) (by decide +kernel)
set_option maxRecDepth 20000 in
theorem gX5_elementAt_X5_hasElement : GoodIn wsX5_elementAt (wsV RX5 30 RX5 yX5_hasElement wsX5_hasElement) := goodIn_app (goodIn_of _ (by decide +kernel)) ggX5_elementAt_X5_hasElement
theorem dX5_elementAt_0 : decode cX5_elementAt 0 = .ok (.aload_n 0, 1) := by decide +kernel
theorem dX5_elementAt_1 : decode cX5_elementAt 1 = .ok (.iload_n 1, 1) := by decide +kernel
theorem dX5_elementAt_2 : decode cX5_elementAt 2 = .ok (.iload_n 2, 1) := by decide +kernel
theorem dX5_elementAt_3 : decode cX5_elementAt 3 = .ok (.invokevirtual 30, 3) := by decide +kernel
theorem dX5_elementAt_6 : decode cX5_elementAt 6 = .ok (.ifCond .eq 18, 3) := by decide +kernel
theorem dX5_elementAt_9 : decode cX5_elementAt 9 = .ok (.aload_n 0, 1) := by decide +kernel
theorem dX5_elementAt_10 : decode cX5_elementAt 10 = .ok (.getfield 18, 3) := by decide +kernel
theorem dX5_elementAt_13 : decode cX5_elementAt 13 = .ok (.iload_n 1, 1) := by decide +kernel
theorem dX5_elementAt_14 : decode cX5_elementAt 14 = .ok (.sipush 160, 3) := by decide +kernel
theorem dX5_elementAt_17 : decode cX5_elementAt 17 = .ok (.imul, 1) := by decide +kernel
theorem dX5_elementAt_18 : decode cX5_elementAt 18 = .ok (.iload_n 2, 1) := by decide +kernel
theorem dX5_elementAt_19 : decode cX5_elementAt 19 = .ok (.iadd, 1) := by decide +kernel
theorem dX5_elementAt_20 : decode cX5_elementAt 20 = .ok (.laload, 1) := by decide +kernel
theorem dX5_elementAt_21 : decode cX5_elementAt 21 = .ok (.goto 4, 3) := by decide +kernel
theorem dX5_elementAt_24 : decode cX5_elementAt 24 = .ok (.lconst 0, 1) := by decide +kernel
theorem dX5_elementAt_25 : decode cX5_elementAt 25 = .ok (.lreturn, 1) := by decide +kernel
set_option maxRecDepth 20000 in
theorem ggX5_numberAt_X5_elementAt : GoodIn wsX5_numberAt wsX5_elementAt := goodIn_r _ [5, 6, 7, 8, 9, 4, 10, 11, 12, 13, 14, 15, 16, 17, 18, 19, 20, 21, 22] (by decide +kernel) (by decide +kernel)
set_option maxRecDepth 20000 in
theorem gX5_numberAt_X5_elementAt : GoodIn wsX5_numberAt (wsV RX5 34 RX5 yX5_elementAt wsX5_elementAt) := goodIn_app (goodIn_of _ (by decide +kernel)) ggX5_numberAt_X5_elementAt
theorem dX5_numberAt_0 : decode cX5_numberAt 0 = .ok (.aload_n 0, 1) := by decide +kernel
theorem dX5_numberAt_1 : decode cX5_numberAt 1 = .ok (.iload_n 1, 1) := by decide +kernel
theorem dX5_numberAt_2 : decode cX5_numberAt 2 = .ok (.iload_n 2, 1) := by decide +kernel
theorem dX5_numberAt_3 : decode cX5_numberAt 3 = .ok (.invokevirtual 34, 3) := by decide +kernel
theorem dX5_numberAt_6 : decode cX5_numberAt 6 = .ok (.l2i, 1) := by decide +kernel
theorem dX5_numberAt_7 : decode cX5_numberAt 7 = .ok (.ireturn, 1) := by decide +kernel
set_option maxRecDepth 20000 in
theorem ggX5_holdRow_X5_has : GoodIn wsX5_holdRow wsX5_has := goodIn_r _ [8] (by decide +kernel) (by decide +kernel)
set_option maxRecDepth 20000 in
theorem gX5_holdRow_X5_has : GoodIn wsX5_holdRow (wsV RX5 22 RX5 yX5_has wsX5_has) := goodIn_app (goodIn_of _ (by decide +kernel)) ggX5_holdRow_X5_has
theorem dX5_holdRow_0 : decode cX5_holdRow 0 = .ok (.aload_n 0, 1) := by decide +kernel
theorem dX5_holdRow_1 : decode cX5_holdRow 1 = .ok (.iload_n 1, 1) := by decide +kernel
theorem dX5_holdRow_2 : decode cX5_holdRow 2 = .ok (.invokevirtual 22, 3) := by decide +kernel
theorem dX5_holdRow_5 : decode cX5_holdRow 5 = .ok (.ifCond .eq 14, 3) := by decide +kernel
theorem dX5_holdRow_8 : decode cX5_holdRow 8 = .ok (.iload_n 3, 1) := by decide +kernel
theorem dX5_holdRow_9 : decode cX5_holdRow 9 = .ok (.ifCond .lt 10, 3) := by decide +kernel
theorem dX5_holdRow_12 : decode cX5_holdRow 12 = .ok (.iload_n 3, 1) := by decide +kernel
theorem dX5_holdRow_13 : decode cX5_holdRow 13 = .ok (.sipush 160, 3) := by decide +kernel
theorem dX5_holdRow_16 : decode cX5_holdRow 16 = .ok (.if_icmp .le 4, 3) := by decide +kernel
theorem dX5_holdRow_19 : decode cX5_holdRow 19 = .ok (.return_, 1) := by decide +kernel
theorem dX5_holdRow_20 : decode cX5_holdRow 20 = .ok (.aload_n 0, 1) := by decide +kernel
theorem dX5_holdRow_21 : decode cX5_holdRow 21 = .ok (.getfield 11, 3) := by decide +kernel
theorem dX5_holdRow_24 : decode cX5_holdRow 24 = .ok (.iload_n 1, 1) := by decide +kernel
theorem dX5_holdRow_25 : decode cX5_holdRow 25 = .ok (.bipush 100, 2) := by decide +kernel
theorem dX5_holdRow_27 : decode cX5_holdRow 27 = .ok (.iload_n 2, 1) := by decide +kernel
theorem dX5_holdRow_28 : decode cX5_holdRow 28 = .ok (.iadd, 1) := by decide +kernel
theorem dX5_holdRow_29 : decode cX5_holdRow 29 = .ok (.iastore, 1) := by decide +kernel
theorem dX5_holdRow_30 : decode cX5_holdRow 30 = .ok (.aload_n 0, 1) := by decide +kernel
theorem dX5_holdRow_31 : decode cX5_holdRow 31 = .ok (.getfield 15, 3) := by decide +kernel
theorem dX5_holdRow_34 : decode cX5_holdRow 34 = .ok (.iload_n 1, 1) := by decide +kernel
theorem dX5_holdRow_35 : decode cX5_holdRow 35 = .ok (.iload_n 3, 1) := by decide +kernel
theorem dX5_holdRow_36 : decode cX5_holdRow 36 = .ok (.iastore, 1) := by decide +kernel
theorem dX5_holdRow_37 : decode cX5_holdRow 37 = .ok (.iconst 0, 1) := by decide +kernel
theorem dX5_holdRow_38 : decode cX5_holdRow 38 = .ok (.istore 4, 2) := by decide +kernel
theorem dX5_holdRow_40 : decode cX5_holdRow 40 = .ok (.iload 4, 2) := by decide +kernel
theorem dX5_holdRow_42 : decode cX5_holdRow 42 = .ok (.iload_n 3, 1) := by decide +kernel
theorem dX5_holdRow_43 : decode cX5_holdRow 43 = .ok (.if_icmp .ge 23, 3) := by decide +kernel
theorem dX5_holdRow_46 : decode cX5_holdRow 46 = .ok (.aload_n 0, 1) := by decide +kernel
theorem dX5_holdRow_47 : decode cX5_holdRow 47 = .ok (.getfield 18, 3) := by decide +kernel
theorem dX5_holdRow_50 : decode cX5_holdRow 50 = .ok (.iload_n 1, 1) := by decide +kernel
theorem dX5_holdRow_51 : decode cX5_holdRow 51 = .ok (.sipush 160, 3) := by decide +kernel
theorem dX5_holdRow_54 : decode cX5_holdRow 54 = .ok (.imul, 1) := by decide +kernel
theorem dX5_holdRow_55 : decode cX5_holdRow 55 = .ok (.iload 4, 2) := by decide +kernel
theorem dX5_holdRow_57 : decode cX5_holdRow 57 = .ok (.iadd, 1) := by decide +kernel
theorem dX5_holdRow_58 : decode cX5_holdRow 58 = .ok (.lconst 0, 1) := by decide +kernel
theorem dX5_holdRow_59 : decode cX5_holdRow 59 = .ok (.lastore, 1) := by decide +kernel
theorem dX5_holdRow_60 : decode cX5_holdRow 60 = .ok (.iinc 4 1, 3) := by decide +kernel
theorem dX5_holdRow_63 : decode cX5_holdRow 63 = .ok (.goto (-23), 3) := by decide +kernel
theorem dX5_holdRow_66 : decode cX5_holdRow 66 = .ok (.return_, 1) := by decide +kernel
set_option maxRecDepth 20000 in
theorem ggX5_holdSetUp_X5_has : GoodIn wsX5_holdSetUp wsX5_has := goodIn_r _ [7] (by decide +kernel) (by decide +kernel)
set_option maxRecDepth 20000 in
theorem gX5_holdSetUp_X5_has : GoodIn wsX5_holdSetUp (wsV RX5 22 RX5 yX5_has wsX5_has) := goodIn_app (goodIn_of _ (by decide +kernel)) ggX5_holdSetUp_X5_has
theorem dX5_holdSetUp_0 : decode cX5_holdSetUp 0 = .ok (.aload_n 0, 1) := by decide +kernel
theorem dX5_holdSetUp_1 : decode cX5_holdSetUp 1 = .ok (.iload_n 1, 1) := by decide +kernel
theorem dX5_holdSetUp_2 : decode cX5_holdSetUp 2 = .ok (.invokevirtual 22, 3) := by decide +kernel
theorem dX5_holdSetUp_5 : decode cX5_holdSetUp 5 = .ok (.ifCond .ne 4, 3) := by decide +kernel
theorem dX5_holdSetUp_8 : decode cX5_holdSetUp 8 = .ok (.return_, 1) := by decide +kernel
theorem dX5_holdSetUp_9 : decode cX5_holdSetUp 9 = .ok (.aload_n 0, 1) := by decide +kernel
theorem dX5_holdSetUp_10 : decode cX5_holdSetUp 10 = .ok (.getfield 11, 3) := by decide +kernel
theorem dX5_holdSetUp_13 : decode cX5_holdSetUp 13 = .ok (.iload_n 1, 1) := by decide +kernel
theorem dX5_holdSetUp_14 : decode cX5_holdSetUp 14 = .ok (.iload_n 2, 1) := by decide +kernel
theorem dX5_holdSetUp_15 : decode cX5_holdSetUp 15 = .ok (.iastore, 1) := by decide +kernel
theorem dX5_holdSetUp_16 : decode cX5_holdSetUp 16 = .ok (.aload_n 0, 1) := by decide +kernel
theorem dX5_holdSetUp_17 : decode cX5_holdSetUp 17 = .ok (.getfield 15, 3) := by decide +kernel
theorem dX5_holdSetUp_20 : decode cX5_holdSetUp 20 = .ok (.iload_n 1, 1) := by decide +kernel
theorem dX5_holdSetUp_21 : decode cX5_holdSetUp 21 = .ok (.iconst 0, 1) := by decide +kernel
theorem dX5_holdSetUp_22 : decode cX5_holdSetUp 22 = .ok (.iastore, 1) := by decide +kernel
theorem dX5_holdSetUp_23 : decode cX5_holdSetUp 23 = .ok (.return_, 1) := by decide +kernel
set_option maxRecDepth 20000 in
theorem ggX5_put_X5_hasElement : GoodIn wsX5_put wsX5_hasElement := goodIn_r _ [7, 8, 9, 10, 6, 11, 12, 13, 14, 15, 16, 20, 21, 22] (by decide +kernel) (by decide +kernel)
set_option maxRecDepth 20000 in
theorem gX5_put_X5_hasElement : GoodIn wsX5_put (wsV RX5 30 RX5 yX5_hasElement wsX5_hasElement) := goodIn_app (goodIn_of _ (by decide +kernel)) ggX5_put_X5_hasElement
set_option maxRecDepth 20000 in
theorem ggX5_put_X5_narrowed : GoodIn wsX5_put wsX5_narrowed := goodIn_r _ [19] (by decide +kernel) (by decide +kernel)
set_option maxRecDepth 20000 in
theorem gX5_put_X5_narrowed : GoodIn wsX5_put (va_wsS RX5 38 yX5_narrowed wsX5_narrowed) := goodIn_app (goodIn_of _ (by decide +kernel)) ggX5_put_X5_narrowed
theorem dX5_put_0 : decode cX5_put 0 = .ok (.aload_n 0, 1) := by decide +kernel
theorem dX5_put_1 : decode cX5_put 1 = .ok (.iload_n 1, 1) := by decide +kernel
theorem dX5_put_2 : decode cX5_put 2 = .ok (.iload_n 2, 1) := by decide +kernel
theorem dX5_put_3 : decode cX5_put 3 = .ok (.invokevirtual 30, 3) := by decide +kernel
theorem dX5_put_6 : decode cX5_put 6 = .ok (.ifCond .eq 28, 3) := by decide +kernel
theorem dX5_put_9 : decode cX5_put 9 = .ok (.aload_n 0, 1) := by decide +kernel
theorem dX5_put_10 : decode cX5_put 10 = .ok (.getfield 18, 3) := by decide +kernel
theorem dX5_put_13 : decode cX5_put 13 = .ok (.iload_n 1, 1) := by decide +kernel
theorem dX5_put_14 : decode cX5_put 14 = .ok (.sipush 160, 3) := by decide +kernel
theorem dX5_put_17 : decode cX5_put 17 = .ok (.imul, 1) := by decide +kernel
theorem dX5_put_18 : decode cX5_put 18 = .ok (.iload_n 2, 1) := by decide +kernel
theorem dX5_put_19 : decode cX5_put 19 = .ok (.iadd, 1) := by decide +kernel
theorem dX5_put_20 : decode cX5_put 20 = .ok (.aload_n 0, 1) := by decide +kernel
theorem dX5_put_21 : decode cX5_put 21 = .ok (.getfield 11, 3) := by decide +kernel
theorem dX5_put_24 : decode cX5_put 24 = .ok (.iload_n 1, 1) := by decide +kernel
theorem dX5_put_25 : decode cX5_put 25 = .ok (.iaload, 1) := by decide +kernel
theorem dX5_put_26 : decode cX5_put 26 = .ok (.bipush 100, 2) := by decide +kernel
theorem dX5_put_28 : decode cX5_put 28 = .ok (.isub, 1) := by decide +kernel
theorem dX5_put_29 : decode cX5_put 29 = .ok (.lload_n 3, 1) := by decide +kernel
theorem dX5_put_30 : decode cX5_put 30 = .ok (.invokestatic 38, 3) := by decide +kernel
theorem dX5_put_33 : decode cX5_put 33 = .ok (.lastore, 1) := by decide +kernel
theorem dX5_put_34 : decode cX5_put 34 = .ok (.return_, 1) := by decide +kernel
set_option maxRecDepth 20000 in
theorem ggX5_move_X5_hasStretch : GoodIn wsX5_move wsX5_hasStretch := goodIn_r _ [10, 11, 12, 13, 9, 14, 15, 16, 17, 18, 19, 20, 21, 22] (by decide +kernel) (by decide +kernel)
set_option maxRecDepth 20000 in
theorem gX5_move_X5_hasStretch : GoodIn wsX5_move (wsV RX5 42 RX5 yX5_hasStretch wsX5_hasStretch) := goodIn_app (goodIn_of _ (by decide +kernel)) ggX5_move_X5_hasStretch
theorem dX5_move_0 : decode cX5_move 0 = .ok (.aload_n 0, 1) := by decide +kernel
theorem dX5_move_1 : decode cX5_move 1 = .ok (.iload_n 1, 1) := by decide +kernel
theorem dX5_move_2 : decode cX5_move 2 = .ok (.iload_n 2, 1) := by decide +kernel
theorem dX5_move_3 : decode cX5_move 3 = .ok (.iload 5, 2) := by decide +kernel
theorem dX5_move_5 : decode cX5_move 5 = .ok (.invokevirtual 42, 3) := by decide +kernel
theorem dX5_move_8 : decode cX5_move 8 = .ok (.ifCond .eq 20, 3) := by decide +kernel
theorem dX5_move_11 : decode cX5_move 11 = .ok (.aload_n 0, 1) := by decide +kernel
theorem dX5_move_12 : decode cX5_move 12 = .ok (.iload_n 3, 1) := by decide +kernel
theorem dX5_move_13 : decode cX5_move 13 = .ok (.iload 4, 2) := by decide +kernel
theorem dX5_move_15 : decode cX5_move 15 = .ok (.iload 5, 2) := by decide +kernel
theorem dX5_move_17 : decode cX5_move 17 = .ok (.invokevirtual 42, 3) := by decide +kernel
theorem dX5_move_20 : decode cX5_move 20 = .ok (.ifCond .eq 8, 3) := by decide +kernel
theorem dX5_move_23 : decode cX5_move 23 = .ok (.iload 5, 2) := by decide +kernel
theorem dX5_move_25 : decode cX5_move 25 = .ok (.ifCond .ne 4, 3) := by decide +kernel
theorem dX5_move_28 : decode cX5_move 28 = .ok (.return_, 1) := by decide +kernel
theorem dX5_move_29 : decode cX5_move 29 = .ok (.aload_n 0, 1) := by decide +kernel
theorem dX5_move_30 : decode cX5_move 30 = .ok (.getfield 18, 3) := by decide +kernel
theorem dX5_move_33 : decode cX5_move 33 = .ok (.iload_n 1, 1) := by decide +kernel
theorem dX5_move_34 : decode cX5_move 34 = .ok (.sipush 160, 3) := by decide +kernel
theorem dX5_move_37 : decode cX5_move 37 = .ok (.imul, 1) := by decide +kernel
theorem dX5_move_38 : decode cX5_move 38 = .ok (.iload_n 2, 1) := by decide +kernel
theorem dX5_move_39 : decode cX5_move 39 = .ok (.iadd, 1) := by decide +kernel
theorem dX5_move_40 : decode cX5_move 40 = .ok (.aload_n 0, 1) := by decide +kernel
theorem dX5_move_41 : decode cX5_move 41 = .ok (.getfield 18, 3) := by decide +kernel
theorem dX5_move_44 : decode cX5_move 44 = .ok (.iload_n 3, 1) := by decide +kernel
theorem dX5_move_45 : decode cX5_move 45 = .ok (.sipush 160, 3) := by decide +kernel
theorem dX5_move_48 : decode cX5_move 48 = .ok (.imul, 1) := by decide +kernel
theorem dX5_move_49 : decode cX5_move 49 = .ok (.iload 4, 2) := by decide +kernel
theorem dX5_move_51 : decode cX5_move 51 = .ok (.iadd, 1) := by decide +kernel
theorem dX5_move_52 : decode cX5_move 52 = .ok (.iload 5, 2) := by decide +kernel
theorem dX5_move_54 : decode cX5_move 54 = .ok (.invokestatic 46, 3) := by decide +kernel
theorem dX5_move_57 : decode cX5_move 57 = .ok (.return_, 1) := by decide +kernel
set_option maxRecDepth 20000 in
theorem ggX5_forgetFrom_X5_holdsSetUp : GoodIn wsX5_forgetFrom wsX5_holdsSetUp := goodIn_r _ [6, 1, 7, 8, 9, 5, 10, 16, 17, 18] (by decide +kernel) (by decide +kernel)
set_option maxRecDepth 20000 in
theorem gX5_forgetFrom_X5_holdsSetUp : GoodIn wsX5_forgetFrom (wsV RX5 52 RX5 yX5_holdsSetUp wsX5_holdsSetUp) := goodIn_app (goodIn_of _ (by decide +kernel)) ggX5_forgetFrom_X5_holdsSetUp
set_option maxRecDepth 20000 in
theorem ggX5_forgetFrom_X5_holdSetUp : GoodIn wsX5_forgetFrom wsX5_holdSetUp := goodIn_r _ [14, 1, 15, 7, 8, 9, 5, 10, 16, 17, 18] (by decide +kernel) (by decide +kernel)
set_option maxRecDepth 20000 in
theorem gX5_forgetFrom_X5_holdSetUp : GoodIn wsX5_forgetFrom (wsV RX5 55 RX5 yX5_holdSetUp wsX5_holdSetUp) := goodIn_app (goodIn_of _ (by decide +kernel)) ggX5_forgetFrom_X5_holdSetUp
theorem dX5_forgetFrom_0 : decode cX5_forgetFrom 0 = .ok (.iconst 0, 1) := by decide +kernel
theorem dX5_forgetFrom_1 : decode cX5_forgetFrom 1 = .ok (.istore_n 2, 1) := by decide +kernel
theorem dX5_forgetFrom_2 : decode cX5_forgetFrom 2 = .ok (.iload_n 2, 1) := by decide +kernel
theorem dX5_forgetFrom_3 : decode cX5_forgetFrom 3 = .ok (.bipush 8, 2) := by decide +kernel
theorem dX5_forgetFrom_5 : decode cX5_forgetFrom 5 = .ok (.if_icmp .ge 33, 3) := by decide +kernel
theorem dX5_forgetFrom_8 : decode cX5_forgetFrom 8 = .ok (.aload_n 0, 1) := by decide +kernel
theorem dX5_forgetFrom_9 : decode cX5_forgetFrom 9 = .ok (.iload_n 2, 1) := by decide +kernel
theorem dX5_forgetFrom_10 : decode cX5_forgetFrom 10 = .ok (.invokevirtual 52, 3) := by decide +kernel
theorem dX5_forgetFrom_13 : decode cX5_forgetFrom 13 = .ok (.ifCond .eq 19, 3) := by decide +kernel
theorem dX5_forgetFrom_16 : decode cX5_forgetFrom 16 = .ok (.aload_n 0, 1) := by decide +kernel
theorem dX5_forgetFrom_17 : decode cX5_forgetFrom 17 = .ok (.getfield 11, 3) := by decide +kernel
theorem dX5_forgetFrom_20 : decode cX5_forgetFrom 20 = .ok (.iload_n 2, 1) := by decide +kernel
theorem dX5_forgetFrom_21 : decode cX5_forgetFrom 21 = .ok (.iaload, 1) := by decide +kernel
theorem dX5_forgetFrom_22 : decode cX5_forgetFrom 22 = .ok (.iload_n 1, 1) := by decide +kernel
theorem dX5_forgetFrom_23 : decode cX5_forgetFrom 23 = .ok (.if_icmp .lt 9, 3) := by decide +kernel
theorem dX5_forgetFrom_26 : decode cX5_forgetFrom 26 = .ok (.aload_n 0, 1) := by decide +kernel
theorem dX5_forgetFrom_27 : decode cX5_forgetFrom 27 = .ok (.iload_n 2, 1) := by decide +kernel
theorem dX5_forgetFrom_28 : decode cX5_forgetFrom 28 = .ok (.iconst (-1), 1) := by decide +kernel
theorem dX5_forgetFrom_29 : decode cX5_forgetFrom 29 = .ok (.invokevirtual 55, 3) := by decide +kernel
theorem dX5_forgetFrom_32 : decode cX5_forgetFrom 32 = .ok (.iinc 2 1, 3) := by decide +kernel
theorem dX5_forgetFrom_35 : decode cX5_forgetFrom 35 = .ok (.goto (-33), 3) := by decide +kernel
theorem dX5_forgetFrom_38 : decode cX5_forgetFrom 38 = .ok (.return_, 1) := by decide +kernel
set_option maxRecDepth 20000 in
theorem ggX5_differAlike_X5_numberAt : GoodIn wsX5_differAlike wsX5_numberAt := goodIn_r _ [5, 6, 7, 8, 4, 9, 10, 11, 12, 13, 14, 15, 16, 17, 18, 19, 20, 21, 22, 23, 24, 25, 26] (by decide +kernel) (by decide +kernel)
set_option maxRecDepth 20000 in
theorem gX5_differAlike_X5_numberAt : GoodIn wsX5_differAlike (wsV RX5 59 RX5 yX5_numberAt wsX5_numberAt) := goodIn_app (goodIn_of _ (by decide +kernel)) ggX5_differAlike_X5_numberAt
theorem dX5_differAlike_0 : decode cX5_differAlike 0 = .ok (.iload 4, 2) := by decide +kernel
theorem dX5_differAlike_2 : decode cX5_differAlike 2 = .ok (.ifCond .ne 7, 3) := by decide +kernel
theorem dX5_differAlike_5 : decode cX5_differAlike 5 = .ok (.iconst 1, 1) := by decide +kernel
theorem dX5_differAlike_6 : decode cX5_differAlike 6 = .ok (.goto 4, 3) := by decide +kernel
theorem dX5_differAlike_9 : decode cX5_differAlike 9 = .ok (.iconst 0, 1) := by decide +kernel
theorem dX5_differAlike_10 : decode cX5_differAlike 10 = .ok (.istore 5, 2) := by decide +kernel
theorem dX5_differAlike_12 : decode cX5_differAlike 12 = .ok (.aload_n 0, 1) := by decide +kernel
theorem dX5_differAlike_13 : decode cX5_differAlike 13 = .ok (.iload_n 2, 1) := by decide +kernel
theorem dX5_differAlike_14 : decode cX5_differAlike 14 = .ok (.iload 5, 2) := by decide +kernel
theorem dX5_differAlike_16 : decode cX5_differAlike 16 = .ok (.invokevirtual 59, 3) := by decide +kernel
theorem dX5_differAlike_19 : decode cX5_differAlike 19 = .ok (.i2l, 1) := by decide +kernel
theorem dX5_differAlike_20 : decode cX5_differAlike 20 = .ok (.aload_n 0, 1) := by decide +kernel
theorem dX5_differAlike_21 : decode cX5_differAlike 21 = .ok (.iload_n 1, 1) := by decide +kernel
theorem dX5_differAlike_22 : decode cX5_differAlike 22 = .ok (.iload 5, 2) := by decide +kernel
theorem dX5_differAlike_24 : decode cX5_differAlike 24 = .ok (.invokevirtual 59, 3) := by decide +kernel
theorem dX5_differAlike_27 : decode cX5_differAlike 27 = .ok (.i2l, 1) := by decide +kernel
theorem dX5_differAlike_28 : decode cX5_differAlike 28 = .ok (.lsub, 1) := by decide +kernel
theorem dX5_differAlike_29 : decode cX5_differAlike 29 = .ok (.lstore 6, 2) := by decide +kernel
theorem dX5_differAlike_31 : decode cX5_differAlike 31 = .ok (.iload 5, 2) := by decide +kernel
theorem dX5_differAlike_33 : decode cX5_differAlike 33 = .ok (.iconst 1, 1) := by decide +kernel
theorem dX5_differAlike_34 : decode cX5_differAlike 34 = .ok (.iadd, 1) := by decide +kernel
theorem dX5_differAlike_35 : decode cX5_differAlike 35 = .ok (.istore 8, 2) := by decide +kernel
theorem dX5_differAlike_37 : decode cX5_differAlike 37 = .ok (.iload 8, 2) := by decide +kernel
theorem dX5_differAlike_39 : decode cX5_differAlike 39 = .ok (.iload_n 3, 1) := by decide +kernel
theorem dX5_differAlike_40 : decode cX5_differAlike 40 = .ok (.if_icmp .ge 41, 3) := by decide +kernel
theorem dX5_differAlike_43 : decode cX5_differAlike 43 = .ok (.iload 8, 2) := by decide +kernel
theorem dX5_differAlike_45 : decode cX5_differAlike 45 = .ok (.iload 4, 2) := by decide +kernel
theorem dX5_differAlike_47 : decode cX5_differAlike 47 = .ok (.if_icmp .eq 28, 3) := by decide +kernel
theorem dX5_differAlike_50 : decode cX5_differAlike 50 = .ok (.aload_n 0, 1) := by decide +kernel
theorem dX5_differAlike_51 : decode cX5_differAlike 51 = .ok (.iload_n 2, 1) := by decide +kernel
theorem dX5_differAlike_52 : decode cX5_differAlike 52 = .ok (.iload 8, 2) := by decide +kernel
theorem dX5_differAlike_54 : decode cX5_differAlike 54 = .ok (.invokevirtual 59, 3) := by decide +kernel
theorem dX5_differAlike_57 : decode cX5_differAlike 57 = .ok (.i2l, 1) := by decide +kernel
theorem dX5_differAlike_58 : decode cX5_differAlike 58 = .ok (.aload_n 0, 1) := by decide +kernel
theorem dX5_differAlike_59 : decode cX5_differAlike 59 = .ok (.iload_n 1, 1) := by decide +kernel
theorem dX5_differAlike_60 : decode cX5_differAlike 60 = .ok (.iload 8, 2) := by decide +kernel
theorem dX5_differAlike_62 : decode cX5_differAlike 62 = .ok (.invokevirtual 59, 3) := by decide +kernel
theorem dX5_differAlike_65 : decode cX5_differAlike 65 = .ok (.i2l, 1) := by decide +kernel
theorem dX5_differAlike_66 : decode cX5_differAlike 66 = .ok (.lsub, 1) := by decide +kernel
theorem dX5_differAlike_67 : decode cX5_differAlike 67 = .ok (.lload 6, 2) := by decide +kernel
theorem dX5_differAlike_69 : decode cX5_differAlike 69 = .ok (.lcmp, 1) := by decide +kernel
theorem dX5_differAlike_70 : decode cX5_differAlike 70 = .ok (.ifCond .eq 5, 3) := by decide +kernel
theorem dX5_differAlike_73 : decode cX5_differAlike 73 = .ok (.iconst 0, 1) := by decide +kernel
theorem dX5_differAlike_74 : decode cX5_differAlike 74 = .ok (.ireturn, 1) := by decide +kernel
theorem dX5_differAlike_75 : decode cX5_differAlike 75 = .ok (.iinc 8 1, 3) := by decide +kernel
theorem dX5_differAlike_78 : decode cX5_differAlike 78 = .ok (.goto (-41), 3) := by decide +kernel
theorem dX5_differAlike_81 : decode cX5_differAlike 81 = .ok (.iconst 1, 1) := by decide +kernel
theorem dX5_differAlike_82 : decode cX5_differAlike 82 = .ok (.ireturn, 1) := by decide +kernel
theorem dX5_narrowed_0 : decode cX5_narrowed 0 = .ok (.iload_n 0, 1) := by decide +kernel
theorem dX5_narrowed_1 : decode cX5_narrowed 1 = .ok (.tableswitch 41 0 2 #[27, 32, 37], 27) := by decide +kernel
theorem dX5_narrowed_28 : decode cX5_narrowed 28 = .ok (.lload_n 1, 1) := by decide +kernel
theorem dX5_narrowed_29 : decode cX5_narrowed 29 = .ok (.l2i, 1) := by decide +kernel
theorem dX5_narrowed_30 : decode cX5_narrowed 30 = .ok (.i2b, 1) := by decide +kernel
theorem dX5_narrowed_31 : decode cX5_narrowed 31 = .ok (.i2l, 1) := by decide +kernel
theorem dX5_narrowed_32 : decode cX5_narrowed 32 = .ok (.lreturn, 1) := by decide +kernel
theorem dX5_narrowed_33 : decode cX5_narrowed 33 = .ok (.lload_n 1, 1) := by decide +kernel
theorem dX5_narrowed_34 : decode cX5_narrowed 34 = .ok (.l2i, 1) := by decide +kernel
theorem dX5_narrowed_35 : decode cX5_narrowed 35 = .ok (.i2s, 1) := by decide +kernel
theorem dX5_narrowed_36 : decode cX5_narrowed 36 = .ok (.i2l, 1) := by decide +kernel
theorem dX5_narrowed_37 : decode cX5_narrowed 37 = .ok (.lreturn, 1) := by decide +kernel
theorem dX5_narrowed_38 : decode cX5_narrowed 38 = .ok (.lload_n 1, 1) := by decide +kernel
theorem dX5_narrowed_39 : decode cX5_narrowed 39 = .ok (.l2i, 1) := by decide +kernel
theorem dX5_narrowed_40 : decode cX5_narrowed 40 = .ok (.i2l, 1) := by decide +kernel
theorem dX5_narrowed_41 : decode cX5_narrowed 41 = .ok (.lreturn, 1) := by decide +kernel
theorem dX5_narrowed_42 : decode cX5_narrowed 42 = .ok (.lload_n 1, 1) := by decide +kernel
theorem dX5_narrowed_43 : decode cX5_narrowed 43 = .ok (.lreturn, 1) := by decide +kernel
theorem dX6_init_0 : decode cX6_init 0 = .ok (.aload_n 0, 1) := by decide +kernel
theorem dX6_init_1 : decode cX6_init 1 = .ok (.invokespecial 5, 3) := by decide +kernel
theorem dX6_init_4 : decode cX6_init 4 = .ok (.aload_n 0, 1) := by decide +kernel
theorem dX6_init_5 : decode cX6_init 5 = .ok (.sipush 577, 3) := by decide +kernel
theorem dX6_init_8 : decode cX6_init 8 = .ok (.newarray .int, 2) := by decide +kernel
theorem dX6_init_10 : decode cX6_init 10 = .ok (.putfield 13, 3) := by decide +kernel
theorem dX6_init_13 : decode cX6_init 13 = .ok (.aload_n 0, 1) := by decide +kernel
theorem dX6_init_14 : decode cX6_init 14 = .ok (.sipush 577, 3) := by decide +kernel
theorem dX6_init_17 : decode cX6_init 17 = .ok (.newarray .int, 2) := by decide +kernel
theorem dX6_init_19 : decode cX6_init 19 = .ok (.putfield 17, 3) := by decide +kernel
theorem dX6_init_22 : decode cX6_init 22 = .ok (.return_, 1) := by decide +kernel
theorem dX6_leastBits_0 : decode cX6_leastBits 0 = .ok (.aload_n 0, 1) := by decide +kernel
theorem dX6_leastBits_1 : decode cX6_leastBits 1 = .ok (.getfield 20, 3) := by decide +kernel
theorem dX6_leastBits_4 : decode cX6_leastBits 4 = .ok (.ireturn, 1) := by decide +kernel
theorem dX6_errorsTogether_0 : decode cX6_errorsTogether 0 = .ok (.aload_n 0, 1) := by decide +kernel
theorem dX6_errorsTogether_1 : decode cX6_errorsTogether 1 = .ok (.getfield 24, 3) := by decide +kernel
theorem dX6_errorsTogether_4 : decode cX6_errorsTogether 4 = .ok (.ireturn, 1) := by decide +kernel
set_option maxRecDepth 20000 in
theorem ggX6_search_X3_count : GoodIn wsX6_search wsX3_count := goodIn_r _ [6, 7, 41, 42, 43, 44] (by decide +kernel) (by decide +kernel)
set_option maxRecDepth 20000 in
theorem gX6_search_X3_count : GoodIn wsX6_search (wsV RX6 27 RX3 yX3_count wsX3_count) := goodIn_app (goodIn_of _ (by decide +kernel)) ggX6_search_X3_count
set_option maxRecDepth 20000 in
theorem ggX6_search_X3_sunkBy : GoodIn wsX6_search wsX3_sunkBy := goodIn_r _ [11, 12, 13, 14, 5, 15, 16, 41, 42, 43, 44] (by decide +kernel) (by decide +kernel)
set_option maxRecDepth 20000 in
theorem gX6_search_X3_sunkBy : GoodIn wsX6_search (wsV RX6 31 RX3 yX3_sunkBy wsX3_sunkBy) := goodIn_app (goodIn_of _ (by decide +kernel)) ggX6_search_X3_sunkBy
set_option maxRecDepth 20000 in
theorem ggX6_search_X6_addOne : GoodIn wsX6_search wsX6_addOne := goodIn_r _ [21, 22, 1, 23, 24, 25, 26, 27, 28, 29, 20, 30, 37, 38, 39, 40] (by decide +kernel) (by decide +kernel)
set_option maxRecDepth 20000 in
theorem gX6_search_X6_addOne : GoodIn wsX6_search (wsV RX6 35 RX6 yX6_addOne wsX6_addOne) := goodIn_app (goodIn_of _ (by decide +kernel)) ggX6_search_X6_addOne
set_option maxRecDepth 20000 in
theorem ggX6_search_X6_pickNearest : GoodIn wsX6_search wsX6_pickNearest := goodIn_r _ [34, 35, 36, 27, 28, 29, 20, 30, 1, 37, 38, 39, 40] (by decide +kernel) (by decide +kernel)
set_option maxRecDepth 20000 in
theorem gX6_search_X6_pickNearest : GoodIn wsX6_search (wsV RX6 39 RX6 yX6_pickNearest wsX6_pickNearest) := goodIn_app (goodIn_of _ (by decide +kernel)) ggX6_search_X6_pickNearest
theorem dX6_search_0 : decode cX6_search 0 = .ok (.iconst 0, 1) := by decide +kernel
theorem dX6_search_1 : decode cX6_search 1 = .ok (.istore_n 2, 1) := by decide +kernel
theorem dX6_search_2 : decode cX6_search 2 = .ok (.iload_n 2, 1) := by decide +kernel
theorem dX6_search_3 : decode cX6_search 3 = .ok (.aload_n 0, 1) := by decide +kernel
theorem dX6_search_4 : decode cX6_search 4 = .ok (.getfield 13, 3) := by decide +kernel
theorem dX6_search_7 : decode cX6_search 7 = .ok (.arraylength, 1) := by decide +kernel
theorem dX6_search_8 : decode cX6_search 8 = .ok (.if_icmp .ge 16, 3) := by decide +kernel
theorem dX6_search_11 : decode cX6_search 11 = .ok (.aload_n 0, 1) := by decide +kernel
theorem dX6_search_12 : decode cX6_search 12 = .ok (.getfield 13, 3) := by decide +kernel
theorem dX6_search_15 : decode cX6_search 15 = .ok (.iload_n 2, 1) := by decide +kernel
theorem dX6_search_16 : decode cX6_search 16 = .ok (.iconst (-1), 1) := by decide +kernel
theorem dX6_search_17 : decode cX6_search 17 = .ok (.iastore, 1) := by decide +kernel
theorem dX6_search_18 : decode cX6_search 18 = .ok (.iinc 2 1, 3) := by decide +kernel
theorem dX6_search_21 : decode cX6_search 21 = .ok (.goto (-19), 3) := by decide +kernel
theorem dX6_search_24 : decode cX6_search 24 = .ok (.aload_n 0, 1) := by decide +kernel
theorem dX6_search_25 : decode cX6_search 25 = .ok (.getfield 13, 3) := by decide +kernel
theorem dX6_search_28 : decode cX6_search 28 = .ok (.sipush 288, 3) := by decide +kernel
theorem dX6_search_31 : decode cX6_search 31 = .ok (.iconst 0, 1) := by decide +kernel
theorem dX6_search_32 : decode cX6_search 32 = .ok (.iastore, 1) := by decide +kernel
theorem dX6_search_33 : decode cX6_search 33 = .ok (.iconst 0, 1) := by decide +kernel
theorem dX6_search_34 : decode cX6_search 34 = .ok (.istore_n 2, 1) := by decide +kernel
theorem dX6_search_35 : decode cX6_search 35 = .ok (.iload_n 2, 1) := by decide +kernel
theorem dX6_search_36 : decode cX6_search 36 = .ok (.aload_n 1, 1) := by decide +kernel
theorem dX6_search_37 : decode cX6_search 37 = .ok (.invokevirtual 27, 3) := by decide +kernel
theorem dX6_search_40 : decode cX6_search 40 = .ok (.if_icmp .ge 27, 3) := by decide +kernel
theorem dX6_search_43 : decode cX6_search 43 = .ok (.aload_n 1, 1) := by decide +kernel
theorem dX6_search_44 : decode cX6_search 44 = .ok (.iload_n 2, 1) := by decide +kernel
theorem dX6_search_45 : decode cX6_search 45 = .ok (.invokevirtual 31, 3) := by decide +kernel
theorem dX6_search_48 : decode cX6_search 48 = .ok (.istore_n 3, 1) := by decide +kernel
theorem dX6_search_49 : decode cX6_search 49 = .ok (.iload_n 3, 1) := by decide +kernel
theorem dX6_search_50 : decode cX6_search 50 = .ok (.ifCond .le 11, 3) := by decide +kernel
theorem dX6_search_53 : decode cX6_search 53 = .ok (.aload_n 0, 1) := by decide +kernel
theorem dX6_search_54 : decode cX6_search 54 = .ok (.iload_n 3, 1) := by decide +kernel
theorem dX6_search_55 : decode cX6_search 55 = .ok (.iconst 1, 1) := by decide +kernel
theorem dX6_search_56 : decode cX6_search 56 = .ok (.iload_n 2, 1) := by decide +kernel
theorem dX6_search_57 : decode cX6_search 57 = .ok (.ishl, 1) := by decide +kernel
theorem dX6_search_58 : decode cX6_search 58 = .ok (.invokevirtual 35, 3) := by decide +kernel
theorem dX6_search_61 : decode cX6_search 61 = .ok (.iinc 2 1, 3) := by decide +kernel
theorem dX6_search_64 : decode cX6_search 64 = .ok (.goto (-29), 3) := by decide +kernel
theorem dX6_search_67 : decode cX6_search 67 = .ok (.aload_n 0, 1) := by decide +kernel
theorem dX6_search_68 : decode cX6_search 68 = .ok (.invokevirtual 39, 3) := by decide +kernel
theorem dX6_search_71 : decode cX6_search 71 = .ok (.return_, 1) := by decide +kernel
set_option maxRecDepth 20000 in
theorem ggX6_addOne_X6_bitsOf : GoodIn wsX6_addOne wsX6_bitsOf := goodIn_r _ [11, 2, 12, 13, 14, 15] (by decide +kernel) (by decide +kernel)
set_option maxRecDepth 20000 in
theorem gX6_addOne_X6_bitsOf : GoodIn wsX6_addOne (wsV RX6 42 RX6 yX6_bitsOf wsX6_bitsOf) := goodIn_app (goodIn_of _ (by decide +kernel)) ggX6_addOne_X6_bitsOf
theorem dX6_addOne_0 : decode cX6_addOne 0 = .ok (.sipush (-288), 3) := by decide +kernel
theorem dX6_addOne_3 : decode cX6_addOne 3 = .ok (.istore_n 3, 1) := by decide +kernel
theorem dX6_addOne_4 : decode cX6_addOne 4 = .ok (.iload_n 3, 1) := by decide +kernel
theorem dX6_addOne_5 : decode cX6_addOne 5 = .ok (.sipush 288, 3) := by decide +kernel
theorem dX6_addOne_8 : decode cX6_addOne 8 = .ok (.if_icmp .gt 62, 3) := by decide +kernel
theorem dX6_addOne_11 : decode cX6_addOne 11 = .ok (.aload_n 0, 1) := by decide +kernel
theorem dX6_addOne_12 : decode cX6_addOne 12 = .ok (.iload_n 3, 1) := by decide +kernel
theorem dX6_addOne_13 : decode cX6_addOne 13 = .ok (.iload_n 1, 1) := by decide +kernel
theorem dX6_addOne_14 : decode cX6_addOne 14 = .ok (.isub, 1) := by decide +kernel
theorem dX6_addOne_15 : decode cX6_addOne 15 = .ok (.invokevirtual 42, 3) := by decide +kernel
theorem dX6_addOne_18 : decode cX6_addOne 18 = .ok (.istore 4, 2) := by decide +kernel
theorem dX6_addOne_20 : decode cX6_addOne 20 = .ok (.aload_n 0, 1) := by decide +kernel
theorem dX6_addOne_21 : decode cX6_addOne 21 = .ok (.iload_n 3, 1) := by decide +kernel
theorem dX6_addOne_22 : decode cX6_addOne 22 = .ok (.iload_n 1, 1) := by decide +kernel
theorem dX6_addOne_23 : decode cX6_addOne 23 = .ok (.iadd, 1) := by decide +kernel
theorem dX6_addOne_24 : decode cX6_addOne 24 = .ok (.invokevirtual 42, 3) := by decide +kernel
theorem dX6_addOne_27 : decode cX6_addOne 27 = .ok (.istore 5, 2) := by decide +kernel
theorem dX6_addOne_29 : decode cX6_addOne 29 = .ok (.aload_n 0, 1) := by decide +kernel
theorem dX6_addOne_30 : decode cX6_addOne 30 = .ok (.getfield 17, 3) := by decide +kernel
theorem dX6_addOne_33 : decode cX6_addOne 33 = .ok (.sipush 288, 3) := by decide +kernel
theorem dX6_addOne_36 : decode cX6_addOne 36 = .ok (.iload_n 3, 1) := by decide +kernel
theorem dX6_addOne_37 : decode cX6_addOne 37 = .ok (.iadd, 1) := by decide +kernel
theorem dX6_addOne_38 : decode cX6_addOne 38 = .ok (.iload 4, 2) := by decide +kernel
theorem dX6_addOne_40 : decode cX6_addOne 40 = .ok (.iconst (-1), 1) := by decide +kernel
theorem dX6_addOne_41 : decode cX6_addOne 41 = .ok (.if_icmp .eq 8, 3) := by decide +kernel
theorem dX6_addOne_44 : decode cX6_addOne 44 = .ok (.iload 4, 2) := by decide +kernel
theorem dX6_addOne_46 : decode cX6_addOne 46 = .ok (.goto 17, 3) := by decide +kernel
theorem dX6_addOne_49 : decode cX6_addOne 49 = .ok (.iload 5, 2) := by decide +kernel
theorem dX6_addOne_51 : decode cX6_addOne 51 = .ok (.iconst (-1), 1) := by decide +kernel
theorem dX6_addOne_52 : decode cX6_addOne 52 = .ok (.if_icmp .eq 10, 3) := by decide +kernel
theorem dX6_addOne_55 : decode cX6_addOne 55 = .ok (.iload 5, 2) := by decide +kernel
theorem dX6_addOne_57 : decode cX6_addOne 57 = .ok (.iload_n 2, 1) := by decide +kernel
theorem dX6_addOne_58 : decode cX6_addOne 58 = .ok (.ior, 1) := by decide +kernel
theorem dX6_addOne_59 : decode cX6_addOne 59 = .ok (.goto 4, 3) := by decide +kernel
theorem dX6_addOne_62 : decode cX6_addOne 62 = .ok (.iconst (-1), 1) := by decide +kernel
theorem dX6_addOne_63 : decode cX6_addOne 63 = .ok (.iastore, 1) := by decide +kernel
theorem dX6_addOne_64 : decode cX6_addOne 64 = .ok (.iinc 3 1, 3) := by decide +kernel
theorem dX6_addOne_67 : decode cX6_addOne 67 = .ok (.goto (-63), 3) := by decide +kernel
theorem dX6_addOne_70 : decode cX6_addOne 70 = .ok (.aload_n 0, 1) := by decide +kernel
theorem dX6_addOne_71 : decode cX6_addOne 71 = .ok (.getfield 17, 3) := by decide +kernel
theorem dX6_addOne_74 : decode cX6_addOne 74 = .ok (.iconst 0, 1) := by decide +kernel
theorem dX6_addOne_75 : decode cX6_addOne 75 = .ok (.aload_n 0, 1) := by decide +kernel
theorem dX6_addOne_76 : decode cX6_addOne 76 = .ok (.getfield 13, 3) := by decide +kernel
theorem dX6_addOne_79 : decode cX6_addOne 79 = .ok (.iconst 0, 1) := by decide +kernel
theorem dX6_addOne_80 : decode cX6_addOne 80 = .ok (.aload_n 0, 1) := by decide +kernel
theorem dX6_addOne_81 : decode cX6_addOne 81 = .ok (.getfield 17, 3) := by decide +kernel
theorem dX6_addOne_84 : decode cX6_addOne 84 = .ok (.arraylength, 1) := by decide +kernel
theorem dX6_addOne_85 : decode cX6_addOne 85 = .ok (.invokestatic 45, 3) := by decide +kernel
theorem dX6_addOne_88 : decode cX6_addOne 88 = .ok (.return_, 1) := by decide +kernel
theorem dX6_bitsOf_0 : decode cX6_bitsOf 0 = .ok (.iload_n 1, 1) := by decide +kernel
theorem dX6_bitsOf_1 : decode cX6_bitsOf 1 = .ok (.sipush (-288), 3) := by decide +kernel
theorem dX6_bitsOf_4 : decode cX6_bitsOf 4 = .ok (.if_icmp .lt 23, 3) := by decide +kernel
theorem dX6_bitsOf_7 : decode cX6_bitsOf 7 = .ok (.iload_n 1, 1) := by decide +kernel
theorem dX6_bitsOf_8 : decode cX6_bitsOf 8 = .ok (.sipush 288, 3) := by decide +kernel
theorem dX6_bitsOf_11 : decode cX6_bitsOf 11 = .ok (.if_icmp .gt 16, 3) := by decide +kernel
theorem dX6_bitsOf_14 : decode cX6_bitsOf 14 = .ok (.aload_n 0, 1) := by decide +kernel
theorem dX6_bitsOf_15 : decode cX6_bitsOf 15 = .ok (.getfield 13, 3) := by decide +kernel
theorem dX6_bitsOf_18 : decode cX6_bitsOf 18 = .ok (.sipush 288, 3) := by decide +kernel
theorem dX6_bitsOf_21 : decode cX6_bitsOf 21 = .ok (.iload_n 1, 1) := by decide +kernel
theorem dX6_bitsOf_22 : decode cX6_bitsOf 22 = .ok (.iadd, 1) := by decide +kernel
theorem dX6_bitsOf_23 : decode cX6_bitsOf 23 = .ok (.iaload, 1) := by decide +kernel
theorem dX6_bitsOf_24 : decode cX6_bitsOf 24 = .ok (.goto 4, 3) := by decide +kernel
theorem dX6_bitsOf_27 : decode cX6_bitsOf 27 = .ok (.iconst (-1), 1) := by decide +kernel
theorem dX6_bitsOf_28 : decode cX6_bitsOf 28 = .ok (.ireturn, 1) := by decide +kernel
set_option maxRecDepth 20000 in
theorem ggX6_pickNearest_X6_bitsOf : GoodIn wsX6_pickNearest wsX6_bitsOf := goodIn_r _ [7, 8, 9, 10, 11, 12] (by decide +kernel) (by decide +kernel)
set_option maxRecDepth 20000 in
theorem gX6_pickNearest_X6_bitsOf : GoodIn wsX6_pickNearest (wsV RX6 42 RX6 yX6_bitsOf wsX6_bitsOf) := goodIn_app (goodIn_of _ (by decide +kernel)) ggX6_pickNearest_X6_bitsOf
theorem dX6_pickNearest_0 : decode cX6_pickNearest 0 = .ok (.aload_n 0, 1) := by decide +kernel
theorem dX6_pickNearest_1 : decode cX6_pickNearest 1 = .ok (.iconst (-1), 1) := by decide +kernel
theorem dX6_pickNearest_2 : decode cX6_pickNearest 2 = .ok (.putfield 20, 3) := by decide +kernel
theorem dX6_pickNearest_5 : decode cX6_pickNearest 5 = .ok (.iconst 0, 1) := by decide +kernel
theorem dX6_pickNearest_6 : decode cX6_pickNearest 6 = .ok (.istore_n 1, 1) := by decide +kernel
theorem dX6_pickNearest_7 : decode cX6_pickNearest 7 = .ok (.iload_n 1, 1) := by decide +kernel
theorem dX6_pickNearest_8 : decode cX6_pickNearest 8 = .ok (.sipush 288, 3) := by decide +kernel
theorem dX6_pickNearest_11 : decode cX6_pickNearest 11 = .ok (.if_icmp .gt 81, 3) := by decide +kernel
theorem dX6_pickNearest_14 : decode cX6_pickNearest 14 = .ok (.aload_n 0, 1) := by decide +kernel
theorem dX6_pickNearest_15 : decode cX6_pickNearest 15 = .ok (.getfield 20, 3) := by decide +kernel
theorem dX6_pickNearest_18 : decode cX6_pickNearest 18 = .ok (.iconst (-1), 1) := by decide +kernel
theorem dX6_pickNearest_19 : decode cX6_pickNearest 19 = .ok (.if_icmp .ne 73, 3) := by decide +kernel
theorem dX6_pickNearest_22 : decode cX6_pickNearest 22 = .ok (.aload_n 0, 1) := by decide +kernel
theorem dX6_pickNearest_23 : decode cX6_pickNearest 23 = .ok (.iload_n 1, 1) := by decide +kernel
theorem dX6_pickNearest_24 : decode cX6_pickNearest 24 = .ok (.invokevirtual 42, 3) := by decide +kernel
theorem dX6_pickNearest_27 : decode cX6_pickNearest 27 = .ok (.istore_n 2, 1) := by decide +kernel
theorem dX6_pickNearest_28 : decode cX6_pickNearest 28 = .ok (.aload_n 0, 1) := by decide +kernel
theorem dX6_pickNearest_29 : decode cX6_pickNearest 29 = .ok (.iload_n 1, 1) := by decide +kernel
theorem dX6_pickNearest_30 : decode cX6_pickNearest 30 = .ok (.ineg, 1) := by decide +kernel
theorem dX6_pickNearest_31 : decode cX6_pickNearest 31 = .ok (.invokevirtual 42, 3) := by decide +kernel
theorem dX6_pickNearest_34 : decode cX6_pickNearest 34 = .ok (.istore_n 3, 1) := by decide +kernel
theorem dX6_pickNearest_35 : decode cX6_pickNearest 35 = .ok (.iload_n 2, 1) := by decide +kernel
theorem dX6_pickNearest_36 : decode cX6_pickNearest 36 = .ok (.iconst (-1), 1) := by decide +kernel
theorem dX6_pickNearest_37 : decode cX6_pickNearest 37 = .ok (.if_icmp .eq 17, 3) := by decide +kernel
theorem dX6_pickNearest_40 : decode cX6_pickNearest 40 = .ok (.iload_n 3, 1) := by decide +kernel
theorem dX6_pickNearest_41 : decode cX6_pickNearest 41 = .ok (.iconst (-1), 1) := by decide +kernel
theorem dX6_pickNearest_42 : decode cX6_pickNearest 42 = .ok (.if_icmp .eq 8, 3) := by decide +kernel
theorem dX6_pickNearest_45 : decode cX6_pickNearest 45 = .ok (.iload_n 2, 1) := by decide +kernel
theorem dX6_pickNearest_46 : decode cX6_pickNearest 46 = .ok (.iload_n 3, 1) := by decide +kernel
theorem dX6_pickNearest_47 : decode cX6_pickNearest 47 = .ok (.if_icmp .gt 7, 3) := by decide +kernel
theorem dX6_pickNearest_50 : decode cX6_pickNearest 50 = .ok (.iconst 1, 1) := by decide +kernel
theorem dX6_pickNearest_51 : decode cX6_pickNearest 51 = .ok (.goto 4, 3) := by decide +kernel
theorem dX6_pickNearest_54 : decode cX6_pickNearest 54 = .ok (.iconst 0, 1) := by decide +kernel
theorem dX6_pickNearest_55 : decode cX6_pickNearest 55 = .ok (.istore 4, 2) := by decide +kernel
theorem dX6_pickNearest_57 : decode cX6_pickNearest 57 = .ok (.aload_n 0, 1) := by decide +kernel
theorem dX6_pickNearest_58 : decode cX6_pickNearest 58 = .ok (.iload 4, 2) := by decide +kernel
theorem dX6_pickNearest_60 : decode cX6_pickNearest 60 = .ok (.ifCond .eq 7, 3) := by decide +kernel
theorem dX6_pickNearest_63 : decode cX6_pickNearest 63 = .ok (.iload_n 2, 1) := by decide +kernel
theorem dX6_pickNearest_64 : decode cX6_pickNearest 64 = .ok (.goto 4, 3) := by decide +kernel
theorem dX6_pickNearest_67 : decode cX6_pickNearest 67 = .ok (.iload_n 3, 1) := by decide +kernel
theorem dX6_pickNearest_68 : decode cX6_pickNearest 68 = .ok (.putfield 20, 3) := by decide +kernel
theorem dX6_pickNearest_71 : decode cX6_pickNearest 71 = .ok (.aload_n 0, 1) := by decide +kernel
theorem dX6_pickNearest_72 : decode cX6_pickNearest 72 = .ok (.iload 4, 2) := by decide +kernel
theorem dX6_pickNearest_74 : decode cX6_pickNearest 74 = .ok (.ifCond .eq 7, 3) := by decide +kernel
theorem dX6_pickNearest_77 : decode cX6_pickNearest 77 = .ok (.iload_n 1, 1) := by decide +kernel
theorem dX6_pickNearest_78 : decode cX6_pickNearest 78 = .ok (.goto 5, 3) := by decide +kernel
theorem dX6_pickNearest_81 : decode cX6_pickNearest 81 = .ok (.iload_n 1, 1) := by decide +kernel
theorem dX6_pickNearest_82 : decode cX6_pickNearest 82 = .ok (.ineg, 1) := by decide +kernel
theorem dX6_pickNearest_83 : decode cX6_pickNearest 83 = .ok (.putfield 24, 3) := by decide +kernel
theorem dX6_pickNearest_86 : decode cX6_pickNearest 86 = .ok (.iinc 1 1, 3) := by decide +kernel
theorem dX6_pickNearest_89 : decode cX6_pickNearest 89 = .ok (.goto (-82), 3) := by decide +kernel
theorem dX6_pickNearest_92 : decode cX6_pickNearest 92 = .ok (.return_, 1) := by decide +kernel
theorem dX7_init_0 : decode cX7_init 0 = .ok (.aload_n 0, 1) := by decide +kernel
theorem dX7_init_1 : decode cX7_init 1 = .ok (.invokespecial 1, 3) := by decide +kernel
theorem dX7_init_4 : decode cX7_init 4 = .ok (.return_, 1) := by decide +kernel
theorem dX7_found_0 : decode cX7_found 0 = .ok (.aload_n 0, 1) := by decide +kernel
theorem dX7_found_1 : decode cX7_found 1 = .ok (.getfield 7, 3) := by decide +kernel
theorem dX7_found_4 : decode cX7_found 4 = .ok (.ireturn, 1) := by decide +kernel
theorem dX7_firstOf_0 : decode cX7_firstOf 0 = .ok (.iload_n 1, 1) := by decide +kernel
theorem dX7_firstOf_1 : decode cX7_firstOf 1 = .ok (.tableswitch 42 0 2 #[27, 32, 37], 27) := by decide +kernel
theorem dX7_firstOf_28 : decode cX7_firstOf 28 = .ok (.aload_n 0, 1) := by decide +kernel
theorem dX7_firstOf_29 : decode cX7_firstOf 29 = .ok (.getfield 13, 3) := by decide +kernel
theorem dX7_firstOf_32 : decode cX7_firstOf 32 = .ok (.ireturn, 1) := by decide +kernel
theorem dX7_firstOf_33 : decode cX7_firstOf 33 = .ok (.aload_n 0, 1) := by decide +kernel
theorem dX7_firstOf_34 : decode cX7_firstOf 34 = .ok (.getfield 16, 3) := by decide +kernel
theorem dX7_firstOf_37 : decode cX7_firstOf 37 = .ok (.ireturn, 1) := by decide +kernel
theorem dX7_firstOf_38 : decode cX7_firstOf 38 = .ok (.aload_n 0, 1) := by decide +kernel
theorem dX7_firstOf_39 : decode cX7_firstOf 39 = .ok (.getfield 19, 3) := by decide +kernel
theorem dX7_firstOf_42 : decode cX7_firstOf 42 = .ok (.ireturn, 1) := by decide +kernel
theorem dX7_firstOf_43 : decode cX7_firstOf 43 = .ok (.aload_n 0, 1) := by decide +kernel
theorem dX7_firstOf_44 : decode cX7_firstOf 44 = .ok (.getfield 22, 3) := by decide +kernel
theorem dX7_firstOf_47 : decode cX7_firstOf 47 = .ok (.ireturn, 1) := by decide +kernel
set_option maxRecDepth 20000 in
theorem ggX7_search_X3_count : GoodIn wsX7_search wsX3_count := goodIn_r _ [11, 12, 81, 82, 83, 84] (by decide +kernel) (by decide +kernel)
set_option maxRecDepth 20000 in
theorem gX7_search_X3_count : GoodIn wsX7_search (wsV RX7 25 RX3 yX3_count wsX3_count) := goodIn_app (goodIn_of _ (by decide +kernel)) ggX7_search_X3_count
set_option maxRecDepth 20000 in
theorem ggX7_search_X3_risesAheadOf : GoodIn wsX7_search wsX3_risesAheadOf := goodIn_r _ [16, 12, 17, 18, 19, 10, 20, 21, 22, 23, 24, 25, 26, 27, 28, 29, 30, 31, 32, 33, 34, 35, 36, 37, 38, 39, 40, 41, 42, 43, 44, 45, 46, 47, 48, 49, 50, 51, 52, 53, 54, 81, 82, 83, 84] (by decide +kernel) (by decide +kernel)
set_option maxRecDepth 20000 in
theorem gX7_search_X3_risesAheadOf : GoodIn wsX7_search (wsV RX7 31 RX3 yX3_risesAheadOf wsX3_risesAheadOf) := goodIn_app (goodIn_of _ (by decide +kernel)) ggX7_search_X3_risesAheadOf
set_option maxRecDepth 20000 in
theorem ggX7_search_X3_get : GoodIn wsX7_search wsX3_get := goodIn_r _ [28, 29, 81, 82, 83, 84] (by decide +kernel) (by decide +kernel)
set_option maxRecDepth 20000 in
theorem gX7_search_X3_get : GoodIn wsX7_search (wsV RX7 38 RX3 yX3_get wsX3_get) := goodIn_app (goodIn_of _ (by decide +kernel)) ggX7_search_X3_get
set_option maxRecDepth 20000 in
theorem ggX7_search_X3_riseOf : GoodIn wsX7_search wsX3_riseOf := goodIn_r _ [20, 21, 22, 23, 10, 24, 25, 26, 27, 28, 29, 30, 31, 32, 33, 34, 35, 36, 37, 38, 39, 40, 41, 42, 43, 44, 45, 46, 47, 48, 49, 50, 51, 52, 53, 54, 81, 82, 83, 84] (by decide +kernel) (by decide +kernel)
set_option maxRecDepth 20000 in
theorem gX7_search_X3_riseOf : GoodIn wsX7_search (wsV RX7 48 RX3 yX3_riseOf wsX3_riseOf) := goodIn_app (goodIn_of _ (by decide +kernel)) ggX7_search_X3_riseOf
set_option maxRecDepth 20000 in
theorem ggX7_search_X7_slipsOf : GoodIn wsX7_search wsX7_slipsOf := goodIn_r _ [61, 62, 63, 64, 60, 65, 6, 4, 3, 5, 2, 1, 66, 67, 68, 69, 70, 31, 32, 10, 33, 25, 26, 27, 28, 29, 34, 35, 36, 37, 38, 39, 40, 41, 42, 43, 44, 45, 46, 47, 48, 49, 50, 51, 52, 53, 54, 71, 72, 73, 74, 75, 76, 77, 78, 79, 80, 81, 82, 83, 84] (by decide +kernel) (by decide +kernel)
set_option maxRecDepth 20000 in
theorem gX7_search_X7_slipsOf : GoodIn wsX7_search (wsV RX7 57 RX7 yX7_slipsOf wsX7_slipsOf) := goodIn_app (goodIn_of _ (by decide +kernel)) ggX7_search_X7_slipsOf
set_option maxRecDepth 20000 in
theorem ggX7_search_X7_consider : GoodIn wsX7_search wsX7_consider := goodIn_r _ [65, 6, 4, 3, 5, 2, 1, 66, 67, 68, 69, 70, 31, 32, 10, 33, 25, 26, 27, 28, 29, 34, 35, 36, 37, 38, 39, 40, 41, 42, 43, 44, 45, 46, 47, 48, 49, 50, 51, 52, 53, 54, 71, 72, 73, 74, 75, 76, 77, 78, 79, 80, 81, 82, 83, 84] (by decide +kernel) (by decide +kernel)
set_option maxRecDepth 20000 in
theorem gX7_search_X7_consider : GoodIn wsX7_search (wsV RX7 61 RX7 yX7_consider wsX7_consider) := goodIn_app (goodIn_of _ (by decide +kernel)) ggX7_search_X7_consider
theorem dX7_search_0 : decode cX7_search 0 = .ok (.aload_n 0, 1) := by decide +kernel
theorem dX7_search_1 : decode cX7_search 1 = .ok (.iconst 0, 1) := by decide +kernel
theorem dX7_search_2 : decode cX7_search 2 = .ok (.putfield 7, 3) := by decide +kernel
theorem dX7_search_5 : decode cX7_search 5 = .ok (.aload_n 1, 1) := by decide +kernel
theorem dX7_search_6 : decode cX7_search 6 = .ok (.aload_n 1, 1) := by decide +kernel
theorem dX7_search_7 : decode cX7_search 7 = .ok (.invokevirtual 25, 3) := by decide +kernel
theorem dX7_search_10 : decode cX7_search 10 = .ok (.invokevirtual 31, 3) := by decide +kernel
theorem dX7_search_13 : decode cX7_search 13 = .ok (.istore_n 2, 1) := by decide +kernel
theorem dX7_search_14 : decode cX7_search 14 = .ok (.iconst 0, 1) := by decide +kernel
theorem dX7_search_15 : decode cX7_search 15 = .ok (.istore_n 3, 1) := by decide +kernel
theorem dX7_search_16 : decode cX7_search 16 = .ok (.iload_n 3, 1) := by decide +kernel
theorem dX7_search_17 : decode cX7_search 17 = .ok (.aload_n 1, 1) := by decide +kernel
theorem dX7_search_18 : decode cX7_search 18 = .ok (.invokevirtual 25, 3) := by decide +kernel
theorem dX7_search_21 : decode cX7_search 21 = .ok (.if_icmp .ge 83, 3) := by decide +kernel
theorem dX7_search_24 : decode cX7_search 24 = .ok (.aload_n 0, 1) := by decide +kernel
theorem dX7_search_25 : decode cX7_search 25 = .ok (.iload_n 3, 1) := by decide +kernel
theorem dX7_search_26 : decode cX7_search 26 = .ok (.putfield 35, 3) := by decide +kernel
theorem dX7_search_29 : decode cX7_search 29 = .ok (.aload_n 0, 1) := by decide +kernel
theorem dX7_search_30 : decode cX7_search 30 = .ok (.aload_n 1, 1) := by decide +kernel
theorem dX7_search_31 : decode cX7_search 31 = .ok (.iload_n 3, 1) := by decide +kernel
theorem dX7_search_32 : decode cX7_search 32 = .ok (.iconst 2, 1) := by decide +kernel
theorem dX7_search_33 : decode cX7_search 33 = .ok (.invokevirtual 38, 3) := by decide +kernel
theorem dX7_search_36 : decode cX7_search 36 = .ok (.putfield 42, 3) := by decide +kernel
theorem dX7_search_39 : decode cX7_search 39 = .ok (.aload_n 0, 1) := by decide +kernel
theorem dX7_search_40 : decode cX7_search 40 = .ok (.aload_n 1, 1) := by decide +kernel
theorem dX7_search_41 : decode cX7_search 41 = .ok (.iload_n 3, 1) := by decide +kernel
theorem dX7_search_42 : decode cX7_search 42 = .ok (.iconst 3, 1) := by decide +kernel
theorem dX7_search_43 : decode cX7_search 43 = .ok (.invokevirtual 38, 3) := by decide +kernel
theorem dX7_search_46 : decode cX7_search 46 = .ok (.putfield 45, 3) := by decide +kernel
theorem dX7_search_49 : decode cX7_search 49 = .ok (.aload_n 0, 1) := by decide +kernel
theorem dX7_search_50 : decode cX7_search 50 = .ok (.iload_n 2, 1) := by decide +kernel
theorem dX7_search_51 : decode cX7_search 51 = .ok (.aload_n 1, 1) := by decide +kernel
theorem dX7_search_52 : decode cX7_search 52 = .ok (.iload_n 3, 1) := by decide +kernel
theorem dX7_search_53 : decode cX7_search 53 = .ok (.invokevirtual 48, 3) := by decide +kernel
theorem dX7_search_56 : decode cX7_search 56 = .ok (.isub, 1) := by decide +kernel
theorem dX7_search_57 : decode cX7_search 57 = .ok (.putfield 51, 3) := by decide +kernel
theorem dX7_search_60 : decode cX7_search 60 = .ok (.aload_n 0, 1) := by decide +kernel
theorem dX7_search_61 : decode cX7_search 61 = .ok (.iconst 0, 1) := by decide +kernel
theorem dX7_search_62 : decode cX7_search 62 = .ok (.putfield 54, 3) := by decide +kernel
theorem dX7_search_65 : decode cX7_search 65 = .ok (.aload_n 0, 1) := by decide +kernel
theorem dX7_search_66 : decode cX7_search 66 = .ok (.aload_n 1, 1) := by decide +kernel
theorem dX7_search_67 : decode cX7_search 67 = .ok (.aload_n 0, 1) := by decide +kernel
theorem dX7_search_68 : decode cX7_search 68 = .ok (.getfield 42, 3) := by decide +kernel
theorem dX7_search_71 : decode cX7_search 71 = .ok (.invokevirtual 57, 3) := by decide +kernel
theorem dX7_search_74 : decode cX7_search 74 = .ok (.aload_n 0, 1) := by decide +kernel
theorem dX7_search_75 : decode cX7_search 75 = .ok (.aload_n 1, 1) := by decide +kernel
theorem dX7_search_76 : decode cX7_search 76 = .ok (.iconst 5, 1) := by decide +kernel
theorem dX7_search_77 : decode cX7_search 77 = .ok (.aload_n 0, 1) := by decide +kernel
theorem dX7_search_78 : decode cX7_search 78 = .ok (.getfield 45, 3) := by decide +kernel
theorem dX7_search_81 : decode cX7_search 81 = .ok (.invokevirtual 61, 3) := by decide +kernel
theorem dX7_search_84 : decode cX7_search 84 = .ok (.aload_n 0, 1) := by decide +kernel
theorem dX7_search_85 : decode cX7_search 85 = .ok (.iconst 1, 1) := by decide +kernel
theorem dX7_search_86 : decode cX7_search 86 = .ok (.putfield 54, 3) := by decide +kernel
theorem dX7_search_89 : decode cX7_search 89 = .ok (.aload_n 0, 1) := by decide +kernel
theorem dX7_search_90 : decode cX7_search 90 = .ok (.aload_n 1, 1) := by decide +kernel
theorem dX7_search_91 : decode cX7_search 91 = .ok (.aload_n 0, 1) := by decide +kernel
theorem dX7_search_92 : decode cX7_search 92 = .ok (.getfield 45, 3) := by decide +kernel
theorem dX7_search_95 : decode cX7_search 95 = .ok (.invokevirtual 57, 3) := by decide +kernel
theorem dX7_search_98 : decode cX7_search 98 = .ok (.iinc 3 1, 3) := by decide +kernel
theorem dX7_search_101 : decode cX7_search 101 = .ok (.goto (-85), 3) := by decide +kernel
theorem dX7_search_104 : decode cX7_search 104 = .ok (.return_, 1) := by decide +kernel
set_option maxRecDepth 20000 in
theorem ggX7_slipsOf_X7_consider : GoodIn wsX7_slipsOf wsX7_consider := goodIn_r _ [5, 6, 7, 8, 9, 10, 11, 12, 13, 14, 15, 16, 17, 18, 19, 20, 21, 22, 23, 24, 25, 26, 27, 28, 29, 30, 31, 32, 33, 34, 35, 36, 37, 38, 39, 40, 41, 42, 43, 44, 45, 46, 47, 48, 49, 50, 51, 52, 53, 54, 55, 56, 57, 58, 59, 60] (by decide +kernel) (by decide +kernel)
set_option maxRecDepth 20000 in
theorem gX7_slipsOf_X7_consider : GoodIn wsX7_slipsOf (wsV RX7 61 RX7 yX7_consider wsX7_consider) := goodIn_app (goodIn_of _ (by decide +kernel)) ggX7_slipsOf_X7_consider
theorem dX7_slipsOf_0 : decode cX7_slipsOf 0 = .ok (.sipush 1000, 3) := by decide +kernel
theorem dX7_slipsOf_3 : decode cX7_slipsOf 3 = .ok (.istore_n 3, 1) := by decide +kernel
theorem dX7_slipsOf_4 : decode cX7_slipsOf 4 = .ok (.iload_n 3, 1) := by decide +kernel
theorem dX7_slipsOf_5 : decode cX7_slipsOf 5 = .ok (.iconst 1, 1) := by decide +kernel
theorem dX7_slipsOf_6 : decode cX7_slipsOf 6 = .ok (.if_icmp .lt 33, 3) := by decide +kernel
theorem dX7_slipsOf_9 : decode cX7_slipsOf 9 = .ok (.iload_n 2, 1) := by decide +kernel
theorem dX7_slipsOf_10 : decode cX7_slipsOf 10 = .ok (.iload_n 3, 1) := by decide +kernel
theorem dX7_slipsOf_11 : decode cX7_slipsOf 11 = .ok (.idiv, 1) := by decide +kernel
theorem dX7_slipsOf_12 : decode cX7_slipsOf 12 = .ok (.bipush 10, 2) := by decide +kernel
theorem dX7_slipsOf_14 : decode cX7_slipsOf 14 = .ok (.irem, 1) := by decide +kernel
theorem dX7_slipsOf_15 : decode cX7_slipsOf 15 = .ok (.bipush 6, 2) := by decide +kernel
theorem dX7_slipsOf_17 : decode cX7_slipsOf 17 = .ok (.if_icmp .ne 14, 3) := by decide +kernel
theorem dX7_slipsOf_20 : decode cX7_slipsOf 20 = .ok (.aload_n 0, 1) := by decide +kernel
theorem dX7_slipsOf_21 : decode cX7_slipsOf 21 = .ok (.aload_n 1, 1) := by decide +kernel
theorem dX7_slipsOf_22 : decode cX7_slipsOf 22 = .ok (.iconst 0, 1) := by decide +kernel
theorem dX7_slipsOf_23 : decode cX7_slipsOf 23 = .ok (.iload_n 2, 1) := by decide +kernel
theorem dX7_slipsOf_24 : decode cX7_slipsOf 24 = .ok (.iconst 3, 1) := by decide +kernel
theorem dX7_slipsOf_25 : decode cX7_slipsOf 25 = .ok (.iload_n 3, 1) := by decide +kernel
theorem dX7_slipsOf_26 : decode cX7_slipsOf 26 = .ok (.imul, 1) := by decide +kernel
theorem dX7_slipsOf_27 : decode cX7_slipsOf 27 = .ok (.iadd, 1) := by decide +kernel
theorem dX7_slipsOf_28 : decode cX7_slipsOf 28 = .ok (.invokevirtual 61, 3) := by decide +kernel
theorem dX7_slipsOf_31 : decode cX7_slipsOf 31 = .ok (.iload_n 3, 1) := by decide +kernel
theorem dX7_slipsOf_32 : decode cX7_slipsOf 32 = .ok (.bipush 10, 2) := by decide +kernel
theorem dX7_slipsOf_34 : decode cX7_slipsOf 34 = .ok (.idiv, 1) := by decide +kernel
theorem dX7_slipsOf_35 : decode cX7_slipsOf 35 = .ok (.istore_n 3, 1) := by decide +kernel
theorem dX7_slipsOf_36 : decode cX7_slipsOf 36 = .ok (.goto (-32), 3) := by decide +kernel
theorem dX7_slipsOf_39 : decode cX7_slipsOf 39 = .ok (.sipush 1000, 3) := by decide +kernel
theorem dX7_slipsOf_42 : decode cX7_slipsOf 42 = .ok (.istore_n 3, 1) := by decide +kernel
theorem dX7_slipsOf_43 : decode cX7_slipsOf 43 = .ok (.iload_n 3, 1) := by decide +kernel
theorem dX7_slipsOf_44 : decode cX7_slipsOf 44 = .ok (.iconst 1, 1) := by decide +kernel
theorem dX7_slipsOf_45 : decode cX7_slipsOf 45 = .ok (.if_icmp .lt 33, 3) := by decide +kernel
theorem dX7_slipsOf_48 : decode cX7_slipsOf 48 = .ok (.iload_n 2, 1) := by decide +kernel
theorem dX7_slipsOf_49 : decode cX7_slipsOf 49 = .ok (.iload_n 3, 1) := by decide +kernel
theorem dX7_slipsOf_50 : decode cX7_slipsOf 50 = .ok (.idiv, 1) := by decide +kernel
theorem dX7_slipsOf_51 : decode cX7_slipsOf 51 = .ok (.bipush 10, 2) := by decide +kernel
theorem dX7_slipsOf_53 : decode cX7_slipsOf 53 = .ok (.irem, 1) := by decide +kernel
theorem dX7_slipsOf_54 : decode cX7_slipsOf 54 = .ok (.bipush 9, 2) := by decide +kernel
theorem dX7_slipsOf_56 : decode cX7_slipsOf 56 = .ok (.if_icmp .ne 14, 3) := by decide +kernel
theorem dX7_slipsOf_59 : decode cX7_slipsOf 59 = .ok (.aload_n 0, 1) := by decide +kernel
theorem dX7_slipsOf_60 : decode cX7_slipsOf 60 = .ok (.aload_n 1, 1) := by decide +kernel
theorem dX7_slipsOf_61 : decode cX7_slipsOf 61 = .ok (.iconst 1, 1) := by decide +kernel
theorem dX7_slipsOf_62 : decode cX7_slipsOf 62 = .ok (.iload_n 2, 1) := by decide +kernel
theorem dX7_slipsOf_63 : decode cX7_slipsOf 63 = .ok (.iconst 3, 1) := by decide +kernel
theorem dX7_slipsOf_64 : decode cX7_slipsOf 64 = .ok (.iload_n 3, 1) := by decide +kernel
theorem dX7_slipsOf_65 : decode cX7_slipsOf 65 = .ok (.imul, 1) := by decide +kernel
theorem dX7_slipsOf_66 : decode cX7_slipsOf 66 = .ok (.isub, 1) := by decide +kernel
theorem dX7_slipsOf_67 : decode cX7_slipsOf 67 = .ok (.invokevirtual 61, 3) := by decide +kernel
theorem dX7_slipsOf_70 : decode cX7_slipsOf 70 = .ok (.iload_n 3, 1) := by decide +kernel
theorem dX7_slipsOf_71 : decode cX7_slipsOf 71 = .ok (.bipush 10, 2) := by decide +kernel
theorem dX7_slipsOf_73 : decode cX7_slipsOf 73 = .ok (.idiv, 1) := by decide +kernel
theorem dX7_slipsOf_74 : decode cX7_slipsOf 74 = .ok (.istore_n 3, 1) := by decide +kernel
theorem dX7_slipsOf_75 : decode cX7_slipsOf 75 = .ok (.goto (-32), 3) := by decide +kernel
theorem dX7_slipsOf_78 : decode cX7_slipsOf 78 = .ok (.bipush 100, 2) := by decide +kernel
theorem dX7_slipsOf_80 : decode cX7_slipsOf 80 = .ok (.istore_n 3, 1) := by decide +kernel
theorem dX7_slipsOf_81 : decode cX7_slipsOf 81 = .ok (.iload_n 3, 1) := by decide +kernel
theorem dX7_slipsOf_82 : decode cX7_slipsOf 82 = .ok (.iconst 1, 1) := by decide +kernel
theorem dX7_slipsOf_83 : decode cX7_slipsOf 83 = .ok (.if_icmp .lt 55, 3) := by decide +kernel
theorem dX7_slipsOf_86 : decode cX7_slipsOf 86 = .ok (.iload_n 2, 1) := by decide +kernel
theorem dX7_slipsOf_87 : decode cX7_slipsOf 87 = .ok (.iload_n 3, 1) := by decide +kernel
theorem dX7_slipsOf_88 : decode cX7_slipsOf 88 = .ok (.idiv, 1) := by decide +kernel
theorem dX7_slipsOf_89 : decode cX7_slipsOf 89 = .ok (.bipush 10, 2) := by decide +kernel
theorem dX7_slipsOf_91 : decode cX7_slipsOf 91 = .ok (.idiv, 1) := by decide +kernel
theorem dX7_slipsOf_92 : decode cX7_slipsOf 92 = .ok (.bipush 10, 2) := by decide +kernel
theorem dX7_slipsOf_94 : decode cX7_slipsOf 94 = .ok (.irem, 1) := by decide +kernel
theorem dX7_slipsOf_95 : decode cX7_slipsOf 95 = .ok (.istore 4, 2) := by decide +kernel
theorem dX7_slipsOf_97 : decode cX7_slipsOf 97 = .ok (.iload_n 2, 1) := by decide +kernel
theorem dX7_slipsOf_98 : decode cX7_slipsOf 98 = .ok (.iload_n 3, 1) := by decide +kernel
theorem dX7_slipsOf_99 : decode cX7_slipsOf 99 = .ok (.idiv, 1) := by decide +kernel
theorem dX7_slipsOf_100 : decode cX7_slipsOf 100 = .ok (.bipush 10, 2) := by decide +kernel
theorem dX7_slipsOf_102 : decode cX7_slipsOf 102 = .ok (.irem, 1) := by decide +kernel
theorem dX7_slipsOf_103 : decode cX7_slipsOf 103 = .ok (.istore 5, 2) := by decide +kernel
theorem dX7_slipsOf_105 : decode cX7_slipsOf 105 = .ok (.iload 4, 2) := by decide +kernel
theorem dX7_slipsOf_107 : decode cX7_slipsOf 107 = .ok (.iload 5, 2) := by decide +kernel
theorem dX7_slipsOf_109 : decode cX7_slipsOf 109 = .ok (.if_icmp .eq 21, 3) := by decide +kernel
theorem dX7_slipsOf_112 : decode cX7_slipsOf 112 = .ok (.aload_n 0, 1) := by decide +kernel
theorem dX7_slipsOf_113 : decode cX7_slipsOf 113 = .ok (.aload_n 1, 1) := by decide +kernel
theorem dX7_slipsOf_114 : decode cX7_slipsOf 114 = .ok (.iconst 2, 1) := by decide +kernel
theorem dX7_slipsOf_115 : decode cX7_slipsOf 115 = .ok (.iload_n 2, 1) := by decide +kernel
theorem dX7_slipsOf_116 : decode cX7_slipsOf 116 = .ok (.iload 5, 2) := by decide +kernel
theorem dX7_slipsOf_118 : decode cX7_slipsOf 118 = .ok (.iload 4, 2) := by decide +kernel
theorem dX7_slipsOf_120 : decode cX7_slipsOf 120 = .ok (.isub, 1) := by decide +kernel
theorem dX7_slipsOf_121 : decode cX7_slipsOf 121 = .ok (.bipush 9, 2) := by decide +kernel
theorem dX7_slipsOf_123 : decode cX7_slipsOf 123 = .ok (.imul, 1) := by decide +kernel
theorem dX7_slipsOf_124 : decode cX7_slipsOf 124 = .ok (.iload_n 3, 1) := by decide +kernel
theorem dX7_slipsOf_125 : decode cX7_slipsOf 125 = .ok (.imul, 1) := by decide +kernel
theorem dX7_slipsOf_126 : decode cX7_slipsOf 126 = .ok (.iadd, 1) := by decide +kernel
theorem dX7_slipsOf_127 : decode cX7_slipsOf 127 = .ok (.invokevirtual 61, 3) := by decide +kernel
theorem dX7_slipsOf_130 : decode cX7_slipsOf 130 = .ok (.iload_n 3, 1) := by decide +kernel
theorem dX7_slipsOf_131 : decode cX7_slipsOf 131 = .ok (.bipush 10, 2) := by decide +kernel
theorem dX7_slipsOf_133 : decode cX7_slipsOf 133 = .ok (.idiv, 1) := by decide +kernel
theorem dX7_slipsOf_134 : decode cX7_slipsOf 134 = .ok (.istore_n 3, 1) := by decide +kernel
theorem dX7_slipsOf_135 : decode cX7_slipsOf 135 = .ok (.goto (-54), 3) := by decide +kernel
theorem dX7_slipsOf_138 : decode cX7_slipsOf 138 = .ok (.aload_n 0, 1) := by decide +kernel
theorem dX7_slipsOf_139 : decode cX7_slipsOf 139 = .ok (.aload_n 1, 1) := by decide +kernel
theorem dX7_slipsOf_140 : decode cX7_slipsOf 140 = .ok (.iconst 3, 1) := by decide +kernel
theorem dX7_slipsOf_141 : decode cX7_slipsOf 141 = .ok (.iload_n 2, 1) := by decide +kernel
theorem dX7_slipsOf_142 : decode cX7_slipsOf 142 = .ok (.bipush 100, 2) := by decide +kernel
theorem dX7_slipsOf_144 : decode cX7_slipsOf 144 = .ok (.isub, 1) := by decide +kernel
theorem dX7_slipsOf_145 : decode cX7_slipsOf 145 = .ok (.invokevirtual 61, 3) := by decide +kernel
theorem dX7_slipsOf_148 : decode cX7_slipsOf 148 = .ok (.aload_n 0, 1) := by decide +kernel
theorem dX7_slipsOf_149 : decode cX7_slipsOf 149 = .ok (.aload_n 1, 1) := by decide +kernel
theorem dX7_slipsOf_150 : decode cX7_slipsOf 150 = .ok (.iconst 4, 1) := by decide +kernel
theorem dX7_slipsOf_151 : decode cX7_slipsOf 151 = .ok (.iload_n 2, 1) := by decide +kernel
theorem dX7_slipsOf_152 : decode cX7_slipsOf 152 = .ok (.bipush 100, 2) := by decide +kernel
theorem dX7_slipsOf_154 : decode cX7_slipsOf 154 = .ok (.iadd, 1) := by decide +kernel
theorem dX7_slipsOf_155 : decode cX7_slipsOf 155 = .ok (.invokevirtual 61, 3) := by decide +kernel
theorem dX7_slipsOf_158 : decode cX7_slipsOf 158 = .ok (.return_, 1) := by decide +kernel
set_option maxRecDepth 20000 in
theorem ggX7_consider_X3_errorOf : GoodIn wsX7_consider wsX3_errorOf := goodIn_r _ [15, 16, 17, 18, 14, 19, 20, 21, 22, 23, 24, 25, 26, 27, 28, 29, 30, 31, 32, 33, 34, 35, 36, 37, 38, 39, 40, 41, 52, 53, 54, 55] (by decide +kernel) (by decide +kernel)
set_option maxRecDepth 20000 in
theorem gX7_consider_X3_errorOf : GoodIn wsX7_consider (wsV RX7 65 RX3 yX3_errorOf wsX3_errorOf) := goodIn_app (goodIn_of _ (by decide +kernel)) ggX7_consider_X3_errorOf
theorem dX7_consider_0 : decode cX7_consider 0 = .ok (.iload_n 3, 1) := by decide +kernel
theorem dX7_consider_1 : decode cX7_consider 1 = .ok (.ifCond .lt 10, 3) := by decide +kernel
theorem dX7_consider_4 : decode cX7_consider 4 = .ok (.iload_n 3, 1) := by decide +kernel
theorem dX7_consider_5 : decode cX7_consider 5 = .ok (.sipush 9999, 3) := by decide +kernel
theorem dX7_consider_8 : decode cX7_consider 8 = .ok (.if_icmp .le 4, 3) := by decide +kernel
theorem dX7_consider_11 : decode cX7_consider 11 = .ok (.return_, 1) := by decide +kernel
theorem dX7_consider_12 : decode cX7_consider 12 = .ok (.aload_n 0, 1) := by decide +kernel
theorem dX7_consider_13 : decode cX7_consider 13 = .ok (.getfield 54, 3) := by decide +kernel
theorem dX7_consider_16 : decode cX7_consider 16 = .ok (.ifCond .ne 12, 3) := by decide +kernel
theorem dX7_consider_19 : decode cX7_consider 19 = .ok (.iload_n 3, 1) := by decide +kernel
theorem dX7_consider_20 : decode cX7_consider 20 = .ok (.aload_n 0, 1) := by decide +kernel
theorem dX7_consider_21 : decode cX7_consider 21 = .ok (.getfield 45, 3) := by decide +kernel
theorem dX7_consider_24 : decode cX7_consider 24 = .ok (.isub, 1) := by decide +kernel
theorem dX7_consider_25 : decode cX7_consider 25 = .ok (.goto 9, 3) := by decide +kernel
theorem dX7_consider_28 : decode cX7_consider 28 = .ok (.aload_n 0, 1) := by decide +kernel
theorem dX7_consider_29 : decode cX7_consider 29 = .ok (.getfield 42, 3) := by decide +kernel
theorem dX7_consider_32 : decode cX7_consider 32 = .ok (.iload_n 3, 1) := by decide +kernel
theorem dX7_consider_33 : decode cX7_consider 33 = .ok (.isub, 1) := by decide +kernel
theorem dX7_consider_34 : decode cX7_consider 34 = .ok (.istore 4, 2) := by decide +kernel
theorem dX7_consider_36 : decode cX7_consider 36 = .ok (.iload_n 2, 1) := by decide +kernel
theorem dX7_consider_37 : decode cX7_consider 37 = .ok (.iconst 5, 1) := by decide +kernel
theorem dX7_consider_38 : decode cX7_consider 38 = .ok (.if_icmp .ne 14, 3) := by decide +kernel
theorem dX7_consider_41 : decode cX7_consider 41 = .ok (.aload_n 0, 1) := by decide +kernel
theorem dX7_consider_42 : decode cX7_consider 42 = .ok (.getfield 45, 3) := by decide +kernel
theorem dX7_consider_45 : decode cX7_consider 45 = .ok (.aload_n 0, 1) := by decide +kernel
theorem dX7_consider_46 : decode cX7_consider 46 = .ok (.getfield 42, 3) := by decide +kernel
theorem dX7_consider_49 : decode cX7_consider 49 = .ok (.isub, 1) := by decide +kernel
theorem dX7_consider_50 : decode cX7_consider 50 = .ok (.istore 4, 2) := by decide +kernel
theorem dX7_consider_52 : decode cX7_consider 52 = .ok (.aload_n 0, 1) := by decide +kernel
theorem dX7_consider_53 : decode cX7_consider 53 = .ok (.getfield 51, 3) := by decide +kernel
theorem dX7_consider_56 : decode cX7_consider 56 = .ok (.iload 4, 2) := by decide +kernel
theorem dX7_consider_58 : decode cX7_consider 58 = .ok (.iadd, 1) := by decide +kernel
theorem dX7_consider_59 : decode cX7_consider 59 = .ok (.aload_n 1, 1) := by decide +kernel
theorem dX7_consider_60 : decode cX7_consider 60 = .ok (.aload_n 0, 1) := by decide +kernel
theorem dX7_consider_61 : decode cX7_consider 61 = .ok (.getfield 35, 3) := by decide +kernel
theorem dX7_consider_64 : decode cX7_consider 64 = .ok (.iload 4, 2) := by decide +kernel
theorem dX7_consider_66 : decode cX7_consider 66 = .ok (.invokevirtual 65, 3) := by decide +kernel
theorem dX7_consider_69 : decode cX7_consider 69 = .ok (.isub, 1) := by decide +kernel
theorem dX7_consider_70 : decode cX7_consider 70 = .ok (.ifCond .eq 4, 3) := by decide +kernel
theorem dX7_consider_73 : decode cX7_consider 73 = .ok (.return_, 1) := by decide +kernel
theorem dX7_consider_74 : decode cX7_consider 74 = .ok (.aload_n 0, 1) := by decide +kernel
theorem dX7_consider_75 : decode cX7_consider 75 = .ok (.getfield 7, 3) := by decide +kernel
theorem dX7_consider_78 : decode cX7_consider 78 = .ok (.ifCond .ne 29, 3) := by decide +kernel
theorem dX7_consider_81 : decode cX7_consider 81 = .ok (.aload_n 0, 1) := by decide +kernel
theorem dX7_consider_82 : decode cX7_consider 82 = .ok (.aload_n 0, 1) := by decide +kernel
theorem dX7_consider_83 : decode cX7_consider 83 = .ok (.getfield 35, 3) := by decide +kernel
theorem dX7_consider_86 : decode cX7_consider 86 = .ok (.putfield 13, 3) := by decide +kernel
theorem dX7_consider_89 : decode cX7_consider 89 = .ok (.aload_n 0, 1) := by decide +kernel
theorem dX7_consider_90 : decode cX7_consider 90 = .ok (.aload_n 0, 1) := by decide +kernel
theorem dX7_consider_91 : decode cX7_consider 91 = .ok (.getfield 54, 3) := by decide +kernel
theorem dX7_consider_94 : decode cX7_consider 94 = .ok (.putfield 16, 3) := by decide +kernel
theorem dX7_consider_97 : decode cX7_consider 97 = .ok (.aload_n 0, 1) := by decide +kernel
theorem dX7_consider_98 : decode cX7_consider 98 = .ok (.iload_n 2, 1) := by decide +kernel
theorem dX7_consider_99 : decode cX7_consider 99 = .ok (.putfield 19, 3) := by decide +kernel
theorem dX7_consider_102 : decode cX7_consider 102 = .ok (.aload_n 0, 1) := by decide +kernel
theorem dX7_consider_103 : decode cX7_consider 103 = .ok (.iload_n 3, 1) := by decide +kernel
theorem dX7_consider_104 : decode cX7_consider 104 = .ok (.putfield 22, 3) := by decide +kernel
theorem dX7_consider_107 : decode cX7_consider 107 = .ok (.aload_n 0, 1) := by decide +kernel
theorem dX7_consider_108 : decode cX7_consider 108 = .ok (.dup, 1) := by decide +kernel
theorem dX7_consider_109 : decode cX7_consider 109 = .ok (.getfield 7, 3) := by decide +kernel
theorem dX7_consider_112 : decode cX7_consider 112 = .ok (.iconst 1, 1) := by decide +kernel
theorem dX7_consider_113 : decode cX7_consider 113 = .ok (.iadd, 1) := by decide +kernel
theorem dX7_consider_114 : decode cX7_consider 114 = .ok (.putfield 7, 3) := by decide +kernel
theorem dX7_consider_117 : decode cX7_consider 117 = .ok (.return_, 1) := by decide +kernel
