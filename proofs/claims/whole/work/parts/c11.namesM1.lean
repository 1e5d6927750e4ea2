theorem dX7_look_114 : decode cX7_look 114 = .ok (.getfield 130, 3) := by decide +kernel
theorem dX7_look_117 : decode cX7_look 117 = .ok (.imul, 1) := by decide +kernel
theorem dX7_look_118 : decode cX7_look 118 = .ok (.iload_n 3, 1) := by decide +kernel
theorem dX7_look_119 : decode cX7_look 119 = .ok (.iadd, 1) := by decide +kernel
theorem dX7_look_120 : decode cX7_look 120 = .ok (.iload_n 3, 1) := by decide +kernel
theorem dX7_look_121 : decode cX7_look 121 = .ok (.ifCond .ne 7, 3) := by decide +kernel
theorem dX7_look_124 : decode cX7_look 124 = .ok (.iconst 1, 1) := by decide +kernel
theorem dX7_look_125 : decode cX7_look 125 = .ok (.goto 4, 3) := by decide +kernel
theorem dX7_look_128 : decode cX7_look 128 = .ok (.iconst 0, 1) := by decide +kernel
theorem dX7_look_129 : decode cX7_look 129 = .ok (.bastore, 1) := by decide +kernel
theorem dX7_look_130 : decode cX7_look 130 = .ok (.iinc 3 1, 3) := by decide +kernel
theorem dX7_look_133 : decode cX7_look 133 = .ok (.goto (-124), 3) := by decide +kernel
theorem dX7_look_136 : decode cX7_look 136 = .ok (.aload_n 0, 1) := by decide +kernel
theorem dX7_look_137 : decode cX7_look 137 = .ok (.getfield 130, 3) := by decide +kernel
theorem dX7_look_140 : decode cX7_look 140 = .ok (.iconst 1, 1) := by decide +kernel
theorem dX7_look_141 : decode cX7_look 141 = .ok (.isub, 1) := by decide +kernel
theorem dX7_look_142 : decode cX7_look 142 = .ok (.istore_n 3, 1) := by decide +kernel
theorem dX7_look_143 : decode cX7_look 143 = .ok (.iload_n 3, 1) := by decide +kernel
theorem dX7_look_144 : decode cX7_look 144 = .ok (.ifCond .lt 145, 3) := by decide +kernel
theorem dX7_look_147 : decode cX7_look 147 = .ok (.iconst 0, 1) := by decide +kernel
theorem dX7_look_148 : decode cX7_look 148 = .ok (.istore 4, 2) := by decide +kernel
theorem dX7_look_150 : decode cX7_look 150 = .ok (.iload 4, 2) := by decide +kernel
theorem dX7_look_152 : decode cX7_look 152 = .ok (.iload_n 2, 1) := by decide +kernel
theorem dX7_look_153 : decode cX7_look 153 = .ok (.if_icmp .ge 130, 3) := by decide +kernel
theorem dX7_look_156 : decode cX7_look 156 = .ok (.aload_n 0, 1) := by decide +kernel
theorem dX7_look_157 : decode cX7_look 157 = .ok (.getfield 48, 3) := by decide +kernel
theorem dX7_look_160 : decode cX7_look 160 = .ok (.sipush 1024, 3) := by decide +kernel
theorem dX7_look_163 : decode cX7_look 163 = .ok (.iload_n 3, 1) := by decide +kernel
theorem dX7_look_164 : decode cX7_look 164 = .ok (.iconst 1, 1) := by decide +kernel
theorem dX7_look_165 : decode cX7_look 165 = .ok (.iadd, 1) := by decide +kernel
theorem dX7_look_166 : decode cX7_look 166 = .ok (.imul, 1) := by decide +kernel
theorem dX7_look_167 : decode cX7_look 167 = .ok (.iload 4, 2) := by decide +kernel
theorem dX7_look_169 : decode cX7_look 169 = .ok (.iadd, 1) := by decide +kernel
theorem dX7_look_170 : decode cX7_look 170 = .ok (.baload, 1) := by decide +kernel
theorem dX7_look_171 : decode cX7_look 171 = .ok (.istore 5, 2) := by decide +kernel
theorem dX7_look_173 : decode cX7_look 173 = .ok (.iload 4, 2) := by decide +kernel
theorem dX7_look_175 : decode cX7_look 175 = .ok (.istore 6, 2) := by decide +kernel
theorem dX7_look_177 : decode cX7_look 177 = .ok (.iload 6, 2) := by decide +kernel
theorem dX7_look_179 : decode cX7_look 179 = .ok (.ifCond .le 83, 3) := by decide +kernel
theorem dX7_look_182 : decode cX7_look 182 = .ok (.iload 5, 2) := by decide +kernel
theorem dX7_look_184 : decode cX7_look 184 = .ok (.ifCond .ne 78, 3) := by decide +kernel
theorem dX7_look_187 : decode cX7_look 187 = .ok (.aload_n 0, 1) := by decide +kernel
theorem dX7_look_188 : decode cX7_look 188 = .ok (.iload_n 3, 1) := by decide +kernel
theorem dX7_look_189 : decode cX7_look 189 = .ok (.iload_n 1, 1) := by decide +kernel
theorem dX7_look_190 : decode cX7_look 190 = .ok (.invokevirtual 139, 3) := by decide +kernel
theorem dX7_look_193 : decode cX7_look 193 = .ok (.ifCond .eq 69, 3) := by decide +kernel
theorem dX7_look_196 : decode cX7_look 196 = .ok (.aload_n 0, 1) := by decide +kernel
theorem dX7_look_197 : decode cX7_look 197 = .ok (.getfield 45, 3) := by decide +kernel
theorem dX7_look_200 : decode cX7_look 200 = .ok (.iload 6, 2) := by decide +kernel
theorem dX7_look_202 : decode cX7_look 202 = .ok (.baload, 1) := by decide +kernel
theorem dX7_look_203 : decode cX7_look 203 = .ok (.ifCond .eq 44, 3) := by decide +kernel
theorem dX7_look_206 : decode cX7_look 206 = .ok (.aload_n 0, 1) := by decide +kernel
theorem dX7_look_207 : decode cX7_look 207 = .ok (.getfield 42, 3) := by decide +kernel
theorem dX7_look_210 : decode cX7_look 210 = .ok (.iload 6, 2) := by decide +kernel
theorem dX7_look_212 : decode cX7_look 212 = .ok (.iaload, 1) := by decide +kernel
theorem dX7_look_213 : decode cX7_look 213 = .ok (.aload_n 0, 1) := by decide +kernel
theorem dX7_look_214 : decode cX7_look 214 = .ok (.getfield 20, 3) := by decide +kernel
theorem dX7_look_217 : decode cX7_look 217 = .ok (.iload_n 3, 1) := by decide +kernel
theorem dX7_look_218 : decode cX7_look 218 = .ok (.iaload, 1) := by decide +kernel
theorem dX7_look_219 : decode cX7_look 219 = .ok (.if_icmp .gt 28, 3) := by decide +kernel
theorem dX7_look_222 : decode cX7_look 222 = .ok (.aload_n 0, 1) := by decide +kernel
theorem dX7_look_223 : decode cX7_look 223 = .ok (.getfield 48, 3) := by decide +kernel
theorem dX7_look_226 : decode cX7_look 226 = .ok (.sipush 1024, 3) := by decide +kernel
theorem dX7_look_229 : decode cX7_look 229 = .ok (.iload_n 3, 1) := by decide +kernel
theorem dX7_look_230 : decode cX7_look 230 = .ok (.iconst 1, 1) := by decide +kernel
theorem dX7_look_231 : decode cX7_look 231 = .ok (.iadd, 1) := by decide +kernel
theorem dX7_look_232 : decode cX7_look 232 = .ok (.imul, 1) := by decide +kernel
theorem dX7_look_233 : decode cX7_look 233 = .ok (.iload 4, 2) := by decide +kernel
theorem dX7_look_235 : decode cX7_look 235 = .ok (.iload 6, 2) := by decide +kernel
theorem dX7_look_237 : decode cX7_look 237 = .ok (.ixor, 1) := by decide +kernel
theorem dX7_look_238 : decode cX7_look 238 = .ok (.iadd, 1) := by decide +kernel
theorem dX7_look_239 : decode cX7_look 239 = .ok (.baload, 1) := by decide +kernel
theorem dX7_look_240 : decode cX7_look 240 = .ok (.ifCond .eq 7, 3) := by decide +kernel
theorem dX7_look_243 : decode cX7_look 243 = .ok (.iconst 1, 1) := by decide +kernel
theorem dX7_look_244 : decode cX7_look 244 = .ok (.goto 4, 3) := by decide +kernel
theorem dX7_look_247 : decode cX7_look 247 = .ok (.iconst 0, 1) := by decide +kernel
theorem dX7_look_248 : decode cX7_look 248 = .ok (.istore 5, 2) := by decide +kernel
theorem dX7_look_250 : decode cX7_look 250 = .ok (.iload 6, 2) := by decide +kernel
theorem dX7_look_252 : decode cX7_look 252 = .ok (.iconst 1, 1) := by decide +kernel
theorem dX7_look_253 : decode cX7_look 253 = .ok (.isub, 1) := by decide +kernel
theorem dX7_look_254 : decode cX7_look 254 = .ok (.iload 4, 2) := by decide +kernel
theorem dX7_look_256 : decode cX7_look 256 = .ok (.iand, 1) := by decide +kernel
theorem dX7_look_257 : decode cX7_look 257 = .ok (.istore 6, 2) := by decide +kernel
theorem dX7_look_259 : decode cX7_look 259 = .ok (.goto (-82), 3) := by decide +kernel
theorem dX7_look_262 : decode cX7_look 262 = .ok (.aload_n 0, 1) := by decide +kernel
theorem dX7_look_263 : decode cX7_look 263 = .ok (.getfield 48, 3) := by decide +kernel
theorem dX7_look_266 : decode cX7_look 266 = .ok (.sipush 1024, 3) := by decide +kernel
theorem dX7_look_269 : decode cX7_look 269 = .ok (.iload_n 3, 1) := by decide +kernel
theorem dX7_look_270 : decode cX7_look 270 = .ok (.imul, 1) := by decide +kernel
theorem dX7_look_271 : decode cX7_look 271 = .ok (.iload 4, 2) := by decide +kernel
theorem dX7_look_273 : decode cX7_look 273 = .ok (.iadd, 1) := by decide +kernel
theorem dX7_look_274 : decode cX7_look 274 = .ok (.iload 5, 2) := by decide +kernel
theorem dX7_look_276 : decode cX7_look 276 = .ok (.bastore, 1) := by decide +kernel
theorem dX7_look_277 : decode cX7_look 277 = .ok (.iinc 4 1, 3) := by decide +kernel
theorem dX7_look_280 : decode cX7_look 280 = .ok (.goto (-130), 3) := by decide +kernel
theorem dX7_look_283 : decode cX7_look 283 = .ok (.iinc 3 (-1), 3) := by decide +kernel
theorem dX7_look_286 : decode cX7_look 286 = .ok (.goto (-143), 3) := by decide +kernel
theorem dX7_look_289 : decode cX7_look 289 = .ok (.return_, 1) := by decide +kernel
theorem dX7_setOf_0 : decode cX7_setOf 0 = .ok (.iconst 0, 1) := by decide +kernel
theorem dX7_setOf_1 : decode cX7_setOf 1 = .ok (.istore_n 2, 1) := by decide +kernel
theorem dX7_setOf_2 : decode cX7_setOf 2 = .ok (.iconst 0, 1) := by decide +kernel
theorem dX7_setOf_3 : decode cX7_setOf 3 = .ok (.istore_n 3, 1) := by decide +kernel
theorem dX7_setOf_4 : decode cX7_setOf 4 = .ok (.iload_n 3, 1) := by decide +kernel
theorem dX7_setOf_5 : decode cX7_setOf 5 = .ok (.aload_n 0, 1) := by decide +kernel
theorem dX7_setOf_6 : decode cX7_setOf 6 = .ok (.getfield 133, 3) := by decide +kernel
theorem dX7_setOf_9 : decode cX7_setOf 9 = .ok (.if_icmp .ge 35, 3) := by decide +kernel
theorem dX7_setOf_12 : decode cX7_setOf 12 = .ok (.aload_n 0, 1) := by decide +kernel
theorem dX7_setOf_13 : decode cX7_setOf 13 = .ok (.getfield 33, 3) := by decide +kernel
theorem dX7_setOf_16 : decode cX7_setOf 16 = .ok (.iload_n 3, 1) := by decide +kernel
theorem dX7_setOf_17 : decode cX7_setOf 17 = .ok (.iaload, 1) := by decide +kernel
theorem dX7_setOf_18 : decode cX7_setOf 18 = .ok (.iload_n 1, 1) := by decide +kernel
theorem dX7_setOf_19 : decode cX7_setOf 19 = .ok (.if_icmp .gt 19, 3) := by decide +kernel
theorem dX7_setOf_22 : decode cX7_setOf 22 = .ok (.iload_n 1, 1) := by decide +kernel
theorem dX7_setOf_23 : decode cX7_setOf 23 = .ok (.aload_n 0, 1) := by decide +kernel
theorem dX7_setOf_24 : decode cX7_setOf 24 = .ok (.getfield 36, 3) := by decide +kernel
theorem dX7_setOf_27 : decode cX7_setOf 27 = .ok (.iload_n 3, 1) := by decide +kernel
theorem dX7_setOf_28 : decode cX7_setOf 28 = .ok (.iaload, 1) := by decide +kernel
theorem dX7_setOf_29 : decode cX7_setOf 29 = .ok (.if_icmp .gt 9, 3) := by decide +kernel
theorem dX7_setOf_32 : decode cX7_setOf 32 = .ok (.iload_n 2, 1) := by decide +kernel
theorem dX7_setOf_33 : decode cX7_setOf 33 = .ok (.iconst 1, 1) := by decide +kernel
theorem dX7_setOf_34 : decode cX7_setOf 34 = .ok (.iload_n 3, 1) := by decide +kernel
theorem dX7_setOf_35 : decode cX7_setOf 35 = .ok (.ishl, 1) := by decide +kernel
theorem dX7_setOf_36 : decode cX7_setOf 36 = .ok (.ior, 1) := by decide +kernel
theorem dX7_setOf_37 : decode cX7_setOf 37 = .ok (.istore_n 2, 1) := by decide +kernel
theorem dX7_setOf_38 : decode cX7_setOf 38 = .ok (.iinc 3 1, 3) := by decide +kernel
theorem dX7_setOf_41 : decode cX7_setOf 41 = .ok (.goto (-37), 3) := by decide +kernel
theorem dX7_setOf_44 : decode cX7_setOf 44 = .ok (.iload_n 2, 1) := by decide +kernel
theorem dX7_setOf_45 : decode cX7_setOf 45 = .ok (.ireturn, 1) := by decide +kernel
set_option maxRecDepth 20000 in
theorem ggX7_fits_X7_isHour : GoodIn wsX7_fits wsX7_isHour := goodIn_r _ [6] (by decide +kernel) (by decide +kernel)
set_option maxRecDepth 20000 in
theorem gX7_fits_X7_isHour : GoodIn wsX7_fits (va_wsS RX7 152 yX7_isHour wsX7_isHour) := goodIn_app (goodIn_of _ (by decide +kernel)) ggX7_fits_X7_isHour
set_option maxRecDepth 20000 in
theorem ggX7_fits_X7_isFall : GoodIn wsX7_fits wsX7_isFall := goodIn_r _ [9] (by decide +kernel) (by decide +kernel)
set_option maxRecDepth 20000 in
theorem gX7_fits_X7_isFall : GoodIn wsX7_fits (va_wsS RX7 155 yX7_isFall wsX7_isFall) := goodIn_app (goodIn_of _ (by decide +kernel)) ggX7_fits_X7_isFall
set_option maxRecDepth 20000 in
theorem ggX7_fits_X7_refuse : GoodIn wsX7_fits wsX7_refuse := goodIn_r _ [13, 1, 37, 38, 39, 40, 41, 42, 43, 44, 45, 46, 47, 48, 49, 50, 51, 52, 53, 54, 55, 56, 57, 58, 59, 60, 61, 62, 63, 64, 65, 66, 67, 68, 69, 70, 71, 72, 73, 74, 75, 76, 77, 78] (by decide +kernel) (by decide +kernel)
set_option maxRecDepth 20000 in
theorem gX7_fits_X7_refuse : GoodIn wsX7_fits (wsV RX7 126 RX7 yX7_refuse wsX7_refuse) := goodIn_app (goodIn_of _ (by decide +kernel)) ggX7_fits_X7_refuse
set_option maxRecDepth 20000 in
theorem ggX7_fits_X7_look : GoodIn wsX7_fits wsX7_look := goodIn_r _ [17, 18, 19, 20, 21, 22, 2, 23, 24, 25, 26, 27, 5, 28, 29, 30, 37, 38, 39, 40, 41, 42, 43, 44, 45, 46, 47, 48, 49, 50, 51, 52, 53, 54, 55, 56, 57, 58, 59, 60, 61, 62, 63, 64, 65, 66, 67, 68, 69, 70, 71, 72, 73, 74, 75, 76, 77, 78] (by decide +kernel) (by decide +kernel)
set_option maxRecDepth 20000 in
theorem gX7_fits_X7_look : GoodIn wsX7_fits (wsV RX7 158 RX7 yX7_look wsX7_look) := goodIn_app (goodIn_of _ (by decide +kernel)) ggX7_fits_X7_look
set_option maxRecDepth 20000 in
theorem ggX7_fits_X7_setOf : GoodIn wsX7_fits wsX7_setOf := goodIn_r _ [34, 18, 35, 36, 37, 38, 39, 40, 41, 42, 43, 44, 45, 46, 47, 48, 49, 50, 51, 52, 53, 54, 55, 56, 57, 58, 59, 60, 61, 62, 63, 64, 65, 66, 67, 68, 69, 70, 71, 72, 73, 74, 75, 76, 77, 78] (by decide +kernel) (by decide +kernel)
set_option maxRecDepth 20000 in
theorem gX7_fits_X7_setOf : GoodIn wsX7_fits (wsV RX7 162 RX7 yX7_setOf wsX7_setOf) := goodIn_app (goodIn_of _ (by decide +kernel)) ggX7_fits_X7_setOf
theorem dX7_fits_0 : decode cX7_fits 0 = .ok (.iload_n 1, 1) := by decide +kernel
theorem dX7_fits_1 : decode cX7_fits 1 = .ok (.invokestatic 152, 3) := by decide +kernel
theorem dX7_fits_4 : decode cX7_fits 4 = .ok (.ifCond .eq 10, 3) := by decide +kernel
theorem dX7_fits_7 : decode cX7_fits 7 = .ok (.iload_n 2, 1) := by decide +kernel
theorem dX7_fits_8 : decode cX7_fits 8 = .ok (.invokestatic 155, 3) := by decide +kernel
theorem dX7_fits_11 : decode cX7_fits 11 = .ok (.ifCond .ne 9, 3) := by decide +kernel
theorem dX7_fits_14 : decode cX7_fits 14 = .ok (.aload_n 0, 1) := by decide +kernel
theorem dX7_fits_15 : decode cX7_fits 15 = .ok (.iconst 1, 1) := by decide +kernel
theorem dX7_fits_16 : decode cX7_fits 16 = .ok (.invokevirtual 126, 3) := by decide +kernel
theorem dX7_fits_19 : decode cX7_fits 19 = .ok (.ireturn, 1) := by decide +kernel
theorem dX7_fits_20 : decode cX7_fits 20 = .ok (.aload_n 0, 1) := by decide +kernel
theorem dX7_fits_21 : decode cX7_fits 21 = .ok (.iload_n 2, 1) := by decide +kernel
theorem dX7_fits_22 : decode cX7_fits 22 = .ok (.invokevirtual 158, 3) := by decide +kernel
theorem dX7_fits_25 : decode cX7_fits 25 = .ok (.aload_n 0, 1) := by decide +kernel
theorem dX7_fits_26 : decode cX7_fits 26 = .ok (.iconst 0, 1) := by decide +kernel
theorem dX7_fits_27 : decode cX7_fits 27 = .ok (.putfield 105, 3) := by decide +kernel
theorem dX7_fits_30 : decode cX7_fits 30 = .ok (.aload_n 0, 1) := by decide +kernel
theorem dX7_fits_31 : decode cX7_fits 31 = .ok (.getfield 48, 3) := by decide +kernel
theorem dX7_fits_34 : decode cX7_fits 34 = .ok (.aload_n 0, 1) := by decide +kernel
theorem dX7_fits_35 : decode cX7_fits 35 = .ok (.iload_n 1, 1) := by decide +kernel
theorem dX7_fits_36 : decode cX7_fits 36 = .ok (.invokevirtual 162, 3) := by decide +kernel
theorem dX7_fits_39 : decode cX7_fits 39 = .ok (.baload, 1) := by decide +kernel
theorem dX7_fits_40 : decode cX7_fits 40 = .ok (.ifCond .eq 7, 3) := by decide +kernel
theorem dX7_fits_43 : decode cX7_fits 43 = .ok (.iconst 1, 1) := by decide +kernel
theorem dX7_fits_44 : decode cX7_fits 44 = .ok (.goto 4, 3) := by decide +kernel
theorem dX7_fits_47 : decode cX7_fits 47 = .ok (.iconst 0, 1) := by decide +kernel
theorem dX7_fits_48 : decode cX7_fits 48 = .ok (.ireturn, 1) := by decide +kernel
set_option maxRecDepth 20000 in
theorem ggX7_on_X7_isHour : GoodIn wsX7_on wsX7_isHour := goodIn_r _ [10] (by decide +kernel) (by decide +kernel)
set_option maxRecDepth 20000 in
theorem gX7_on_X7_isHour : GoodIn wsX7_on (va_wsS RX7 152 yX7_isHour wsX7_isHour) := goodIn_app (goodIn_of _ (by decide +kernel)) ggX7_on_X7_isHour
set_option maxRecDepth 20000 in
theorem ggX7_on_X7_isFall : GoodIn wsX7_on wsX7_isFall := goodIn_r _ [13] (by decide +kernel) (by decide +kernel)
set_option maxRecDepth 20000 in
theorem gX7_on_X7_isFall : GoodIn wsX7_on (va_wsS RX7 155 yX7_isFall wsX7_isFall) := goodIn_app (goodIn_of _ (by decide +kernel)) ggX7_on_X7_isFall
set_option maxRecDepth 20000 in
theorem ggX7_on_X7_isAsk : GoodIn wsX7_on wsX7_isAsk := goodIn_r _ [17, 18, 41, 42, 43, 44, 45, 46, 47, 48, 49, 50, 51, 52, 53, 54, 55, 56, 57, 58, 59, 60, 61, 62, 63, 64, 65, 66, 67, 68, 69, 70, 71, 72, 73, 74, 75, 76, 77, 78, 79, 80, 81, 82] (by decide +kernel) (by decide +kernel)
set_option maxRecDepth 20000 in
theorem gX7_on_X7_isAsk : GoodIn wsX7_on (wsV RX7 136 RX7 yX7_isAsk wsX7_isAsk) := goodIn_app (goodIn_of _ (by decide +kernel)) ggX7_on_X7_isAsk
set_option maxRecDepth 20000 in
theorem ggX7_on_X7_setOf : GoodIn wsX7_on wsX7_setOf := goodIn_r _ [22, 18, 23, 24, 41, 42, 43, 44, 45, 46, 47, 48, 49, 50, 51, 52, 53, 54, 55, 56, 57, 58, 59, 60, 61, 62, 63, 64, 65, 66, 67, 68, 69, 70, 71, 72, 73, 74, 75, 76, 77, 78, 79, 80, 81, 82] (by decide +kernel) (by decide +kernel)
set_option maxRecDepth 20000 in
theorem gX7_on_X7_setOf : GoodIn wsX7_on (wsV RX7 162 RX7 yX7_setOf wsX7_setOf) := goodIn_app (goodIn_of _ (by decide +kernel)) ggX7_on_X7_setOf
set_option maxRecDepth 20000 in
theorem ggX7_on_X7_refuse : GoodIn wsX7_on wsX7_refuse := goodIn_r _ [28, 2, 41, 42, 43, 44, 45, 46, 47, 48, 49, 50, 51, 52, 53, 54, 55, 56, 57, 58, 59, 60, 61, 62, 63, 64, 65, 66, 67, 68, 69, 70, 71, 72, 73, 74, 75, 76, 77, 78, 79, 80, 81, 82] (by decide +kernel) (by decide +kernel)
set_option maxRecDepth 20000 in
theorem gX7_on_X7_refuse : GoodIn wsX7_on (wsV RX7 126 RX7 yX7_refuse wsX7_refuse) := goodIn_app (goodIn_of _ (by decide +kernel)) ggX7_on_X7_refuse
set_option maxRecDepth 20000 in
theorem ggX7_on_X7_look : GoodIn wsX7_on wsX7_look := goodIn_r _ [32, 18, 5, 4, 33, 34, 1, 3, 6, 35, 36, 37, 9, 38, 39, 40, 41, 42, 43, 44, 45, 46, 47, 48, 49, 50, 51, 52, 53, 54, 55, 56, 57, 58, 59, 60, 61, 62, 63, 64, 65, 66, 67, 68, 69, 70, 71, 72, 73, 74, 75, 76, 77, 78, 79, 80, 81, 82] (by decide +kernel) (by decide +kernel)
set_option maxRecDepth 20000 in
theorem gX7_on_X7_look : GoodIn wsX7_on (wsV RX7 158 RX7 yX7_look wsX7_look) := goodIn_app (goodIn_of _ (by decide +kernel)) ggX7_on_X7_look
set_option maxRecDepth 20000 in
theorem ggX7_on_X7_stands : GoodIn wsX7_on wsX7_stands := goodIn_r _ [38, 39, 40, 41, 42, 43, 44, 45, 46, 47, 48, 49, 50, 51, 52, 53, 54, 55, 56, 57, 58, 59, 60, 61, 62, 63, 64, 65, 66, 67, 68, 69, 70, 71, 72, 73, 74, 75, 76, 77, 78, 79, 80, 81, 82] (by decide +kernel) (by decide +kernel)
set_option maxRecDepth 20000 in
theorem gX7_on_X7_stands : GoodIn wsX7_on (wsV RX7 139 RX7 yX7_stands wsX7_stands) := goodIn_app (goodIn_of _ (by decide +kernel)) ggX7_on_X7_stands
theorem dX7_on_0 : decode cX7_on 0 = .ok (.iload_n 1, 1) := by decide +kernel
theorem dX7_on_1 : decode cX7_on 1 = .ok (.invokestatic 152, 3) := by decide +kernel
theorem dX7_on_4 : decode cX7_on 4 = .ok (.ifCond .eq 30, 3) := by decide +kernel
theorem dX7_on_7 : decode cX7_on 7 = .ok (.iload_n 2, 1) := by decide +kernel
theorem dX7_on_8 : decode cX7_on 8 = .ok (.invokestatic 155, 3) := by decide +kernel
theorem dX7_on_11 : decode cX7_on 11 = .ok (.ifCond .eq 23, 3) := by decide +kernel
theorem dX7_on_14 : decode cX7_on 14 = .ok (.aload_n 0, 1) := by decide +kernel
theorem dX7_on_15 : decode cX7_on 15 = .ok (.iload_n 3, 1) := by decide +kernel
theorem dX7_on_16 : decode cX7_on 16 = .ok (.invokevirtual 136, 3) := by decide +kernel
theorem dX7_on_19 : decode cX7_on 19 = .ok (.ifCond .eq 15, 3) := by decide +kernel
theorem dX7_on_22 : decode cX7_on 22 = .ok (.aload_n 0, 1) := by decide +kernel
theorem dX7_on_23 : decode cX7_on 23 = .ok (.iload_n 1, 1) := by decide +kernel
theorem dX7_on_24 : decode cX7_on 24 = .ok (.invokevirtual 162, 3) := by decide +kernel
theorem dX7_on_27 : decode cX7_on 27 = .ok (.iload_n 3, 1) := by decide +kernel
theorem dX7_on_28 : decode cX7_on 28 = .ok (.ishr, 1) := by decide +kernel
theorem dX7_on_29 : decode cX7_on 29 = .ok (.iconst 1, 1) := by decide +kernel
theorem dX7_on_30 : decode cX7_on 30 = .ok (.iand, 1) := by decide +kernel
theorem dX7_on_31 : decode cX7_on 31 = .ok (.ifCond .ne 9, 3) := by decide +kernel
theorem dX7_on_34 : decode cX7_on 34 = .ok (.aload_n 0, 1) := by decide +kernel
theorem dX7_on_35 : decode cX7_on 35 = .ok (.iconst 1, 1) := by decide +kernel
theorem dX7_on_36 : decode cX7_on 36 = .ok (.invokevirtual 126, 3) := by decide +kernel
theorem dX7_on_39 : decode cX7_on 39 = .ok (.ireturn, 1) := by decide +kernel
theorem dX7_on_40 : decode cX7_on 40 = .ok (.aload_n 0, 1) := by decide +kernel
theorem dX7_on_41 : decode cX7_on 41 = .ok (.iload_n 2, 1) := by decide +kernel
theorem dX7_on_42 : decode cX7_on 42 = .ok (.invokevirtual 158, 3) := by decide +kernel
theorem dX7_on_45 : decode cX7_on 45 = .ok (.aload_n 0, 1) := by decide +kernel
theorem dX7_on_46 : decode cX7_on 46 = .ok (.iload_n 1, 1) := by decide +kernel
theorem dX7_on_47 : decode cX7_on 47 = .ok (.invokevirtual 162, 3) := by decide +kernel
theorem dX7_on_50 : decode cX7_on 50 = .ok (.istore 4, 2) := by decide +kernel
theorem dX7_on_52 : decode cX7_on 52 = .ok (.aload_n 0, 1) := by decide +kernel
theorem dX7_on_53 : decode cX7_on 53 = .ok (.getfield 48, 3) := by decide +kernel
theorem dX7_on_56 : decode cX7_on 56 = .ok (.iload 4, 2) := by decide +kernel
theorem dX7_on_58 : decode cX7_on 58 = .ok (.baload, 1) := by decide +kernel
theorem dX7_on_59 : decode cX7_on 59 = .ok (.ifCond .ne 10, 3) := by decide +kernel
theorem dX7_on_62 : decode cX7_on 62 = .ok (.aload_n 0, 1) := by decide +kernel
theorem dX7_on_63 : decode cX7_on 63 = .ok (.bipush 6, 2) := by decide +kernel
theorem dX7_on_65 : decode cX7_on 65 = .ok (.invokevirtual 126, 3) := by decide +kernel
theorem dX7_on_68 : decode cX7_on 68 = .ok (.ireturn, 1) := by decide +kernel
theorem dX7_on_69 : decode cX7_on 69 = .ok (.aload_n 0, 1) := by decide +kernel
theorem dX7_on_70 : decode cX7_on 70 = .ok (.iconst 0, 1) := by decide +kernel
theorem dX7_on_71 : decode cX7_on 71 = .ok (.putfield 105, 3) := by decide +kernel
theorem dX7_on_74 : decode cX7_on 74 = .ok (.iconst 0, 1) := by decide +kernel
theorem dX7_on_75 : decode cX7_on 75 = .ok (.istore 5, 2) := by decide +kernel
theorem dX7_on_77 : decode cX7_on 77 = .ok (.iload 5, 2) := by decide +kernel
theorem dX7_on_79 : decode cX7_on 79 = .ok (.aload_n 0, 1) := by decide +kernel
theorem dX7_on_80 : decode cX7_on 80 = .ok (.getfield 130, 3) := by decide +kernel
theorem dX7_on_83 : decode cX7_on 83 = .ok (.if_icmp .ge 112, 3) := by decide +kernel
theorem dX7_on_86 : decode cX7_on 86 = .ok (.iload 4, 2) := by decide +kernel
theorem dX7_on_88 : decode cX7_on 88 = .ok (.istore 6, 2) := by decide +kernel
theorem dX7_on_90 : decode cX7_on 90 = .ok (.aload_n 0, 1) := by decide +kernel
theorem dX7_on_91 : decode cX7_on 91 = .ok (.iload 5, 2) := by decide +kernel
theorem dX7_on_93 : decode cX7_on 93 = .ok (.iload_n 2, 1) := by decide +kernel
theorem dX7_on_94 : decode cX7_on 94 = .ok (.invokevirtual 139, 3) := by decide +kernel
theorem dX7_on_97 : decode cX7_on 97 = .ok (.ifCond .ne 6, 3) := by decide +kernel
theorem dX7_on_100 : decode cX7_on 100 = .ok (.iconst 0, 1) := by decide +kernel
theorem dX7_on_101 : decode cX7_on 101 = .ok (.istore 6, 2) := by decide +kernel
theorem dX7_on_103 : decode cX7_on 103 = .ok (.iload 6, 2) := by decide +kernel
theorem dX7_on_105 : decode cX7_on 105 = .ok (.ifCond .le 64, 3) := by decide +kernel
theorem dX7_on_108 : decode cX7_on 108 = .ok (.aload_n 0, 1) := by decide +kernel
theorem dX7_on_109 : decode cX7_on 109 = .ok (.getfield 45, 3) := by decide +kernel
theorem dX7_on_112 : decode cX7_on 112 = .ok (.iload 6, 2) := by decide +kernel
theorem dX7_on_114 : decode cX7_on 114 = .ok (.baload, 1) := by decide +kernel
theorem dX7_on_115 : decode cX7_on 115 = .ok (.ifCond .eq 42, 3) := by decide +kernel
theorem dX7_on_118 : decode cX7_on 118 = .ok (.aload_n 0, 1) := by decide +kernel
theorem dX7_on_119 : decode cX7_on 119 = .ok (.getfield 42, 3) := by decide +kernel
theorem dX7_on_122 : decode cX7_on 122 = .ok (.iload 6, 2) := by decide +kernel
theorem dX7_on_124 : decode cX7_on 124 = .ok (.iaload, 1) := by decide +kernel
theorem dX7_on_125 : decode cX7_on 125 = .ok (.aload_n 0, 1) := by decide +kernel
theorem dX7_on_126 : decode cX7_on 126 = .ok (.getfield 20, 3) := by decide +kernel
theorem dX7_on_129 : decode cX7_on 129 = .ok (.iload 5, 2) := by decide +kernel
theorem dX7_on_131 : decode cX7_on 131 = .ok (.iaload, 1) := by decide +kernel
theorem dX7_on_132 : decode cX7_on 132 = .ok (.if_icmp .gt 25, 3) := by decide +kernel
theorem dX7_on_135 : decode cX7_on 135 = .ok (.aload_n 0, 1) := by decide +kernel
theorem dX7_on_136 : decode cX7_on 136 = .ok (.getfield 48, 3) := by decide +kernel
theorem dX7_on_139 : decode cX7_on 139 = .ok (.sipush 1024, 3) := by decide +kernel
theorem dX7_on_142 : decode cX7_on 142 = .ok (.iload 5, 2) := by decide +kernel
theorem dX7_on_144 : decode cX7_on 144 = .ok (.iconst 1, 1) := by decide +kernel
theorem dX7_on_145 : decode cX7_on 145 = .ok (.iadd, 1) := by decide +kernel
theorem dX7_on_146 : decode cX7_on 146 = .ok (.imul, 1) := by decide +kernel
theorem dX7_on_147 : decode cX7_on 147 = .ok (.iload 4, 2) := by decide +kernel
theorem dX7_on_149 : decode cX7_on 149 = .ok (.iload 6, 2) := by decide +kernel
theorem dX7_on_151 : decode cX7_on 151 = .ok (.ixor, 1) := by decide +kernel
theorem dX7_on_152 : decode cX7_on 152 = .ok (.iadd, 1) := by decide +kernel
theorem dX7_on_153 : decode cX7_on 153 = .ok (.baload, 1) := by decide +kernel
theorem dX7_on_154 : decode cX7_on 154 = .ok (.ifCond .ne 15, 3) := by decide +kernel
theorem dX7_on_157 : decode cX7_on 157 = .ok (.iload 6, 2) := by decide +kernel
theorem dX7_on_159 : decode cX7_on 159 = .ok (.iconst 1, 1) := by decide +kernel
theorem dX7_on_160 : decode cX7_on 160 = .ok (.isub, 1) := by decide +kernel
theorem dX7_on_161 : decode cX7_on 161 = .ok (.iload 4, 2) := by decide +kernel
theorem dX7_on_163 : decode cX7_on 163 = .ok (.iand, 1) := by decide +kernel
theorem dX7_on_164 : decode cX7_on 164 = .ok (.istore 6, 2) := by decide +kernel
theorem dX7_on_166 : decode cX7_on 166 = .ok (.goto (-63), 3) := by decide +kernel
theorem dX7_on_169 : decode cX7_on 169 = .ok (.iload 6, 2) := by decide +kernel
theorem dX7_on_171 : decode cX7_on 171 = .ok (.iload_n 3, 1) := by decide +kernel
theorem dX7_on_172 : decode cX7_on 172 = .ok (.ishr, 1) := by decide +kernel
theorem dX7_on_173 : decode cX7_on 173 = .ok (.iconst 1, 1) := by decide +kernel
theorem dX7_on_174 : decode cX7_on 174 = .ok (.iand, 1) := by decide +kernel
theorem dX7_on_175 : decode cX7_on 175 = .ok (.iconst 1, 1) := by decide +kernel
theorem dX7_on_176 : decode cX7_on 176 = .ok (.if_icmp .ne 6, 3) := by decide +kernel
theorem dX7_on_179 : decode cX7_on 179 = .ok (.iload 5, 2) := by decide +kernel
theorem dX7_on_181 : decode cX7_on 181 = .ok (.ireturn, 1) := by decide +kernel
theorem dX7_on_182 : decode cX7_on 182 = .ok (.iload 4, 2) := by decide +kernel
theorem dX7_on_184 : decode cX7_on 184 = .ok (.iload 6, 2) := by decide +kernel
theorem dX7_on_186 : decode cX7_on 186 = .ok (.ixor, 1) := by decide +kernel
theorem dX7_on_187 : decode cX7_on 187 = .ok (.istore 4, 2) := by decide +kernel
theorem dX7_on_189 : decode cX7_on 189 = .ok (.iinc 5 1, 3) := by decide +kernel
theorem dX7_on_192 : decode cX7_on 192 = .ok (.goto (-115), 3) := by decide +kernel
theorem dX7_on_195 : decode cX7_on 195 = .ok (.iconst (-1), 1) := by decide +kernel
theorem dX7_on_196 : decode cX7_on 196 = .ok (.ireturn, 1) := by decide +kernel
set_option maxRecDepth 20000 in
theorem ggX7_lack_X7_isHour : GoodIn wsX7_lack wsX7_isHour := goodIn_r _ [7] (by decide +kernel) (by decide +kernel)
set_option maxRecDepth 20000 in
theorem gX7_lack_X7_isHour : GoodIn wsX7_lack (va_wsS RX7 152 yX7_isHour wsX7_isHour) := goodIn_app (goodIn_of _ (by decide +kernel)) ggX7_lack_X7_isHour
set_option maxRecDepth 20000 in
theorem ggX7_lack_X7_isFall : GoodIn wsX7_lack wsX7_isFall := goodIn_r _ [10] (by decide +kernel) (by decide +kernel)
set_option maxRecDepth 20000 in
theorem gX7_lack_X7_isFall : GoodIn wsX7_lack (va_wsS RX7 155 yX7_isFall wsX7_isFall) := goodIn_app (goodIn_of _ (by decide +kernel)) ggX7_lack_X7_isFall
set_option maxRecDepth 20000 in
theorem ggX7_lack_X7_refuse : GoodIn wsX7_lack wsX7_refuse := goodIn_r _ [14, 1, 37, 38, 39, 40, 41, 42, 43, 44, 45, 46, 47, 48, 49, 50, 51, 52, 53, 54, 55, 56, 57, 58, 59, 60, 61, 62, 63, 64, 65, 66, 67, 68, 69, 70, 71, 72, 73, 74, 75, 76, 77, 78] (by decide +kernel) (by decide +kernel)
set_option maxRecDepth 20000 in
theorem gX7_lack_X7_refuse : GoodIn wsX7_lack (wsV RX7 126 RX7 yX7_refuse wsX7_refuse) := goodIn_app (goodIn_of _ (by decide +kernel)) ggX7_lack_X7_refuse
set_option maxRecDepth 20000 in
theorem ggX7_lack_X7_look : GoodIn wsX7_lack wsX7_look := goodIn_r _ [18, 19, 3, 20, 21, 22, 2, 23, 24, 25, 26, 27, 6, 28, 29, 30, 37, 38, 39, 40, 41, 42, 43, 44, 45, 46, 47, 48, 49, 50, 51, 52, 53, 54, 55, 56, 57, 58, 59, 60, 61, 62, 63, 64, 65, 66, 67, 68, 69, 70, 71, 72, 73, 74, 75, 76, 77, 78] (by decide +kernel) (by decide +kernel)
set_option maxRecDepth 20000 in
theorem gX7_lack_X7_look : GoodIn wsX7_lack (wsV RX7 158 RX7 yX7_look wsX7_look) := goodIn_app (goodIn_of _ (by decide +kernel)) ggX7_lack_X7_look
set_option maxRecDepth 20000 in
theorem ggX7_lack_X7_setOf : GoodIn wsX7_lack wsX7_setOf := goodIn_r _ [34, 19, 35, 36, 37, 38, 39, 40, 41, 42, 43, 44, 45, 46, 47, 48, 49, 50, 51, 52, 53, 54, 55, 56, 57, 58, 59, 60, 61, 62, 63, 64, 65, 66, 67, 68, 69, 70, 71, 72, 73, 74, 75, 76, 77, 78] (by decide +kernel) (by decide +kernel)
set_option maxRecDepth 20000 in
theorem gX7_lack_X7_setOf : GoodIn wsX7_lack (wsV RX7 162 RX7 yX7_setOf wsX7_setOf) := goodIn_app (goodIn_of _ (by decide +kernel)) ggX7_lack_X7_setOf
theorem dX7_lack_0 : decode cX7_lack 0 = .ok (.iload_n 1, 1) := by decide +kernel
theorem dX7_lack_1 : decode cX7_lack 1 = .ok (.invokestatic 152, 3) := by decide +kernel
theorem dX7_lack_4 : decode cX7_lack 4 = .ok (.ifCond .eq 10, 3) := by decide +kernel
theorem dX7_lack_7 : decode cX7_lack 7 = .ok (.iload_n 2, 1) := by decide +kernel
theorem dX7_lack_8 : decode cX7_lack 8 = .ok (.invokestatic 155, 3) := by decide +kernel
theorem dX7_lack_11 : decode cX7_lack 11 = .ok (.ifCond .ne 9, 3) := by decide +kernel
theorem dX7_lack_14 : decode cX7_lack 14 = .ok (.aload_n 0, 1) := by decide +kernel
theorem dX7_lack_15 : decode cX7_lack 15 = .ok (.iconst 1, 1) := by decide +kernel
theorem dX7_lack_16 : decode cX7_lack 16 = .ok (.invokevirtual 126, 3) := by decide +kernel
theorem dX7_lack_19 : decode cX7_lack 19 = .ok (.ireturn, 1) := by decide +kernel
theorem dX7_lack_20 : decode cX7_lack 20 = .ok (.aload_n 0, 1) := by decide +kernel
theorem dX7_lack_21 : decode cX7_lack 21 = .ok (.iload_n 2, 1) := by decide +kernel
theorem dX7_lack_22 : decode cX7_lack 22 = .ok (.invokevirtual 158, 3) := by decide +kernel
theorem dX7_lack_25 : decode cX7_lack 25 = .ok (.aload_n 0, 1) := by decide +kernel
theorem dX7_lack_26 : decode cX7_lack 26 = .ok (.iconst 0, 1) := by decide +kernel
theorem dX7_lack_27 : decode cX7_lack 27 = .ok (.putfield 105, 3) := by decide +kernel
theorem dX7_lack_30 : decode cX7_lack 30 = .ok (.aload_n 0, 1) := by decide +kernel
theorem dX7_lack_31 : decode cX7_lack 31 = .ok (.iload_n 1, 1) := by decide +kernel
theorem dX7_lack_32 : decode cX7_lack 32 = .ok (.invokevirtual 162, 3) := by decide +kernel
theorem dX7_lack_35 : decode cX7_lack 35 = .ok (.istore_n 3, 1) := by decide +kernel
theorem dX7_lack_36 : decode cX7_lack 36 = .ok (.iconst 0, 1) := by decide +kernel
theorem dX7_lack_37 : decode cX7_lack 37 = .ok (.istore 4, 2) := by decide +kernel
theorem dX7_lack_39 : decode cX7_lack 39 = .ok (.iconst 0, 1) := by decide +kernel
theorem dX7_lack_40 : decode cX7_lack 40 = .ok (.istore 5, 2) := by decide +kernel
theorem dX7_lack_42 : decode cX7_lack 42 = .ok (.iload 5, 2) := by decide +kernel
theorem dX7_lack_44 : decode cX7_lack 44 = .ok (.iload_n 3, 1) := by decide +kernel
theorem dX7_lack_45 : decode cX7_lack 45 = .ok (.if_icmp .gt 49, 3) := by decide +kernel
theorem dX7_lack_48 : decode cX7_lack 48 = .ok (.iload 5, 2) := by decide +kernel
theorem dX7_lack_50 : decode cX7_lack 50 = .ok (.iload_n 3, 1) := by decide +kernel
theorem dX7_lack_51 : decode cX7_lack 51 = .ok (.iand, 1) := by decide +kernel
theorem dX7_lack_52 : decode cX7_lack 52 = .ok (.iload 5, 2) := by decide +kernel
theorem dX7_lack_54 : decode cX7_lack 54 = .ok (.if_icmp .ne 34, 3) := by decide +kernel
theorem dX7_lack_57 : decode cX7_lack 57 = .ok (.aload_n 0, 1) := by decide +kernel
theorem dX7_lack_58 : decode cX7_lack 58 = .ok (.getfield 48, 3) := by decide +kernel
theorem dX7_lack_61 : decode cX7_lack 61 = .ok (.iload 5, 2) := by decide +kernel
theorem dX7_lack_63 : decode cX7_lack 63 = .ok (.baload, 1) := by decide +kernel
theorem dX7_lack_64 : decode cX7_lack 64 = .ok (.ifCond .eq 24, 3) := by decide +kernel
theorem dX7_lack_67 : decode cX7_lack 67 = .ok (.aload_n 0, 1) := by decide +kernel
theorem dX7_lack_68 : decode cX7_lack 68 = .ok (.getfield 42, 3) := by decide +kernel
theorem dX7_lack_71 : decode cX7_lack 71 = .ok (.iload 5, 2) := by decide +kernel
theorem dX7_lack_73 : decode cX7_lack 73 = .ok (.iaload, 1) := by decide +kernel
theorem dX7_lack_74 : decode cX7_lack 74 = .ok (.iload 4, 2) := by decide +kernel
theorem dX7_lack_76 : decode cX7_lack 76 = .ok (.if_icmp .le 12, 3) := by decide +kernel
theorem dX7_lack_79 : decode cX7_lack 79 = .ok (.aload_n 0, 1) := by decide +kernel
theorem dX7_lack_80 : decode cX7_lack 80 = .ok (.getfield 42, 3) := by decide +kernel
theorem dX7_lack_83 : decode cX7_lack 83 = .ok (.iload 5, 2) := by decide +kernel
theorem dX7_lack_85 : decode cX7_lack 85 = .ok (.iaload, 1) := by decide +kernel
theorem dX7_lack_86 : decode cX7_lack 86 = .ok (.istore 4, 2) := by decide +kernel
theorem dX7_lack_88 : decode cX7_lack 88 = .ok (.iinc 5 1, 3) := by decide +kernel
theorem dX7_lack_91 : decode cX7_lack 91 = .ok (.goto (-49), 3) := by decide +kernel
theorem dX7_lack_94 : decode cX7_lack 94 = .ok (.aload_n 0, 1) := by decide +kernel
theorem dX7_lack_95 : decode cX7_lack 95 = .ok (.getfield 42, 3) := by decide +kernel
theorem dX7_lack_98 : decode cX7_lack 98 = .ok (.iload_n 3, 1) := by decide +kernel
theorem dX7_lack_99 : decode cX7_lack 99 = .ok (.iaload, 1) := by decide +kernel
theorem dX7_lack_100 : decode cX7_lack 100 = .ok (.iload 4, 2) := by decide +kernel
theorem dX7_lack_102 : decode cX7_lack 102 = .ok (.isub, 1) := by decide +kernel
theorem dX7_lack_103 : decode cX7_lack 103 = .ok (.ireturn, 1) := by decide +kernel
set_option maxRecDepth 20000 in
theorem ggX7_leftOf_X7_setOf : GoodIn wsX7_leftOf wsX7_setOf := goodIn_r _ [7, 8, 9, 10, 23, 24, 25, 26, 27, 28, 29, 30, 31, 32, 33, 34, 35, 36, 37, 38, 39, 40, 41, 42, 43, 44, 45, 46, 47, 48, 49, 50, 51, 52, 53, 54, 55, 56, 57, 58, 59, 60, 61, 62, 63, 64] (by decide +kernel) (by decide +kernel)
set_option maxRecDepth 20000 in
theorem gX7_leftOf_X7_setOf : GoodIn wsX7_leftOf (wsV RX7 162 RX7 yX7_setOf wsX7_setOf) := goodIn_app (goodIn_of _ (by decide +kernel)) ggX7_leftOf_X7_setOf
set_option maxRecDepth 20000 in
theorem ggX7_leftOf_X7_sizes : GoodIn wsX7_leftOf wsX7_sizes := goodIn_r _ [14, 15, 16, 17, 18, 19, 6, 20, 21, 22, 23, 24, 25, 26, 27, 28, 29, 30, 31, 32, 33, 34, 35, 36, 37, 38, 39, 40, 41, 42, 43, 44, 45, 46, 47, 48, 49, 50, 51, 52, 53, 54, 55, 56, 57, 58, 59, 60, 61, 62, 63, 64] (by decide +kernel) (by decide +kernel)
set_option maxRecDepth 20000 in
theorem gX7_leftOf_X7_sizes : GoodIn wsX7_leftOf (wsV RX7 149 RX7 yX7_sizes wsX7_sizes) := goodIn_app (goodIn_of _ (by decide +kernel)) ggX7_leftOf_X7_sizes
theorem dX7_leftOf_0 : decode cX7_leftOf 0 = .ok (.aload_n 0, 1) := by decide +kernel
theorem dX7_leftOf_1 : decode cX7_leftOf 1 = .ok (.getfield 48, 3) := by decide +kernel
theorem dX7_leftOf_4 : decode cX7_leftOf 4 = .ok (.aload_n 0, 1) := by decide +kernel
theorem dX7_leftOf_5 : decode cX7_leftOf 5 = .ok (.iload_n 1, 1) := by decide +kernel
theorem dX7_leftOf_6 : decode cX7_leftOf 6 = .ok (.invokevirtual 162, 3) := by decide +kernel
theorem dX7_leftOf_9 : decode cX7_leftOf 9 = .ok (.baload, 1) := by decide +kernel
theorem dX7_leftOf_10 : decode cX7_leftOf 10 = .ok (.ifCond .eq 22, 3) := by decide +kernel
theorem dX7_leftOf_13 : decode cX7_leftOf 13 = .ok (.aload_n 0, 1) := by decide +kernel
theorem dX7_leftOf_14 : decode cX7_leftOf 14 = .ok (.iload_n 2, 1) := by decide +kernel
theorem dX7_leftOf_15 : decode cX7_leftOf 15 = .ok (.invokevirtual 149, 3) := by decide +kernel
theorem dX7_leftOf_18 : decode cX7_leftOf 18 = .ok (.aload_n 0, 1) := by decide +kernel
theorem dX7_leftOf_19 : decode cX7_leftOf 19 = .ok (.getfield 42, 3) := by decide +kernel
theorem dX7_leftOf_22 : decode cX7_leftOf 22 = .ok (.aload_n 0, 1) := by decide +kernel
theorem dX7_leftOf_23 : decode cX7_leftOf 23 = .ok (.iload_n 1, 1) := by decide +kernel
theorem dX7_leftOf_24 : decode cX7_leftOf 24 = .ok (.invokevirtual 162, 3) := by decide +kernel
theorem dX7_leftOf_27 : decode cX7_leftOf 27 = .ok (.iaload, 1) := by decide +kernel
theorem dX7_leftOf_28 : decode cX7_leftOf 28 = .ok (.isub, 1) := by decide +kernel
theorem dX7_leftOf_29 : decode cX7_leftOf 29 = .ok (.goto 4, 3) := by decide +kernel
theorem dX7_leftOf_32 : decode cX7_leftOf 32 = .ok (.iconst 0, 1) := by decide +kernel
theorem dX7_leftOf_33 : decode cX7_leftOf 33 = .ok (.ireturn, 1) := by decide +kernel
set_option maxRecDepth 20000 in
theorem ggX7_left_X7_isHour : GoodIn wsX7_left wsX7_isHour := goodIn_r _ [5] (by decide +kernel) (by decide +kernel)
set_option maxRecDepth 20000 in
theorem gX7_left_X7_isHour : GoodIn wsX7_left (va_wsS RX7 152 yX7_isHour wsX7_isHour) := goodIn_app (goodIn_of _ (by decide +kernel)) ggX7_left_X7_isHour
set_option maxRecDepth 20000 in
theorem ggX7_left_X7_isFall : GoodIn wsX7_left wsX7_isFall := goodIn_r _ [8] (by decide +kernel) (by decide +kernel)
set_option maxRecDepth 20000 in
theorem gX7_left_X7_isFall : GoodIn wsX7_left (va_wsS RX7 155 yX7_isFall wsX7_isFall) := goodIn_app (goodIn_of _ (by decide +kernel)) ggX7_left_X7_isFall
set_option maxRecDepth 20000 in
theorem ggX7_left_X7_refuse : GoodIn wsX7_left wsX7_refuse := goodIn_r _ [12, 1, 45, 46, 47, 48, 49, 50, 51, 52, 53, 54, 55, 56, 57, 58, 59, 60, 61, 62, 63, 64, 65, 66, 67, 68, 69, 70, 71, 72, 73, 74, 75, 76, 77, 78, 79, 80, 81, 82, 83, 84, 85, 86] (by decide +kernel) (by decide +kernel)
set_option maxRecDepth 20000 in
theorem gX7_left_X7_refuse : GoodIn wsX7_left (wsV RX7 126 RX7 yX7_refuse wsX7_refuse) := goodIn_app (goodIn_of _ (by decide +kernel)) ggX7_left_X7_refuse
set_option maxRecDepth 20000 in
theorem ggX7_left_X7_look : GoodIn wsX7_left wsX7_look := goodIn_r _ [16, 17, 18, 19, 20, 21, 22, 23, 24, 25, 26, 27, 4, 28, 29, 30, 45, 46, 47, 48, 49, 50, 51, 52, 53, 54, 55, 56, 57, 58, 59, 60, 61, 62, 63, 64, 65, 66, 67, 68, 69, 70, 71, 72, 73, 74, 75, 76, 77, 78, 79, 80, 81, 82, 83, 84, 85, 86] (by decide +kernel) (by decide +kernel)
set_option maxRecDepth 20000 in
theorem gX7_left_X7_look : GoodIn wsX7_left (wsV RX7 158 RX7 yX7_look wsX7_look) := goodIn_app (goodIn_of _ (by decide +kernel)) ggX7_left_X7_look
set_option maxRecDepth 20000 in
theorem ggX7_left_X7_leftOf : GoodIn wsX7_left wsX7_leftOf := goodIn_r _ [34, 22, 18, 35, 36, 37, 4, 38, 17, 39, 40, 41, 42, 43, 44, 23, 24, 25, 26, 27, 28, 29, 30, 45, 46, 47, 48, 49, 50, 51, 52, 53, 54, 55, 56, 57, 58, 59, 60, 61, 62, 63, 64, 65, 66, 67, 68, 69, 70, 71, 72, 73, 74, 75, 76, 77, 78, 79, 80, 81, 82, 83, 84, 85, 86] (by decide +kernel) (by decide +kernel)
set_option maxRecDepth 20000 in
theorem gX7_left_X7_leftOf : GoodIn wsX7_left (wsV RX7 165 RX7 yX7_leftOf wsX7_leftOf) := goodIn_app (goodIn_of _ (by decide +kernel)) ggX7_left_X7_leftOf
theorem dX7_left_0 : decode cX7_left 0 = .ok (.iload_n 1, 1) := by decide +kernel
theorem dX7_left_1 : decode cX7_left 1 = .ok (.invokestatic 152, 3) := by decide +kernel
theorem dX7_left_4 : decode cX7_left 4 = .ok (.ifCond .eq 10, 3) := by decide +kernel
theorem dX7_left_7 : decode cX7_left 7 = .ok (.iload_n 2, 1) := by decide +kernel
theorem dX7_left_8 : decode cX7_left 8 = .ok (.invokestatic 155, 3) := by decide +kernel
theorem dX7_left_11 : decode cX7_left 11 = .ok (.ifCond .ne 9, 3) := by decide +kernel
theorem dX7_left_14 : decode cX7_left 14 = .ok (.aload_n 0, 1) := by decide +kernel
theorem dX7_left_15 : decode cX7_left 15 = .ok (.iconst 1, 1) := by decide +kernel
theorem dX7_left_16 : decode cX7_left 16 = .ok (.invokevirtual 126, 3) := by decide +kernel
theorem dX7_left_19 : decode cX7_left 19 = .ok (.ireturn, 1) := by decide +kernel
theorem dX7_left_20 : decode cX7_left 20 = .ok (.aload_n 0, 1) := by decide +kernel
theorem dX7_left_21 : decode cX7_left 21 = .ok (.iload_n 2, 1) := by decide +kernel
theorem dX7_left_22 : decode cX7_left 22 = .ok (.invokevirtual 158, 3) := by decide +kernel
theorem dX7_left_25 : decode cX7_left 25 = .ok (.aload_n 0, 1) := by decide +kernel
theorem dX7_left_26 : decode cX7_left 26 = .ok (.iconst 0, 1) := by decide +kernel
theorem dX7_left_27 : decode cX7_left 27 = .ok (.putfield 105, 3) := by decide +kernel
theorem dX7_left_30 : decode cX7_left 30 = .ok (.aload_n 0, 1) := by decide +kernel
theorem dX7_left_31 : decode cX7_left 31 = .ok (.iload_n 1, 1) := by decide +kernel
theorem dX7_left_32 : decode cX7_left 32 = .ok (.iload_n 2, 1) := by decide +kernel
theorem dX7_left_33 : decode cX7_left 33 = .ok (.invokevirtual 165, 3) := by decide +kernel
theorem dX7_left_36 : decode cX7_left 36 = .ok (.ireturn, 1) := by decide +kernel
set_option maxRecDepth 20000 in
theorem ggX7_enough_X7_refuse : GoodIn wsX7_enough wsX7_refuse := goodIn_r _ [8, 1, 31, 32, 33, 34, 35, 36, 37, 38, 39, 40, 41, 42, 43, 44, 45, 46, 47, 48, 49, 50, 51, 52, 53, 54, 55, 56, 57, 58, 59, 60, 61, 62, 63, 64, 65, 66, 67, 68, 69, 70, 71, 72] (by decide +kernel) (by decide +kernel)
set_option maxRecDepth 20000 in
theorem gX7_enough_X7_refuse : GoodIn wsX7_enough (wsV RX7 126 RX7 yX7_refuse wsX7_refuse) := goodIn_app (goodIn_of _ (by decide +kernel)) ggX7_enough_X7_refuse
set_option maxRecDepth 20000 in
theorem ggX7_enough_X7_look : GoodIn wsX7_enough wsX7_look := goodIn_r _ [12, 13, 14, 15, 16, 17, 3, 2, 18, 19, 20, 21, 7, 22, 23, 24, 31, 32, 33, 34, 35, 36, 37, 38, 39, 40, 41, 42, 43, 44, 45, 46, 47, 48, 49, 50, 51, 52, 53, 54, 55, 56, 57, 58, 59, 60, 61, 62, 63, 64, 65, 66, 67, 68, 69, 70, 71, 72] (by decide +kernel) (by decide +kernel)
set_option maxRecDepth 20000 in
theorem gX7_enough_X7_look : GoodIn wsX7_enough (wsV RX7 158 RX7 yX7_look wsX7_look) := goodIn_app (goodIn_of _ (by decide +kernel)) ggX7_enough_X7_look
set_option maxRecDepth 20000 in
theorem ggX7_enough_X7_setOf : GoodIn wsX7_enough wsX7_setOf := goodIn_r _ [28, 13, 29, 30, 31, 32, 33, 34, 35, 36, 37, 38, 39, 40, 41, 42, 43, 44, 45, 46, 47, 48, 49, 50, 51, 52, 53, 54, 55, 56, 57, 58, 59, 60, 61, 62, 63, 64, 65, 66, 67, 68, 69, 70, 71, 72] (by decide +kernel) (by decide +kernel)
set_option maxRecDepth 20000 in
theorem gX7_enough_X7_setOf : GoodIn wsX7_enough (wsV RX7 162 RX7 yX7_setOf wsX7_setOf) := goodIn_app (goodIn_of _ (by decide +kernel)) ggX7_enough_X7_setOf
theorem dX7_enough_0 : decode cX7_enough 0 = .ok (.iload_n 1, 1) := by decide +kernel
theorem dX7_enough_1 : decode cX7_enough 1 = .ok (.ifCond .lt 8, 3) := by decide +kernel
theorem dX7_enough_4 : decode cX7_enough 4 = .ok (.iload_n 1, 1) := by decide +kernel
theorem dX7_enough_5 : decode cX7_enough 5 = .ok (.iconst 2, 1) := by decide +kernel
theorem dX7_enough_6 : decode cX7_enough 6 = .ok (.if_icmp .le 9, 3) := by decide +kernel
theorem dX7_enough_9 : decode cX7_enough 9 = .ok (.aload_n 0, 1) := by decide +kernel
theorem dX7_enough_10 : decode cX7_enough 10 = .ok (.iconst 1, 1) := by decide +kernel
theorem dX7_enough_11 : decode cX7_enough 11 = .ok (.invokevirtual 126, 3) := by decide +kernel
theorem dX7_enough_14 : decode cX7_enough 14 = .ok (.ireturn, 1) := by decide +kernel
theorem dX7_enough_15 : decode cX7_enough 15 = .ok (.aload_n 0, 1) := by decide +kernel
theorem dX7_enough_16 : decode cX7_enough 16 = .ok (.iconst 0, 1) := by decide +kernel
theorem dX7_enough_17 : decode cX7_enough 17 = .ok (.putfield 105, 3) := by decide +kernel
theorem dX7_enough_20 : decode cX7_enough 20 = .ok (.bipush 24, 2) := by decide +kernel
theorem dX7_enough_22 : decode cX7_enough 22 = .ok (.istore_n 2, 1) := by decide +kernel
theorem dX7_enough_23 : decode cX7_enough 23 = .ok (.iconst (-1), 1) := by decide +kernel
theorem dX7_enough_24 : decode cX7_enough 24 = .ok (.istore_n 3, 1) := by decide +kernel
theorem dX7_enough_25 : decode cX7_enough 25 = .ok (.iconst 0, 1) := by decide +kernel
theorem dX7_enough_26 : decode cX7_enough 26 = .ok (.istore 4, 2) := by decide +kernel
theorem dX7_enough_28 : decode cX7_enough 28 = .ok (.iload 4, 2) := by decide +kernel
theorem dX7_enough_30 : decode cX7_enough 30 = .ok (.bipush 17, 2) := by decide +kernel
theorem dX7_enough_32 : decode cX7_enough 32 = .ok (.if_icmp .ge 93, 3) := by decide +kernel
theorem dX7_enough_35 : decode cX7_enough 35 = .ok (.iload 4, 2) := by decide +kernel
theorem dX7_enough_37 : decode cX7_enough 37 = .ok (.ifCond .le 7, 3) := by decide +kernel
theorem dX7_enough_40 : decode cX7_enough 40 = .ok (.iload_n 1, 1) := by decide +kernel
theorem dX7_enough_41 : decode cX7_enough 41 = .ok (.ifCond .eq 78, 3) := by decide +kernel
theorem dX7_enough_44 : decode cX7_enough 44 = .ok (.iload 4, 2) := by decide +kernel
theorem dX7_enough_46 : decode cX7_enough 46 = .ok (.aload_n 0, 1) := by decide +kernel
theorem dX7_enough_47 : decode cX7_enough 47 = .ok (.getfield 130, 3) := by decide +kernel
theorem dX7_enough_50 : decode cX7_enough 50 = .ok (.if_icmp .le 10, 3) := by decide +kernel
theorem dX7_enough_53 : decode cX7_enough 53 = .ok (.iload 4, 2) := by decide +kernel
theorem dX7_enough_55 : decode cX7_enough 55 = .ok (.bipush 13, 2) := by decide +kernel
theorem dX7_enough_57 : decode cX7_enough 57 = .ok (.if_icmp .lt 62, 3) := by decide +kernel
theorem dX7_enough_60 : decode cX7_enough 60 = .ok (.iload 4, 2) := by decide +kernel
theorem dX7_enough_62 : decode cX7_enough 62 = .ok (.bipush 12, 2) := by decide +kernel
theorem dX7_enough_64 : decode cX7_enough 64 = .ok (.if_icmp .le 11, 3) := by decide +kernel
theorem dX7_enough_67 : decode cX7_enough 67 = .ok (.iload_n 1, 1) := by decide +kernel
theorem dX7_enough_68 : decode cX7_enough 68 = .ok (.iconst 2, 1) := by decide +kernel
theorem dX7_enough_69 : decode cX7_enough 69 = .ok (.if_icmp .ge 6, 3) := by decide +kernel
theorem dX7_enough_72 : decode cX7_enough 72 = .ok (.goto 47, 3) := by decide +kernel
theorem dX7_enough_75 : decode cX7_enough 75 = .ok (.aload_n 0, 1) := by decide +kernel
theorem dX7_enough_76 : decode cX7_enough 76 = .ok (.iload 4, 2) := by decide +kernel
theorem dX7_enough_78 : decode cX7_enough 78 = .ok (.invokevirtual 158, 3) := by decide +kernel
theorem dX7_enough_81 : decode cX7_enough 81 = .ok (.iconst 0, 1) := by decide +kernel
theorem dX7_enough_82 : decode cX7_enough 82 = .ok (.istore 5, 2) := by decide +kernel
theorem dX7_enough_84 : decode cX7_enough 84 = .ok (.iload 5, 2) := by decide +kernel
theorem dX7_enough_86 : decode cX7_enough 86 = .ok (.iload_n 2, 1) := by decide +kernel
theorem dX7_enough_87 : decode cX7_enough 87 = .ok (.if_icmp .ge 32, 3) := by decide +kernel
theorem dX7_enough_90 : decode cX7_enough 90 = .ok (.aload_n 0, 1) := by decide +kernel
theorem dX7_enough_91 : decode cX7_enough 91 = .ok (.getfield 48, 3) := by decide +kernel
theorem dX7_enough_94 : decode cX7_enough 94 = .ok (.aload_n 0, 1) := by decide +kernel
theorem dX7_enough_95 : decode cX7_enough 95 = .ok (.iload 5, 2) := by decide +kernel
theorem dX7_enough_97 : decode cX7_enough 97 = .ok (.invokevirtual 162, 3) := by decide +kernel
theorem dX7_enough_100 : decode cX7_enough 100 = .ok (.baload, 1) := by decide +kernel
theorem dX7_enough_101 : decode cX7_enough 101 = .ok (.ifCond .eq 6, 3) := by decide +kernel
theorem dX7_enough_104 : decode cX7_enough 104 = .ok (.goto 9, 3) := by decide +kernel
theorem dX7_enough_107 : decode cX7_enough 107 = .ok (.iload 5, 2) := by decide +kernel
theorem dX7_enough_109 : decode cX7_enough 109 = .ok (.istore_n 2, 1) := by decide +kernel
theorem dX7_enough_110 : decode cX7_enough 110 = .ok (.iload 4, 2) := by decide +kernel
theorem dX7_enough_112 : decode cX7_enough 112 = .ok (.istore_n 3, 1) := by decide +kernel
theorem dX7_enough_113 : decode cX7_enough 113 = .ok (.iinc 5 1, 3) := by decide +kernel
theorem dX7_enough_116 : decode cX7_enough 116 = .ok (.goto (-32), 3) := by decide +kernel
theorem dX7_enough_119 : decode cX7_enough 119 = .ok (.iinc 4 1, 3) := by decide +kernel
theorem dX7_enough_122 : decode cX7_enough 122 = .ok (.goto (-94), 3) := by decide +kernel
theorem dX7_enough_125 : decode cX7_enough 125 = .ok (.iload_n 2, 1) := by decide +kernel
theorem dX7_enough_126 : decode cX7_enough 126 = .ok (.bipush 24, 2) := by decide +kernel
theorem dX7_enough_128 : decode cX7_enough 128 = .ok (.if_icmp .ne 8, 3) := by decide +kernel
theorem dX7_enough_131 : decode cX7_enough 131 = .ok (.bipush (-2), 2) := by decide +kernel
theorem dX7_enough_133 : decode cX7_enough 133 = .ok (.goto 9, 3) := by decide +kernel
theorem dX7_enough_136 : decode cX7_enough 136 = .ok (.bipush 100, 2) := by decide +kernel
theorem dX7_enough_138 : decode cX7_enough 138 = .ok (.iload_n 2, 1) := by decide +kernel
theorem dX7_enough_139 : decode cX7_enough 139 = .ok (.imul, 1) := by decide +kernel
theorem dX7_enough_140 : decode cX7_enough 140 = .ok (.iload_n 3, 1) := by decide +kernel
theorem dX7_enough_141 : decode cX7_enough 141 = .ok (.iadd, 1) := by decide +kernel
theorem dX7_enough_142 : decode cX7_enough 142 = .ok (.ireturn, 1) := by decide +kernel
set_option maxRecDepth 20000 in
theorem ggX7_batch_X7_refuse : GoodIn wsX7_batch wsX7_refuse := goodIn_r _ [11, 6, 12, 13, 14, 15, 16, 17, 18, 19, 20, 21, 22, 23, 24, 25, 26, 27, 28, 29, 30, 31, 32, 33, 34, 35, 36, 37, 38, 39, 40, 41, 42, 43, 44, 45, 46, 47, 48, 49, 50, 51, 52, 53] (by decide +kernel) (by decide +kernel)
set_option maxRecDepth 20000 in
theorem gX7_batch_X7_refuse : GoodIn wsX7_batch (wsV RX7 126 RX7 yX7_refuse wsX7_refuse) := goodIn_app (goodIn_of _ (by decide +kernel)) ggX7_batch_X7_refuse
theorem dX7_batch_0 : decode cX7_batch 0 = .ok (.iload_n 1, 1) := by decide +kernel
theorem dX7_batch_1 : decode cX7_batch 1 = .ok (.iconst 1, 1) := by decide +kernel
theorem dX7_batch_2 : decode cX7_batch 2 = .ok (.if_icmp .lt 45, 3) := by decide +kernel
theorem dX7_batch_5 : decode cX7_batch 5 = .ok (.iload_n 1, 1) := by decide +kernel
theorem dX7_batch_6 : decode cX7_batch 6 = .ok (.sipush 10000, 3) := by decide +kernel
theorem dX7_batch_9 : decode cX7_batch 9 = .ok (.if_icmp .gt 38, 3) := by decide +kernel
theorem dX7_batch_12 : decode cX7_batch 12 = .ok (.iload_n 2, 1) := by decide +kernel
theorem dX7_batch_13 : decode cX7_batch 13 = .ok (.ifCond .lt 34, 3) := by decide +kernel
theorem dX7_batch_16 : decode cX7_batch 16 = .ok (.iload_n 2, 1) := by decide +kernel
theorem dX7_batch_17 : decode cX7_batch 17 = .ok (.bipush 24, 2) := by decide +kernel
theorem dX7_batch_19 : decode cX7_batch 19 = .ok (.if_icmp .ge 28, 3) := by decide +kernel
theorem dX7_batch_22 : decode cX7_batch 22 = .ok (.iload_n 3, 1) := by decide +kernel
theorem dX7_batch_23 : decode cX7_batch 23 = .ok (.iload_n 2, 1) := by decide +kernel
theorem dX7_batch_24 : decode cX7_batch 24 = .ok (.if_icmp .le 23, 3) := by decide +kernel
theorem dX7_batch_27 : decode cX7_batch 27 = .ok (.iload_n 3, 1) := by decide +kernel
theorem dX7_batch_28 : decode cX7_batch 28 = .ok (.bipush 24, 2) := by decide +kernel
theorem dX7_batch_30 : decode cX7_batch 30 = .ok (.if_icmp .gt 17, 3) := by decide +kernel
theorem dX7_batch_33 : decode cX7_batch 33 = .ok (.iload 4, 2) := by decide +kernel
theorem dX7_batch_35 : decode cX7_batch 35 = .ok (.iconst 1, 1) := by decide +kernel
theorem dX7_batch_36 : decode cX7_batch 36 = .ok (.if_icmp .lt 11, 3) := by decide +kernel
theorem dX7_batch_39 : decode cX7_batch 39 = .ok (.iload 4, 2) := by decide +kernel
theorem dX7_batch_41 : decode cX7_batch 41 = .ok (.sipush 1000, 3) := by decide +kernel
theorem dX7_batch_44 : decode cX7_batch 44 = .ok (.if_icmp .le 9, 3) := by decide +kernel
theorem dX7_batch_47 : decode cX7_batch 47 = .ok (.aload_n 0, 1) := by decide +kernel
theorem dX7_batch_48 : decode cX7_batch 48 = .ok (.iconst 1, 1) := by decide +kernel
theorem dX7_batch_49 : decode cX7_batch 49 = .ok (.invokevirtual 126, 3) := by decide +kernel
theorem dX7_batch_52 : decode cX7_batch 52 = .ok (.ireturn, 1) := by decide +kernel
theorem dX7_batch_53 : decode cX7_batch 53 = .ok (.aload_n 0, 1) := by decide +kernel
theorem dX7_batch_54 : decode cX7_batch 54 = .ok (.getfield 143, 3) := by decide +kernel
theorem dX7_batch_57 : decode cX7_batch 57 = .ok (.bipush 8, 2) := by decide +kernel
theorem dX7_batch_59 : decode cX7_batch 59 = .ok (.if_icmp .ne 9, 3) := by decide +kernel
theorem dX7_batch_62 : decode cX7_batch 62 = .ok (.aload_n 0, 1) := by decide +kernel
theorem dX7_batch_63 : decode cX7_batch 63 = .ok (.iconst 4, 1) := by decide +kernel
theorem dX7_batch_64 : decode cX7_batch 64 = .ok (.invokevirtual 126, 3) := by decide +kernel
theorem dX7_batch_67 : decode cX7_batch 67 = .ok (.ireturn, 1) := by decide +kernel
theorem dX7_batch_68 : decode cX7_batch 68 = .ok (.aload_n 0, 1) := by decide +kernel
theorem dX7_batch_69 : decode cX7_batch 69 = .ok (.getfield 51, 3) := by decide +kernel
theorem dX7_batch_72 : decode cX7_batch 72 = .ok (.aload_n 0, 1) := by decide +kernel
theorem dX7_batch_73 : decode cX7_batch 73 = .ok (.getfield 143, 3) := by decide +kernel
theorem dX7_batch_76 : decode cX7_batch 76 = .ok (.iload_n 1, 1) := by decide +kernel
theorem dX7_batch_77 : decode cX7_batch 77 = .ok (.iastore, 1) := by decide +kernel
theorem dX7_batch_78 : decode cX7_batch 78 = .ok (.aload_n 0, 1) := by decide +kernel
theorem dX7_batch_79 : decode cX7_batch 79 = .ok (.getfield 54, 3) := by decide +kernel
theorem dX7_batch_82 : decode cX7_batch 82 = .ok (.aload_n 0, 1) := by decide +kernel
theorem dX7_batch_83 : decode cX7_batch 83 = .ok (.getfield 143, 3) := by decide +kernel
theorem dX7_batch_86 : decode cX7_batch 86 = .ok (.iload_n 2, 1) := by decide +kernel
theorem dX7_batch_87 : decode cX7_batch 87 = .ok (.iastore, 1) := by decide +kernel
theorem dX7_batch_88 : decode cX7_batch 88 = .ok (.aload_n 0, 1) := by decide +kernel
theorem dX7_batch_89 : decode cX7_batch 89 = .ok (.getfield 57, 3) := by decide +kernel
theorem dX7_batch_92 : decode cX7_batch 92 = .ok (.aload_n 0, 1) := by decide +kernel
theorem dX7_batch_93 : decode cX7_batch 93 = .ok (.getfield 143, 3) := by decide +kernel
theorem dX7_batch_96 : decode cX7_batch 96 = .ok (.iload_n 3, 1) := by decide +kernel
theorem dX7_batch_97 : decode cX7_batch 97 = .ok (.iastore, 1) := by decide +kernel
theorem dX7_batch_98 : decode cX7_batch 98 = .ok (.aload_n 0, 1) := by decide +kernel
theorem dX7_batch_99 : decode cX7_batch 99 = .ok (.getfield 60, 3) := by decide +kernel
theorem dX7_batch_102 : decode cX7_batch 102 = .ok (.aload_n 0, 1) := by decide +kernel
theorem dX7_batch_103 : decode cX7_batch 103 = .ok (.getfield 143, 3) := by decide +kernel
theorem dX7_batch_106 : decode cX7_batch 106 = .ok (.iload 4, 2) := by decide +kernel
theorem dX7_batch_108 : decode cX7_batch 108 = .ok (.iastore, 1) := by decide +kernel
theorem dX7_batch_109 : decode cX7_batch 109 = .ok (.aload_n 0, 1) := by decide +kernel
theorem dX7_batch_110 : decode cX7_batch 110 = .ok (.dup, 1) := by decide +kernel
theorem dX7_batch_111 : decode cX7_batch 111 = .ok (.getfield 143, 3) := by decide +kernel
theorem dX7_batch_114 : decode cX7_batch 114 = .ok (.iconst 1, 1) := by decide +kernel
theorem dX7_batch_115 : decode cX7_batch 115 = .ok (.iadd, 1) := by decide +kernel
theorem dX7_batch_116 : decode cX7_batch 116 = .ok (.putfield 143, 3) := by decide +kernel
theorem dX7_batch_119 : decode cX7_batch 119 = .ok (.aload_n 0, 1) := by decide +kernel
theorem dX7_batch_120 : decode cX7_batch 120 = .ok (.iconst 0, 1) := by decide +kernel
theorem dX7_batch_121 : decode cX7_batch 121 = .ok (.putfield 105, 3) := by decide +kernel
theorem dX7_batch_124 : decode cX7_batch 124 = .ok (.aload_n 0, 1) := by decide +kernel
theorem dX7_batch_125 : decode cX7_batch 125 = .ok (.getfield 143, 3) := by decide +kernel
theorem dX7_batch_128 : decode cX7_batch 128 = .ok (.iconst 1, 1) := by decide +kernel
theorem dX7_batch_129 : decode cX7_batch 129 = .ok (.isub, 1) := by decide +kernel
theorem dX7_batch_130 : decode cX7_batch 130 = .ok (.ireturn, 1) := by decide +kernel
theorem dX7_isIn_0 : decode cX7_isIn 0 = .ok (.iload_n 2, 1) := by decide +kernel
theorem dX7_isIn_1 : decode cX7_isIn 1 = .ok (.aload_n 0, 1) := by decide +kernel
theorem dX7_isIn_2 : decode cX7_isIn 2 = .ok (.getfield 54, 3) := by decide +kernel
theorem dX7_isIn_5 : decode cX7_isIn 5 = .ok (.iload_n 1, 1) := by decide +kernel
theorem dX7_isIn_6 : decode cX7_isIn 6 = .ok (.iaload, 1) := by decide +kernel
theorem dX7_isIn_7 : decode cX7_isIn 7 = .ok (.if_icmp .lt 17, 3) := by decide +kernel
theorem dX7_isIn_10 : decode cX7_isIn 10 = .ok (.iload_n 2, 1) := by decide +kernel
theorem dX7_isIn_11 : decode cX7_isIn 11 = .ok (.aload_n 0, 1) := by decide +kernel
theorem dX7_isIn_12 : decode cX7_isIn 12 = .ok (.getfield 57, 3) := by decide +kernel
theorem dX7_isIn_15 : decode cX7_isIn 15 = .ok (.iload_n 1, 1) := by decide +kernel
theorem dX7_isIn_16 : decode cX7_isIn 16 = .ok (.iaload, 1) := by decide +kernel
theorem dX7_isIn_17 : decode cX7_isIn 17 = .ok (.if_icmp .ge 7, 3) := by decide +kernel
theorem dX7_isIn_20 : decode cX7_isIn 20 = .ok (.iconst 1, 1) := by decide +kernel
theorem dX7_isIn_21 : decode cX7_isIn 21 = .ok (.goto 4, 3) := by decide +kernel
theorem dX7_isIn_24 : decode cX7_isIn 24 = .ok (.iconst 0, 1) := by decide +kernel
theorem dX7_isIn_25 : decode cX7_isIn 25 = .ok (.ireturn, 1) := by decide +kernel
set_option maxRecDepth 20000 in
theorem ggX7_goes_X7_isIn : GoodIn wsX7_goes wsX7_isIn := goodIn_r _ [13, 14, 15, 16, 17, 18, 19, 20, 21, 22, 23, 24, 25, 26, 27, 28, 29, 30, 31, 32, 33, 34, 35, 36, 37, 38, 39, 40, 41, 42, 43, 44, 45, 46, 47, 48, 49, 50, 51, 52, 53, 54, 55, 56, 57] (by decide +kernel) (by decide +kernel)
set_option maxRecDepth 20000 in
theorem gX7_goes_X7_isIn : GoodIn wsX7_goes (wsV RX7 168 RX7 yX7_isIn wsX7_isIn) := goodIn_app (goodIn_of _ (by decide +kernel)) ggX7_goes_X7_isIn
theorem dX7_goes_0 : decode cX7_goes 0 = .ok (.iload_n 1, 1) := by decide +kernel
theorem dX7_goes_1 : decode cX7_goes 1 = .ok (.bipush 33, 2) := by decide +kernel
theorem dX7_goes_3 : decode cX7_goes 3 = .ok (.if_icmp .ne 29, 3) := by decide +kernel
theorem dX7_goes_6 : decode cX7_goes 6 = .ok (.iload_n 2, 1) := by decide +kernel
theorem dX7_goes_7 : decode cX7_goes 7 = .ok (.aload_n 0, 1) := by decide +kernel
theorem dX7_goes_8 : decode cX7_goes 8 = .ok (.getfield 143, 3) := by decide +kernel
theorem dX7_goes_11 : decode cX7_goes 11 = .ok (.if_icmp .ge 19, 3) := by decide +kernel
theorem dX7_goes_14 : decode cX7_goes 14 = .ok (.aload_n 0, 1) := by decide +kernel
theorem dX7_goes_15 : decode cX7_goes 15 = .ok (.getfield 51, 3) := by decide +kernel
theorem dX7_goes_18 : decode cX7_goes 18 = .ok (.iload_n 2, 1) := by decide +kernel
theorem dX7_goes_19 : decode cX7_goes 19 = .ok (.iaload, 1) := by decide +kernel
theorem dX7_goes_20 : decode cX7_goes 20 = .ok (.aload_n 0, 1) := by decide +kernel
theorem dX7_goes_21 : decode cX7_goes 21 = .ok (.getfield 72, 3) := by decide +kernel
theorem dX7_goes_24 : decode cX7_goes 24 = .ok (.iload_n 2, 1) := by decide +kernel
theorem dX7_goes_25 : decode cX7_goes 25 = .ok (.iaload, 1) := by decide +kernel
theorem dX7_goes_26 : decode cX7_goes 26 = .ok (.isub, 1) := by decide +kernel
theorem dX7_goes_27 : decode cX7_goes 27 = .ok (.goto 4, 3) := by decide +kernel
theorem dX7_goes_30 : decode cX7_goes 30 = .ok (.iconst 0, 1) := by decide +kernel
theorem dX7_goes_31 : decode cX7_goes 31 = .ok (.ireturn, 1) := by decide +kernel
theorem dX7_goes_32 : decode cX7_goes 32 = .ok (.iload_n 2, 1) := by decide +kernel
theorem dX7_goes_33 : decode cX7_goes 33 = .ok (.bipush 33, 2) := by decide +kernel
theorem dX7_goes_35 : decode cX7_goes 35 = .ok (.if_icmp .ne 5, 3) := by decide +kernel
theorem dX7_goes_38 : decode cX7_goes 38 = .ok (.iconst 0, 1) := by decide +kernel
theorem dX7_goes_39 : decode cX7_goes 39 = .ok (.ireturn, 1) := by decide +kernel
theorem dX7_goes_40 : decode cX7_goes 40 = .ok (.iload_n 1, 1) := by decide +kernel
theorem dX7_goes_41 : decode cX7_goes 41 = .ok (.bipush 8, 2) := by decide +kernel
theorem dX7_goes_43 : decode cX7_goes 43 = .ok (.if_icmp .ge 78, 3) := by decide +kernel
theorem dX7_goes_46 : decode cX7_goes 46 = .ok (.iload_n 2, 1) := by decide +kernel
theorem dX7_goes_47 : decode cX7_goes 47 = .ok (.bipush 8, 2) := by decide +kernel
theorem dX7_goes_49 : decode cX7_goes 49 = .ok (.if_icmp .lt 72, 3) := by decide +kernel
theorem dX7_goes_52 : decode cX7_goes 52 = .ok (.iload_n 2, 1) := by decide +kernel
theorem dX7_goes_53 : decode cX7_goes 53 = .ok (.bipush 32, 2) := by decide +kernel
theorem dX7_goes_55 : decode cX7_goes 55 = .ok (.if_icmp .ge 66, 3) := by decide +kernel
theorem dX7_goes_58 : decode cX7_goes 58 = .ok (.iload_n 1, 1) := by decide +kernel
theorem dX7_goes_59 : decode cX7_goes 59 = .ok (.aload_n 0, 1) := by decide +kernel
theorem dX7_goes_60 : decode cX7_goes 60 = .ok (.getfield 143, 3) := by decide +kernel
theorem dX7_goes_63 : decode cX7_goes 63 = .ok (.if_icmp .ge 56, 3) := by decide +kernel
theorem dX7_goes_66 : decode cX7_goes 66 = .ok (.aload_n 0, 1) := by decide +kernel
theorem dX7_goes_67 : decode cX7_goes 67 = .ok (.iload_n 1, 1) := by decide +kernel
theorem dX7_goes_68 : decode cX7_goes 68 = .ok (.iload_n 2, 1) := by decide +kernel
theorem dX7_goes_69 : decode cX7_goes 69 = .ok (.bipush 8, 2) := by decide +kernel
theorem dX7_goes_71 : decode cX7_goes 71 = .ok (.isub, 1) := by decide +kernel
theorem dX7_goes_72 : decode cX7_goes 72 = .ok (.invokevirtual 168, 3) := by decide +kernel
theorem dX7_goes_75 : decode cX7_goes 75 = .ok (.ifCond .eq 44, 3) := by decide +kernel
theorem dX7_goes_78 : decode cX7_goes 78 = .ok (.aload_n 0, 1) := by decide +kernel
theorem dX7_goes_79 : decode cX7_goes 79 = .ok (.getfield 75, 3) := by decide +kernel
theorem dX7_goes_82 : decode cX7_goes 82 = .ok (.bipush 24, 2) := by decide +kernel
theorem dX7_goes_84 : decode cX7_goes 84 = .ok (.iload_n 1, 1) := by decide +kernel
theorem dX7_goes_85 : decode cX7_goes 85 = .ok (.imul, 1) := by decide +kernel
theorem dX7_goes_86 : decode cX7_goes 86 = .ok (.iload_n 2, 1) := by decide +kernel
theorem dX7_goes_87 : decode cX7_goes 87 = .ok (.iadd, 1) := by decide +kernel
theorem dX7_goes_88 : decode cX7_goes 88 = .ok (.bipush 8, 2) := by decide +kernel
theorem dX7_goes_90 : decode cX7_goes 90 = .ok (.isub, 1) := by decide +kernel
theorem dX7_goes_91 : decode cX7_goes 91 = .ok (.baload, 1) := by decide +kernel
theorem dX7_goes_92 : decode cX7_goes 92 = .ok (.ifCond .ne 27, 3) := by decide +kernel
theorem dX7_goes_95 : decode cX7_goes 95 = .ok (.aload_n 0, 1) := by decide +kernel
theorem dX7_goes_96 : decode cX7_goes 96 = .ok (.getfield 60, 3) := by decide +kernel
theorem dX7_goes_99 : decode cX7_goes 99 = .ok (.iload_n 1, 1) := by decide +kernel
theorem dX7_goes_100 : decode cX7_goes 100 = .ok (.iaload, 1) := by decide +kernel
theorem dX7_goes_101 : decode cX7_goes 101 = .ok (.aload_n 0, 1) := by decide +kernel
theorem dX7_goes_102 : decode cX7_goes 102 = .ok (.getfield 63, 3) := by decide +kernel
theorem dX7_goes_105 : decode cX7_goes 105 = .ok (.bipush 24, 2) := by decide +kernel
theorem dX7_goes_107 : decode cX7_goes 107 = .ok (.iload_n 1, 1) := by decide +kernel
theorem dX7_goes_108 : decode cX7_goes 108 = .ok (.imul, 1) := by decide +kernel
theorem dX7_goes_109 : decode cX7_goes 109 = .ok (.iload_n 2, 1) := by decide +kernel
theorem dX7_goes_110 : decode cX7_goes 110 = .ok (.iadd, 1) := by decide +kernel
theorem dX7_goes_111 : decode cX7_goes 111 = .ok (.bipush 8, 2) := by decide +kernel
theorem dX7_goes_113 : decode cX7_goes 113 = .ok (.isub, 1) := by decide +kernel
theorem dX7_goes_114 : decode cX7_goes 114 = .ok (.iaload, 1) := by decide +kernel
theorem dX7_goes_115 : decode cX7_goes 115 = .ok (.isub, 1) := by decide +kernel
theorem dX7_goes_116 : decode cX7_goes 116 = .ok (.goto 4, 3) := by decide +kernel
theorem dX7_goes_119 : decode cX7_goes 119 = .ok (.iconst 0, 1) := by decide +kernel
theorem dX7_goes_120 : decode cX7_goes 120 = .ok (.ireturn, 1) := by decide +kernel
theorem dX7_goes_121 : decode cX7_goes 121 = .ok (.iload_n 1, 1) := by decide +kernel
theorem dX7_goes_122 : decode cX7_goes 122 = .ok (.bipush 8, 2) := by decide +kernel
theorem dX7_goes_124 : decode cX7_goes 124 = .ok (.if_icmp .lt 59, 3) := by decide +kernel
theorem dX7_goes_127 : decode cX7_goes 127 = .ok (.iload_n 1, 1) := by decide +kernel
theorem dX7_goes_128 : decode cX7_goes 128 = .ok (.bipush 32, 2) := by decide +kernel
theorem dX7_goes_130 : decode cX7_goes 130 = .ok (.if_icmp .ge 53, 3) := by decide +kernel
theorem dX7_goes_133 : decode cX7_goes 133 = .ok (.iload_n 2, 1) := by decide +kernel
theorem dX7_goes_134 : decode cX7_goes 134 = .ok (.bipush 8, 2) := by decide +kernel
theorem dX7_goes_136 : decode cX7_goes 136 = .ok (.if_icmp .ge 47, 3) := by decide +kernel
theorem dX7_goes_139 : decode cX7_goes 139 = .ok (.iload_n 2, 1) := by decide +kernel
theorem dX7_goes_140 : decode cX7_goes 140 = .ok (.aload_n 0, 1) := by decide +kernel
theorem dX7_goes_141 : decode cX7_goes 141 = .ok (.getfield 143, 3) := by decide +kernel
theorem dX7_goes_144 : decode cX7_goes 144 = .ok (.if_icmp .ge 37, 3) := by decide +kernel
theorem dX7_goes_147 : decode cX7_goes 147 = .ok (.aload_n 0, 1) := by decide +kernel
theorem dX7_goes_148 : decode cX7_goes 148 = .ok (.getfield 75, 3) := by decide +kernel
theorem dX7_goes_151 : decode cX7_goes 151 = .ok (.bipush 24, 2) := by decide +kernel
theorem dX7_goes_153 : decode cX7_goes 153 = .ok (.iload_n 2, 1) := by decide +kernel
theorem dX7_goes_154 : decode cX7_goes 154 = .ok (.imul, 1) := by decide +kernel
theorem dX7_goes_155 : decode cX7_goes 155 = .ok (.iload_n 1, 1) := by decide +kernel
theorem dX7_goes_156 : decode cX7_goes 156 = .ok (.iadd, 1) := by decide +kernel
theorem dX7_goes_157 : decode cX7_goes 157 = .ok (.bipush 8, 2) := by decide +kernel
theorem dX7_goes_159 : decode cX7_goes 159 = .ok (.isub, 1) := by decide +kernel
theorem dX7_goes_160 : decode cX7_goes 160 = .ok (.baload, 1) := by decide +kernel
theorem dX7_goes_161 : decode cX7_goes 161 = .ok (.ifCond .ne 20, 3) := by decide +kernel
theorem dX7_goes_164 : decode cX7_goes 164 = .ok (.aload_n 0, 1) := by decide +kernel
theorem dX7_goes_165 : decode cX7_goes 165 = .ok (.getfield 63, 3) := by decide +kernel
theorem dX7_goes_168 : decode cX7_goes 168 = .ok (.bipush 24, 2) := by decide +kernel
theorem dX7_goes_170 : decode cX7_goes 170 = .ok (.iload_n 2, 1) := by decide +kernel
theorem dX7_goes_171 : decode cX7_goes 171 = .ok (.imul, 1) := by decide +kernel
theorem dX7_goes_172 : decode cX7_goes 172 = .ok (.iload_n 1, 1) := by decide +kernel
theorem dX7_goes_173 : decode cX7_goes 173 = .ok (.iadd, 1) := by decide +kernel
theorem dX7_goes_174 : decode cX7_goes 174 = .ok (.bipush 8, 2) := by decide +kernel
theorem dX7_goes_176 : decode cX7_goes 176 = .ok (.isub, 1) := by decide +kernel
theorem dX7_goes_177 : decode cX7_goes 177 = .ok (.iaload, 1) := by decide +kernel
theorem dX7_goes_178 : decode cX7_goes 178 = .ok (.goto 4, 3) := by decide +kernel
theorem dX7_goes_181 : decode cX7_goes 181 = .ok (.iconst 0, 1) := by decide +kernel
theorem dX7_goes_182 : decode cX7_goes 182 = .ok (.ireturn, 1) := by decide +kernel
theorem dX7_goes_183 : decode cX7_goes 183 = .ok (.iload_n 1, 1) := by decide +kernel
theorem dX7_goes_184 : decode cX7_goes 184 = .ok (.bipush 8, 2) := by decide +kernel
theorem dX7_goes_186 : decode cX7_goes 186 = .ok (.if_icmp .lt 35, 3) := by decide +kernel
theorem dX7_goes_189 : decode cX7_goes 189 = .ok (.iload_n 1, 1) := by decide +kernel
theorem dX7_goes_190 : decode cX7_goes 190 = .ok (.bipush 32, 2) := by decide +kernel
theorem dX7_goes_192 : decode cX7_goes 192 = .ok (.if_icmp .ge 29, 3) := by decide +kernel
theorem dX7_goes_195 : decode cX7_goes 195 = .ok (.iload_n 2, 1) := by decide +kernel
theorem dX7_goes_196 : decode cX7_goes 196 = .ok (.bipush 32, 2) := by decide +kernel
theorem dX7_goes_198 : decode cX7_goes 198 = .ok (.if_icmp .ne 23, 3) := by decide +kernel
theorem dX7_goes_201 : decode cX7_goes 201 = .ok (.aload_n 0, 1) := by decide +kernel
theorem dX7_goes_202 : decode cX7_goes 202 = .ok (.getfield 66, 3) := by decide +kernel
theorem dX7_goes_205 : decode cX7_goes 205 = .ok (.iload_n 1, 1) := by decide +kernel
theorem dX7_goes_206 : decode cX7_goes 206 = .ok (.bipush 8, 2) := by decide +kernel
theorem dX7_goes_208 : decode cX7_goes 208 = .ok (.isub, 1) := by decide +kernel
theorem dX7_goes_209 : decode cX7_goes 209 = .ok (.iaload, 1) := by decide +kernel
theorem dX7_goes_210 : decode cX7_goes 210 = .ok (.aload_n 0, 1) := by decide +kernel
theorem dX7_goes_211 : decode cX7_goes 211 = .ok (.getfield 69, 3) := by decide +kernel
theorem dX7_goes_214 : decode cX7_goes 214 = .ok (.iload_n 1, 1) := by decide +kernel
theorem dX7_goes_215 : decode cX7_goes 215 = .ok (.bipush 8, 2) := by decide +kernel
theorem dX7_goes_217 : decode cX7_goes 217 = .ok (.isub, 1) := by decide +kernel
theorem dX7_goes_218 : decode cX7_goes 218 = .ok (.iaload, 1) := by decide +kernel
theorem dX7_goes_219 : decode cX7_goes 219 = .ok (.isub, 1) := by decide +kernel
theorem dX7_goes_220 : decode cX7_goes 220 = .ok (.ireturn, 1) := by decide +kernel
theorem dX7_goes_221 : decode cX7_goes 221 = .ok (.iload_n 1, 1) := by decide +kernel
theorem dX7_goes_222 : decode cX7_goes 222 = .ok (.bipush 32, 2) := by decide +kernel
theorem dX7_goes_224 : decode cX7_goes 224 = .ok (.if_icmp .ne 25, 3) := by decide +kernel
theorem dX7_goes_227 : decode cX7_goes 227 = .ok (.iload_n 2, 1) := by decide +kernel
theorem dX7_goes_228 : decode cX7_goes 228 = .ok (.bipush 8, 2) := by decide +kernel
theorem dX7_goes_230 : decode cX7_goes 230 = .ok (.if_icmp .lt 19, 3) := by decide +kernel
theorem dX7_goes_233 : decode cX7_goes 233 = .ok (.iload_n 2, 1) := by decide +kernel
theorem dX7_goes_234 : decode cX7_goes 234 = .ok (.bipush 32, 2) := by decide +kernel
theorem dX7_goes_236 : decode cX7_goes 236 = .ok (.if_icmp .ge 13, 3) := by decide +kernel
theorem dX7_goes_239 : decode cX7_goes 239 = .ok (.aload_n 0, 1) := by decide +kernel
theorem dX7_goes_240 : decode cX7_goes 240 = .ok (.getfield 69, 3) := by decide +kernel
theorem dX7_goes_243 : decode cX7_goes 243 = .ok (.iload_n 2, 1) := by decide +kernel
theorem dX7_goes_244 : decode cX7_goes 244 = .ok (.bipush 8, 2) := by decide +kernel
theorem dX7_goes_246 : decode cX7_goes 246 = .ok (.isub, 1) := by decide +kernel
theorem dX7_goes_247 : decode cX7_goes 247 = .ok (.iaload, 1) := by decide +kernel
theorem dX7_goes_248 : decode cX7_goes 248 = .ok (.ireturn, 1) := by decide +kernel
theorem dX7_goes_249 : decode cX7_goes 249 = .ok (.iconst 0, 1) := by decide +kernel
theorem dX7_goes_250 : decode cX7_goes 250 = .ok (.ireturn, 1) := by decide +kernel
theorem dX7_moves_0 : decode cX7_moves 0 = .ok (.iload_n 1, 1) := by decide +kernel
theorem dX7_moves_1 : decode cX7_moves 1 = .ok (.bipush 33, 2) := by decide +kernel
theorem dX7_moves_3 : decode cX7_moves 3 = .ok (.if_icmp .ne 16, 3) := by decide +kernel
theorem dX7_moves_6 : decode cX7_moves 6 = .ok (.aload_n 0, 1) := by decide +kernel
theorem dX7_moves_7 : decode cX7_moves 7 = .ok (.getfield 72, 3) := by decide +kernel
theorem dX7_moves_10 : decode cX7_moves 10 = .ok (.iload_n 2, 1) := by decide +kernel
theorem dX7_moves_11 : decode cX7_moves 11 = .ok (.dup2, 1) := by decide +kernel
theorem dX7_moves_12 : decode cX7_moves 12 = .ok (.iaload, 1) := by decide +kernel
theorem dX7_moves_13 : decode cX7_moves 13 = .ok (.iload_n 3, 1) := by decide +kernel
theorem dX7_moves_14 : decode cX7_moves 14 = .ok (.iadd, 1) := by decide +kernel
theorem dX7_moves_15 : decode cX7_moves 15 = .ok (.iastore, 1) := by decide +kernel
theorem dX7_moves_16 : decode cX7_moves 16 = .ok (.goto 92, 3) := by decide +kernel
theorem dX7_moves_19 : decode cX7_moves 19 = .ok (.iload_n 1, 1) := by decide +kernel
theorem dX7_moves_20 : decode cX7_moves 20 = .ok (.bipush 8, 2) := by decide +kernel
theorem dX7_moves_22 : decode cX7_moves 22 = .ok (.if_icmp .ge 24, 3) := by decide +kernel
theorem dX7_moves_25 : decode cX7_moves 25 = .ok (.aload_n 0, 1) := by decide +kernel
theorem dX7_moves_26 : decode cX7_moves 26 = .ok (.getfield 63, 3) := by decide +kernel
theorem dX7_moves_29 : decode cX7_moves 29 = .ok (.bipush 24, 2) := by decide +kernel
theorem dX7_moves_31 : decode cX7_moves 31 = .ok (.iload_n 1, 1) := by decide +kernel
theorem dX7_moves_32 : decode cX7_moves 32 = .ok (.imul, 1) := by decide +kernel
theorem dX7_moves_33 : decode cX7_moves 33 = .ok (.iload_n 2, 1) := by decide +kernel
theorem dX7_moves_34 : decode cX7_moves 34 = .ok (.iadd, 1) := by decide +kernel
theorem dX7_moves_35 : decode cX7_moves 35 = .ok (.bipush 8, 2) := by decide +kernel
theorem dX7_moves_37 : decode cX7_moves 37 = .ok (.isub, 1) := by decide +kernel
theorem dX7_moves_38 : decode cX7_moves 38 = .ok (.dup2, 1) := by decide +kernel
theorem dX7_moves_39 : decode cX7_moves 39 = .ok (.iaload, 1) := by decide +kernel
theorem dX7_moves_40 : decode cX7_moves 40 = .ok (.iload_n 3, 1) := by decide +kernel
theorem dX7_moves_41 : decode cX7_moves 41 = .ok (.iadd, 1) := by decide +kernel
theorem dX7_moves_42 : decode cX7_moves 42 = .ok (.iastore, 1) := by decide +kernel
theorem dX7_moves_43 : decode cX7_moves 43 = .ok (.goto 65, 3) := by decide +kernel
theorem dX7_moves_46 : decode cX7_moves 46 = .ok (.iload_n 2, 1) := by decide +kernel
theorem dX7_moves_47 : decode cX7_moves 47 = .ok (.bipush 8, 2) := by decide +kernel
theorem dX7_moves_49 : decode cX7_moves 49 = .ok (.if_icmp .ge 24, 3) := by decide +kernel
theorem dX7_moves_52 : decode cX7_moves 52 = .ok (.aload_n 0, 1) := by decide +kernel
theorem dX7_moves_53 : decode cX7_moves 53 = .ok (.getfield 63, 3) := by decide +kernel
theorem dX7_moves_56 : decode cX7_moves 56 = .ok (.bipush 24, 2) := by decide +kernel
theorem dX7_moves_58 : decode cX7_moves 58 = .ok (.iload_n 2, 1) := by decide +kernel
theorem dX7_moves_59 : decode cX7_moves 59 = .ok (.imul, 1) := by decide +kernel
theorem dX7_moves_60 : decode cX7_moves 60 = .ok (.iload_n 1, 1) := by decide +kernel
theorem dX7_moves_61 : decode cX7_moves 61 = .ok (.iadd, 1) := by decide +kernel
theorem dX7_moves_62 : decode cX7_moves 62 = .ok (.bipush 8, 2) := by decide +kernel
theorem dX7_moves_64 : decode cX7_moves 64 = .ok (.isub, 1) := by decide +kernel
theorem dX7_moves_65 : decode cX7_moves 65 = .ok (.dup2, 1) := by decide +kernel
theorem dX7_moves_66 : decode cX7_moves 66 = .ok (.iaload, 1) := by decide +kernel
theorem dX7_moves_67 : decode cX7_moves 67 = .ok (.iload_n 3, 1) := by decide +kernel
theorem dX7_moves_68 : decode cX7_moves 68 = .ok (.isub, 1) := by decide +kernel
theorem dX7_moves_69 : decode cX7_moves 69 = .ok (.iastore, 1) := by decide +kernel
theorem dX7_moves_70 : decode cX7_moves 70 = .ok (.goto 38, 3) := by decide +kernel
theorem dX7_moves_73 : decode cX7_moves 73 = .ok (.iload_n 2, 1) := by decide +kernel
theorem dX7_moves_74 : decode cX7_moves 74 = .ok (.bipush 32, 2) := by decide +kernel
theorem dX7_moves_76 : decode cX7_moves 76 = .ok (.if_icmp .ne 19, 3) := by decide +kernel
theorem dX7_moves_79 : decode cX7_moves 79 = .ok (.aload_n 0, 1) := by decide +kernel
theorem dX7_moves_80 : decode cX7_moves 80 = .ok (.getfield 69, 3) := by decide +kernel
theorem dX7_moves_83 : decode cX7_moves 83 = .ok (.iload_n 1, 1) := by decide +kernel
theorem dX7_moves_84 : decode cX7_moves 84 = .ok (.bipush 8, 2) := by decide +kernel
theorem dX7_moves_86 : decode cX7_moves 86 = .ok (.isub, 1) := by decide +kernel
theorem dX7_moves_87 : decode cX7_moves 87 = .ok (.dup2, 1) := by decide +kernel
theorem dX7_moves_88 : decode cX7_moves 88 = .ok (.iaload, 1) := by decide +kernel
theorem dX7_moves_89 : decode cX7_moves 89 = .ok (.iload_n 3, 1) := by decide +kernel
theorem dX7_moves_90 : decode cX7_moves 90 = .ok (.iadd, 1) := by decide +kernel
theorem dX7_moves_91 : decode cX7_moves 91 = .ok (.iastore, 1) := by decide +kernel
theorem dX7_moves_92 : decode cX7_moves 92 = .ok (.goto 16, 3) := by decide +kernel
theorem dX7_moves_95 : decode cX7_moves 95 = .ok (.aload_n 0, 1) := by decide +kernel
theorem dX7_moves_96 : decode cX7_moves 96 = .ok (.getfield 69, 3) := by decide +kernel
theorem dX7_moves_99 : decode cX7_moves 99 = .ok (.iload_n 2, 1) := by decide +kernel
theorem dX7_moves_100 : decode cX7_moves 100 = .ok (.bipush 8, 2) := by decide +kernel
theorem dX7_moves_102 : decode cX7_moves 102 = .ok (.isub, 1) := by decide +kernel
theorem dX7_moves_103 : decode cX7_moves 103 = .ok (.dup2, 1) := by decide +kernel
theorem dX7_moves_104 : decode cX7_moves 104 = .ok (.iaload, 1) := by decide +kernel
theorem dX7_moves_105 : decode cX7_moves 105 = .ok (.iload_n 3, 1) := by decide +kernel
theorem dX7_moves_106 : decode cX7_moves 106 = .ok (.isub, 1) := by decide +kernel
theorem dX7_moves_107 : decode cX7_moves 107 = .ok (.iastore, 1) := by decide +kernel
theorem dX7_moves_108 : decode cX7_moves 108 = .ok (.return_, 1) := by decide +kernel
set_option maxRecDepth 20000 in
theorem ggX7_isWay_X7_goes : GoodIn wsX7_isWay wsX7_goes := goodIn_r _ [7, 8, 9, 10, 11, 12, 13, 14, 15, 16, 17, 18, 6, 19, 20, 21, 22, 23, 24, 25, 26, 27, 28, 29, 30, 31, 32, 33, 34, 35, 36, 37, 38, 39, 40, 41, 42, 43, 44, 45, 46, 47, 48, 49, 50, 51, 52, 53, 54, 55, 56, 57, 58, 59, 60, 61, 62, 63] (by decide +kernel) (by decide +kernel)
set_option maxRecDepth 20000 in
theorem gX7_isWay_X7_goes : GoodIn wsX7_isWay (wsV RX7 171 RX7 yX7_goes wsX7_goes) := goodIn_app (goodIn_of _ (by decide +kernel)) ggX7_isWay_X7_goes
theorem dX7_isWay_0 : decode cX7_isWay 0 = .ok (.iconst 0, 1) := by decide +kernel
theorem dX7_isWay_1 : decode cX7_isWay 1 = .ok (.istore_n 3, 1) := by decide +kernel
theorem dX7_isWay_2 : decode cX7_isWay 2 = .ok (.iload_n 3, 1) := by decide +kernel
theorem dX7_isWay_3 : decode cX7_isWay 3 = .ok (.aload_n 0, 1) := by decide +kernel
theorem dX7_isWay_4 : decode cX7_isWay 4 = .ok (.getfield 78, 3) := by decide +kernel
theorem dX7_isWay_7 : decode cX7_isWay 7 = .ok (.arraylength, 1) := by decide +kernel
theorem dX7_isWay_8 : decode cX7_isWay 8 = .ok (.if_icmp .ge 16, 3) := by decide +kernel
theorem dX7_isWay_11 : decode cX7_isWay 11 = .ok (.aload_n 0, 1) := by decide +kernel
theorem dX7_isWay_12 : decode cX7_isWay 12 = .ok (.getfield 78, 3) := by decide +kernel
theorem dX7_isWay_15 : decode cX7_isWay 15 = .ok (.iload_n 3, 1) := by decide +kernel
theorem dX7_isWay_16 : decode cX7_isWay 16 = .ok (.iconst (-1), 1) := by decide +kernel
theorem dX7_isWay_17 : decode cX7_isWay 17 = .ok (.iastore, 1) := by decide +kernel
theorem dX7_isWay_18 : decode cX7_isWay 18 = .ok (.iinc 3 1, 3) := by decide +kernel
theorem dX7_isWay_21 : decode cX7_isWay 21 = .ok (.goto (-19), 3) := by decide +kernel
theorem dX7_isWay_24 : decode cX7_isWay 24 = .ok (.aload_n 0, 1) := by decide +kernel
theorem dX7_isWay_25 : decode cX7_isWay 25 = .ok (.getfield 78, 3) := by decide +kernel
theorem dX7_isWay_28 : decode cX7_isWay 28 = .ok (.iload_n 1, 1) := by decide +kernel
theorem dX7_isWay_29 : decode cX7_isWay 29 = .ok (.iload_n 1, 1) := by decide +kernel
theorem dX7_isWay_30 : decode cX7_isWay 30 = .ok (.iastore, 1) := by decide +kernel
theorem dX7_isWay_31 : decode cX7_isWay 31 = .ok (.aload_n 0, 1) := by decide +kernel
theorem dX7_isWay_32 : decode cX7_isWay 32 = .ok (.getfield 81, 3) := by decide +kernel
theorem dX7_isWay_35 : decode cX7_isWay 35 = .ok (.iconst 0, 1) := by decide +kernel
theorem dX7_isWay_36 : decode cX7_isWay 36 = .ok (.iload_n 1, 1) := by decide +kernel
theorem dX7_isWay_37 : decode cX7_isWay 37 = .ok (.iastore, 1) := by decide +kernel
theorem dX7_isWay_38 : decode cX7_isWay 38 = .ok (.iconst 1, 1) := by decide +kernel
theorem dX7_isWay_39 : decode cX7_isWay 39 = .ok (.istore_n 3, 1) := by decide +kernel
theorem dX7_isWay_40 : decode cX7_isWay 40 = .ok (.iconst 0, 1) := by decide +kernel
theorem dX7_isWay_41 : decode cX7_isWay 41 = .ok (.istore 4, 2) := by decide +kernel
theorem dX7_isWay_43 : decode cX7_isWay 43 = .ok (.iload 4, 2) := by decide +kernel
theorem dX7_isWay_45 : decode cX7_isWay 45 = .ok (.iload_n 3, 1) := by decide +kernel
theorem dX7_isWay_46 : decode cX7_isWay 46 = .ok (.if_icmp .ge 90, 3) := by decide +kernel
theorem dX7_isWay_49 : decode cX7_isWay 49 = .ok (.aload_n 0, 1) := by decide +kernel
theorem dX7_isWay_50 : decode cX7_isWay 50 = .ok (.getfield 78, 3) := by decide +kernel
theorem dX7_isWay_53 : decode cX7_isWay 53 = .ok (.iload_n 2, 1) := by decide +kernel
theorem dX7_isWay_54 : decode cX7_isWay 54 = .ok (.iaload, 1) := by decide +kernel
theorem dX7_isWay_55 : decode cX7_isWay 55 = .ok (.iconst (-1), 1) := by decide +kernel
theorem dX7_isWay_56 : decode cX7_isWay 56 = .ok (.if_icmp .ne 80, 3) := by decide +kernel
theorem dX7_isWay_59 : decode cX7_isWay 59 = .ok (.iconst 0, 1) := by decide +kernel
theorem dX7_isWay_60 : decode cX7_isWay 60 = .ok (.istore 5, 2) := by decide +kernel
theorem dX7_isWay_62 : decode cX7_isWay 62 = .ok (.iload 5, 2) := by decide +kernel
theorem dX7_isWay_64 : decode cX7_isWay 64 = .ok (.bipush 34, 2) := by decide +kernel
theorem dX7_isWay_66 : decode cX7_isWay 66 = .ok (.if_icmp .ge 64, 3) := by decide +kernel
theorem dX7_isWay_69 : decode cX7_isWay 69 = .ok (.aload_n 0, 1) := by decide +kernel
theorem dX7_isWay_70 : decode cX7_isWay 70 = .ok (.getfield 78, 3) := by decide +kernel
theorem dX7_isWay_73 : decode cX7_isWay 73 = .ok (.iload 5, 2) := by decide +kernel
theorem dX7_isWay_75 : decode cX7_isWay 75 = .ok (.iaload, 1) := by decide +kernel
theorem dX7_isWay_76 : decode cX7_isWay 76 = .ok (.iconst (-1), 1) := by decide +kernel
theorem dX7_isWay_77 : decode cX7_isWay 77 = .ok (.if_icmp .ne 47, 3) := by decide +kernel
theorem dX7_isWay_80 : decode cX7_isWay 80 = .ok (.aload_n 0, 1) := by decide +kernel
theorem dX7_isWay_81 : decode cX7_isWay 81 = .ok (.aload_n 0, 1) := by decide +kernel
theorem dX7_isWay_82 : decode cX7_isWay 82 = .ok (.getfield 81, 3) := by decide +kernel
theorem dX7_isWay_85 : decode cX7_isWay 85 = .ok (.iload 4, 2) := by decide +kernel
theorem dX7_isWay_87 : decode cX7_isWay 87 = .ok (.iaload, 1) := by decide +kernel
theorem dX7_isWay_88 : decode cX7_isWay 88 = .ok (.iload 5, 2) := by decide +kernel
theorem dX7_isWay_90 : decode cX7_isWay 90 = .ok (.invokevirtual 171, 3) := by decide +kernel
theorem dX7_isWay_93 : decode cX7_isWay 93 = .ok (.ifCond .ne 6, 3) := by decide +kernel
theorem dX7_isWay_96 : decode cX7_isWay 96 = .ok (.goto 28, 3) := by decide +kernel
theorem dX7_isWay_99 : decode cX7_isWay 99 = .ok (.aload_n 0, 1) := by decide +kernel
theorem dX7_isWay_100 : decode cX7_isWay 100 = .ok (.getfield 78, 3) := by decide +kernel
theorem dX7_isWay_103 : decode cX7_isWay 103 = .ok (.iload 5, 2) := by decide +kernel
theorem dX7_isWay_105 : decode cX7_isWay 105 = .ok (.aload_n 0, 1) := by decide +kernel
theorem dX7_isWay_106 : decode cX7_isWay 106 = .ok (.getfield 81, 3) := by decide +kernel
theorem dX7_isWay_109 : decode cX7_isWay 109 = .ok (.iload 4, 2) := by decide +kernel
theorem dX7_isWay_111 : decode cX7_isWay 111 = .ok (.iaload, 1) := by decide +kernel
theorem dX7_isWay_112 : decode cX7_isWay 112 = .ok (.iastore, 1) := by decide +kernel
theorem dX7_isWay_113 : decode cX7_isWay 113 = .ok (.aload_n 0, 1) := by decide +kernel
theorem dX7_isWay_114 : decode cX7_isWay 114 = .ok (.getfield 81, 3) := by decide +kernel
theorem dX7_isWay_117 : decode cX7_isWay 117 = .ok (.iload_n 3, 1) := by decide +kernel
theorem dX7_isWay_118 : decode cX7_isWay 118 = .ok (.iload 5, 2) := by decide +kernel
theorem dX7_isWay_120 : decode cX7_isWay 120 = .ok (.iastore, 1) := by decide +kernel
theorem dX7_isWay_121 : decode cX7_isWay 121 = .ok (.iinc 3 1, 3) := by decide +kernel
theorem dX7_isWay_124 : decode cX7_isWay 124 = .ok (.iinc 5 1, 3) := by decide +kernel
theorem dX7_isWay_127 : decode cX7_isWay 127 = .ok (.goto (-65), 3) := by decide +kernel
theorem dX7_isWay_130 : decode cX7_isWay 130 = .ok (.iinc 4 1, 3) := by decide +kernel
theorem dX7_isWay_133 : decode cX7_isWay 133 = .ok (.goto (-90), 3) := by decide +kernel
theorem dX7_isWay_136 : decode cX7_isWay 136 = .ok (.aload_n 0, 1) := by decide +kernel
theorem dX7_isWay_137 : decode cX7_isWay 137 = .ok (.getfield 78, 3) := by decide +kernel
theorem dX7_isWay_140 : decode cX7_isWay 140 = .ok (.iload_n 2, 1) := by decide +kernel
theorem dX7_isWay_141 : decode cX7_isWay 141 = .ok (.iaload, 1) := by decide +kernel
theorem dX7_isWay_142 : decode cX7_isWay 142 = .ok (.iconst (-1), 1) := by decide +kernel
theorem dX7_isWay_143 : decode cX7_isWay 143 = .ok (.if_icmp .eq 7, 3) := by decide +kernel
theorem dX7_isWay_146 : decode cX7_isWay 146 = .ok (.iconst 1, 1) := by decide +kernel
theorem dX7_isWay_147 : decode cX7_isWay 147 = .ok (.goto 4, 3) := by decide +kernel
theorem dX7_isWay_150 : decode cX7_isWay 150 = .ok (.iconst 0, 1) := by decide +kernel
theorem dX7_isWay_151 : decode cX7_isWay 151 = .ok (.ireturn, 1) := by decide +kernel
set_option maxRecDepth 20000 in
theorem ggX7_goAlong_X7_goes : GoodIn wsX7_goAlong wsX7_goes := goodIn_r _ [10, 11, 12, 13, 14, 15, 16, 17, 18, 19, 20, 21, 9, 22, 23, 24, 29, 30, 31, 32, 33, 34, 35, 36, 37, 38, 39, 40, 41, 42, 43, 44, 45, 46, 47, 48, 49, 50, 51, 52, 53, 54, 55, 56, 57, 58, 59, 60, 61, 62, 63, 64, 65, 66, 67, 68, 69, 70] (by decide +kernel) (by decide +kernel)
set_option maxRecDepth 20000 in
theorem gX7_goAlong_X7_goes : GoodIn wsX7_goAlong (wsV RX7 171 RX7 yX7_goes wsX7_goes) := goodIn_app (goodIn_of _ (by decide +kernel)) ggX7_goAlong_X7_goes
set_option maxRecDepth 20000 in
theorem ggX7_goAlong_X7_moves : GoodIn wsX7_goAlong wsX7_moves := goodIn_r _ [28, 13, 16, 18, 29, 30, 31, 32, 33, 34, 35, 36, 37, 38, 39, 40, 41, 42, 43, 44, 45, 46, 47, 48, 49, 50, 51, 52, 53, 54, 55, 56, 57, 58, 59, 60, 61, 62, 63, 64, 65, 66, 67, 68, 69, 70] (by decide +kernel) (by decide +kernel)
set_option maxRecDepth 20000 in
theorem gX7_goAlong_X7_moves : GoodIn wsX7_goAlong (wsV RX7 179 RX7 yX7_moves wsX7_moves) := goodIn_app (goodIn_of _ (by decide +kernel)) ggX7_goAlong_X7_moves
theorem dX7_goAlong_0 : decode cX7_goAlong 0 = .ok (.iload_n 3, 1) := by decide +kernel
theorem dX7_goAlong_1 : decode cX7_goAlong 1 = .ok (.istore 4, 2) := by decide +kernel
theorem dX7_goAlong_3 : decode cX7_goAlong 3 = .ok (.iload_n 2, 1) := by decide +kernel
theorem dX7_goAlong_4 : decode cX7_goAlong 4 = .ok (.istore 5, 2) := by decide +kernel
theorem dX7_goAlong_6 : decode cX7_goAlong 6 = .ok (.iload 5, 2) := by decide +kernel
theorem dX7_goAlong_8 : decode cX7_goAlong 8 = .ok (.iload_n 1, 1) := by decide +kernel
theorem dX7_goAlong_9 : decode cX7_goAlong 9 = .ok (.if_icmp .eq 35, 3) := by decide +kernel
theorem dX7_goAlong_12 : decode cX7_goAlong 12 = .ok (.iload 4, 2) := by decide +kernel
theorem dX7_goAlong_14 : decode cX7_goAlong 14 = .ok (.aload_n 0, 1) := by decide +kernel
theorem dX7_goAlong_15 : decode cX7_goAlong 15 = .ok (.aload_n 0, 1) := by decide +kernel
theorem dX7_goAlong_16 : decode cX7_goAlong 16 = .ok (.getfield 78, 3) := by decide +kernel
theorem dX7_goAlong_19 : decode cX7_goAlong 19 = .ok (.iload 5, 2) := by decide +kernel
theorem dX7_goAlong_21 : decode cX7_goAlong 21 = .ok (.iaload, 1) := by decide +kernel
theorem dX7_goAlong_22 : decode cX7_goAlong 22 = .ok (.iload 5, 2) := by decide +kernel
theorem dX7_goAlong_24 : decode cX7_goAlong 24 = .ok (.invokevirtual 171, 3) := by decide +kernel
theorem dX7_goAlong_27 : decode cX7_goAlong 27 = .ok (.invokestatic 174, 3) := by decide +kernel
theorem dX7_goAlong_30 : decode cX7_goAlong 30 = .ok (.istore 4, 2) := by decide +kernel
theorem dX7_goAlong_32 : decode cX7_goAlong 32 = .ok (.aload_n 0, 1) := by decide +kernel
theorem dX7_goAlong_33 : decode cX7_goAlong 33 = .ok (.getfield 78, 3) := by decide +kernel
theorem dX7_goAlong_36 : decode cX7_goAlong 36 = .ok (.iload 5, 2) := by decide +kernel
theorem dX7_goAlong_38 : decode cX7_goAlong 38 = .ok (.iaload, 1) := by decide +kernel
theorem dX7_goAlong_39 : decode cX7_goAlong 39 = .ok (.istore 5, 2) := by decide +kernel
theorem dX7_goAlong_41 : decode cX7_goAlong 41 = .ok (.goto (-35), 3) := by decide +kernel
theorem dX7_goAlong_44 : decode cX7_goAlong 44 = .ok (.iload_n 2, 1) := by decide +kernel
theorem dX7_goAlong_45 : decode cX7_goAlong 45 = .ok (.istore 5, 2) := by decide +kernel
theorem dX7_goAlong_47 : decode cX7_goAlong 47 = .ok (.iload 5, 2) := by decide +kernel
theorem dX7_goAlong_49 : decode cX7_goAlong 49 = .ok (.iload_n 1, 1) := by decide +kernel
theorem dX7_goAlong_50 : decode cX7_goAlong 50 = .ok (.if_icmp .eq 30, 3) := by decide +kernel
theorem dX7_goAlong_53 : decode cX7_goAlong 53 = .ok (.aload_n 0, 1) := by decide +kernel
theorem dX7_goAlong_54 : decode cX7_goAlong 54 = .ok (.aload_n 0, 1) := by decide +kernel
theorem dX7_goAlong_55 : decode cX7_goAlong 55 = .ok (.getfield 78, 3) := by decide +kernel
theorem dX7_goAlong_58 : decode cX7_goAlong 58 = .ok (.iload 5, 2) := by decide +kernel
theorem dX7_goAlong_60 : decode cX7_goAlong 60 = .ok (.iaload, 1) := by decide +kernel
theorem dX7_goAlong_61 : decode cX7_goAlong 61 = .ok (.iload 5, 2) := by decide +kernel
theorem dX7_goAlong_63 : decode cX7_goAlong 63 = .ok (.iload 4, 2) := by decide +kernel
theorem dX7_goAlong_65 : decode cX7_goAlong 65 = .ok (.invokevirtual 179, 3) := by decide +kernel
theorem dX7_goAlong_68 : decode cX7_goAlong 68 = .ok (.aload_n 0, 1) := by decide +kernel
theorem dX7_goAlong_69 : decode cX7_goAlong 69 = .ok (.getfield 78, 3) := by decide +kernel
theorem dX7_goAlong_72 : decode cX7_goAlong 72 = .ok (.iload 5, 2) := by decide +kernel
theorem dX7_goAlong_74 : decode cX7_goAlong 74 = .ok (.iaload, 1) := by decide +kernel
theorem dX7_goAlong_75 : decode cX7_goAlong 75 = .ok (.istore 5, 2) := by decide +kernel
theorem dX7_goAlong_77 : decode cX7_goAlong 77 = .ok (.goto (-30), 3) := by decide +kernel
theorem dX7_goAlong_80 : decode cX7_goAlong 80 = .ok (.iload 4, 2) := by decide +kernel
theorem dX7_goAlong_82 : decode cX7_goAlong 82 = .ok (.ireturn, 1) := by decide +kernel
set_option maxRecDepth 20000 in
theorem ggX7_layIn_X7_look : GoodIn wsX7_layIn wsX7_look := goodIn_r _ [12, 13, 14, 15, 16, 17, 18, 19, 20, 21, 22, 23, 11, 24, 25, 26, 70, 71, 72, 73, 74, 75, 76, 77, 78, 79, 80, 81, 82, 83, 84, 85, 86, 87, 88, 89, 90, 91, 92, 93, 94, 95, 96, 97, 98, 99, 100, 101, 102, 103, 104, 105, 106, 107, 108, 109, 110, 111] (by decide +kernel) (by decide +kernel)
set_option maxRecDepth 20000 in
theorem gX7_layIn_X7_look : GoodIn wsX7_layIn (wsV RX7 158 RX7 yX7_look wsX7_look) := goodIn_app (goodIn_of _ (by decide +kernel)) ggX7_layIn_X7_look
set_option maxRecDepth 20000 in
theorem ggX7_layIn_X7_leftOf : GoodIn wsX7_layIn wsX7_leftOf := goodIn_r _ [30, 18, 14, 31, 32, 33, 11, 34, 13, 35, 36, 37, 38, 39, 40, 19, 20, 21, 22, 23, 24, 25, 26, 70, 71, 72, 73, 74, 75, 76, 77, 78, 79, 80, 81, 82, 83, 84, 85, 86, 87, 88, 89, 90, 91, 92, 93, 94, 95, 96, 97, 98, 99, 100, 101, 102, 103, 104, 105, 106, 107, 108, 109, 110, 111] (by decide +kernel) (by decide +kernel)
set_option maxRecDepth 20000 in
theorem gX7_layIn_X7_leftOf : GoodIn wsX7_layIn (wsV RX7 165 RX7 yX7_leftOf wsX7_leftOf) := goodIn_app (goodIn_of _ (by decide +kernel)) ggX7_layIn_X7_leftOf
