theorem dX10_init_144 : decode cX10_init 144 = .ok (.aload_n 0, 1) := by decide +kernel
theorem dX10_init_145 : decode cX10_init 145 = .ok (.bipush 12, 2) := by decide +kernel
theorem dX10_init_147 : decode cX10_init 147 = .ok (.newarray .int, 2) := by decide +kernel
theorem dX10_init_149 : decode cX10_init 149 = .ok (.putfield 36, 3) := by decide +kernel
theorem dX10_init_152 : decode cX10_init 152 = .ok (.aload_n 0, 1) := by decide +kernel
theorem dX10_init_153 : decode cX10_init 153 = .ok (.bipush 12, 2) := by decide +kernel
theorem dX10_init_155 : decode cX10_init 155 = .ok (.newarray .int, 2) := by decide +kernel
theorem dX10_init_157 : decode cX10_init 157 = .ok (.putfield 39, 3) := by decide +kernel
theorem dX10_init_160 : decode cX10_init 160 = .ok (.aload_n 0, 1) := by decide +kernel
theorem dX10_init_161 : decode cX10_init 161 = .ok (.bipush 13, 2) := by decide +kernel
theorem dX10_init_163 : decode cX10_init 163 = .ok (.newarray .int, 2) := by decide +kernel
theorem dX10_init_165 : decode cX10_init 165 = .ok (.putfield 42, 3) := by decide +kernel
theorem dX10_init_168 : decode cX10_init 168 = .ok (.aload_n 0, 1) := by decide +kernel
theorem dX10_init_169 : decode cX10_init 169 = .ok (.bipush 13, 2) := by decide +kernel
theorem dX10_init_171 : decode cX10_init 171 = .ok (.newarray .int, 2) := by decide +kernel
theorem dX10_init_173 : decode cX10_init 173 = .ok (.putfield 45, 3) := by decide +kernel
theorem dX10_init_176 : decode cX10_init 176 = .ok (.aload_n 0, 1) := by decide +kernel
theorem dX10_init_177 : decode cX10_init 177 = .ok (.bipush 13, 2) := by decide +kernel
theorem dX10_init_179 : decode cX10_init 179 = .ok (.newarray .int, 2) := by decide +kernel
theorem dX10_init_181 : decode cX10_init 181 = .ok (.putfield 48, 3) := by decide +kernel
theorem dX10_init_184 : decode cX10_init 184 = .ok (.aload_n 0, 1) := by decide +kernel
theorem dX10_init_185 : decode cX10_init 185 = .ok (.bipush 13, 2) := by decide +kernel
theorem dX10_init_187 : decode cX10_init 187 = .ok (.newarray .int, 2) := by decide +kernel
theorem dX10_init_189 : decode cX10_init 189 = .ok (.putfield 51, 3) := by decide +kernel
theorem dX10_init_192 : decode cX10_init 192 = .ok (.aload_n 0, 1) := by decide +kernel
theorem dX10_init_193 : decode cX10_init 193 = .ok (.bipush 13, 2) := by decide +kernel
theorem dX10_init_195 : decode cX10_init 195 = .ok (.newarray .int, 2) := by decide +kernel
theorem dX10_init_197 : decode cX10_init 197 = .ok (.putfield 54, 3) := by decide +kernel
theorem dX10_init_200 : decode cX10_init 200 = .ok (.aload_n 0, 1) := by decide +kernel
theorem dX10_init_201 : decode cX10_init 201 = .ok (.sipush 520, 3) := by decide +kernel
theorem dX10_init_204 : decode cX10_init 204 = .ok (.newarray .int, 2) := by decide +kernel
theorem dX10_init_206 : decode cX10_init 206 = .ok (.putfield 57, 3) := by decide +kernel
theorem dX10_init_209 : decode cX10_init 209 = .ok (.aload_n 0, 1) := by decide +kernel
theorem dX10_init_210 : decode cX10_init 210 = .ok (.iconst (-1), 1) := by decide +kernel
theorem dX10_init_211 : decode cX10_init 211 = .ok (.putfield 60, 3) := by decide +kernel
theorem dX10_init_214 : decode cX10_init 214 = .ok (.aload_n 0, 1) := by decide +kernel
theorem dX10_init_215 : decode cX10_init 215 = .ok (.sipush 500, 3) := by decide +kernel
theorem dX10_init_218 : decode cX10_init 218 = .ok (.newarray .int, 2) := by decide +kernel
theorem dX10_init_220 : decode cX10_init 220 = .ok (.putfield 64, 3) := by decide +kernel
theorem dX10_init_223 : decode cX10_init 223 = .ok (.aload_n 0, 1) := by decide +kernel
theorem dX10_init_224 : decode cX10_init 224 = .ok (.bipush 6, 2) := by decide +kernel
theorem dX10_init_226 : decode cX10_init 226 = .ok (.newarray .int, 2) := by decide +kernel
theorem dX10_init_228 : decode cX10_init 228 = .ok (.putfield 67, 3) := by decide +kernel
theorem dX10_init_231 : decode cX10_init 231 = .ok (.aload_n 0, 1) := by decide +kernel
theorem dX10_init_232 : decode cX10_init 232 = .ok (.iconst (-1), 1) := by decide +kernel
theorem dX10_init_233 : decode cX10_init 233 = .ok (.putfield 70, 3) := by decide +kernel
theorem dX10_init_236 : decode cX10_init 236 = .ok (.aload_n 0, 1) := by decide +kernel
theorem dX10_init_237 : decode cX10_init 237 = .ok (.bipush 40, 2) := by decide +kernel
theorem dX10_init_239 : decode cX10_init 239 = .ok (.newarray .int, 2) := by decide +kernel
theorem dX10_init_241 : decode cX10_init 241 = .ok (.putfield 73, 3) := by decide +kernel
theorem dX10_init_244 : decode cX10_init 244 = .ok (.aload_n 0, 1) := by decide +kernel
theorem dX10_init_245 : decode cX10_init 245 = .ok (.bipush 40, 2) := by decide +kernel
theorem dX10_init_247 : decode cX10_init 247 = .ok (.newarray .int, 2) := by decide +kernel
theorem dX10_init_249 : decode cX10_init 249 = .ok (.putfield 76, 3) := by decide +kernel
theorem dX10_init_252 : decode cX10_init 252 = .ok (.aload_n 0, 1) := by decide +kernel
theorem dX10_init_253 : decode cX10_init 253 = .ok (.sipush 600, 3) := by decide +kernel
theorem dX10_init_256 : decode cX10_init 256 = .ok (.newarray .int, 2) := by decide +kernel
theorem dX10_init_258 : decode cX10_init 258 = .ok (.putfield 79, 3) := by decide +kernel
theorem dX10_init_261 : decode cX10_init 261 = .ok (.aload_n 0, 1) := by decide +kernel
theorem dX10_init_262 : decode cX10_init 262 = .ok (.sipush 600, 3) := by decide +kernel
theorem dX10_init_265 : decode cX10_init 265 = .ok (.newarray .long, 2) := by decide +kernel
theorem dX10_init_267 : decode cX10_init 267 = .ok (.putfield 82, 3) := by decide +kernel
theorem dX10_init_270 : decode cX10_init 270 = .ok (.aload_n 0, 1) := by decide +kernel
theorem dX10_init_271 : decode cX10_init 271 = .ok (.sipush 601, 3) := by decide +kernel
theorem dX10_init_274 : decode cX10_init 274 = .ok (.newarray .int, 2) := by decide +kernel
theorem dX10_init_276 : decode cX10_init 276 = .ok (.putfield 86, 3) := by decide +kernel
theorem dX10_init_279 : decode cX10_init 279 = .ok (.aload_n 0, 1) := by decide +kernel
theorem dX10_init_280 : decode cX10_init 280 = .ok (.sipush 601, 3) := by decide +kernel
theorem dX10_init_283 : decode cX10_init 283 = .ok (.newarray .long, 2) := by decide +kernel
theorem dX10_init_285 : decode cX10_init 285 = .ok (.putfield 89, 3) := by decide +kernel
theorem dX10_init_288 : decode cX10_init 288 = .ok (.aload_n 0, 1) := by decide +kernel
theorem dX10_init_289 : decode cX10_init 289 = .ok (.bipush 42, 2) := by decide +kernel
theorem dX10_init_291 : decode cX10_init 291 = .ok (.newarray .long, 2) := by decide +kernel
theorem dX10_init_293 : decode cX10_init 293 = .ok (.putfield 92, 3) := by decide +kernel
theorem dX10_init_296 : decode cX10_init 296 = .ok (.aload_n 0, 1) := by decide +kernel
theorem dX10_init_297 : decode cX10_init 297 = .ok (.bipush 40, 2) := by decide +kernel
theorem dX10_init_299 : decode cX10_init 299 = .ok (.newarray .long, 2) := by decide +kernel
theorem dX10_init_301 : decode cX10_init 301 = .ok (.putfield 95, 3) := by decide +kernel
theorem dX10_init_304 : decode cX10_init 304 = .ok (.return_, 1) := by decide +kernel
theorem dX10_in_0 : decode cX10_in 0 = .ok (.iload_n 0, 1) := by decide +kernel
theorem dX10_in_1 : decode cX10_in 1 = .ok (.iload_n 1, 1) := by decide +kernel
theorem dX10_in_2 : decode cX10_in 2 = .ok (.if_icmp .lt 12, 3) := by decide +kernel
theorem dX10_in_5 : decode cX10_in 5 = .ok (.iload_n 0, 1) := by decide +kernel
theorem dX10_in_6 : decode cX10_in 6 = .ok (.iload_n 2, 1) := by decide +kernel
theorem dX10_in_7 : decode cX10_in 7 = .ok (.if_icmp .gt 7, 3) := by decide +kernel
theorem dX10_in_10 : decode cX10_in 10 = .ok (.iconst 1, 1) := by decide +kernel
theorem dX10_in_11 : decode cX10_in 11 = .ok (.goto 4, 3) := by decide +kernel
theorem dX10_in_14 : decode cX10_in 14 = .ok (.iconst 0, 1) := by decide +kernel
theorem dX10_in_15 : decode cX10_in 15 = .ok (.ireturn, 1) := by decide +kernel
set_option maxRecDepth 20000 in
theorem ggX10_isCitizen_X10_in : GoodIn wsX10_isCitizen wsX10_in := goodIn_r _ [5] (by decide +kernel) (by decide +kernel)
set_option maxRecDepth 20000 in
theorem gX10_isCitizen_X10_in : GoodIn wsX10_isCitizen (va_wsS RX10 101 yX10_in wsX10_in) := goodIn_app (goodIn_of _ (by decide +kernel)) ggX10_isCitizen_X10_in
theorem dX10_isCitizen_0 : decode cX10_isCitizen 0 = .ok (.iload_n 1, 1) := by decide +kernel
theorem dX10_isCitizen_1 : decode cX10_isCitizen 1 = .ok (.iconst 0, 1) := by decide +kernel
theorem dX10_isCitizen_2 : decode cX10_isCitizen 2 = .ok (.aload_n 0, 1) := by decide +kernel
theorem dX10_isCitizen_3 : decode cX10_isCitizen 3 = .ok (.getfield 98, 3) := by decide +kernel
theorem dX10_isCitizen_6 : decode cX10_isCitizen 6 = .ok (.iconst 1, 1) := by decide +kernel
theorem dX10_isCitizen_7 : decode cX10_isCitizen 7 = .ok (.isub, 1) := by decide +kernel
theorem dX10_isCitizen_8 : decode cX10_isCitizen 8 = .ok (.invokestatic 101, 3) := by decide +kernel
theorem dX10_isCitizen_11 : decode cX10_isCitizen 11 = .ok (.ireturn, 1) := by decide +kernel
theorem dX10_begins_0 : decode cX10_begins 0 = .ok (.aload_n 0, 1) := by decide +kernel
theorem dX10_begins_1 : decode cX10_begins 1 = .ok (.getfield 105, 3) := by decide +kernel
theorem dX10_begins_4 : decode cX10_begins 4 = .ok (.ifCond .le 4, 3) := by decide +kernel
theorem dX10_begins_7 : decode cX10_begins 7 = .ok (.return_, 1) := by decide +kernel
theorem dX10_begins_8 : decode cX10_begins 8 = .ok (.aload_n 0, 1) := by decide +kernel
theorem dX10_begins_9 : decode cX10_begins 9 = .ok (.getfield 54, 3) := by decide +kernel
theorem dX10_begins_12 : decode cX10_begins 12 = .ok (.iconst 0, 1) := by decide +kernel
theorem dX10_begins_13 : decode cX10_begins 13 = .ok (.iconst 0, 1) := by decide +kernel
theorem dX10_begins_14 : decode cX10_begins 14 = .ok (.iastore, 1) := by decide +kernel
theorem dX10_begins_15 : decode cX10_begins 15 = .ok (.iconst 0, 1) := by decide +kernel
theorem dX10_begins_16 : decode cX10_begins 16 = .ok (.istore_n 1, 1) := by decide +kernel
theorem dX10_begins_17 : decode cX10_begins 17 = .ok (.iload_n 1, 1) := by decide +kernel
theorem dX10_begins_18 : decode cX10_begins 18 = .ok (.aload_n 0, 1) := by decide +kernel
theorem dX10_begins_19 : decode cX10_begins 19 = .ok (.getfield 98, 3) := by decide +kernel
theorem dX10_begins_22 : decode cX10_begins 22 = .ok (.if_icmp .ge 43, 3) := by decide +kernel
theorem dX10_begins_25 : decode cX10_begins 25 = .ok (.aload_n 0, 1) := by decide +kernel
theorem dX10_begins_26 : decode cX10_begins 26 = .ok (.getfield 16, 3) := by decide +kernel
theorem dX10_begins_29 : decode cX10_begins 29 = .ok (.iload_n 1, 1) := by decide +kernel
theorem dX10_begins_30 : decode cX10_begins 30 = .ok (.baload, 1) := by decide +kernel
theorem dX10_begins_31 : decode cX10_begins 31 = .ok (.ifCond .ne 6, 3) := by decide +kernel
theorem dX10_begins_34 : decode cX10_begins 34 = .ok (.goto 25, 3) := by decide +kernel
theorem dX10_begins_37 : decode cX10_begins 37 = .ok (.aload_n 0, 1) := by decide +kernel
theorem dX10_begins_38 : decode cX10_begins 38 = .ok (.getfield 57, 3) := by decide +kernel
theorem dX10_begins_41 : decode cX10_begins 41 = .ok (.aload_n 0, 1) := by decide +kernel
theorem dX10_begins_42 : decode cX10_begins 42 = .ok (.getfield 54, 3) := by decide +kernel
theorem dX10_begins_45 : decode cX10_begins 45 = .ok (.iconst 0, 1) := by decide +kernel
theorem dX10_begins_46 : decode cX10_begins 46 = .ok (.iaload, 1) := by decide +kernel
theorem dX10_begins_47 : decode cX10_begins 47 = .ok (.iload_n 1, 1) := by decide +kernel
theorem dX10_begins_48 : decode cX10_begins 48 = .ok (.iastore, 1) := by decide +kernel
theorem dX10_begins_49 : decode cX10_begins 49 = .ok (.aload_n 0, 1) := by decide +kernel
theorem dX10_begins_50 : decode cX10_begins 50 = .ok (.getfield 54, 3) := by decide +kernel
theorem dX10_begins_53 : decode cX10_begins 53 = .ok (.iconst 0, 1) := by decide +kernel
theorem dX10_begins_54 : decode cX10_begins 54 = .ok (.dup2, 1) := by decide +kernel
theorem dX10_begins_55 : decode cX10_begins 55 = .ok (.iaload, 1) := by decide +kernel
theorem dX10_begins_56 : decode cX10_begins 56 = .ok (.iconst 1, 1) := by decide +kernel
theorem dX10_begins_57 : decode cX10_begins 57 = .ok (.iadd, 1) := by decide +kernel
theorem dX10_begins_58 : decode cX10_begins 58 = .ok (.iastore, 1) := by decide +kernel
theorem dX10_begins_59 : decode cX10_begins 59 = .ok (.iinc 1 1, 3) := by decide +kernel
theorem dX10_begins_62 : decode cX10_begins 62 = .ok (.goto (-45), 3) := by decide +kernel
theorem dX10_begins_65 : decode cX10_begins 65 = .ok (.return_, 1) := by decide +kernel
set_option maxRecDepth 20000 in
theorem ggX10_citizen_X10_in : GoodIn wsX10_citizen wsX10_in := goodIn_r _ [9] (by decide +kernel) (by decide +kernel)
set_option maxRecDepth 20000 in
theorem gX10_citizen_X10_in : GoodIn wsX10_citizen (va_wsS RX10 101 yX10_in wsX10_in) := goodIn_app (goodIn_of _ (by decide +kernel)) ggX10_citizen_X10_in
set_option maxRecDepth 20000 in
theorem ggX10_citizen_X10_begins : GoodIn wsX10_citizen wsX10_begins := goodIn_r _ [13, 2, 14, 1, 5, 15, 16, 17, 18, 19, 20, 21, 22, 23, 24, 25, 26, 27, 28, 29, 30, 31, 32, 33, 34, 35, 36, 37, 38, 39, 40, 41, 42, 43, 44, 45, 46, 47, 48, 49, 50, 51, 52, 53, 54, 55, 56, 57, 58, 59, 60, 61, 62, 63, 64, 65] (by decide +kernel) (by decide +kernel)
set_option maxRecDepth 20000 in
theorem gX10_citizen_X10_begins : GoodIn wsX10_citizen (wsV RX10 108 RX10 yX10_begins wsX10_begins) := goodIn_app (goodIn_of _ (by decide +kernel)) ggX10_citizen_X10_begins
theorem dX10_citizen_0 : decode cX10_citizen 0 = .ok (.aload_n 0, 1) := by decide +kernel
theorem dX10_citizen_1 : decode cX10_citizen 1 = .ok (.getfield 98, 3) := by decide +kernel
theorem dX10_citizen_4 : decode cX10_citizen 4 = .ok (.bipush 40, 2) := by decide +kernel
theorem dX10_citizen_6 : decode cX10_citizen 6 = .ok (.if_icmp .eq 29, 3) := by decide +kernel
theorem dX10_citizen_9 : decode cX10_citizen 9 = .ok (.iload_n 1, 1) := by decide +kernel
theorem dX10_citizen_10 : decode cX10_citizen 10 = .ok (.iconst 0, 1) := by decide +kernel
theorem dX10_citizen_11 : decode cX10_citizen 11 = .ok (.bipush 11, 2) := by decide +kernel
theorem dX10_citizen_13 : decode cX10_citizen 13 = .ok (.invokestatic 101, 3) := by decide +kernel
theorem dX10_citizen_16 : decode cX10_citizen 16 = .ok (.ifCond .eq 19, 3) := by decide +kernel
theorem dX10_citizen_19 : decode cX10_citizen 19 = .ok (.iload_n 2, 1) := by decide +kernel
theorem dX10_citizen_20 : decode cX10_citizen 20 = .ok (.iconst 0, 1) := by decide +kernel
theorem dX10_citizen_21 : decode cX10_citizen 21 = .ok (.iconst 3, 1) := by decide +kernel
theorem dX10_citizen_22 : decode cX10_citizen 22 = .ok (.invokestatic 101, 3) := by decide +kernel
theorem dX10_citizen_25 : decode cX10_citizen 25 = .ok (.ifCond .eq 10, 3) := by decide +kernel
theorem dX10_citizen_28 : decode cX10_citizen 28 = .ok (.aload_n 0, 1) := by decide +kernel
theorem dX10_citizen_29 : decode cX10_citizen 29 = .ok (.getfield 105, 3) := by decide +kernel
theorem dX10_citizen_32 : decode cX10_citizen 32 = .ok (.ifCond .le 5, 3) := by decide +kernel
theorem dX10_citizen_35 : decode cX10_citizen 35 = .ok (.iconst (-1), 1) := by decide +kernel
theorem dX10_citizen_36 : decode cX10_citizen 36 = .ok (.ireturn, 1) := by decide +kernel
theorem dX10_citizen_37 : decode cX10_citizen 37 = .ok (.aload_n 0, 1) := by decide +kernel
theorem dX10_citizen_38 : decode cX10_citizen 38 = .ok (.getfield 7, 3) := by decide +kernel
theorem dX10_citizen_41 : decode cX10_citizen 41 = .ok (.aload_n 0, 1) := by decide +kernel
theorem dX10_citizen_42 : decode cX10_citizen 42 = .ok (.getfield 98, 3) := by decide +kernel
theorem dX10_citizen_45 : decode cX10_citizen 45 = .ok (.iload_n 1, 1) := by decide +kernel
theorem dX10_citizen_46 : decode cX10_citizen 46 = .ok (.iastore, 1) := by decide +kernel
theorem dX10_citizen_47 : decode cX10_citizen 47 = .ok (.aload_n 0, 1) := by decide +kernel
theorem dX10_citizen_48 : decode cX10_citizen 48 = .ok (.getfield 13, 3) := by decide +kernel
theorem dX10_citizen_51 : decode cX10_citizen 51 = .ok (.aload_n 0, 1) := by decide +kernel
theorem dX10_citizen_52 : decode cX10_citizen 52 = .ok (.getfield 98, 3) := by decide +kernel
theorem dX10_citizen_55 : decode cX10_citizen 55 = .ok (.iload_n 2, 1) := by decide +kernel
theorem dX10_citizen_56 : decode cX10_citizen 56 = .ok (.iastore, 1) := by decide +kernel
theorem dX10_citizen_57 : decode cX10_citizen 57 = .ok (.aload_n 0, 1) := by decide +kernel
theorem dX10_citizen_58 : decode cX10_citizen 58 = .ok (.getfield 16, 3) := by decide +kernel
theorem dX10_citizen_61 : decode cX10_citizen 61 = .ok (.aload_n 0, 1) := by decide +kernel
theorem dX10_citizen_62 : decode cX10_citizen 62 = .ok (.getfield 98, 3) := by decide +kernel
theorem dX10_citizen_65 : decode cX10_citizen 65 = .ok (.iconst 1, 1) := by decide +kernel
theorem dX10_citizen_66 : decode cX10_citizen 66 = .ok (.bastore, 1) := by decide +kernel
theorem dX10_citizen_67 : decode cX10_citizen 67 = .ok (.aload_n 0, 1) := by decide +kernel
theorem dX10_citizen_68 : decode cX10_citizen 68 = .ok (.dup, 1) := by decide +kernel
theorem dX10_citizen_69 : decode cX10_citizen 69 = .ok (.getfield 98, 3) := by decide +kernel
theorem dX10_citizen_72 : decode cX10_citizen 72 = .ok (.iconst 1, 1) := by decide +kernel
theorem dX10_citizen_73 : decode cX10_citizen 73 = .ok (.iadd, 1) := by decide +kernel
theorem dX10_citizen_74 : decode cX10_citizen 74 = .ok (.putfield 98, 3) := by decide +kernel
theorem dX10_citizen_77 : decode cX10_citizen 77 = .ok (.aload_n 0, 1) := by decide +kernel
theorem dX10_citizen_78 : decode cX10_citizen 78 = .ok (.invokevirtual 108, 3) := by decide +kernel
theorem dX10_citizen_81 : decode cX10_citizen 81 = .ok (.aload_n 0, 1) := by decide +kernel
theorem dX10_citizen_82 : decode cX10_citizen 82 = .ok (.getfield 98, 3) := by decide +kernel
theorem dX10_citizen_85 : decode cX10_citizen 85 = .ok (.iconst 1, 1) := by decide +kernel
theorem dX10_citizen_86 : decode cX10_citizen 86 = .ok (.isub, 1) := by decide +kernel
theorem dX10_citizen_87 : decode cX10_citizen 87 = .ok (.ireturn, 1) := by decide +kernel
set_option maxRecDepth 20000 in
theorem ggX10_there_X10_isCitizen : GoodIn wsX10_there wsX10_isCitizen := goodIn_r _ [6, 7, 8, 9, 5, 10, 18, 19, 20, 21, 22, 23, 24, 25, 26, 27, 28, 29, 30, 31, 32, 33, 34, 35, 36, 37, 38, 39, 40, 41, 42, 43, 44, 45, 46, 47, 48, 49, 50, 51, 52, 53, 54, 55, 56, 57, 58, 59, 60, 61, 62, 63, 64, 65, 66, 67] (by decide +kernel) (by decide +kernel)
set_option maxRecDepth 20000 in
theorem gX10_there_X10_isCitizen : GoodIn wsX10_there (wsV RX10 111 RX10 yX10_isCitizen wsX10_isCitizen) := goodIn_app (goodIn_of _ (by decide +kernel)) ggX10_there_X10_isCitizen
set_option maxRecDepth 20000 in
theorem ggX10_there_X10_begins : GoodIn wsX10_there wsX10_begins := goodIn_r _ [14, 15, 16, 7, 1, 17, 18, 19, 20, 21, 22, 23, 24, 25, 26, 27, 28, 29, 30, 31, 32, 33, 34, 35, 36, 37, 38, 39, 40, 41, 42, 43, 44, 45, 46, 47, 48, 49, 50, 51, 52, 53, 54, 55, 56, 57, 58, 59, 60, 61, 62, 63, 64, 65, 66, 67] (by decide +kernel) (by decide +kernel)
set_option maxRecDepth 20000 in
theorem gX10_there_X10_begins : GoodIn wsX10_there (wsV RX10 108 RX10 yX10_begins wsX10_begins) := goodIn_app (goodIn_of _ (by decide +kernel)) ggX10_there_X10_begins
theorem dX10_there_0 : decode cX10_there 0 = .ok (.aload_n 0, 1) := by decide +kernel
theorem dX10_there_1 : decode cX10_there 1 = .ok (.iload_n 1, 1) := by decide +kernel
theorem dX10_there_2 : decode cX10_there 2 = .ok (.invokevirtual 111, 3) := by decide +kernel
theorem dX10_there_5 : decode cX10_there 5 = .ok (.ifCond .eq 13, 3) := by decide +kernel
theorem dX10_there_8 : decode cX10_there 8 = .ok (.aload_n 0, 1) := by decide +kernel
theorem dX10_there_9 : decode cX10_there 9 = .ok (.getfield 16, 3) := by decide +kernel
theorem dX10_there_12 : decode cX10_there 12 = .ok (.iload_n 1, 1) := by decide +kernel
theorem dX10_there_13 : decode cX10_there 13 = .ok (.baload, 1) := by decide +kernel
theorem dX10_there_14 : decode cX10_there 14 = .ok (.iload_n 2, 1) := by decide +kernel
theorem dX10_there_15 : decode cX10_there 15 = .ok (.if_icmp .ne 5, 3) := by decide +kernel
theorem dX10_there_18 : decode cX10_there 18 = .ok (.iconst 0, 1) := by decide +kernel
theorem dX10_there_19 : decode cX10_there 19 = .ok (.ireturn, 1) := by decide +kernel
theorem dX10_there_20 : decode cX10_there 20 = .ok (.aload_n 0, 1) := by decide +kernel
theorem dX10_there_21 : decode cX10_there 21 = .ok (.getfield 16, 3) := by decide +kernel
theorem dX10_there_24 : decode cX10_there 24 = .ok (.iload_n 1, 1) := by decide +kernel
theorem dX10_there_25 : decode cX10_there 25 = .ok (.iload_n 2, 1) := by decide +kernel
theorem dX10_there_26 : decode cX10_there 26 = .ok (.bastore, 1) := by decide +kernel
theorem dX10_there_27 : decode cX10_there 27 = .ok (.aload_n 0, 1) := by decide +kernel
theorem dX10_there_28 : decode cX10_there 28 = .ok (.invokevirtual 108, 3) := by decide +kernel
theorem dX10_there_31 : decode cX10_there 31 = .ok (.iconst 1, 1) := by decide +kernel
theorem dX10_there_32 : decode cX10_there 32 = .ok (.ireturn, 1) := by decide +kernel
set_option maxRecDepth 20000 in
theorem ggX10_kin_X10_isCitizen : GoodIn wsX10_kin wsX10_isCitizen := goodIn_r _ [7, 8, 9, 10, 6, 11, 12, 13, 14, 15, 16, 17, 18, 19, 20, 21, 22, 23, 24, 25, 26, 27, 28, 29, 30, 31, 32, 33, 34, 35, 36, 37, 38, 39, 40, 41, 42, 43, 44, 45, 46, 47, 48, 49, 50, 51, 52, 53, 54, 55, 56, 57, 58, 59, 60, 61] (by decide +kernel) (by decide +kernel)
set_option maxRecDepth 20000 in
theorem gX10_kin_X10_isCitizen : GoodIn wsX10_kin (wsV RX10 111 RX10 yX10_isCitizen wsX10_isCitizen) := goodIn_app (goodIn_of _ (by decide +kernel)) ggX10_kin_X10_isCitizen
theorem dX10_kin_0 : decode cX10_kin 0 = .ok (.aload_n 0, 1) := by decide +kernel
theorem dX10_kin_1 : decode cX10_kin 1 = .ok (.iload_n 1, 1) := by decide +kernel
theorem dX10_kin_2 : decode cX10_kin 2 = .ok (.invokevirtual 111, 3) := by decide +kernel
theorem dX10_kin_5 : decode cX10_kin 5 = .ok (.ifCond .eq 39, 3) := by decide +kernel
theorem dX10_kin_8 : decode cX10_kin 8 = .ok (.aload_n 0, 1) := by decide +kernel
theorem dX10_kin_9 : decode cX10_kin 9 = .ok (.iload_n 2, 1) := by decide +kernel
theorem dX10_kin_10 : decode cX10_kin 10 = .ok (.invokevirtual 111, 3) := by decide +kernel
theorem dX10_kin_13 : decode cX10_kin 13 = .ok (.ifCond .eq 31, 3) := by decide +kernel
theorem dX10_kin_16 : decode cX10_kin 16 = .ok (.iload_n 1, 1) := by decide +kernel
theorem dX10_kin_17 : decode cX10_kin 17 = .ok (.iload_n 2, 1) := by decide +kernel
theorem dX10_kin_18 : decode cX10_kin 18 = .ok (.if_icmp .eq 26, 3) := by decide +kernel
theorem dX10_kin_21 : decode cX10_kin 21 = .ok (.aload_n 0, 1) := by decide +kernel
theorem dX10_kin_22 : decode cX10_kin 22 = .ok (.getfield 20, 3) := by decide +kernel
theorem dX10_kin_25 : decode cX10_kin 25 = .ok (.bipush 40, 2) := by decide +kernel
theorem dX10_kin_27 : decode cX10_kin 27 = .ok (.iload_n 1, 1) := by decide +kernel
theorem dX10_kin_28 : decode cX10_kin 28 = .ok (.imul, 1) := by decide +kernel
theorem dX10_kin_29 : decode cX10_kin 29 = .ok (.iload_n 2, 1) := by decide +kernel
theorem dX10_kin_30 : decode cX10_kin 30 = .ok (.iadd, 1) := by decide +kernel
theorem dX10_kin_31 : decode cX10_kin 31 = .ok (.baload, 1) := by decide +kernel
theorem dX10_kin_32 : decode cX10_kin 32 = .ok (.ifCond .ne 12, 3) := by decide +kernel
theorem dX10_kin_35 : decode cX10_kin 35 = .ok (.aload_n 0, 1) := by decide +kernel
theorem dX10_kin_36 : decode cX10_kin 36 = .ok (.getfield 115, 3) := by decide +kernel
theorem dX10_kin_39 : decode cX10_kin 39 = .ok (.bipush 60, 2) := by decide +kernel
theorem dX10_kin_41 : decode cX10_kin 41 = .ok (.if_icmp .ne 5, 3) := by decide +kernel
theorem dX10_kin_44 : decode cX10_kin 44 = .ok (.iconst 0, 1) := by decide +kernel
theorem dX10_kin_45 : decode cX10_kin 45 = .ok (.ireturn, 1) := by decide +kernel
theorem dX10_kin_46 : decode cX10_kin 46 = .ok (.aload_n 0, 1) := by decide +kernel
theorem dX10_kin_47 : decode cX10_kin 47 = .ok (.getfield 20, 3) := by decide +kernel
theorem dX10_kin_50 : decode cX10_kin 50 = .ok (.bipush 40, 2) := by decide +kernel
theorem dX10_kin_52 : decode cX10_kin 52 = .ok (.iload_n 1, 1) := by decide +kernel
theorem dX10_kin_53 : decode cX10_kin 53 = .ok (.imul, 1) := by decide +kernel
theorem dX10_kin_54 : decode cX10_kin 54 = .ok (.iload_n 2, 1) := by decide +kernel
theorem dX10_kin_55 : decode cX10_kin 55 = .ok (.iadd, 1) := by decide +kernel
theorem dX10_kin_56 : decode cX10_kin 56 = .ok (.iconst 1, 1) := by decide +kernel
theorem dX10_kin_57 : decode cX10_kin 57 = .ok (.bastore, 1) := by decide +kernel
theorem dX10_kin_58 : decode cX10_kin 58 = .ok (.aload_n 0, 1) := by decide +kernel
theorem dX10_kin_59 : decode cX10_kin 59 = .ok (.getfield 20, 3) := by decide +kernel
theorem dX10_kin_62 : decode cX10_kin 62 = .ok (.bipush 40, 2) := by decide +kernel
theorem dX10_kin_64 : decode cX10_kin 64 = .ok (.iload_n 2, 1) := by decide +kernel
theorem dX10_kin_65 : decode cX10_kin 65 = .ok (.imul, 1) := by decide +kernel
theorem dX10_kin_66 : decode cX10_kin 66 = .ok (.iload_n 1, 1) := by decide +kernel
theorem dX10_kin_67 : decode cX10_kin 67 = .ok (.iadd, 1) := by decide +kernel
theorem dX10_kin_68 : decode cX10_kin 68 = .ok (.iconst 1, 1) := by decide +kernel
theorem dX10_kin_69 : decode cX10_kin 69 = .ok (.bastore, 1) := by decide +kernel
theorem dX10_kin_70 : decode cX10_kin 70 = .ok (.aload_n 0, 1) := by decide +kernel
theorem dX10_kin_71 : decode cX10_kin 71 = .ok (.dup, 1) := by decide +kernel
theorem dX10_kin_72 : decode cX10_kin 72 = .ok (.getfield 115, 3) := by decide +kernel
theorem dX10_kin_75 : decode cX10_kin 75 = .ok (.iconst 1, 1) := by decide +kernel
theorem dX10_kin_76 : decode cX10_kin 76 = .ok (.iadd, 1) := by decide +kernel
theorem dX10_kin_77 : decode cX10_kin 77 = .ok (.putfield 115, 3) := by decide +kernel
theorem dX10_kin_80 : decode cX10_kin 80 = .ok (.iconst 1, 1) := by decide +kernel
theorem dX10_kin_81 : decode cX10_kin 81 = .ok (.ireturn, 1) := by decide +kernel
set_option maxRecDepth 20000 in
theorem ggX10_says_X10_in : GoodIn wsX10_says wsX10_in := goodIn_r _ [5] (by decide +kernel) (by decide +kernel)
set_option maxRecDepth 20000 in
theorem gX10_says_X10_in : GoodIn wsX10_says (va_wsS RX10 101 yX10_in wsX10_in) := goodIn_app (goodIn_of _ (by decide +kernel)) ggX10_says_X10_in
theorem dX10_says_0 : decode cX10_says 0 = .ok (.iload_n 1, 1) := by decide +kernel
theorem dX10_says_1 : decode cX10_says 1 = .ok (.iconst 0, 1) := by decide +kernel
theorem dX10_says_2 : decode cX10_says 2 = .ok (.iconst 3, 1) := by decide +kernel
theorem dX10_says_3 : decode cX10_says 3 = .ok (.invokestatic 101, 3) := by decide +kernel
theorem dX10_says_6 : decode cX10_says 6 = .ok (.ifCond .eq 26, 3) := by decide +kernel
theorem dX10_says_9 : decode cX10_says 9 = .ok (.iload_n 2, 1) := by decide +kernel
theorem dX10_says_10 : decode cX10_says 10 = .ok (.iconst 0, 1) := by decide +kernel
theorem dX10_says_11 : decode cX10_says 11 = .ok (.iconst 3, 1) := by decide +kernel
theorem dX10_says_12 : decode cX10_says 12 = .ok (.invokestatic 101, 3) := by decide +kernel
theorem dX10_says_15 : decode cX10_says 15 = .ok (.ifCond .eq 17, 3) := by decide +kernel
theorem dX10_says_18 : decode cX10_says 18 = .ok (.aload_n 0, 1) := by decide +kernel
theorem dX10_says_19 : decode cX10_says 19 = .ok (.getfield 23, 3) := by decide +kernel
theorem dX10_says_22 : decode cX10_says 22 = .ok (.iconst 4, 1) := by decide +kernel
theorem dX10_says_23 : decode cX10_says 23 = .ok (.iload_n 1, 1) := by decide +kernel
theorem dX10_says_24 : decode cX10_says 24 = .ok (.imul, 1) := by decide +kernel
theorem dX10_says_25 : decode cX10_says 25 = .ok (.iload_n 2, 1) := by decide +kernel
theorem dX10_says_26 : decode cX10_says 26 = .ok (.iadd, 1) := by decide +kernel
theorem dX10_says_27 : decode cX10_says 27 = .ok (.baload, 1) := by decide +kernel
theorem dX10_says_28 : decode cX10_says 28 = .ok (.iload_n 3, 1) := by decide +kernel
theorem dX10_says_29 : decode cX10_says 29 = .ok (.if_icmp .ne 5, 3) := by decide +kernel
theorem dX10_says_32 : decode cX10_says 32 = .ok (.iconst 0, 1) := by decide +kernel
theorem dX10_says_33 : decode cX10_says 33 = .ok (.ireturn, 1) := by decide +kernel
theorem dX10_says_34 : decode cX10_says 34 = .ok (.aload_n 0, 1) := by decide +kernel
theorem dX10_says_35 : decode cX10_says 35 = .ok (.getfield 23, 3) := by decide +kernel
theorem dX10_says_38 : decode cX10_says 38 = .ok (.iconst 4, 1) := by decide +kernel
theorem dX10_says_39 : decode cX10_says 39 = .ok (.iload_n 1, 1) := by decide +kernel
theorem dX10_says_40 : decode cX10_says 40 = .ok (.imul, 1) := by decide +kernel
theorem dX10_says_41 : decode cX10_says 41 = .ok (.iload_n 2, 1) := by decide +kernel
theorem dX10_says_42 : decode cX10_says 42 = .ok (.iadd, 1) := by decide +kernel
theorem dX10_says_43 : decode cX10_says 43 = .ok (.iload_n 3, 1) := by decide +kernel
theorem dX10_says_44 : decode cX10_says 44 = .ok (.bastore, 1) := by decide +kernel
theorem dX10_says_45 : decode cX10_says 45 = .ok (.iconst 1, 1) := by decide +kernel
theorem dX10_says_46 : decode cX10_says 46 = .ok (.ireturn, 1) := by decide +kernel
set_option maxRecDepth 20000 in
theorem ggX10_turn_X10_isCitizen : GoodIn wsX10_turn wsX10_isCitizen := goodIn_r _ [7, 8, 9, 10, 6, 11, 12, 13, 14, 15, 16, 17, 18, 19, 20, 21, 22, 23, 24, 25, 26, 27, 28, 29, 30, 31, 32, 33, 34, 35, 36, 37, 38, 39, 40, 41, 42, 43, 44, 45, 46, 47, 48, 49, 50, 51, 52, 53, 54, 55, 56, 57, 58, 59, 60, 61] (by decide +kernel) (by decide +kernel)
set_option maxRecDepth 20000 in
theorem gX10_turn_X10_isCitizen : GoodIn wsX10_turn (wsV RX10 111 RX10 yX10_isCitizen wsX10_isCitizen) := goodIn_app (goodIn_of _ (by decide +kernel)) ggX10_turn_X10_isCitizen
set_option maxRecDepth 20000 in
theorem ggX10_turn_X10_in : GoodIn wsX10_turn wsX10_in := goodIn_r _ [11] (by decide +kernel) (by decide +kernel)
set_option maxRecDepth 20000 in
theorem gX10_turn_X10_in : GoodIn wsX10_turn (va_wsS RX10 101 yX10_in wsX10_in) := goodIn_app (goodIn_of _ (by decide +kernel)) ggX10_turn_X10_in
theorem dX10_turn_0 : decode cX10_turn 0 = .ok (.aload_n 0, 1) := by decide +kernel
theorem dX10_turn_1 : decode cX10_turn 1 = .ok (.iload_n 1, 1) := by decide +kernel
theorem dX10_turn_2 : decode cX10_turn 2 = .ok (.invokevirtual 111, 3) := by decide +kernel
theorem dX10_turn_5 : decode cX10_turn 5 = .ok (.ifCond .eq 22, 3) := by decide +kernel
theorem dX10_turn_8 : decode cX10_turn 8 = .ok (.iload_n 2, 1) := by decide +kernel
theorem dX10_turn_9 : decode cX10_turn 9 = .ok (.iconst 0, 1) := by decide +kernel
theorem dX10_turn_10 : decode cX10_turn 10 = .ok (.bipush 11, 2) := by decide +kernel
theorem dX10_turn_12 : decode cX10_turn 12 = .ok (.invokestatic 101, 3) := by decide +kernel
theorem dX10_turn_15 : decode cX10_turn 15 = .ok (.ifCond .eq 12, 3) := by decide +kernel
theorem dX10_turn_18 : decode cX10_turn 18 = .ok (.iload_n 3, 1) := by decide +kernel
theorem dX10_turn_19 : decode cX10_turn 19 = .ok (.iconst 0, 1) := by decide +kernel
theorem dX10_turn_20 : decode cX10_turn 20 = .ok (.iconst 3, 1) := by decide +kernel
theorem dX10_turn_21 : decode cX10_turn 21 = .ok (.invokestatic 101, 3) := by decide +kernel
theorem dX10_turn_24 : decode cX10_turn 24 = .ok (.ifCond .ne 5, 3) := by decide +kernel
theorem dX10_turn_27 : decode cX10_turn 27 = .ok (.iconst 0, 1) := by decide +kernel
theorem dX10_turn_28 : decode cX10_turn 28 = .ok (.ireturn, 1) := by decide +kernel
theorem dX10_turn_29 : decode cX10_turn 29 = .ok (.aload_n 0, 1) := by decide +kernel
theorem dX10_turn_30 : decode cX10_turn 30 = .ok (.getfield 7, 3) := by decide +kernel
theorem dX10_turn_33 : decode cX10_turn 33 = .ok (.iload_n 1, 1) := by decide +kernel
theorem dX10_turn_34 : decode cX10_turn 34 = .ok (.iload_n 2, 1) := by decide +kernel
theorem dX10_turn_35 : decode cX10_turn 35 = .ok (.iastore, 1) := by decide +kernel
theorem dX10_turn_36 : decode cX10_turn 36 = .ok (.aload_n 0, 1) := by decide +kernel
theorem dX10_turn_37 : decode cX10_turn 37 = .ok (.getfield 13, 3) := by decide +kernel
theorem dX10_turn_40 : decode cX10_turn 40 = .ok (.iload_n 1, 1) := by decide +kernel
theorem dX10_turn_41 : decode cX10_turn 41 = .ok (.iload_n 3, 1) := by decide +kernel
theorem dX10_turn_42 : decode cX10_turn 42 = .ok (.iastore, 1) := by decide +kernel
theorem dX10_turn_43 : decode cX10_turn 43 = .ok (.iconst 1, 1) := by decide +kernel
theorem dX10_turn_44 : decode cX10_turn 44 = .ok (.ireturn, 1) := by decide +kernel
theorem dX10_four_0 : decode cX10_four 0 = .ok (.bipush 24, 2) := by decide +kernel
theorem dX10_four_2 : decode cX10_four 2 = .ok (.istore_n 2, 1) := by decide +kernel
theorem dX10_four_3 : decode cX10_four 3 = .ok (.iload_n 2, 1) := by decide +kernel
theorem dX10_four_4 : decode cX10_four 4 = .ok (.ifCond .lt 32, 3) := by decide +kernel
theorem dX10_four_7 : decode cX10_four 7 = .ok (.aload_n 0, 1) := by decide +kernel
theorem dX10_four_8 : decode cX10_four 8 = .ok (.getfield 26, 3) := by decide +kernel
theorem dX10_four_11 : decode cX10_four 11 = .ok (.aload_n 0, 1) := by decide +kernel
theorem dX10_four_12 : decode cX10_four 12 = .ok (.getfield 118, 3) := by decide +kernel
theorem dX10_four_15 : decode cX10_four 15 = .ok (.iload_n 1, 1) := by decide +kernel
theorem dX10_four_16 : decode cX10_four 16 = .ok (.iload_n 2, 1) := by decide +kernel
theorem dX10_four_17 : decode cX10_four 17 = .ok (.ishr, 1) := by decide +kernel
theorem dX10_four_18 : decode cX10_four 18 = .ok (.i2b, 1) := by decide +kernel
theorem dX10_four_19 : decode cX10_four 19 = .ok (.bastore, 1) := by decide +kernel
theorem dX10_four_20 : decode cX10_four 20 = .ok (.aload_n 0, 1) := by decide +kernel
theorem dX10_four_21 : decode cX10_four 21 = .ok (.dup, 1) := by decide +kernel
theorem dX10_four_22 : decode cX10_four 22 = .ok (.getfield 118, 3) := by decide +kernel
theorem dX10_four_25 : decode cX10_four 25 = .ok (.iconst 1, 1) := by decide +kernel
theorem dX10_four_26 : decode cX10_four 26 = .ok (.iadd, 1) := by decide +kernel
theorem dX10_four_27 : decode cX10_four 27 = .ok (.putfield 118, 3) := by decide +kernel
theorem dX10_four_30 : decode cX10_four 30 = .ok (.iinc 2 (-8), 3) := by decide +kernel
theorem dX10_four_33 : decode cX10_four 33 = .ok (.goto (-30), 3) := by decide +kernel
theorem dX10_four_36 : decode cX10_four 36 = .ok (.return_, 1) := by decide +kernel
set_option maxRecDepth 20000 in
theorem ggX10_feed_X10_four : GoodIn wsX10_feed wsX10_four := goodIn_r _ [6, 7, 1, 8, 9, 10, 11, 12, 13, 14, 15, 16, 17, 18, 19, 20, 21, 22, 23, 24, 25, 26, 27, 28, 29, 30, 31, 32, 33, 34, 35, 36, 37, 38, 39, 40, 41, 42, 43, 44, 45, 46, 47, 48, 49, 50, 51, 52, 53, 54, 55, 56, 57] (by decide +kernel) (by decide +kernel)
set_option maxRecDepth 20000 in
theorem gX10_feed_X10_four : GoodIn wsX10_feed (wsV RX10 121 RX10 yX10_four wsX10_four) := goodIn_app (goodIn_of _ (by decide +kernel)) ggX10_feed_X10_four
theorem dX10_feed_0 : decode cX10_feed 0 = .ok (.aload_n 0, 1) := by decide +kernel
theorem dX10_feed_1 : decode cX10_feed 1 = .ok (.getfield 118, 3) := by decide +kernel
theorem dX10_feed_4 : decode cX10_feed 4 = .ok (.bipush 20, 2) := by decide +kernel
theorem dX10_feed_6 : decode cX10_feed 6 = .ok (.iadd, 1) := by decide +kernel
theorem dX10_feed_7 : decode cX10_feed 7 = .ok (.sipush 300, 3) := by decide +kernel
theorem dX10_feed_10 : decode cX10_feed 10 = .ok (.if_icmp .le 5, 3) := by decide +kernel
theorem dX10_feed_13 : decode cX10_feed 13 = .ok (.iconst (-1), 1) := by decide +kernel
theorem dX10_feed_14 : decode cX10_feed 14 = .ok (.ireturn, 1) := by decide +kernel
theorem dX10_feed_15 : decode cX10_feed 15 = .ok (.aload_n 0, 1) := by decide +kernel
theorem dX10_feed_16 : decode cX10_feed 16 = .ok (.iload_n 1, 1) := by decide +kernel
theorem dX10_feed_17 : decode cX10_feed 17 = .ok (.invokevirtual 121, 3) := by decide +kernel
theorem dX10_feed_20 : decode cX10_feed 20 = .ok (.aload_n 0, 1) := by decide +kernel
theorem dX10_feed_21 : decode cX10_feed 21 = .ok (.iload_n 2, 1) := by decide +kernel
theorem dX10_feed_22 : decode cX10_feed 22 = .ok (.invokevirtual 121, 3) := by decide +kernel
theorem dX10_feed_25 : decode cX10_feed 25 = .ok (.aload_n 0, 1) := by decide +kernel
theorem dX10_feed_26 : decode cX10_feed 26 = .ok (.iload_n 3, 1) := by decide +kernel
theorem dX10_feed_27 : decode cX10_feed 27 = .ok (.invokevirtual 121, 3) := by decide +kernel
theorem dX10_feed_30 : decode cX10_feed 30 = .ok (.aload_n 0, 1) := by decide +kernel
theorem dX10_feed_31 : decode cX10_feed 31 = .ok (.iload 4, 2) := by decide +kernel
theorem dX10_feed_33 : decode cX10_feed 33 = .ok (.invokevirtual 121, 3) := by decide +kernel
theorem dX10_feed_36 : decode cX10_feed 36 = .ok (.aload_n 0, 1) := by decide +kernel
theorem dX10_feed_37 : decode cX10_feed 37 = .ok (.iload 5, 2) := by decide +kernel
theorem dX10_feed_39 : decode cX10_feed 39 = .ok (.invokevirtual 121, 3) := by decide +kernel
theorem dX10_feed_42 : decode cX10_feed 42 = .ok (.aload_n 0, 1) := by decide +kernel
theorem dX10_feed_43 : decode cX10_feed 43 = .ok (.getfield 118, 3) := by decide +kernel
theorem dX10_feed_46 : decode cX10_feed 46 = .ok (.ireturn, 1) := by decide +kernel
theorem dX10_end_0 : decode cX10_end 0 = .ok (.iload_n 1, 1) := by decide +kernel
theorem dX10_end_1 : decode cX10_end 1 = .ok (.ifCond .lt 11, 3) := by decide +kernel
theorem dX10_end_4 : decode cX10_end 4 = .ok (.iload_n 1, 1) := by decide +kernel
theorem dX10_end_5 : decode cX10_end 5 = .ok (.aload_n 0, 1) := by decide +kernel
theorem dX10_end_6 : decode cX10_end 6 = .ok (.getfield 118, 3) := by decide +kernel
theorem dX10_end_9 : decode cX10_end 9 = .ok (.if_icmp .le 5, 3) := by decide +kernel
theorem dX10_end_12 : decode cX10_end 12 = .ok (.iconst (-1), 1) := by decide +kernel
theorem dX10_end_13 : decode cX10_end 13 = .ok (.ireturn, 1) := by decide +kernel
theorem dX10_end_14 : decode cX10_end 14 = .ok (.aload_n 0, 1) := by decide +kernel
theorem dX10_end_15 : decode cX10_end 15 = .ok (.iload_n 1, 1) := by decide +kernel
theorem dX10_end_16 : decode cX10_end 16 = .ok (.putfield 118, 3) := by decide +kernel
theorem dX10_end_19 : decode cX10_end 19 = .ok (.iload_n 1, 1) := by decide +kernel
theorem dX10_end_20 : decode cX10_end 20 = .ok (.ireturn, 1) := by decide +kernel
theorem dX10_fails_0 : decode cX10_fails 0 = .ok (.aload_n 0, 1) := by decide +kernel
theorem dX10_fails_1 : decode cX10_fails 1 = .ok (.getfield 125, 3) := by decide +kernel
theorem dX10_fails_4 : decode cX10_fails 4 = .ok (.ifCond .ne 15, 3) := by decide +kernel
theorem dX10_fails_7 : decode cX10_fails 7 = .ok (.aload_n 0, 1) := by decide +kernel
theorem dX10_fails_8 : decode cX10_fails 8 = .ok (.iconst 1, 1) := by decide +kernel
theorem dX10_fails_9 : decode cX10_fails 9 = .ok (.bipush 8, 2) := by decide +kernel
theorem dX10_fails_11 : decode cX10_fails 11 = .ok (.iload_n 2, 1) := by decide +kernel
theorem dX10_fails_12 : decode cX10_fails 12 = .ok (.imul, 1) := by decide +kernel
theorem dX10_fails_13 : decode cX10_fails 13 = .ok (.iadd, 1) := by decide +kernel
theorem dX10_fails_14 : decode cX10_fails 14 = .ok (.iload_n 1, 1) := by decide +kernel
theorem dX10_fails_15 : decode cX10_fails 15 = .ok (.iadd, 1) := by decide +kernel
theorem dX10_fails_16 : decode cX10_fails 16 = .ok (.putfield 125, 3) := by decide +kernel
theorem dX10_fails_19 : decode cX10_fails 19 = .ok (.iconst 0, 1) := by decide +kernel
theorem dX10_fails_20 : decode cX10_fails 20 = .ok (.ireturn, 1) := by decide +kernel
theorem dX10_see_0 : decode cX10_see 0 = .ok (.aload_n 0, 1) := by decide +kernel
theorem dX10_see_1 : decode cX10_see 1 = .ok (.getfield 128, 3) := by decide +kernel
theorem dX10_see_4 : decode cX10_see 4 = .ok (.aload_n 0, 1) := by decide +kernel
theorem dX10_see_5 : decode cX10_see 5 = .ok (.getfield 118, 3) := by decide +kernel
theorem dX10_see_8 : decode cX10_see 8 = .ok (.if_icmp .ge 30, 3) := by decide +kernel
theorem dX10_see_11 : decode cX10_see 11 = .ok (.aload_n 0, 1) := by decide +kernel
theorem dX10_see_12 : decode cX10_see 12 = .ok (.getfield 26, 3) := by decide +kernel
theorem dX10_see_15 : decode cX10_see 15 = .ok (.aload_n 0, 1) := by decide +kernel
theorem dX10_see_16 : decode cX10_see 16 = .ok (.getfield 128, 3) := by decide +kernel
theorem dX10_see_19 : decode cX10_see 19 = .ok (.baload, 1) := by decide +kernel
theorem dX10_see_20 : decode cX10_see 20 = .ok (.bipush 32, 2) := by decide +kernel
theorem dX10_see_22 : decode cX10_see 22 = .ok (.if_icmp .ne 16, 3) := by decide +kernel
theorem dX10_see_25 : decode cX10_see 25 = .ok (.aload_n 0, 1) := by decide +kernel
theorem dX10_see_26 : decode cX10_see 26 = .ok (.dup, 1) := by decide +kernel
theorem dX10_see_27 : decode cX10_see 27 = .ok (.getfield 128, 3) := by decide +kernel
theorem dX10_see_30 : decode cX10_see 30 = .ok (.iconst 1, 1) := by decide +kernel
theorem dX10_see_31 : decode cX10_see 31 = .ok (.iadd, 1) := by decide +kernel
theorem dX10_see_32 : decode cX10_see 32 = .ok (.putfield 128, 3) := by decide +kernel
theorem dX10_see_35 : decode cX10_see 35 = .ok (.goto (-35), 3) := by decide +kernel
theorem dX10_see_38 : decode cX10_see 38 = .ok (.aload_n 0, 1) := by decide +kernel
theorem dX10_see_39 : decode cX10_see 39 = .ok (.getfield 128, 3) := by decide +kernel
theorem dX10_see_42 : decode cX10_see 42 = .ok (.aload_n 0, 1) := by decide +kernel
theorem dX10_see_43 : decode cX10_see 43 = .ok (.getfield 118, 3) := by decide +kernel
theorem dX10_see_46 : decode cX10_see 46 = .ok (.if_icmp .ge 19, 3) := by decide +kernel
theorem dX10_see_49 : decode cX10_see 49 = .ok (.aload_n 0, 1) := by decide +kernel
theorem dX10_see_50 : decode cX10_see 50 = .ok (.getfield 26, 3) := by decide +kernel
theorem dX10_see_53 : decode cX10_see 53 = .ok (.aload_n 0, 1) := by decide +kernel
theorem dX10_see_54 : decode cX10_see 54 = .ok (.getfield 128, 3) := by decide +kernel
theorem dX10_see_57 : decode cX10_see 57 = .ok (.baload, 1) := by decide +kernel
theorem dX10_see_58 : decode cX10_see 58 = .ok (.sipush 255, 3) := by decide +kernel
theorem dX10_see_61 : decode cX10_see 61 = .ok (.iand, 1) := by decide +kernel
theorem dX10_see_62 : decode cX10_see 62 = .ok (.goto 4, 3) := by decide +kernel
theorem dX10_see_65 : decode cX10_see 65 = .ok (.iconst (-1), 1) := by decide +kernel
theorem dX10_see_66 : decode cX10_see 66 = .ok (.ireturn, 1) := by decide +kernel
set_option maxRecDepth 20000 in
theorem ggX10_looks_X10_see : GoodIn wsX10_looks wsX10_see := goodIn_r _ [10, 1, 4, 5, 11, 12, 13, 14, 15, 16, 17, 18, 19, 20, 21, 22, 23, 24, 25, 26, 27, 28, 29, 30, 31, 32, 33, 34, 35, 36, 37, 38, 39, 40, 41, 42, 43, 44, 45, 46, 47, 48, 49, 50, 51, 52, 53, 54, 55, 56, 57, 58, 59, 60] (by decide +kernel) (by decide +kernel)
set_option maxRecDepth 20000 in
theorem gX10_looks_X10_see : GoodIn wsX10_looks (wsV RX10 131 RX10 yX10_see wsX10_see) := goodIn_app (goodIn_of _ (by decide +kernel)) ggX10_looks_X10_see
theorem dX10_looks_0 : decode cX10_looks 0 = .ok (.aload_n 0, 1) := by decide +kernel
theorem dX10_looks_1 : decode cX10_looks 1 = .ok (.invokevirtual 131, 3) := by decide +kernel
theorem dX10_looks_4 : decode cX10_looks 4 = .ok (.istore_n 1, 1) := by decide +kernel
theorem dX10_looks_5 : decode cX10_looks 5 = .ok (.aload_n 0, 1) := by decide +kernel
theorem dX10_looks_6 : decode cX10_looks 6 = .ok (.aload_n 0, 1) := by decide +kernel
theorem dX10_looks_7 : decode cX10_looks 7 = .ok (.getfield 128, 3) := by decide +kernel
theorem dX10_looks_10 : decode cX10_looks 10 = .ok (.putfield 135, 3) := by decide +kernel
theorem dX10_looks_13 : decode cX10_looks 13 = .ok (.aload_n 0, 1) := by decide +kernel
theorem dX10_looks_14 : decode cX10_looks 14 = .ok (.iconst 0, 1) := by decide +kernel
theorem dX10_looks_15 : decode cX10_looks 15 = .ok (.putfield 138, 3) := by decide +kernel
theorem dX10_looks_18 : decode cX10_looks 18 = .ok (.aload_n 0, 1) := by decide +kernel
theorem dX10_looks_19 : decode cX10_looks 19 = .ok (.getfield 135, 3) := by decide +kernel
theorem dX10_looks_22 : decode cX10_looks 22 = .ok (.aload_n 0, 1) := by decide +kernel
theorem dX10_looks_23 : decode cX10_looks 23 = .ok (.getfield 138, 3) := by decide +kernel
theorem dX10_looks_26 : decode cX10_looks 26 = .ok (.iadd, 1) := by decide +kernel
theorem dX10_looks_27 : decode cX10_looks 27 = .ok (.aload_n 0, 1) := by decide +kernel
theorem dX10_looks_28 : decode cX10_looks 28 = .ok (.getfield 118, 3) := by decide +kernel
theorem dX10_looks_31 : decode cX10_looks 31 = .ok (.if_icmp .ge 54, 3) := by decide +kernel
theorem dX10_looks_34 : decode cX10_looks 34 = .ok (.aload_n 0, 1) := by decide +kernel
theorem dX10_looks_35 : decode cX10_looks 35 = .ok (.getfield 26, 3) := by decide +kernel
theorem dX10_looks_38 : decode cX10_looks 38 = .ok (.aload_n 0, 1) := by decide +kernel
theorem dX10_looks_39 : decode cX10_looks 39 = .ok (.getfield 135, 3) := by decide +kernel
theorem dX10_looks_42 : decode cX10_looks 42 = .ok (.aload_n 0, 1) := by decide +kernel
theorem dX10_looks_43 : decode cX10_looks 43 = .ok (.getfield 138, 3) := by decide +kernel
theorem dX10_looks_46 : decode cX10_looks 46 = .ok (.iadd, 1) := by decide +kernel
theorem dX10_looks_47 : decode cX10_looks 47 = .ok (.baload, 1) := by decide +kernel
theorem dX10_looks_48 : decode cX10_looks 48 = .ok (.bipush 97, 2) := by decide +kernel
theorem dX10_looks_50 : decode cX10_looks 50 = .ok (.if_icmp .lt 35, 3) := by decide +kernel
theorem dX10_looks_53 : decode cX10_looks 53 = .ok (.aload_n 0, 1) := by decide +kernel
theorem dX10_looks_54 : decode cX10_looks 54 = .ok (.getfield 26, 3) := by decide +kernel
theorem dX10_looks_57 : decode cX10_looks 57 = .ok (.aload_n 0, 1) := by decide +kernel
theorem dX10_looks_58 : decode cX10_looks 58 = .ok (.getfield 135, 3) := by decide +kernel
theorem dX10_looks_61 : decode cX10_looks 61 = .ok (.aload_n 0, 1) := by decide +kernel
theorem dX10_looks_62 : decode cX10_looks 62 = .ok (.getfield 138, 3) := by decide +kernel
theorem dX10_looks_65 : decode cX10_looks 65 = .ok (.iadd, 1) := by decide +kernel
theorem dX10_looks_66 : decode cX10_looks 66 = .ok (.baload, 1) := by decide +kernel
theorem dX10_looks_67 : decode cX10_looks 67 = .ok (.bipush 122, 2) := by decide +kernel
theorem dX10_looks_69 : decode cX10_looks 69 = .ok (.if_icmp .gt 16, 3) := by decide +kernel
theorem dX10_looks_72 : decode cX10_looks 72 = .ok (.aload_n 0, 1) := by decide +kernel
theorem dX10_looks_73 : decode cX10_looks 73 = .ok (.dup, 1) := by decide +kernel
theorem dX10_looks_74 : decode cX10_looks 74 = .ok (.getfield 138, 3) := by decide +kernel
theorem dX10_looks_77 : decode cX10_looks 77 = .ok (.iconst 1, 1) := by decide +kernel
theorem dX10_looks_78 : decode cX10_looks 78 = .ok (.iadd, 1) := by decide +kernel
theorem dX10_looks_79 : decode cX10_looks 79 = .ok (.putfield 138, 3) := by decide +kernel
theorem dX10_looks_82 : decode cX10_looks 82 = .ok (.goto (-64), 3) := by decide +kernel
theorem dX10_looks_85 : decode cX10_looks 85 = .ok (.return_, 1) := by decide +kernel
theorem dX10_isWord_0 : decode cX10_isWord 0 = .ok (.aload_n 0, 1) := by decide +kernel
theorem dX10_isWord_1 : decode cX10_isWord 1 = .ok (.getfield 67, 3) := by decide +kernel
theorem dX10_isWord_4 : decode cX10_isWord 4 = .ok (.iconst 0, 1) := by decide +kernel
theorem dX10_isWord_5 : decode cX10_isWord 5 = .ok (.iload_n 1, 1) := by decide +kernel
theorem dX10_isWord_6 : decode cX10_isWord 6 = .ok (.iastore, 1) := by decide +kernel
theorem dX10_isWord_7 : decode cX10_isWord 7 = .ok (.aload_n 0, 1) := by decide +kernel
theorem dX10_isWord_8 : decode cX10_isWord 8 = .ok (.getfield 67, 3) := by decide +kernel
theorem dX10_isWord_11 : decode cX10_isWord 11 = .ok (.iconst 1, 1) := by decide +kernel
theorem dX10_isWord_12 : decode cX10_isWord 12 = .ok (.iload_n 2, 1) := by decide +kernel
theorem dX10_isWord_13 : decode cX10_isWord 13 = .ok (.iastore, 1) := by decide +kernel
theorem dX10_isWord_14 : decode cX10_isWord 14 = .ok (.aload_n 0, 1) := by decide +kernel
theorem dX10_isWord_15 : decode cX10_isWord 15 = .ok (.getfield 67, 3) := by decide +kernel
theorem dX10_isWord_18 : decode cX10_isWord 18 = .ok (.iconst 2, 1) := by decide +kernel
theorem dX10_isWord_19 : decode cX10_isWord 19 = .ok (.iload_n 3, 1) := by decide +kernel
theorem dX10_isWord_20 : decode cX10_isWord 20 = .ok (.iastore, 1) := by decide +kernel
theorem dX10_isWord_21 : decode cX10_isWord 21 = .ok (.aload_n 0, 1) := by decide +kernel
theorem dX10_isWord_22 : decode cX10_isWord 22 = .ok (.getfield 67, 3) := by decide +kernel
theorem dX10_isWord_25 : decode cX10_isWord 25 = .ok (.iconst 3, 1) := by decide +kernel
theorem dX10_isWord_26 : decode cX10_isWord 26 = .ok (.iload 4, 2) := by decide +kernel
theorem dX10_isWord_28 : decode cX10_isWord 28 = .ok (.iastore, 1) := by decide +kernel
theorem dX10_isWord_29 : decode cX10_isWord 29 = .ok (.aload_n 0, 1) := by decide +kernel
theorem dX10_isWord_30 : decode cX10_isWord 30 = .ok (.getfield 67, 3) := by decide +kernel
theorem dX10_isWord_33 : decode cX10_isWord 33 = .ok (.iconst 4, 1) := by decide +kernel
theorem dX10_isWord_34 : decode cX10_isWord 34 = .ok (.iload 5, 2) := by decide +kernel
theorem dX10_isWord_36 : decode cX10_isWord 36 = .ok (.iastore, 1) := by decide +kernel
theorem dX10_isWord_37 : decode cX10_isWord 37 = .ok (.aload_n 0, 1) := by decide +kernel
theorem dX10_isWord_38 : decode cX10_isWord 38 = .ok (.getfield 67, 3) := by decide +kernel
theorem dX10_isWord_41 : decode cX10_isWord 41 = .ok (.iconst 5, 1) := by decide +kernel
theorem dX10_isWord_42 : decode cX10_isWord 42 = .ok (.iload 6, 2) := by decide +kernel
theorem dX10_isWord_44 : decode cX10_isWord 44 = .ok (.iastore, 1) := by decide +kernel
theorem dX10_isWord_45 : decode cX10_isWord 45 = .ok (.iconst 0, 1) := by decide +kernel
theorem dX10_isWord_46 : decode cX10_isWord 46 = .ok (.istore 7, 2) := by decide +kernel
theorem dX10_isWord_48 : decode cX10_isWord 48 = .ok (.iload 7, 2) := by decide +kernel
theorem dX10_isWord_50 : decode cX10_isWord 50 = .ok (.bipush 6, 2) := by decide +kernel
theorem dX10_isWord_52 : decode cX10_isWord 52 = .ok (.if_icmp .ge 19, 3) := by decide +kernel
theorem dX10_isWord_55 : decode cX10_isWord 55 = .ok (.aload_n 0, 1) := by decide +kernel
theorem dX10_isWord_56 : decode cX10_isWord 56 = .ok (.getfield 67, 3) := by decide +kernel
theorem dX10_isWord_59 : decode cX10_isWord 59 = .ok (.iload 7, 2) := by decide +kernel
theorem dX10_isWord_61 : decode cX10_isWord 61 = .ok (.iaload, 1) := by decide +kernel
theorem dX10_isWord_62 : decode cX10_isWord 62 = .ok (.ifCond .le 9, 3) := by decide +kernel
theorem dX10_isWord_65 : decode cX10_isWord 65 = .ok (.iinc 7 1, 3) := by decide +kernel
theorem dX10_isWord_68 : decode cX10_isWord 68 = .ok (.goto (-20), 3) := by decide +kernel
theorem dX10_isWord_71 : decode cX10_isWord 71 = .ok (.iload 7, 2) := by decide +kernel
theorem dX10_isWord_73 : decode cX10_isWord 73 = .ok (.aload_n 0, 1) := by decide +kernel
theorem dX10_isWord_74 : decode cX10_isWord 74 = .ok (.getfield 138, 3) := by decide +kernel
theorem dX10_isWord_77 : decode cX10_isWord 77 = .ok (.if_icmp .eq 5, 3) := by decide +kernel
theorem dX10_isWord_80 : decode cX10_isWord 80 = .ok (.iconst 0, 1) := by decide +kernel
theorem dX10_isWord_81 : decode cX10_isWord 81 = .ok (.ireturn, 1) := by decide +kernel
theorem dX10_isWord_82 : decode cX10_isWord 82 = .ok (.iconst 0, 1) := by decide +kernel
theorem dX10_isWord_83 : decode cX10_isWord 83 = .ok (.istore 8, 2) := by decide +kernel
theorem dX10_isWord_85 : decode cX10_isWord 85 = .ok (.iload 8, 2) := by decide +kernel
theorem dX10_isWord_87 : decode cX10_isWord 87 = .ok (.iload 7, 2) := by decide +kernel
theorem dX10_isWord_89 : decode cX10_isWord 89 = .ok (.if_icmp .ge 33, 3) := by decide +kernel
theorem dX10_isWord_92 : decode cX10_isWord 92 = .ok (.aload_n 0, 1) := by decide +kernel
theorem dX10_isWord_93 : decode cX10_isWord 93 = .ok (.getfield 26, 3) := by decide +kernel
theorem dX10_isWord_96 : decode cX10_isWord 96 = .ok (.aload_n 0, 1) := by decide +kernel
theorem dX10_isWord_97 : decode cX10_isWord 97 = .ok (.getfield 135, 3) := by decide +kernel
theorem dX10_isWord_100 : decode cX10_isWord 100 = .ok (.iload 8, 2) := by decide +kernel
theorem dX10_isWord_102 : decode cX10_isWord 102 = .ok (.iadd, 1) := by decide +kernel
theorem dX10_isWord_103 : decode cX10_isWord 103 = .ok (.baload, 1) := by decide +kernel
theorem dX10_isWord_104 : decode cX10_isWord 104 = .ok (.aload_n 0, 1) := by decide +kernel
theorem dX10_isWord_105 : decode cX10_isWord 105 = .ok (.getfield 67, 3) := by decide +kernel
theorem dX10_isWord_108 : decode cX10_isWord 108 = .ok (.iload 8, 2) := by decide +kernel
theorem dX10_isWord_110 : decode cX10_isWord 110 = .ok (.iaload, 1) := by decide +kernel
theorem dX10_isWord_111 : decode cX10_isWord 111 = .ok (.if_icmp .eq 5, 3) := by decide +kernel
theorem dX10_isWord_114 : decode cX10_isWord 114 = .ok (.iconst 0, 1) := by decide +kernel
theorem dX10_isWord_115 : decode cX10_isWord 115 = .ok (.ireturn, 1) := by decide +kernel
theorem dX10_isWord_116 : decode cX10_isWord 116 = .ok (.iinc 8 1, 3) := by decide +kernel
theorem dX10_isWord_119 : decode cX10_isWord 119 = .ok (.goto (-34), 3) := by decide +kernel
theorem dX10_isWord_122 : decode cX10_isWord 122 = .ok (.iconst 1, 1) := by decide +kernel
theorem dX10_isWord_123 : decode cX10_isWord 123 = .ok (.ireturn, 1) := by decide +kernel
set_option maxRecDepth 20000 in
theorem ggX10_number_X10_see : GoodIn wsX10_number wsX10_see := goodIn_r _ [10, 1, 3, 4, 19, 20, 21, 22, 23, 24, 25, 26, 27, 28, 29, 30, 31, 32, 33, 34, 35, 36, 37, 38, 39, 40, 41, 42, 43, 44, 45, 46, 47, 48, 49, 50, 51, 52, 53, 54, 55, 56, 57, 58, 59, 60, 61, 62, 63, 64, 65, 66, 67, 68] (by decide +kernel) (by decide +kernel)
set_option maxRecDepth 20000 in
theorem gX10_number_X10_see : GoodIn wsX10_number (wsV RX10 131 RX10 yX10_see wsX10_see) := goodIn_app (goodIn_of _ (by decide +kernel)) ggX10_number_X10_see
set_option maxRecDepth 20000 in
theorem ggX10_number_X10_fails : GoodIn wsX10_number wsX10_fails := goodIn_r _ [14, 15, 19, 20, 21, 22, 23, 24, 25, 26, 27, 28, 29, 30, 31, 32, 33, 34, 35, 36, 37, 38, 39, 40, 41, 42, 43, 44, 45, 46, 47, 48, 49, 50, 51, 52, 53, 54, 55, 56, 57, 58, 59, 60, 61, 62, 63, 64, 65, 66, 67, 68] (by decide +kernel) (by decide +kernel)
set_option maxRecDepth 20000 in
theorem gX10_number_X10_fails : GoodIn wsX10_number (wsV RX10 141 RX10 yX10_fails wsX10_fails) := goodIn_app (goodIn_of _ (by decide +kernel)) ggX10_number_X10_fails
set_option maxRecDepth 20000 in
theorem ggX10_number_X10_in : GoodIn wsX10_number wsX10_in := goodIn_r _ [18] (by decide +kernel) (by decide +kernel)
set_option maxRecDepth 20000 in
theorem gX10_number_X10_in : GoodIn wsX10_number (va_wsS RX10 101 yX10_in wsX10_in) := goodIn_app (goodIn_of _ (by decide +kernel)) ggX10_number_X10_in
theorem dX10_number_0 : decode cX10_number 0 = .ok (.aload_n 0, 1) := by decide +kernel
theorem dX10_number_1 : decode cX10_number 1 = .ok (.invokevirtual 131, 3) := by decide +kernel
theorem dX10_number_4 : decode cX10_number 4 = .ok (.istore_n 2, 1) := by decide +kernel
theorem dX10_number_5 : decode cX10_number 5 = .ok (.iload_n 2, 1) := by decide +kernel
theorem dX10_number_6 : decode cX10_number 6 = .ok (.bipush 48, 2) := by decide +kernel
theorem dX10_number_8 : decode cX10_number 8 = .ok (.if_icmp .lt 9, 3) := by decide +kernel
theorem dX10_number_11 : decode cX10_number 11 = .ok (.iload_n 2, 1) := by decide +kernel
theorem dX10_number_12 : decode cX10_number 12 = .ok (.bipush 57, 2) := by decide +kernel
theorem dX10_number_14 : decode cX10_number 14 = .ok (.if_icmp .le 13, 3) := by decide +kernel
theorem dX10_number_17 : decode cX10_number 17 = .ok (.aload_n 0, 1) := by decide +kernel
theorem dX10_number_18 : decode cX10_number 18 = .ok (.iconst 0, 1) := by decide +kernel
theorem dX10_number_19 : decode cX10_number 19 = .ok (.aload_n 0, 1) := by decide +kernel
theorem dX10_number_20 : decode cX10_number 20 = .ok (.getfield 128, 3) := by decide +kernel
theorem dX10_number_23 : decode cX10_number 23 = .ok (.invokevirtual 141, 3) := by decide +kernel
theorem dX10_number_26 : decode cX10_number 26 = .ok (.ireturn, 1) := by decide +kernel
theorem dX10_number_27 : decode cX10_number 27 = .ok (.aload_n 0, 1) := by decide +kernel
theorem dX10_number_28 : decode cX10_number 28 = .ok (.aload_n 0, 1) := by decide +kernel
theorem dX10_number_29 : decode cX10_number 29 = .ok (.getfield 128, 3) := by decide +kernel
theorem dX10_number_32 : decode cX10_number 32 = .ok (.putfield 145, 3) := by decide +kernel
theorem dX10_number_35 : decode cX10_number 35 = .ok (.iconst 0, 1) := by decide +kernel
theorem dX10_number_36 : decode cX10_number 36 = .ok (.istore_n 3, 1) := by decide +kernel
theorem dX10_number_37 : decode cX10_number 37 = .ok (.iconst 0, 1) := by decide +kernel
theorem dX10_number_38 : decode cX10_number 38 = .ok (.istore 4, 2) := by decide +kernel
theorem dX10_number_40 : decode cX10_number 40 = .ok (.aload_n 0, 1) := by decide +kernel
theorem dX10_number_41 : decode cX10_number 41 = .ok (.getfield 128, 3) := by decide +kernel
theorem dX10_number_44 : decode cX10_number 44 = .ok (.aload_n 0, 1) := by decide +kernel
theorem dX10_number_45 : decode cX10_number 45 = .ok (.getfield 118, 3) := by decide +kernel
theorem dX10_number_48 : decode cX10_number 48 = .ok (.if_icmp .ge 72, 3) := by decide +kernel
theorem dX10_number_51 : decode cX10_number 51 = .ok (.aload_n 0, 1) := by decide +kernel
theorem dX10_number_52 : decode cX10_number 52 = .ok (.getfield 26, 3) := by decide +kernel
theorem dX10_number_55 : decode cX10_number 55 = .ok (.aload_n 0, 1) := by decide +kernel
theorem dX10_number_56 : decode cX10_number 56 = .ok (.getfield 128, 3) := by decide +kernel
theorem dX10_number_59 : decode cX10_number 59 = .ok (.baload, 1) := by decide +kernel
theorem dX10_number_60 : decode cX10_number 60 = .ok (.bipush 48, 2) := by decide +kernel
theorem dX10_number_62 : decode cX10_number 62 = .ok (.if_icmp .lt 58, 3) := by decide +kernel
theorem dX10_number_65 : decode cX10_number 65 = .ok (.aload_n 0, 1) := by decide +kernel
theorem dX10_number_66 : decode cX10_number 66 = .ok (.getfield 26, 3) := by decide +kernel
theorem dX10_number_69 : decode cX10_number 69 = .ok (.aload_n 0, 1) := by decide +kernel
theorem dX10_number_70 : decode cX10_number 70 = .ok (.getfield 128, 3) := by decide +kernel
theorem dX10_number_73 : decode cX10_number 73 = .ok (.baload, 1) := by decide +kernel
theorem dX10_number_74 : decode cX10_number 74 = .ok (.bipush 57, 2) := by decide +kernel
theorem dX10_number_76 : decode cX10_number 76 = .ok (.if_icmp .gt 44, 3) := by decide +kernel
theorem dX10_number_79 : decode cX10_number 79 = .ok (.iload_n 3, 1) := by decide +kernel
theorem dX10_number_80 : decode cX10_number 80 = .ok (.iconst 2, 1) := by decide +kernel
theorem dX10_number_81 : decode cX10_number 81 = .ok (.if_icmp .ge 23, 3) := by decide +kernel
theorem dX10_number_84 : decode cX10_number 84 = .ok (.bipush 10, 2) := by decide +kernel
theorem dX10_number_86 : decode cX10_number 86 = .ok (.iload 4, 2) := by decide +kernel
theorem dX10_number_88 : decode cX10_number 88 = .ok (.imul, 1) := by decide +kernel
theorem dX10_number_89 : decode cX10_number 89 = .ok (.aload_n 0, 1) := by decide +kernel
theorem dX10_number_90 : decode cX10_number 90 = .ok (.getfield 26, 3) := by decide +kernel
theorem dX10_number_93 : decode cX10_number 93 = .ok (.aload_n 0, 1) := by decide +kernel
theorem dX10_number_94 : decode cX10_number 94 = .ok (.getfield 128, 3) := by decide +kernel
theorem dX10_number_97 : decode cX10_number 97 = .ok (.baload, 1) := by decide +kernel
theorem dX10_number_98 : decode cX10_number 98 = .ok (.iadd, 1) := by decide +kernel
theorem dX10_number_99 : decode cX10_number 99 = .ok (.bipush 48, 2) := by decide +kernel
theorem dX10_number_101 : decode cX10_number 101 = .ok (.isub, 1) := by decide +kernel
theorem dX10_number_102 : decode cX10_number 102 = .ok (.istore 4, 2) := by decide +kernel
theorem dX10_number_104 : decode cX10_number 104 = .ok (.iinc 3 1, 3) := by decide +kernel
