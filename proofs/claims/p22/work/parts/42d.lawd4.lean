set_option maxRecDepth 20000 in
theorem ggL_shows_X3_damage : GoodIn wsL_shows wsX3_damage := goodIn_r _ [5, 6, 7, 8, 4, 9, 10, 11, 12, 13, 14, 15, 16, 17, 18, 19, 20, 206, 207, 208, 209, 210, 211, 212, 213, 214, 215, 216, 217, 218, 219, 220, 221, 222, 223] (by decide +kernel) (by decide +kernel)
set_option maxRecDepth 20000 in
theorem gL_shows_X3_damage : GoodIn wsL_shows (wsV RL 125 RX3 yX3_damage wsX3_damage) := goodIn_app (goodIn_of _ (by decide +kernel)) ggL_shows_X3_damage
set_option maxRecDepth 20000 in
theorem ggL_shows_X3_show : GoodIn wsL_shows wsX3_show := goodIn_r _ [24, 6, 7, 8, 4, 9, 10, 11, 12, 13, 14, 15, 16, 17, 18, 19, 20, 25, 26, 27, 28, 206, 207, 208, 209, 210, 211, 212, 213, 214, 215, 216, 217, 218, 219, 220, 221, 222, 223] (by decide +kernel) (by decide +kernel)
set_option maxRecDepth 20000 in
theorem gL_shows_X3_show : GoodIn wsL_shows (wsV RL 116 RX3 yX3_show wsX3_show) := goodIn_app (goodIn_of _ (by decide +kernel)) ggL_shows_X3_show
set_option maxRecDepth 20000 in
theorem ggL_shows_L_at : GoodIn wsL_shows wsL_at := goodIn_ca (goodIn_r _ [32, 33, 34, 35, 36, 37, 4, 38, 39, 40, 41, 42, 43, 44, 10, 45, 46, 47, 13, 14, 15, 16, 206, 207, 208, 209, 210, 211, 212, 213, 214, 215, 216, 217, 218, 219, 220, 221, 222, 223] (by decide +kernel) (by decide +kernel)) (goodIn_sub (fun _ h => List.mem_cons_of_mem _ (List.mem_append_right _ h)) (by decide +kernel))
set_option maxRecDepth 20000 in
theorem gL_shows_L_at : GoodIn wsL_shows (va_wsS RL 93 yL_at wsL_at) := goodIn_app (goodIn_of _ (by decide +kernel)) ggL_shows_L_at
set_option maxRecDepth 20000 in
theorem ggL_shows_L_deadline : GoodIn wsL_shows wsL_deadline := goodIn_ca (goodIn_r _ [50, 33, 34, 51, 52, 53, 4, 54, 55, 56, 57, 58, 59, 60, 61, 43, 44, 62, 63, 64, 65, 66, 67, 68, 69, 70, 71, 72, 73, 214, 215, 216, 217, 218, 219, 220, 221, 222, 223, 224, 225, 226, 227, 228, 229, 230, 231, 232, 206, 207, 208, 209, 210, 211, 212, 213, 233, 234] (by decide +kernel) (by decide +kernel)) (goodIn_sub (fun _ h => List.mem_cons_of_mem _ (List.mem_append_right _ h)) (by decide +kernel))
set_option maxRecDepth 20000 in
theorem gL_shows_L_deadline : GoodIn wsL_shows (va_wsS RL 110 yL_deadline wsL_deadline) := goodIn_app (goodIn_of _ (by decide +kernel)) ggL_shows_L_deadline
set_option maxRecDepth 20000 in
theorem ggL_shows_L_inputs : GoodIn wsL_shows wsL_inputs := goodIn_ca (goodIn_r _ [76, 33, 34, 77, 78, 79, 4, 80, 81, 55, 82, 39, 40, 41, 42, 43, 44, 10, 45, 46, 47, 83, 84, 85, 86, 87, 88, 89, 90, 91, 92, 93, 94, 95, 13, 14, 15, 16, 214, 215, 216, 217, 218, 219, 220, 221, 222, 223, 206, 207, 208, 209, 210, 211, 212, 213, 224, 225, 226, 227, 228, 229, 230, 231, 232] (by decide +kernel) (by decide +kernel)) (goodIn_sub (fun _ h => List.mem_cons_of_mem _ (List.mem_append_right _ h)) (by decide +kernel))
set_option maxRecDepth 20000 in
theorem gL_shows_L_inputs : GoodIn wsL_shows (va_wsS RL 89 yL_inputs wsL_inputs) := goodIn_app (goodIn_of _ (by decide +kernel)) ggL_shows_L_inputs
set_option maxRecDepth 20000 in
theorem ggL_shows_L_pages : GoodIn wsL_shows wsL_pages := goodIn_ca (goodIn_r _ [98, 33, 34, 99, 100, 101, 4, 102, 58, 59, 60, 61, 43, 44, 62, 63, 64, 65, 66, 67, 68, 69, 70, 71, 72, 73, 103, 104, 105, 106, 107, 108, 109, 110, 111, 112, 113, 114, 206, 207, 208, 209, 210, 211, 212, 213, 233, 234, 214, 215, 216, 217, 218, 219, 220, 221, 222, 223] (by decide +kernel) (by decide +kernel)) (goodIn_sub (fun _ h => List.mem_cons_of_mem _ (List.mem_append_right _ h)) (by decide +kernel))
set_option maxRecDepth 20000 in
theorem gL_shows_L_pages : GoodIn wsL_shows (va_wsS RL 101 yL_pages wsL_pages) := goodIn_app (goodIn_of _ (by decide +kernel)) ggL_shows_L_pages
set_option maxRecDepth 20000 in
theorem ggL_shows_X3_tick : GoodIn wsL_shows wsX3_tick := goodIn_r _ [118, 82, 206, 207, 208, 209, 210, 211, 212, 213] (by decide +kernel) (by decide +kernel)
set_option maxRecDepth 20000 in
theorem gL_shows_X3_tick : GoodIn wsL_shows (wsV RL 119 RX3 yX3_tick wsX3_tick) := goodIn_app (goodIn_of _ (by decide +kernel)) ggL_shows_X3_tick
set_option maxRecDepth 20000 in
theorem ggL_shows_L_place : GoodIn wsL_shows wsL_place := goodIn_ca (goodIn_r _ [121, 33, 34, 122, 123, 124, 4, 125, 126, 16, 58, 59, 60, 61, 43, 44, 62, 63, 64, 65, 66, 67, 68, 69, 70, 71, 72, 73, 206, 207, 208, 209, 210, 211, 212, 213, 214, 215, 216, 217, 218, 219, 220, 221, 222, 223, 233, 234] (by decide +kernel) (by decide +kernel)) (goodIn_sub (fun _ h => List.mem_cons_of_mem _ (List.mem_append_right _ h)) (by decide +kernel))
set_option maxRecDepth 20000 in
theorem gL_shows_L_place : GoodIn wsL_shows (va_wsS RL 95 yL_place wsL_place) := goodIn_app (goodIn_of _ (by decide +kernel)) ggL_shows_L_place
set_option maxRecDepth 20000 in
theorem ggL_shows_X3_windows : GoodIn wsL_shows wsX3_windows := goodIn_r _ [130, 126, 131, 132, 133, 66, 134, 135, 206, 207, 208, 209, 210, 211, 212, 213, 233, 234] (by decide +kernel) (by decide +kernel)
set_option maxRecDepth 20000 in
theorem gL_shows_X3_windows : GoodIn wsL_shows (wsV RL 112 RX3 yX3_windows wsX3_windows) := goodIn_app (goodIn_of _ (by decide +kernel)) ggL_shows_X3_windows
set_option maxRecDepth 20000 in
theorem ggL_shows_L_lays : GoodIn wsL_shows wsL_lays := goodIn_ca (goodIn_r _ [138, 33, 34, 139, 140, 141, 4, 142, 126, 58, 59, 60, 61, 43, 44, 62, 63, 64, 65, 66, 67, 68, 69, 70, 71, 72, 73, 143, 144, 145, 146, 135, 147, 148, 149, 150, 151, 152, 153, 154, 155, 156, 157, 158, 159, 160, 161, 162, 163, 164, 10, 131, 132, 133, 134, 165, 166, 167, 168, 169, 170, 171, 172, 106, 173, 174, 113, 175, 114, 176, 177, 178, 179, 180, 81, 181, 182, 183, 184, 185, 186, 110, 111, 112, 187, 188, 189, 190, 191, 192, 193, 194, 82, 195, 196, 197, 198, 108, 199, 200, 201, 202, 203, 86, 204, 89, 205, 206, 207, 208, 209, 210, 211, 212, 213, 233, 234, 214, 215, 216, 217, 218, 219, 220, 221, 222, 223, 224, 225, 226, 227, 228, 229, 230, 231, 232] (by decide +kernel) (by decide +kernel)) (goodIn_sub (fun _ h => List.mem_cons_of_mem _ (List.mem_append_right _ h)) (by decide +kernel))
set_option maxRecDepth 20000 in
theorem gL_shows_L_lays : GoodIn wsL_shows (va_wsS RL 82 yL_lays wsL_lays) := goodIn_app (goodIn_of _ (by decide +kernel)) ggL_shows_L_lays
theorem dL_shows_0 : decode cL_shows 0 = .ok (.aload_n 0, 1) := by decide +kernel
theorem dL_shows_1 : decode cL_shows 1 = .ok (.invokevirtual 125, 3) := by decide +kernel
theorem dL_shows_4 : decode cL_shows 4 = .ok (.istore_n 3, 1) := by decide +kernel
theorem dL_shows_5 : decode cL_shows 5 = .ok (.aload_n 0, 1) := by decide +kernel
theorem dL_shows_6 : decode cL_shows 6 = .ok (.invokevirtual 116, 3) := by decide +kernel
theorem dL_shows_9 : decode cL_shows 9 = .ok (.iload_n 3, 1) := by decide +kernel
theorem dL_shows_10 : decode cL_shows 10 = .ok (.if_icmp .ne 21, 3) := by decide +kernel
theorem dL_shows_13 : decode cL_shows 13 = .ok (.aload_n 0, 1) := by decide +kernel
theorem dL_shows_14 : decode cL_shows 14 = .ok (.invokevirtual 125, 3) := by decide +kernel
theorem dL_shows_17 : decode cL_shows 17 = .ok (.ifCond .ne 14, 3) := by decide +kernel
theorem dL_shows_20 : decode cL_shows 20 = .ok (.aload_n 0, 1) := by decide +kernel
theorem dL_shows_21 : decode cL_shows 21 = .ok (.invokevirtual 116, 3) := by decide +kernel
theorem dL_shows_24 : decode cL_shows 24 = .ok (.ifCond .ne 7, 3) := by decide +kernel
theorem dL_shows_27 : decode cL_shows 27 = .ok (.iconst 1, 1) := by decide +kernel
theorem dL_shows_28 : decode cL_shows 28 = .ok (.goto 4, 3) := by decide +kernel
theorem dL_shows_31 : decode cL_shows 31 = .ok (.iconst 0, 1) := by decide +kernel
theorem dL_shows_32 : decode cL_shows 32 = .ok (.istore 4, 2) := by decide +kernel
theorem dL_shows_34 : decode cL_shows 34 = .ok (.iload_n 2, 1) := by decide +kernel
theorem dL_shows_35 : decode cL_shows 35 = .ok (.bipush 48, 2) := by decide +kernel
theorem dL_shows_37 : decode cL_shows 37 = .ok (.irem, 1) := by decide +kernel
theorem dL_shows_38 : decode cL_shows 38 = .ok (.istore 5, 2) := by decide +kernel
theorem dL_shows_40 : decode cL_shows 40 = .ok (.aload_n 0, 1) := by decide +kernel
theorem dL_shows_41 : decode cL_shows 41 = .ok (.iload 5, 2) := by decide +kernel
theorem dL_shows_43 : decode cL_shows 43 = .ok (.bipush 8, 2) := by decide +kernel
theorem dL_shows_45 : decode cL_shows 45 = .ok (.irem, 1) := by decide +kernel
theorem dL_shows_46 : decode cL_shows 46 = .ok (.iload 5, 2) := by decide +kernel
theorem dL_shows_48 : decode cL_shows 48 = .ok (.bipush 8, 2) := by decide +kernel
theorem dL_shows_50 : decode cL_shows 50 = .ok (.idiv, 1) := by decide +kernel
theorem dL_shows_51 : decode cL_shows 51 = .ok (.invokestatic 93, 3) := by decide +kernel
theorem dL_shows_54 : decode cL_shows 54 = .ok (.istore 6, 2) := by decide +kernel
theorem dL_shows_56 : decode cL_shows 56 = .ok (.iload 6, 2) := by decide +kernel
theorem dL_shows_58 : decode cL_shows 58 = .ok (.ifCond .ge 7, 3) := by decide +kernel
theorem dL_shows_61 : decode cL_shows 61 = .ok (.iconst 0, 1) := by decide +kernel
theorem dL_shows_62 : decode cL_shows 62 = .ok (.goto 9, 3) := by decide +kernel
theorem dL_shows_65 : decode cL_shows 65 = .ok (.aload_n 0, 1) := by decide +kernel
theorem dL_shows_66 : decode cL_shows 66 = .ok (.iload 6, 2) := by decide +kernel
theorem dL_shows_68 : decode cL_shows 68 = .ok (.invokestatic 110, 3) := by decide +kernel
theorem dL_shows_71 : decode cL_shows 71 = .ok (.istore 7, 2) := by decide +kernel
theorem dL_shows_73 : decode cL_shows 73 = .ok (.iload 4, 2) := by decide +kernel
theorem dL_shows_75 : decode cL_shows 75 = .ok (.ifCond .eq 33, 3) := by decide +kernel
theorem dL_shows_78 : decode cL_shows 78 = .ok (.aload_n 0, 1) := by decide +kernel
theorem dL_shows_79 : decode cL_shows 79 = .ok (.iload 5, 2) := by decide +kernel
theorem dL_shows_81 : decode cL_shows 81 = .ok (.bipush 8, 2) := by decide +kernel
theorem dL_shows_83 : decode cL_shows 83 = .ok (.irem, 1) := by decide +kernel
theorem dL_shows_84 : decode cL_shows 84 = .ok (.iload 5, 2) := by decide +kernel
theorem dL_shows_86 : decode cL_shows 86 = .ok (.bipush 8, 2) := by decide +kernel
theorem dL_shows_88 : decode cL_shows 88 = .ok (.idiv, 1) := by decide +kernel
theorem dL_shows_89 : decode cL_shows 89 = .ok (.invokestatic 89, 3) := by decide +kernel
theorem dL_shows_92 : decode cL_shows 92 = .ok (.iload 6, 2) := by decide +kernel
theorem dL_shows_94 : decode cL_shows 94 = .ok (.if_icmp .ne 14, 3) := by decide +kernel
theorem dL_shows_97 : decode cL_shows 97 = .ok (.aload_n 0, 1) := by decide +kernel
theorem dL_shows_98 : decode cL_shows 98 = .ok (.invokevirtual 125, 3) := by decide +kernel
theorem dL_shows_101 : decode cL_shows 101 = .ok (.ifCond .ne 7, 3) := by decide +kernel
theorem dL_shows_104 : decode cL_shows 104 = .ok (.iconst 1, 1) := by decide +kernel
theorem dL_shows_105 : decode cL_shows 105 = .ok (.goto 4, 3) := by decide +kernel
theorem dL_shows_108 : decode cL_shows 108 = .ok (.iconst 0, 1) := by decide +kernel
theorem dL_shows_109 : decode cL_shows 109 = .ok (.istore 4, 2) := by decide +kernel
theorem dL_shows_111 : decode cL_shows 111 = .ok (.iload 4, 2) := by decide +kernel
theorem dL_shows_113 : decode cL_shows 113 = .ok (.ifCond .eq 84, 3) := by decide +kernel
theorem dL_shows_116 : decode cL_shows 116 = .ok (.iload 6, 2) := by decide +kernel
theorem dL_shows_118 : decode cL_shows 118 = .ok (.ifCond .lt 79, 3) := by decide +kernel
theorem dL_shows_121 : decode cL_shows 121 = .ok (.aload_n 0, 1) := by decide +kernel
theorem dL_shows_122 : decode cL_shows 122 = .ok (.iload 6, 2) := by decide +kernel
theorem dL_shows_124 : decode cL_shows 124 = .ok (.invokestatic 101, 3) := by decide +kernel
theorem dL_shows_127 : decode cL_shows 127 = .ok (.ifCond .le 70, 3) := by decide +kernel
theorem dL_shows_130 : decode cL_shows 130 = .ok (.aload_n 0, 1) := by decide +kernel
theorem dL_shows_131 : decode cL_shows 131 = .ok (.iload 6, 2) := by decide +kernel
theorem dL_shows_133 : decode cL_shows 133 = .ok (.invokestatic 110, 3) := by decide +kernel
theorem dL_shows_136 : decode cL_shows 136 = .ok (.istore 8, 2) := by decide +kernel
theorem dL_shows_138 : decode cL_shows 138 = .ok (.iload 8, 2) := by decide +kernel
theorem dL_shows_140 : decode cL_shows 140 = .ok (.aload_n 0, 1) := by decide +kernel
theorem dL_shows_141 : decode cL_shows 141 = .ok (.invokevirtual 119, 3) := by decide +kernel
theorem dL_shows_144 : decode cL_shows 144 = .ok (.if_icmp .le 50, 3) := by decide +kernel
theorem dL_shows_147 : decode cL_shows 147 = .ok (.iload 7, 2) := by decide +kernel
theorem dL_shows_149 : decode cL_shows 149 = .ok (.iconst (-1), 1) := by decide +kernel
theorem dL_shows_150 : decode cL_shows 150 = .ok (.if_icmp .eq 10, 3) := by decide +kernel
theorem dL_shows_153 : decode cL_shows 153 = .ok (.iload 8, 2) := by decide +kernel
theorem dL_shows_155 : decode cL_shows 155 = .ok (.iload 7, 2) := by decide +kernel
theorem dL_shows_157 : decode cL_shows 157 = .ok (.if_icmp .gt 37, 3) := by decide +kernel
theorem dL_shows_160 : decode cL_shows 160 = .ok (.aload_n 0, 1) := by decide +kernel
theorem dL_shows_161 : decode cL_shows 161 = .ok (.iload 5, 2) := by decide +kernel
theorem dL_shows_163 : decode cL_shows 163 = .ok (.bipush 8, 2) := by decide +kernel
theorem dL_shows_165 : decode cL_shows 165 = .ok (.irem, 1) := by decide +kernel
theorem dL_shows_166 : decode cL_shows 166 = .ok (.iload 5, 2) := by decide +kernel
theorem dL_shows_168 : decode cL_shows 168 = .ok (.bipush 8, 2) := by decide +kernel
theorem dL_shows_170 : decode cL_shows 170 = .ok (.idiv, 1) := by decide +kernel
theorem dL_shows_171 : decode cL_shows 171 = .ok (.invokestatic 89, 3) := by decide +kernel
theorem dL_shows_174 : decode cL_shows 174 = .ok (.iload 6, 2) := by decide +kernel
theorem dL_shows_176 : decode cL_shows 176 = .ok (.if_icmp .ne 18, 3) := by decide +kernel
theorem dL_shows_179 : decode cL_shows 179 = .ok (.aload_n 0, 1) := by decide +kernel
theorem dL_shows_180 : decode cL_shows 180 = .ok (.iload 6, 2) := by decide +kernel
theorem dL_shows_182 : decode cL_shows 182 = .ok (.invokestatic 110, 3) := by decide +kernel
theorem dL_shows_185 : decode cL_shows 185 = .ok (.iload 8, 2) := by decide +kernel
theorem dL_shows_187 : decode cL_shows 187 = .ok (.if_icmp .ne 7, 3) := by decide +kernel
theorem dL_shows_190 : decode cL_shows 190 = .ok (.iconst 1, 1) := by decide +kernel
theorem dL_shows_191 : decode cL_shows 191 = .ok (.goto 4, 3) := by decide +kernel
theorem dL_shows_194 : decode cL_shows 194 = .ok (.iconst 0, 1) := by decide +kernel
theorem dL_shows_195 : decode cL_shows 195 = .ok (.istore 4, 2) := by decide +kernel
theorem dL_shows_197 : decode cL_shows 197 = .ok (.iconst (-1), 1) := by decide +kernel
theorem dL_shows_198 : decode cL_shows 198 = .ok (.istore 8, 2) := by decide +kernel
theorem dL_shows_200 : decode cL_shows 200 = .ok (.iconst 0, 1) := by decide +kernel
theorem dL_shows_201 : decode cL_shows 201 = .ok (.istore 9, 2) := by decide +kernel
theorem dL_shows_203 : decode cL_shows 203 = .ok (.iload 9, 2) := by decide +kernel
theorem dL_shows_205 : decode cL_shows 205 = .ok (.aload_n 1, 1) := by decide +kernel
theorem dL_shows_206 : decode cL_shows 206 = .ok (.iconst 0, 1) := by decide +kernel
theorem dL_shows_207 : decode cL_shows 207 = .ok (.iaload, 1) := by decide +kernel
theorem dL_shows_208 : decode cL_shows 208 = .ok (.if_icmp .ge 42, 3) := by decide +kernel
theorem dL_shows_211 : decode cL_shows 211 = .ok (.aload_n 0, 1) := by decide +kernel
theorem dL_shows_212 : decode cL_shows 212 = .ok (.iload 9, 2) := by decide +kernel
theorem dL_shows_214 : decode cL_shows 214 = .ok (.invokestatic 95, 3) := by decide +kernel
theorem dL_shows_217 : decode cL_shows 217 = .ok (.aload_n 0, 1) := by decide +kernel
theorem dL_shows_218 : decode cL_shows 218 = .ok (.invokevirtual 112, 3) := by decide +kernel
theorem dL_shows_221 : decode cL_shows 221 = .ok (.iconst 1, 1) := by decide +kernel
theorem dL_shows_222 : decode cL_shows 222 = .ok (.isub, 1) := by decide +kernel
theorem dL_shows_223 : decode cL_shows 223 = .ok (.if_icmp .ne 17, 3) := by decide +kernel
theorem dL_shows_226 : decode cL_shows 226 = .ok (.aload_n 0, 1) := by decide +kernel
theorem dL_shows_227 : decode cL_shows 227 = .ok (.iload 9, 2) := by decide +kernel
theorem dL_shows_229 : decode cL_shows 229 = .ok (.invokestatic 95, 3) := by decide +kernel
theorem dL_shows_232 : decode cL_shows 232 = .ok (.ifCond .lt 8, 3) := by decide +kernel
theorem dL_shows_235 : decode cL_shows 235 = .ok (.iload 9, 2) := by decide +kernel
theorem dL_shows_237 : decode cL_shows 237 = .ok (.goto 5, 3) := by decide +kernel
theorem dL_shows_240 : decode cL_shows 240 = .ok (.iload 8, 2) := by decide +kernel
theorem dL_shows_242 : decode cL_shows 242 = .ok (.istore 8, 2) := by decide +kernel
theorem dL_shows_244 : decode cL_shows 244 = .ok (.iinc 9 1, 3) := by decide +kernel
theorem dL_shows_247 : decode cL_shows 247 = .ok (.goto (-44), 3) := by decide +kernel
theorem dL_shows_250 : decode cL_shows 250 = .ok (.iload 4, 2) := by decide +kernel
theorem dL_shows_252 : decode cL_shows 252 = .ok (.ifCond .eq 51, 3) := by decide +kernel
theorem dL_shows_255 : decode cL_shows 255 = .ok (.aload_n 0, 1) := by decide +kernel
theorem dL_shows_256 : decode cL_shows 256 = .ok (.invokevirtual 112, 3) := by decide +kernel
theorem dL_shows_259 : decode cL_shows 259 = .ok (.ifCond .ne 12, 3) := by decide +kernel
theorem dL_shows_262 : decode cL_shows 262 = .ok (.iload 8, 2) := by decide +kernel
theorem dL_shows_264 : decode cL_shows 264 = .ok (.iconst (-1), 1) := by decide +kernel
theorem dL_shows_265 : decode cL_shows 265 = .ok (.if_icmp .ne 38, 3) := by decide +kernel
theorem dL_shows_268 : decode cL_shows 268 = .ok (.goto 31, 3) := by decide +kernel
theorem dL_shows_271 : decode cL_shows 271 = .ok (.iload 8, 2) := by decide +kernel
theorem dL_shows_273 : decode cL_shows 273 = .ok (.ifCond .lt 30, 3) := by decide +kernel
theorem dL_shows_276 : decode cL_shows 276 = .ok (.aload_n 0, 1) := by decide +kernel
theorem dL_shows_277 : decode cL_shows 277 = .ok (.iload 8, 2) := by decide +kernel
theorem dL_shows_279 : decode cL_shows 279 = .ok (.iconst 1, 1) := by decide +kernel
theorem dL_shows_280 : decode cL_shows 280 = .ok (.invokestatic 82, 3) := by decide +kernel
theorem dL_shows_283 : decode cL_shows 283 = .ok (.aload_n 0, 1) := by decide +kernel
theorem dL_shows_284 : decode cL_shows 284 = .ok (.invokevirtual 112, 3) := by decide +kernel
theorem dL_shows_287 : decode cL_shows 287 = .ok (.iconst 1, 1) := by decide +kernel
theorem dL_shows_288 : decode cL_shows 288 = .ok (.isub, 1) := by decide +kernel
theorem dL_shows_289 : decode cL_shows 289 = .ok (.if_icmp .ne 14, 3) := by decide +kernel
theorem dL_shows_292 : decode cL_shows 292 = .ok (.aload_n 0, 1) := by decide +kernel
theorem dL_shows_293 : decode cL_shows 293 = .ok (.invokevirtual 125, 3) := by decide +kernel
theorem dL_shows_296 : decode cL_shows 296 = .ok (.ifCond .ne 7, 3) := by decide +kernel
theorem dL_shows_299 : decode cL_shows 299 = .ok (.iconst 1, 1) := by decide +kernel
theorem dL_shows_300 : decode cL_shows 300 = .ok (.goto 4, 3) := by decide +kernel
theorem dL_shows_303 : decode cL_shows 303 = .ok (.iconst 0, 1) := by decide +kernel
theorem dL_shows_304 : decode cL_shows 304 = .ok (.ireturn, 1) := by decide +kernel
set_option maxRecDepth 20000 in
theorem ggL_ends_X3_windows : GoodIn wsL_ends wsX3_windows := goodIn_r _ [5, 6, 7, 8, 9, 10, 11, 12, 209, 210, 211, 212, 213, 214, 215, 216, 217, 218] (by decide +kernel) (by decide +kernel)
set_option maxRecDepth 20000 in
theorem gL_ends_X3_windows : GoodIn wsL_ends (wsV RL 112 RX3 yX3_windows wsX3_windows) := goodIn_app (goodIn_of _ (by decide +kernel)) ggL_ends_X3_windows
set_option maxRecDepth 20000 in
theorem ggL_ends_L_place : GoodIn wsL_ends wsL_place := goodIn_ca (goodIn_r _ [16, 17, 18, 19, 20, 21, 4, 22, 6, 23, 24, 25, 26, 27, 28, 29, 30, 31, 32, 33, 10, 34, 35, 36, 37, 38, 39, 40, 209, 210, 211, 212, 213, 214, 215, 216, 219, 220, 221, 222, 223, 224, 225, 226, 227, 228, 217, 218] (by decide +kernel) (by decide +kernel)) (goodIn_sub (fun _ h => List.mem_cons_of_mem _ (List.mem_append_right _ h)) (by decide +kernel))
set_option maxRecDepth 20000 in
theorem gL_ends_L_place : GoodIn wsL_ends (va_wsS RL 95 yL_place wsL_place) := goodIn_app (goodIn_of _ (by decide +kernel)) ggL_ends_L_place
set_option maxRecDepth 20000 in
theorem ggL_ends_L_closes : GoodIn wsL_ends wsL_closes := goodIn_ca (goodIn_r _ [43, 17, 18, 44, 45, 46, 4, 47, 6, 30, 48, 24, 25, 26, 27, 28, 29, 31, 32, 33, 10, 34, 35, 36, 37, 38, 39, 40, 49, 50, 51, 52, 12, 53, 54, 55, 56, 57, 58, 59, 60, 61, 62, 63, 64, 65, 66, 67, 68, 69, 70, 71, 72, 73, 74, 75, 7, 8, 9, 11, 76, 77, 78, 79, 80, 81, 82, 83, 84, 85, 86, 87, 88, 89, 90, 91, 92, 93, 94, 95, 96, 97, 98, 99, 100, 101, 102, 103, 104, 105, 106, 107, 108, 109, 110, 111, 112, 113, 114, 115, 116, 117, 118, 119, 209, 210, 211, 212, 213, 214, 215, 216, 217, 218, 219, 220, 221, 222, 223, 224, 225, 226, 227, 228, 229, 230, 231, 232, 233, 234, 235, 236, 237] (by decide +kernel) (by decide +kernel)) (goodIn_sub (fun _ h => List.mem_cons_of_mem _ (List.mem_append_right _ h)) (by decide +kernel))
set_option maxRecDepth 20000 in
theorem gL_ends_L_closes : GoodIn wsL_ends (va_wsS RL 74 yL_closes wsL_closes) := goodIn_app (goodIn_of _ (by decide +kernel)) ggL_ends_L_closes
set_option maxRecDepth 20000 in
theorem ggL_ends_L_holds : GoodIn wsL_ends wsL_holds := goodIn_ca (goodIn_r _ [122, 18, 123, 124, 15, 125, 17, 126, 127, 128, 4, 129, 130, 131, 132, 133, 28, 29, 75, 134, 135, 136, 137, 138, 139, 23, 140, 141, 142, 143, 144, 145, 146, 74, 24, 25, 26, 27, 30, 31, 32, 33, 10, 34, 35, 36, 37, 38, 39, 40, 13, 14, 16, 19, 20, 21, 22, 6, 147, 148, 149, 150, 151, 152, 153, 54, 55, 56, 57, 58, 59, 60, 61, 62, 63, 64, 65, 154, 155, 156, 157, 158, 159, 160, 161, 162, 163, 164, 165, 166, 167, 168, 169, 170, 171, 172, 173, 174, 175, 176, 177, 178, 179, 180, 181, 182, 183, 184, 185, 186, 187, 188, 189, 190, 191, 106, 1, 2, 3, 5, 7, 8, 9, 11, 12, 192, 193, 194, 195, 48, 196, 197, 198, 199, 200, 201, 202, 203, 204, 205, 206, 207, 208, 209, 210, 211, 212, 213, 214, 215, 216, 219, 220, 221, 222, 223, 224, 225, 226, 227, 228, 217, 218, 229, 230, 231, 232, 233, 234, 235, 236, 237] (by decide +kernel) (by decide +kernel)) (goodIn_sub (fun _ h => List.mem_cons_of_mem _ (List.mem_append_right _ h)) (by decide +kernel))
set_option maxRecDepth 20000 in
theorem gL_ends_L_holds : GoodIn wsL_ends (va_wsS RL 128 yL_holds wsL_holds) := goodIn_app (goodIn_of _ (by decide +kernel)) ggL_ends_L_holds
set_option maxRecDepth 20000 in
theorem ggL_ends_X3_free : GoodIn wsL_ends wsX3_free := goodIn_r _ [195, 48, 209, 210, 211, 212, 213, 214, 215, 216] (by decide +kernel) (by decide +kernel)
set_option maxRecDepth 20000 in
theorem gL_ends_X3_free : GoodIn wsL_ends (wsV RL 122 RX3 yX3_free wsX3_free) := goodIn_app (goodIn_of _ (by decide +kernel)) ggL_ends_X3_free
set_option maxRecDepth 20000 in
theorem ggL_ends_L_at : GoodIn wsL_ends wsL_at := goodIn_ca (goodIn_r _ [125, 17, 18, 126, 127, 128, 4, 129, 130, 131, 132, 133, 28, 29, 75, 134, 135, 136, 137, 138, 139, 23, 209, 210, 211, 212, 213, 214, 215, 216, 219, 220, 221, 222, 223, 224, 225, 226, 227, 228] (by decide +kernel) (by decide +kernel)) (goodIn_sub (fun _ h => List.mem_cons_of_mem _ (List.mem_append_right _ h)) (by decide +kernel))
set_option maxRecDepth 20000 in
theorem gL_ends_L_at : GoodIn wsL_ends (va_wsS RL 93 yL_at wsL_at) := goodIn_app (goodIn_of _ (by decide +kernel)) ggL_ends_L_at
theorem dL_ends_0 : decode cL_ends 0 = .ok (.iconst 1, 1) := by decide +kernel
theorem dL_ends_1 : decode cL_ends 1 = .ok (.istore_n 2, 1) := by decide +kernel
theorem dL_ends_2 : decode cL_ends 2 = .ok (.aload_n 0, 1) := by decide +kernel
theorem dL_ends_3 : decode cL_ends 3 = .ok (.invokevirtual 112, 3) := by decide +kernel
theorem dL_ends_6 : decode cL_ends 6 = .ok (.istore_n 3, 1) := by decide +kernel
theorem dL_ends_7 : decode cL_ends 7 = .ok (.iconst 0, 1) := by decide +kernel
theorem dL_ends_8 : decode cL_ends 8 = .ok (.istore 4, 2) := by decide +kernel
theorem dL_ends_10 : decode cL_ends 10 = .ok (.iload 4, 2) := by decide +kernel
theorem dL_ends_12 : decode cL_ends 12 = .ok (.aload_n 1, 1) := by decide +kernel
theorem dL_ends_13 : decode cL_ends 13 = .ok (.iconst 0, 1) := by decide +kernel
theorem dL_ends_14 : decode cL_ends 14 = .ok (.iaload, 1) := by decide +kernel
theorem dL_ends_15 : decode cL_ends 15 = .ok (.if_icmp .ge 49, 3) := by decide +kernel
theorem dL_ends_18 : decode cL_ends 18 = .ok (.iload_n 2, 1) := by decide +kernel
theorem dL_ends_19 : decode cL_ends 19 = .ok (.ifCond .eq 45, 3) := by decide +kernel
theorem dL_ends_22 : decode cL_ends 22 = .ok (.aload_n 0, 1) := by decide +kernel
theorem dL_ends_23 : decode cL_ends 23 = .ok (.iload 4, 2) := by decide +kernel
theorem dL_ends_25 : decode cL_ends 25 = .ok (.invokestatic 95, 3) := by decide +kernel
theorem dL_ends_28 : decode cL_ends 28 = .ok (.ifCond .lt 30, 3) := by decide +kernel
theorem dL_ends_31 : decode cL_ends 31 = .ok (.iinc 3 (-1), 3) := by decide +kernel
theorem dL_ends_34 : decode cL_ends 34 = .ok (.aload_n 0, 1) := by decide +kernel
theorem dL_ends_35 : decode cL_ends 35 = .ok (.iload 4, 2) := by decide +kernel
theorem dL_ends_37 : decode cL_ends 37 = .ok (.invokestatic 74, 3) := by decide +kernel
theorem dL_ends_40 : decode cL_ends 40 = .ok (.iload_n 3, 1) := by decide +kernel
theorem dL_ends_41 : decode cL_ends 41 = .ok (.if_icmp .ne 15, 3) := by decide +kernel
theorem dL_ends_44 : decode cL_ends 44 = .ok (.aload_n 0, 1) := by decide +kernel
theorem dL_ends_45 : decode cL_ends 45 = .ok (.aload_n 1, 1) := by decide +kernel
theorem dL_ends_46 : decode cL_ends 46 = .ok (.invokestatic 128, 3) := by decide +kernel
theorem dL_ends_49 : decode cL_ends 49 = .ok (.ifCond .eq 7, 3) := by decide +kernel
theorem dL_ends_52 : decode cL_ends 52 = .ok (.iconst 1, 1) := by decide +kernel
theorem dL_ends_53 : decode cL_ends 53 = .ok (.goto 4, 3) := by decide +kernel
theorem dL_ends_56 : decode cL_ends 56 = .ok (.iconst 0, 1) := by decide +kernel
theorem dL_ends_57 : decode cL_ends 57 = .ok (.istore_n 2, 1) := by decide +kernel
theorem dL_ends_58 : decode cL_ends 58 = .ok (.iinc 4 1, 3) := by decide +kernel
theorem dL_ends_61 : decode cL_ends 61 = .ok (.goto (-51), 3) := by decide +kernel
theorem dL_ends_64 : decode cL_ends 64 = .ok (.iload_n 2, 1) := by decide +kernel
theorem dL_ends_65 : decode cL_ends 65 = .ok (.ifCond .eq 30, 3) := by decide +kernel
theorem dL_ends_68 : decode cL_ends 68 = .ok (.iload_n 3, 1) := by decide +kernel
theorem dL_ends_69 : decode cL_ends 69 = .ok (.ifCond .ne 26, 3) := by decide +kernel
theorem dL_ends_72 : decode cL_ends 72 = .ok (.aload_n 0, 1) := by decide +kernel
theorem dL_ends_73 : decode cL_ends 73 = .ok (.invokevirtual 122, 3) := by decide +kernel
theorem dL_ends_76 : decode cL_ends 76 = .ok (.bipush 24, 2) := by decide +kernel
theorem dL_ends_78 : decode cL_ends 78 = .ok (.if_icmp .ne 17, 3) := by decide +kernel
theorem dL_ends_81 : decode cL_ends 81 = .ok (.aload_n 0, 1) := by decide +kernel
theorem dL_ends_82 : decode cL_ends 82 = .ok (.iconst 3, 1) := by decide +kernel
theorem dL_ends_83 : decode cL_ends 83 = .ok (.iconst 3, 1) := by decide +kernel
theorem dL_ends_84 : decode cL_ends 84 = .ok (.invokestatic 93, 3) := by decide +kernel
theorem dL_ends_87 : decode cL_ends 87 = .ok (.iconst (-1), 1) := by decide +kernel
theorem dL_ends_88 : decode cL_ends 88 = .ok (.if_icmp .ne 7, 3) := by decide +kernel
theorem dL_ends_91 : decode cL_ends 91 = .ok (.iconst 1, 1) := by decide +kernel
theorem dL_ends_92 : decode cL_ends 92 = .ok (.goto 4, 3) := by decide +kernel
theorem dL_ends_95 : decode cL_ends 95 = .ok (.iconst 0, 1) := by decide +kernel
theorem dL_ends_96 : decode cL_ends 96 = .ok (.ireturn, 1) := by decide +kernel
