set_option maxRecDepth 20000 in
theorem ggL_alike_X3_tick : GoodIn wsL_alike wsX3_tick := goodIn_r _ [5, 6, 143, 144, 145, 146, 147, 148, 149, 150] (by decide +kernel) (by decide +kernel)
set_option maxRecDepth 20000 in
theorem gL_alike_X3_tick : GoodIn wsL_alike (wsV RL 119 RX3 yX3_tick wsX3_tick) := goodIn_app (goodIn_of _ (by decide +kernel)) ggL_alike_X3_tick
set_option maxRecDepth 20000 in
theorem ggL_alike_X3_windows : GoodIn wsL_alike wsX3_windows := goodIn_r _ [10, 11, 12, 13, 14, 15, 16, 17, 143, 144, 145, 146, 147, 148, 149, 150, 151, 152] (by decide +kernel) (by decide +kernel)
set_option maxRecDepth 20000 in
theorem gL_alike_X3_windows : GoodIn wsL_alike (wsV RL 112 RX3 yX3_windows wsX3_windows) := goodIn_app (goodIn_of _ (by decide +kernel)) ggL_alike_X3_windows
set_option maxRecDepth 20000 in
theorem ggL_alike_X3_free : GoodIn wsL_alike wsX3_free := goodIn_r _ [21, 22, 143, 144, 145, 146, 147, 148, 149, 150] (by decide +kernel) (by decide +kernel)
set_option maxRecDepth 20000 in
theorem gL_alike_X3_free : GoodIn wsL_alike (wsV RL 122 RX3 yX3_free wsX3_free) := goodIn_app (goodIn_of _ (by decide +kernel)) ggL_alike_X3_free
set_option maxRecDepth 20000 in
theorem ggL_alike_X3_damage : GoodIn wsL_alike wsX3_damage := goodIn_r _ [26, 27, 28, 29, 4, 30, 31, 32, 33, 34, 35, 36, 37, 38, 39, 40, 41, 143, 144, 145, 146, 147, 148, 149, 150, 153, 154, 155, 156, 157, 158, 159, 160, 161, 162] (by decide +kernel) (by decide +kernel)
set_option maxRecDepth 20000 in
theorem gL_alike_X3_damage : GoodIn wsL_alike (wsV RL 125 RX3 yX3_damage wsX3_damage) := goodIn_app (goodIn_of _ (by decide +kernel)) ggL_alike_X3_damage
set_option maxRecDepth 20000 in
theorem ggL_alike_L_at : GoodIn wsL_alike wsL_at := goodIn_ca (goodIn_r _ [45, 46, 47, 48, 49, 50, 4, 51, 52, 53, 54, 55, 56, 57, 31, 58, 59, 60, 34, 35, 36, 37, 143, 144, 145, 146, 147, 148, 149, 150, 153, 154, 155, 156, 157, 158, 159, 160, 161, 162] (by decide +kernel) (by decide +kernel)) (goodIn_sub (fun _ h => List.mem_cons_of_mem _ (List.mem_append_right _ h)) (by decide +kernel))
set_option maxRecDepth 20000 in
theorem gL_alike_L_at : GoodIn wsL_alike (va_wsS RL 93 yL_at wsL_at) := goodIn_app (goodIn_of _ (by decide +kernel)) ggL_alike_L_at
set_option maxRecDepth 20000 in
theorem ggL_alike_L_place : GoodIn wsL_alike wsL_place := goodIn_ca (goodIn_r _ [63, 46, 47, 64, 65, 66, 4, 67, 11, 37, 68, 69, 70, 71, 56, 57, 72, 73, 74, 75, 15, 76, 77, 78, 79, 80, 81, 82, 143, 144, 145, 146, 147, 148, 149, 150, 153, 154, 155, 156, 157, 158, 159, 160, 161, 162, 151, 152] (by decide +kernel) (by decide +kernel)) (goodIn_sub (fun _ h => List.mem_cons_of_mem _ (List.mem_append_right _ h)) (by decide +kernel))
set_option maxRecDepth 20000 in
theorem gL_alike_L_place : GoodIn wsL_alike (va_wsS RL 95 yL_place wsL_place) := goodIn_app (goodIn_of _ (by decide +kernel)) ggL_alike_L_place
set_option maxRecDepth 20000 in
theorem ggL_alike_L_seen : GoodIn wsL_alike wsL_seen := goodIn_ca (goodIn_r _ [85, 46, 47, 86, 87, 88, 4, 89, 90, 68, 69, 70, 71, 56, 57, 72, 73, 74, 75, 15, 76, 77, 78, 79, 80, 81, 82, 153, 154, 155, 156, 157, 158, 159, 160, 161, 162, 143, 144, 145, 146, 147, 148, 149, 150, 151, 152] (by decide +kernel) (by decide +kernel)) (goodIn_sub (fun _ h => List.mem_cons_of_mem _ (List.mem_append_right _ h)) (by decide +kernel))
set_option maxRecDepth 20000 in
theorem gL_alike_L_seen : GoodIn wsL_alike (va_wsS RL 98 yL_seen wsL_seen) := goodIn_app (goodIn_of _ (by decide +kernel)) ggL_alike_L_seen
set_option maxRecDepth 20000 in
theorem ggL_alike_L_pages : GoodIn wsL_alike wsL_pages := goodIn_ca (goodIn_r _ [93, 46, 47, 94, 95, 96, 4, 97, 68, 69, 70, 71, 56, 57, 72, 73, 74, 75, 15, 76, 77, 78, 79, 80, 81, 82, 98, 99, 100, 101, 102, 103, 104, 105, 106, 107, 108, 109, 143, 144, 145, 146, 147, 148, 149, 150, 151, 152, 153, 154, 155, 156, 157, 158, 159, 160, 161, 162] (by decide +kernel) (by decide +kernel)) (goodIn_sub (fun _ h => List.mem_cons_of_mem _ (List.mem_append_right _ h)) (by decide +kernel))
set_option maxRecDepth 20000 in
theorem gL_alike_L_pages : GoodIn wsL_alike (va_wsS RL 101 yL_pages wsL_pages) := goodIn_app (goodIn_of _ (by decide +kernel)) ggL_alike_L_pages
set_option maxRecDepth 20000 in
theorem ggL_alike_L_picture : GoodIn wsL_alike wsL_picture := goodIn_ca (goodIn_r _ [112, 46, 47, 113, 114, 115, 4, 116, 41, 68, 69, 70, 71, 56, 57, 72, 73, 74, 75, 15, 76, 77, 78, 79, 80, 81, 82, 153, 154, 155, 156, 157, 158, 159, 160, 161, 162, 143, 144, 145, 146, 147, 148, 149, 150, 151, 152] (by decide +kernel) (by decide +kernel)) (goodIn_sub (fun _ h => List.mem_cons_of_mem _ (List.mem_append_right _ h)) (by decide +kernel))
set_option maxRecDepth 20000 in
theorem gL_alike_L_picture : GoodIn wsL_alike (va_wsS RL 104 yL_picture wsL_picture) := goodIn_app (goodIn_of _ (by decide +kernel)) ggL_alike_L_picture
set_option maxRecDepth 20000 in
theorem ggL_alike_L_pace : GoodIn wsL_alike wsL_pace := goodIn_ca (goodIn_r _ [119, 46, 47, 120, 121, 122, 4, 123, 124, 125, 68, 69, 70, 71, 56, 57, 72, 73, 74, 75, 15, 76, 77, 78, 79, 80, 81, 82, 153, 154, 155, 156, 157, 158, 159, 160, 161, 162, 163, 164, 165, 166, 167, 168, 169, 170, 171, 143, 144, 145, 146, 147, 148, 149, 150, 151, 152] (by decide +kernel) (by decide +kernel)) (goodIn_sub (fun _ h => List.mem_cons_of_mem _ (List.mem_append_right _ h)) (by decide +kernel))
set_option maxRecDepth 20000 in
theorem gL_alike_L_pace : GoodIn wsL_alike (va_wsS RL 106 yL_pace wsL_pace) := goodIn_app (goodIn_of _ (by decide +kernel)) ggL_alike_L_pace
set_option maxRecDepth 20000 in
theorem ggL_alike_L_misses : GoodIn wsL_alike wsL_misses := goodIn_ca (goodIn_r _ [128, 46, 47, 129, 130, 131, 4, 132, 124, 133, 68, 69, 70, 71, 56, 57, 72, 73, 74, 75, 15, 76, 77, 78, 79, 80, 81, 82, 153, 154, 155, 156, 157, 158, 159, 160, 161, 162, 163, 164, 165, 166, 167, 168, 169, 170, 171, 143, 144, 145, 146, 147, 148, 149, 150, 151, 152] (by decide +kernel) (by decide +kernel)) (goodIn_sub (fun _ h => List.mem_cons_of_mem _ (List.mem_append_right _ h)) (by decide +kernel))
set_option maxRecDepth 20000 in
theorem gL_alike_L_misses : GoodIn wsL_alike (va_wsS RL 108 yL_misses wsL_misses) := goodIn_app (goodIn_of _ (by decide +kernel)) ggL_alike_L_misses
set_option maxRecDepth 20000 in
theorem ggL_alike_L_deadline : GoodIn wsL_alike wsL_deadline := goodIn_ca (goodIn_r _ [136, 46, 47, 137, 138, 139, 4, 140, 124, 141, 142, 68, 69, 70, 71, 56, 57, 72, 73, 74, 75, 15, 76, 77, 78, 79, 80, 81, 82, 153, 154, 155, 156, 157, 158, 159, 160, 161, 162, 163, 164, 165, 166, 167, 168, 169, 170, 171, 143, 144, 145, 146, 147, 148, 149, 150, 151, 152] (by decide +kernel) (by decide +kernel)) (goodIn_sub (fun _ h => List.mem_cons_of_mem _ (List.mem_append_right _ h)) (by decide +kernel))
set_option maxRecDepth 20000 in
theorem gL_alike_L_deadline : GoodIn wsL_alike (va_wsS RL 110 yL_deadline wsL_deadline) := goodIn_app (goodIn_of _ (by decide +kernel)) ggL_alike_L_deadline
theorem dL_alike_0 : decode cL_alike 0 = .ok (.aload_n 0, 1) := by decide +kernel
theorem dL_alike_1 : decode cL_alike 1 = .ok (.invokevirtual 119, 3) := by decide +kernel
theorem dL_alike_4 : decode cL_alike 4 = .ok (.aload_n 1, 1) := by decide +kernel
theorem dL_alike_5 : decode cL_alike 5 = .ok (.invokevirtual 119, 3) := by decide +kernel
theorem dL_alike_8 : decode cL_alike 8 = .ok (.if_icmp .ne 40, 3) := by decide +kernel
theorem dL_alike_11 : decode cL_alike 11 = .ok (.aload_n 0, 1) := by decide +kernel
theorem dL_alike_12 : decode cL_alike 12 = .ok (.invokevirtual 112, 3) := by decide +kernel
theorem dL_alike_15 : decode cL_alike 15 = .ok (.aload_n 1, 1) := by decide +kernel
theorem dL_alike_16 : decode cL_alike 16 = .ok (.invokevirtual 112, 3) := by decide +kernel
theorem dL_alike_19 : decode cL_alike 19 = .ok (.if_icmp .ne 29, 3) := by decide +kernel
theorem dL_alike_22 : decode cL_alike 22 = .ok (.aload_n 0, 1) := by decide +kernel
theorem dL_alike_23 : decode cL_alike 23 = .ok (.invokevirtual 122, 3) := by decide +kernel
theorem dL_alike_26 : decode cL_alike 26 = .ok (.aload_n 1, 1) := by decide +kernel
theorem dL_alike_27 : decode cL_alike 27 = .ok (.invokevirtual 122, 3) := by decide +kernel
theorem dL_alike_30 : decode cL_alike 30 = .ok (.if_icmp .ne 18, 3) := by decide +kernel
theorem dL_alike_33 : decode cL_alike 33 = .ok (.aload_n 0, 1) := by decide +kernel
theorem dL_alike_34 : decode cL_alike 34 = .ok (.invokevirtual 125, 3) := by decide +kernel
theorem dL_alike_37 : decode cL_alike 37 = .ok (.aload_n 1, 1) := by decide +kernel
theorem dL_alike_38 : decode cL_alike 38 = .ok (.invokevirtual 125, 3) := by decide +kernel
theorem dL_alike_41 : decode cL_alike 41 = .ok (.if_icmp .ne 7, 3) := by decide +kernel
theorem dL_alike_44 : decode cL_alike 44 = .ok (.iconst 1, 1) := by decide +kernel
theorem dL_alike_45 : decode cL_alike 45 = .ok (.goto 4, 3) := by decide +kernel
theorem dL_alike_48 : decode cL_alike 48 = .ok (.iconst 0, 1) := by decide +kernel
theorem dL_alike_49 : decode cL_alike 49 = .ok (.istore 4, 2) := by decide +kernel
theorem dL_alike_51 : decode cL_alike 51 = .ok (.iload_n 3, 1) := by decide +kernel
theorem dL_alike_52 : decode cL_alike 52 = .ok (.iconst 5, 1) := by decide +kernel
theorem dL_alike_53 : decode cL_alike 53 = .ok (.irem, 1) := by decide +kernel
theorem dL_alike_54 : decode cL_alike 54 = .ok (.istore 5, 2) := by decide +kernel
theorem dL_alike_56 : decode cL_alike 56 = .ok (.iload 5, 2) := by decide +kernel
theorem dL_alike_58 : decode cL_alike 58 = .ok (.bipush 48, 2) := by decide +kernel
theorem dL_alike_60 : decode cL_alike 60 = .ok (.if_icmp .ge 52, 3) := by decide +kernel
theorem dL_alike_63 : decode cL_alike 63 = .ok (.iload 4, 2) := by decide +kernel
theorem dL_alike_65 : decode cL_alike 65 = .ok (.ifCond .eq 47, 3) := by decide +kernel
theorem dL_alike_68 : decode cL_alike 68 = .ok (.aload_n 0, 1) := by decide +kernel
theorem dL_alike_69 : decode cL_alike 69 = .ok (.iload 5, 2) := by decide +kernel
theorem dL_alike_71 : decode cL_alike 71 = .ok (.bipush 8, 2) := by decide +kernel
theorem dL_alike_73 : decode cL_alike 73 = .ok (.irem, 1) := by decide +kernel
theorem dL_alike_74 : decode cL_alike 74 = .ok (.iload 5, 2) := by decide +kernel
theorem dL_alike_76 : decode cL_alike 76 = .ok (.bipush 8, 2) := by decide +kernel
theorem dL_alike_78 : decode cL_alike 78 = .ok (.idiv, 1) := by decide +kernel
theorem dL_alike_79 : decode cL_alike 79 = .ok (.invokestatic 93, 3) := by decide +kernel
theorem dL_alike_82 : decode cL_alike 82 = .ok (.aload_n 1, 1) := by decide +kernel
theorem dL_alike_83 : decode cL_alike 83 = .ok (.iload 5, 2) := by decide +kernel
theorem dL_alike_85 : decode cL_alike 85 = .ok (.bipush 8, 2) := by decide +kernel
theorem dL_alike_87 : decode cL_alike 87 = .ok (.irem, 1) := by decide +kernel
theorem dL_alike_88 : decode cL_alike 88 = .ok (.iload 5, 2) := by decide +kernel
theorem dL_alike_90 : decode cL_alike 90 = .ok (.bipush 8, 2) := by decide +kernel
theorem dL_alike_92 : decode cL_alike 92 = .ok (.idiv, 1) := by decide +kernel
theorem dL_alike_93 : decode cL_alike 93 = .ok (.invokestatic 93, 3) := by decide +kernel
theorem dL_alike_96 : decode cL_alike 96 = .ok (.if_icmp .ne 7, 3) := by decide +kernel
theorem dL_alike_99 : decode cL_alike 99 = .ok (.iconst 1, 1) := by decide +kernel
theorem dL_alike_100 : decode cL_alike 100 = .ok (.goto 4, 3) := by decide +kernel
theorem dL_alike_103 : decode cL_alike 103 = .ok (.iconst 0, 1) := by decide +kernel
theorem dL_alike_104 : decode cL_alike 104 = .ok (.istore 4, 2) := by decide +kernel
theorem dL_alike_106 : decode cL_alike 106 = .ok (.iinc 5 5, 3) := by decide +kernel
theorem dL_alike_109 : decode cL_alike 109 = .ok (.goto (-53), 3) := by decide +kernel
theorem dL_alike_112 : decode cL_alike 112 = .ok (.iconst 0, 1) := by decide +kernel
theorem dL_alike_113 : decode cL_alike 113 = .ok (.istore 5, 2) := by decide +kernel
theorem dL_alike_115 : decode cL_alike 115 = .ok (.iload 5, 2) := by decide +kernel
theorem dL_alike_117 : decode cL_alike 117 = .ok (.aload_n 2, 1) := by decide +kernel
theorem dL_alike_118 : decode cL_alike 118 = .ok (.iconst 0, 1) := by decide +kernel
theorem dL_alike_119 : decode cL_alike 119 = .ok (.iaload, 1) := by decide +kernel
theorem dL_alike_120 : decode cL_alike 120 = .ok (.if_icmp .ge 126, 3) := by decide +kernel
theorem dL_alike_123 : decode cL_alike 123 = .ok (.iload 4, 2) := by decide +kernel
theorem dL_alike_125 : decode cL_alike 125 = .ok (.ifCond .eq 121, 3) := by decide +kernel
theorem dL_alike_128 : decode cL_alike 128 = .ok (.aload_n 0, 1) := by decide +kernel
theorem dL_alike_129 : decode cL_alike 129 = .ok (.iload 5, 2) := by decide +kernel
theorem dL_alike_131 : decode cL_alike 131 = .ok (.invokestatic 95, 3) := by decide +kernel
theorem dL_alike_134 : decode cL_alike 134 = .ok (.aload_n 1, 1) := by decide +kernel
theorem dL_alike_135 : decode cL_alike 135 = .ok (.iload 5, 2) := by decide +kernel
theorem dL_alike_137 : decode cL_alike 137 = .ok (.invokestatic 95, 3) := by decide +kernel
theorem dL_alike_140 : decode cL_alike 140 = .ok (.if_icmp .ne 97, 3) := by decide +kernel
theorem dL_alike_143 : decode cL_alike 143 = .ok (.aload_n 0, 1) := by decide +kernel
theorem dL_alike_144 : decode cL_alike 144 = .ok (.iload 5, 2) := by decide +kernel
theorem dL_alike_146 : decode cL_alike 146 = .ok (.invokestatic 98, 3) := by decide +kernel
theorem dL_alike_149 : decode cL_alike 149 = .ok (.aload_n 1, 1) := by decide +kernel
theorem dL_alike_150 : decode cL_alike 150 = .ok (.iload 5, 2) := by decide +kernel
theorem dL_alike_152 : decode cL_alike 152 = .ok (.invokestatic 98, 3) := by decide +kernel
theorem dL_alike_155 : decode cL_alike 155 = .ok (.if_icmp .ne 82, 3) := by decide +kernel
theorem dL_alike_158 : decode cL_alike 158 = .ok (.aload_n 0, 1) := by decide +kernel
theorem dL_alike_159 : decode cL_alike 159 = .ok (.iload 5, 2) := by decide +kernel
theorem dL_alike_161 : decode cL_alike 161 = .ok (.invokestatic 101, 3) := by decide +kernel
theorem dL_alike_164 : decode cL_alike 164 = .ok (.aload_n 1, 1) := by decide +kernel
theorem dL_alike_165 : decode cL_alike 165 = .ok (.iload 5, 2) := by decide +kernel
theorem dL_alike_167 : decode cL_alike 167 = .ok (.invokestatic 101, 3) := by decide +kernel
theorem dL_alike_170 : decode cL_alike 170 = .ok (.if_icmp .ne 67, 3) := by decide +kernel
theorem dL_alike_173 : decode cL_alike 173 = .ok (.aload_n 0, 1) := by decide +kernel
theorem dL_alike_174 : decode cL_alike 174 = .ok (.iload 5, 2) := by decide +kernel
theorem dL_alike_176 : decode cL_alike 176 = .ok (.invokestatic 104, 3) := by decide +kernel
theorem dL_alike_179 : decode cL_alike 179 = .ok (.aload_n 1, 1) := by decide +kernel
theorem dL_alike_180 : decode cL_alike 180 = .ok (.iload 5, 2) := by decide +kernel
theorem dL_alike_182 : decode cL_alike 182 = .ok (.invokestatic 104, 3) := by decide +kernel
theorem dL_alike_185 : decode cL_alike 185 = .ok (.if_icmp .ne 52, 3) := by decide +kernel
theorem dL_alike_188 : decode cL_alike 188 = .ok (.aload_n 0, 1) := by decide +kernel
theorem dL_alike_189 : decode cL_alike 189 = .ok (.iload 5, 2) := by decide +kernel
theorem dL_alike_191 : decode cL_alike 191 = .ok (.invokestatic 106, 3) := by decide +kernel
theorem dL_alike_194 : decode cL_alike 194 = .ok (.aload_n 1, 1) := by decide +kernel
theorem dL_alike_195 : decode cL_alike 195 = .ok (.iload 5, 2) := by decide +kernel
theorem dL_alike_197 : decode cL_alike 197 = .ok (.invokestatic 106, 3) := by decide +kernel
theorem dL_alike_200 : decode cL_alike 200 = .ok (.if_icmp .ne 37, 3) := by decide +kernel
theorem dL_alike_203 : decode cL_alike 203 = .ok (.aload_n 0, 1) := by decide +kernel
theorem dL_alike_204 : decode cL_alike 204 = .ok (.iload 5, 2) := by decide +kernel
theorem dL_alike_206 : decode cL_alike 206 = .ok (.invokestatic 108, 3) := by decide +kernel
theorem dL_alike_209 : decode cL_alike 209 = .ok (.aload_n 1, 1) := by decide +kernel
theorem dL_alike_210 : decode cL_alike 210 = .ok (.iload 5, 2) := by decide +kernel
theorem dL_alike_212 : decode cL_alike 212 = .ok (.invokestatic 108, 3) := by decide +kernel
theorem dL_alike_215 : decode cL_alike 215 = .ok (.if_icmp .ne 22, 3) := by decide +kernel
theorem dL_alike_218 : decode cL_alike 218 = .ok (.aload_n 0, 1) := by decide +kernel
theorem dL_alike_219 : decode cL_alike 219 = .ok (.iload 5, 2) := by decide +kernel
theorem dL_alike_221 : decode cL_alike 221 = .ok (.invokestatic 110, 3) := by decide +kernel
theorem dL_alike_224 : decode cL_alike 224 = .ok (.aload_n 1, 1) := by decide +kernel
theorem dL_alike_225 : decode cL_alike 225 = .ok (.iload 5, 2) := by decide +kernel
theorem dL_alike_227 : decode cL_alike 227 = .ok (.invokestatic 110, 3) := by decide +kernel
theorem dL_alike_230 : decode cL_alike 230 = .ok (.if_icmp .ne 7, 3) := by decide +kernel
theorem dL_alike_233 : decode cL_alike 233 = .ok (.iconst 1, 1) := by decide +kernel
theorem dL_alike_234 : decode cL_alike 234 = .ok (.goto 4, 3) := by decide +kernel
theorem dL_alike_237 : decode cL_alike 237 = .ok (.iconst 0, 1) := by decide +kernel
theorem dL_alike_238 : decode cL_alike 238 = .ok (.istore 4, 2) := by decide +kernel
theorem dL_alike_240 : decode cL_alike 240 = .ok (.iinc 5 1, 3) := by decide +kernel
theorem dL_alike_243 : decode cL_alike 243 = .ok (.goto (-128), 3) := by decide +kernel
theorem dL_alike_246 : decode cL_alike 246 = .ok (.iload 4, 2) := by decide +kernel
theorem dL_alike_248 : decode cL_alike 248 = .ok (.ireturn, 1) := by decide +kernel
set_option maxRecDepth 20000 in
theorem ggL_holds_L_at : GoodIn wsL_holds wsL_at := goodIn_ca (goodIn_r _ [5, 6, 1, 7, 8, 9, 10, 11, 12, 13, 14, 15, 16, 17, 18, 19, 20, 21, 22, 23, 24, 25, 143, 144, 145, 146, 147, 148, 149, 150, 151, 152, 153, 154, 155, 156, 157, 158, 159, 160] (by decide +kernel) (by decide +kernel)) (goodIn_sub (fun _ h => List.mem_cons_of_mem _ (List.mem_append_right _ h)) (by decide +kernel))
set_option maxRecDepth 20000 in
theorem gL_holds_L_at : GoodIn wsL_holds (va_wsS RL 93 yL_at wsL_at) := goodIn_app (goodIn_of _ (by decide +kernel)) ggL_holds_L_at
set_option maxRecDepth 20000 in
theorem ggL_holds_L_seen : GoodIn wsL_holds wsL_seen := goodIn_ca (goodIn_r _ [28, 6, 1, 29, 30, 31, 10, 32, 33, 34, 35, 36, 37, 16, 17, 38, 39, 40, 41, 42, 43, 44, 45, 46, 47, 48, 49, 151, 152, 153, 154, 155, 156, 157, 158, 159, 160, 143, 144, 145, 146, 147, 148, 149, 150, 161, 162] (by decide +kernel) (by decide +kernel)) (goodIn_sub (fun _ h => List.mem_cons_of_mem _ (List.mem_append_right _ h)) (by decide +kernel))
set_option maxRecDepth 20000 in
theorem gL_holds_L_seen : GoodIn wsL_holds (va_wsS RL 98 yL_seen wsL_seen) := goodIn_app (goodIn_of _ (by decide +kernel)) ggL_holds_L_seen
set_option maxRecDepth 20000 in
theorem ggL_holds_L_place : GoodIn wsL_holds wsL_place := goodIn_ca (goodIn_r _ [52, 6, 1, 53, 54, 55, 10, 56, 57, 25, 34, 35, 36, 37, 16, 17, 38, 39, 40, 41, 42, 43, 44, 45, 46, 47, 48, 49, 143, 144, 145, 146, 147, 148, 149, 150, 151, 152, 153, 154, 155, 156, 157, 158, 159, 160, 161, 162] (by decide +kernel) (by decide +kernel)) (goodIn_sub (fun _ h => List.mem_cons_of_mem _ (List.mem_append_right _ h)) (by decide +kernel))
set_option maxRecDepth 20000 in
theorem gL_holds_L_place : GoodIn wsL_holds (va_wsS RL 95 yL_place wsL_place) := goodIn_app (goodIn_of _ (by decide +kernel)) ggL_holds_L_place
set_option maxRecDepth 20000 in
theorem ggL_holds_L_pages : GoodIn wsL_holds wsL_pages := goodIn_ca (goodIn_r _ [60, 6, 1, 61, 62, 63, 10, 64, 34, 35, 36, 37, 16, 17, 38, 39, 40, 41, 42, 43, 44, 45, 46, 47, 48, 49, 65, 66, 67, 68, 69, 70, 71, 72, 73, 74, 75, 76, 143, 144, 145, 146, 147, 148, 149, 150, 161, 162, 151, 152, 153, 154, 155, 156, 157, 158, 159, 160] (by decide +kernel) (by decide +kernel)) (goodIn_sub (fun _ h => List.mem_cons_of_mem _ (List.mem_append_right _ h)) (by decide +kernel))
set_option maxRecDepth 20000 in
theorem gL_holds_L_pages : GoodIn wsL_holds (va_wsS RL 101 yL_pages wsL_pages) := goodIn_app (goodIn_of _ (by decide +kernel)) ggL_holds_L_pages
set_option maxRecDepth 20000 in
theorem ggL_holds_L_pace : GoodIn wsL_holds wsL_pace := goodIn_ca (goodIn_r _ [79, 6, 1, 80, 81, 82, 10, 83, 84, 85, 34, 35, 36, 37, 16, 17, 38, 39, 40, 41, 42, 43, 44, 45, 46, 47, 48, 49, 151, 152, 153, 154, 155, 156, 157, 158, 159, 160, 163, 164, 165, 166, 167, 168, 169, 170, 171, 143, 144, 145, 146, 147, 148, 149, 150, 161, 162] (by decide +kernel) (by decide +kernel)) (goodIn_sub (fun _ h => List.mem_cons_of_mem _ (List.mem_append_right _ h)) (by decide +kernel))
set_option maxRecDepth 20000 in
theorem gL_holds_L_pace : GoodIn wsL_holds (va_wsS RL 106 yL_pace wsL_pace) := goodIn_app (goodIn_of _ (by decide +kernel)) ggL_holds_L_pace
set_option maxRecDepth 20000 in
theorem ggL_holds_L_deadline : GoodIn wsL_holds wsL_deadline := goodIn_ca (goodIn_r _ [88, 6, 1, 89, 90, 91, 10, 92, 84, 93, 94, 34, 35, 36, 37, 16, 17, 38, 39, 40, 41, 42, 43, 44, 45, 46, 47, 48, 49, 151, 152, 153, 154, 155, 156, 157, 158, 159, 160, 163, 164, 165, 166, 167, 168, 169, 170, 171, 143, 144, 145, 146, 147, 148, 149, 150, 161, 162] (by decide +kernel) (by decide +kernel)) (goodIn_sub (fun _ h => List.mem_cons_of_mem _ (List.mem_append_right _ h)) (by decide +kernel))
set_option maxRecDepth 20000 in
theorem gL_holds_L_deadline : GoodIn wsL_holds (va_wsS RL 110 yL_deadline wsL_deadline) := goodIn_app (goodIn_of _ (by decide +kernel)) ggL_holds_L_deadline
set_option maxRecDepth 20000 in
theorem ggL_holds_L_picture : GoodIn wsL_holds wsL_picture := goodIn_ca (goodIn_r _ [97, 6, 1, 98, 99, 100, 10, 101, 102, 34, 35, 36, 37, 16, 17, 38, 39, 40, 41, 42, 43, 44, 45, 46, 47, 48, 49, 151, 152, 153, 154, 155, 156, 157, 158, 159, 160, 143, 144, 145, 146, 147, 148, 149, 150, 161, 162] (by decide +kernel) (by decide +kernel)) (goodIn_sub (fun _ h => List.mem_cons_of_mem _ (List.mem_append_right _ h)) (by decide +kernel))
set_option maxRecDepth 20000 in
theorem gL_holds_L_picture : GoodIn wsL_holds (va_wsS RL 104 yL_picture wsL_picture) := goodIn_app (goodIn_of _ (by decide +kernel)) ggL_holds_L_picture
set_option maxRecDepth 20000 in
theorem ggL_holds_L_misses : GoodIn wsL_holds wsL_misses := goodIn_ca (goodIn_r _ [105, 6, 1, 106, 107, 108, 10, 109, 84, 110, 34, 35, 36, 37, 16, 17, 38, 39, 40, 41, 42, 43, 44, 45, 46, 47, 48, 49, 151, 152, 153, 154, 155, 156, 157, 158, 159, 160, 163, 164, 165, 166, 167, 168, 169, 170, 171, 143, 144, 145, 146, 147, 148, 149, 150, 161, 162] (by decide +kernel) (by decide +kernel)) (goodIn_sub (fun _ h => List.mem_cons_of_mem _ (List.mem_append_right _ h)) (by decide +kernel))
set_option maxRecDepth 20000 in
theorem gL_holds_L_misses : GoodIn wsL_holds (va_wsS RL 108 yL_misses wsL_misses) := goodIn_app (goodIn_of _ (by decide +kernel)) ggL_holds_L_misses
set_option maxRecDepth 20000 in
theorem ggL_holds_X3_tick : GoodIn wsL_holds wsX3_tick := goodIn_r _ [114, 115, 143, 144, 145, 146, 147, 148, 149, 150] (by decide +kernel) (by decide +kernel)
set_option maxRecDepth 20000 in
theorem gL_holds_X3_tick : GoodIn wsL_holds (wsV RL 119 RX3 yX3_tick wsX3_tick) := goodIn_app (goodIn_of _ (by decide +kernel)) ggL_holds_X3_tick
set_option maxRecDepth 20000 in
theorem ggL_holds_X3_windows : GoodIn wsL_holds wsX3_windows := goodIn_r _ [119, 57, 120, 121, 122, 42, 123, 124, 143, 144, 145, 146, 147, 148, 149, 150, 161, 162] (by decide +kernel) (by decide +kernel)
set_option maxRecDepth 20000 in
theorem gL_holds_X3_windows : GoodIn wsL_holds (wsV RL 112 RX3 yX3_windows wsX3_windows) := goodIn_app (goodIn_of _ (by decide +kernel)) ggL_holds_X3_windows
set_option maxRecDepth 20000 in
theorem ggL_holds_X3_free : GoodIn wsL_holds wsX3_free := goodIn_r _ [128, 129, 143, 144, 145, 146, 147, 148, 149, 150] (by decide +kernel) (by decide +kernel)
set_option maxRecDepth 20000 in
theorem gL_holds_X3_free : GoodIn wsL_holds (wsV RL 122 RX3 yX3_free wsX3_free) := goodIn_app (goodIn_of _ (by decide +kernel)) ggL_holds_X3_free
set_option maxRecDepth 20000 in
theorem ggL_holds_X3_damage : GoodIn wsL_holds wsX3_damage := goodIn_r _ [133, 134, 135, 136, 10, 137, 18, 138, 139, 22, 23, 24, 25, 140, 141, 142, 102, 143, 144, 145, 146, 147, 148, 149, 150, 151, 152, 153, 154, 155, 156, 157, 158, 159, 160] (by decide +kernel) (by decide +kernel)
set_option maxRecDepth 20000 in
theorem gL_holds_X3_damage : GoodIn wsL_holds (wsV RL 125 RX3 yX3_damage wsX3_damage) := goodIn_app (goodIn_of _ (by decide +kernel)) ggL_holds_X3_damage
theorem dL_holds_0 : decode cL_holds 0 = .ok (.iconst 0, 1) := by decide +kernel
theorem dL_holds_1 : decode cL_holds 1 = .ok (.istore_n 2, 1) := by decide +kernel
theorem dL_holds_2 : decode cL_holds 2 = .ok (.iconst 0, 1) := by decide +kernel
theorem dL_holds_3 : decode cL_holds 3 = .ok (.istore_n 3, 1) := by decide +kernel
theorem dL_holds_4 : decode cL_holds 4 = .ok (.iconst 0, 1) := by decide +kernel
theorem dL_holds_5 : decode cL_holds 5 = .ok (.istore 4, 2) := by decide +kernel
theorem dL_holds_7 : decode cL_holds 7 = .ok (.iconst 0, 1) := by decide +kernel
theorem dL_holds_8 : decode cL_holds 8 = .ok (.istore 5, 2) := by decide +kernel
theorem dL_holds_10 : decode cL_holds 10 = .ok (.iconst 0, 1) := by decide +kernel
theorem dL_holds_11 : decode cL_holds 11 = .ok (.istore 6, 2) := by decide +kernel
theorem dL_holds_13 : decode cL_holds 13 = .ok (.iconst 1, 1) := by decide +kernel
theorem dL_holds_14 : decode cL_holds 14 = .ok (.istore 7, 2) := by decide +kernel
theorem dL_holds_16 : decode cL_holds 16 = .ok (.iconst 0, 1) := by decide +kernel
theorem dL_holds_17 : decode cL_holds 17 = .ok (.istore 8, 2) := by decide +kernel
theorem dL_holds_19 : decode cL_holds 19 = .ok (.iload 8, 2) := by decide +kernel
theorem dL_holds_21 : decode cL_holds 21 = .ok (.bipush 48, 2) := by decide +kernel
theorem dL_holds_23 : decode cL_holds 23 = .ok (.if_icmp .ge 85, 3) := by decide +kernel
theorem dL_holds_26 : decode cL_holds 26 = .ok (.iload 7, 2) := by decide +kernel
theorem dL_holds_28 : decode cL_holds 28 = .ok (.ifCond .eq 80, 3) := by decide +kernel
theorem dL_holds_31 : decode cL_holds 31 = .ok (.aload_n 0, 1) := by decide +kernel
theorem dL_holds_32 : decode cL_holds 32 = .ok (.iload 8, 2) := by decide +kernel
theorem dL_holds_34 : decode cL_holds 34 = .ok (.bipush 8, 2) := by decide +kernel
theorem dL_holds_36 : decode cL_holds 36 = .ok (.irem, 1) := by decide +kernel
theorem dL_holds_37 : decode cL_holds 37 = .ok (.iload 8, 2) := by decide +kernel
theorem dL_holds_39 : decode cL_holds 39 = .ok (.bipush 8, 2) := by decide +kernel
theorem dL_holds_41 : decode cL_holds 41 = .ok (.idiv, 1) := by decide +kernel
theorem dL_holds_42 : decode cL_holds 42 = .ok (.invokestatic 93, 3) := by decide +kernel
theorem dL_holds_45 : decode cL_holds 45 = .ok (.istore 9, 2) := by decide +kernel
theorem dL_holds_47 : decode cL_holds 47 = .ok (.iload 5, 2) := by decide +kernel
theorem dL_holds_49 : decode cL_holds 49 = .ok (.iload 9, 2) := by decide +kernel
theorem dL_holds_51 : decode cL_holds 51 = .ok (.ifCond .ge 7, 3) := by decide +kernel
theorem dL_holds_54 : decode cL_holds 54 = .ok (.iconst 0, 1) := by decide +kernel
theorem dL_holds_55 : decode cL_holds 55 = .ok (.goto 4, 3) := by decide +kernel
theorem dL_holds_58 : decode cL_holds 58 = .ok (.iconst 1, 1) := by decide +kernel
theorem dL_holds_59 : decode cL_holds 59 = .ok (.iadd, 1) := by decide +kernel
theorem dL_holds_60 : decode cL_holds 60 = .ok (.istore 5, 2) := by decide +kernel
theorem dL_holds_62 : decode cL_holds 62 = .ok (.iload 9, 2) := by decide +kernel
theorem dL_holds_64 : decode cL_holds 64 = .ok (.iconst (-1), 1) := by decide +kernel
theorem dL_holds_65 : decode cL_holds 65 = .ok (.if_icmp .eq 30, 3) := by decide +kernel
theorem dL_holds_68 : decode cL_holds 68 = .ok (.iload 9, 2) := by decide +kernel
theorem dL_holds_70 : decode cL_holds 70 = .ok (.aload_n 1, 1) := by decide +kernel
theorem dL_holds_71 : decode cL_holds 71 = .ok (.iconst 0, 1) := by decide +kernel
theorem dL_holds_72 : decode cL_holds 72 = .ok (.iaload, 1) := by decide +kernel
theorem dL_holds_73 : decode cL_holds 73 = .ok (.if_icmp .ge 26, 3) := by decide +kernel
theorem dL_holds_76 : decode cL_holds 76 = .ok (.aload_n 0, 1) := by decide +kernel
theorem dL_holds_77 : decode cL_holds 77 = .ok (.iload 9, 2) := by decide +kernel
theorem dL_holds_79 : decode cL_holds 79 = .ok (.invokestatic 98, 3) := by decide +kernel
theorem dL_holds_82 : decode cL_holds 82 = .ok (.iconst 1, 1) := by decide +kernel
theorem dL_holds_83 : decode cL_holds 83 = .ok (.if_icmp .ne 16, 3) := by decide +kernel
theorem dL_holds_86 : decode cL_holds 86 = .ok (.aload_n 0, 1) := by decide +kernel
theorem dL_holds_87 : decode cL_holds 87 = .ok (.iload 9, 2) := by decide +kernel
theorem dL_holds_89 : decode cL_holds 89 = .ok (.invokestatic 95, 3) := by decide +kernel
theorem dL_holds_92 : decode cL_holds 92 = .ok (.ifCond .lt 7, 3) := by decide +kernel
theorem dL_holds_95 : decode cL_holds 95 = .ok (.iconst 1, 1) := by decide +kernel
theorem dL_holds_96 : decode cL_holds 96 = .ok (.goto 4, 3) := by decide +kernel
theorem dL_holds_99 : decode cL_holds 99 = .ok (.iconst 0, 1) := by decide +kernel
theorem dL_holds_100 : decode cL_holds 100 = .ok (.istore 7, 2) := by decide +kernel
theorem dL_holds_102 : decode cL_holds 102 = .ok (.iinc 8 1, 3) := by decide +kernel
theorem dL_holds_105 : decode cL_holds 105 = .ok (.goto (-86), 3) := by decide +kernel
theorem dL_holds_108 : decode cL_holds 108 = .ok (.iconst 0, 1) := by decide +kernel
theorem dL_holds_109 : decode cL_holds 109 = .ok (.istore 8, 2) := by decide +kernel
theorem dL_holds_111 : decode cL_holds 111 = .ok (.iload 8, 2) := by decide +kernel
theorem dL_holds_113 : decode cL_holds 113 = .ok (.aload_n 1, 1) := by decide +kernel
theorem dL_holds_114 : decode cL_holds 114 = .ok (.iconst 0, 1) := by decide +kernel
theorem dL_holds_115 : decode cL_holds 115 = .ok (.iaload, 1) := by decide +kernel
theorem dL_holds_116 : decode cL_holds 116 = .ok (.if_icmp .ge 303, 3) := by decide +kernel
theorem dL_holds_119 : decode cL_holds 119 = .ok (.iload 7, 2) := by decide +kernel
theorem dL_holds_121 : decode cL_holds 121 = .ok (.ifCond .eq 298, 3) := by decide +kernel
theorem dL_holds_124 : decode cL_holds 124 = .ok (.aload_n 0, 1) := by decide +kernel
theorem dL_holds_125 : decode cL_holds 125 = .ok (.iload 8, 2) := by decide +kernel
theorem dL_holds_127 : decode cL_holds 127 = .ok (.invokestatic 95, 3) := by decide +kernel
theorem dL_holds_130 : decode cL_holds 130 = .ok (.istore 9, 2) := by decide +kernel
theorem dL_holds_132 : decode cL_holds 132 = .ok (.iload 9, 2) := by decide +kernel
theorem dL_holds_134 : decode cL_holds 134 = .ok (.ifCond .lt 243, 3) := by decide +kernel
theorem dL_holds_137 : decode cL_holds 137 = .ok (.iinc 3 1, 3) := by decide +kernel
theorem dL_holds_140 : decode cL_holds 140 = .ok (.iload 4, 2) := by decide +kernel
theorem dL_holds_142 : decode cL_holds 142 = .ok (.iconst 1, 1) := by decide +kernel
theorem dL_holds_143 : decode cL_holds 143 = .ok (.iload 9, 2) := by decide +kernel
theorem dL_holds_145 : decode cL_holds 145 = .ok (.ishl, 1) := by decide +kernel
theorem dL_holds_146 : decode cL_holds 146 = .ok (.ior, 1) := by decide +kernel
theorem dL_holds_147 : decode cL_holds 147 = .ok (.istore 4, 2) := by decide +kernel
theorem dL_holds_149 : decode cL_holds 149 = .ok (.iload_n 2, 1) := by decide +kernel
theorem dL_holds_150 : decode cL_holds 150 = .ok (.aload_n 0, 1) := by decide +kernel
theorem dL_holds_151 : decode cL_holds 151 = .ok (.iload 8, 2) := by decide +kernel
theorem dL_holds_153 : decode cL_holds 153 = .ok (.invokestatic 101, 3) := by decide +kernel
theorem dL_holds_156 : decode cL_holds 156 = .ok (.iadd, 1) := by decide +kernel
theorem dL_holds_157 : decode cL_holds 157 = .ok (.istore_n 2, 1) := by decide +kernel
theorem dL_holds_158 : decode cL_holds 158 = .ok (.iconst 0, 1) := by decide +kernel
theorem dL_holds_159 : decode cL_holds 159 = .ok (.istore 10, 2) := by decide +kernel
theorem dL_holds_161 : decode cL_holds 161 = .ok (.iconst 0, 1) := by decide +kernel
theorem dL_holds_162 : decode cL_holds 162 = .ok (.istore 11, 2) := by decide +kernel
theorem dL_holds_164 : decode cL_holds 164 = .ok (.iload 11, 2) := by decide +kernel
theorem dL_holds_166 : decode cL_holds 166 = .ok (.bipush 48, 2) := by decide +kernel
theorem dL_holds_168 : decode cL_holds 168 = .ok (.if_icmp .ge 40, 3) := by decide +kernel
theorem dL_holds_171 : decode cL_holds 171 = .ok (.iload 10, 2) := by decide +kernel
theorem dL_holds_173 : decode cL_holds 173 = .ok (.ifCond .ne 35, 3) := by decide +kernel
theorem dL_holds_176 : decode cL_holds 176 = .ok (.aload_n 0, 1) := by decide +kernel
theorem dL_holds_177 : decode cL_holds 177 = .ok (.iload 11, 2) := by decide +kernel
theorem dL_holds_179 : decode cL_holds 179 = .ok (.bipush 8, 2) := by decide +kernel
theorem dL_holds_181 : decode cL_holds 181 = .ok (.irem, 1) := by decide +kernel
theorem dL_holds_182 : decode cL_holds 182 = .ok (.iload 11, 2) := by decide +kernel
theorem dL_holds_184 : decode cL_holds 184 = .ok (.bipush 8, 2) := by decide +kernel
theorem dL_holds_186 : decode cL_holds 186 = .ok (.idiv, 1) := by decide +kernel
theorem dL_holds_187 : decode cL_holds 187 = .ok (.invokestatic 93, 3) := by decide +kernel
theorem dL_holds_190 : decode cL_holds 190 = .ok (.iload 8, 2) := by decide +kernel
theorem dL_holds_192 : decode cL_holds 192 = .ok (.if_icmp .ne 7, 3) := by decide +kernel
theorem dL_holds_195 : decode cL_holds 195 = .ok (.iconst 1, 1) := by decide +kernel
theorem dL_holds_196 : decode cL_holds 196 = .ok (.goto 4, 3) := by decide +kernel
theorem dL_holds_199 : decode cL_holds 199 = .ok (.iconst 0, 1) := by decide +kernel
theorem dL_holds_200 : decode cL_holds 200 = .ok (.istore 10, 2) := by decide +kernel
theorem dL_holds_202 : decode cL_holds 202 = .ok (.iinc 11 1, 3) := by decide +kernel
theorem dL_holds_205 : decode cL_holds 205 = .ok (.goto (-41), 3) := by decide +kernel
theorem dL_holds_208 : decode cL_holds 208 = .ok (.iload 6, 2) := by decide +kernel
theorem dL_holds_210 : decode cL_holds 210 = .ok (.iload 10, 2) := by decide +kernel
theorem dL_holds_212 : decode cL_holds 212 = .ok (.ifCond .eq 7, 3) := by decide +kernel
theorem dL_holds_215 : decode cL_holds 215 = .ok (.iconst 1, 1) := by decide +kernel
theorem dL_holds_216 : decode cL_holds 216 = .ok (.goto 4, 3) := by decide +kernel
theorem dL_holds_219 : decode cL_holds 219 = .ok (.iconst 0, 1) := by decide +kernel
theorem dL_holds_220 : decode cL_holds 220 = .ok (.iadd, 1) := by decide +kernel
theorem dL_holds_221 : decode cL_holds 221 = .ok (.istore 6, 2) := by decide +kernel
theorem dL_holds_223 : decode cL_holds 223 = .ok (.aload_n 0, 1) := by decide +kernel
theorem dL_holds_224 : decode cL_holds 224 = .ok (.iload 8, 2) := by decide +kernel
theorem dL_holds_226 : decode cL_holds 226 = .ok (.invokestatic 106, 3) := by decide +kernel
theorem dL_holds_229 : decode cL_holds 229 = .ok (.istore 11, 2) := by decide +kernel
theorem dL_holds_231 : decode cL_holds 231 = .ok (.aload_n 0, 1) := by decide +kernel
theorem dL_holds_232 : decode cL_holds 232 = .ok (.iload 8, 2) := by decide +kernel
theorem dL_holds_234 : decode cL_holds 234 = .ok (.invokestatic 110, 3) := by decide +kernel
theorem dL_holds_237 : decode cL_holds 237 = .ok (.istore 12, 2) := by decide +kernel
theorem dL_holds_239 : decode cL_holds 239 = .ok (.iload 10, 2) := by decide +kernel
theorem dL_holds_241 : decode cL_holds 241 = .ok (.aload_n 0, 1) := by decide +kernel
theorem dL_holds_242 : decode cL_holds 242 = .ok (.iload 8, 2) := by decide +kernel
theorem dL_holds_244 : decode cL_holds 244 = .ok (.invokestatic 98, 3) := by decide +kernel
theorem dL_holds_247 : decode cL_holds 247 = .ok (.iconst 1, 1) := by decide +kernel
theorem dL_holds_248 : decode cL_holds 248 = .ok (.if_icmp .ne 7, 3) := by decide +kernel
theorem dL_holds_251 : decode cL_holds 251 = .ok (.iconst 1, 1) := by decide +kernel
theorem dL_holds_252 : decode cL_holds 252 = .ok (.goto 4, 3) := by decide +kernel
theorem dL_holds_255 : decode cL_holds 255 = .ok (.iconst 0, 1) := by decide +kernel
theorem dL_holds_256 : decode cL_holds 256 = .ok (.if_icmp .ne 115, 3) := by decide +kernel
theorem dL_holds_259 : decode cL_holds 259 = .ok (.aload_n 0, 1) := by decide +kernel
theorem dL_holds_260 : decode cL_holds 260 = .ok (.iload 8, 2) := by decide +kernel
theorem dL_holds_262 : decode cL_holds 262 = .ok (.invokestatic 101, 3) := by decide +kernel
theorem dL_holds_265 : decode cL_holds 265 = .ok (.bipush 12, 2) := by decide +kernel
theorem dL_holds_267 : decode cL_holds 267 = .ok (.if_icmp .gt 104, 3) := by decide +kernel
theorem dL_holds_270 : decode cL_holds 270 = .ok (.aload_n 0, 1) := by decide +kernel
theorem dL_holds_271 : decode cL_holds 271 = .ok (.iload 8, 2) := by decide +kernel
theorem dL_holds_273 : decode cL_holds 273 = .ok (.invokestatic 101, 3) := by decide +kernel
theorem dL_holds_276 : decode cL_holds 276 = .ok (.ifCond .lt 95, 3) := by decide +kernel
theorem dL_holds_279 : decode cL_holds 279 = .ok (.aload_n 0, 1) := by decide +kernel
theorem dL_holds_280 : decode cL_holds 280 = .ok (.iload 8, 2) := by decide +kernel
theorem dL_holds_282 : decode cL_holds 282 = .ok (.invokestatic 101, 3) := by decide +kernel
theorem dL_holds_285 : decode cL_holds 285 = .ok (.ifCond .gt 18, 3) := by decide +kernel
theorem dL_holds_288 : decode cL_holds 288 = .ok (.aload_n 0, 1) := by decide +kernel
theorem dL_holds_289 : decode cL_holds 289 = .ok (.iload 8, 2) := by decide +kernel
theorem dL_holds_291 : decode cL_holds 291 = .ok (.invokestatic 104, 3) := by decide +kernel
theorem dL_holds_294 : decode cL_holds 294 = .ok (.ifCond .ne 77, 3) := by decide +kernel
theorem dL_holds_297 : decode cL_holds 297 = .ok (.iload 12, 2) := by decide +kernel
theorem dL_holds_299 : decode cL_holds 299 = .ok (.iconst (-1), 1) := by decide +kernel
theorem dL_holds_300 : decode cL_holds 300 = .ok (.if_icmp .ne 71, 3) := by decide +kernel
theorem dL_holds_303 : decode cL_holds 303 = .ok (.aload_n 0, 1) := by decide +kernel
theorem dL_holds_304 : decode cL_holds 304 = .ok (.iload 8, 2) := by decide +kernel
theorem dL_holds_306 : decode cL_holds 306 = .ok (.invokestatic 104, 3) := by decide +kernel
theorem dL_holds_309 : decode cL_holds 309 = .ok (.ifCond .lt 62, 3) := by decide +kernel
theorem dL_holds_312 : decode cL_holds 312 = .ok (.iload 11, 2) := by decide +kernel
theorem dL_holds_314 : decode cL_holds 314 = .ok (.iconst 1, 1) := by decide +kernel
theorem dL_holds_315 : decode cL_holds 315 = .ok (.if_icmp .eq 22, 3) := by decide +kernel
theorem dL_holds_318 : decode cL_holds 318 = .ok (.iload 11, 2) := by decide +kernel
theorem dL_holds_320 : decode cL_holds 320 = .ok (.iconst 2, 1) := by decide +kernel
theorem dL_holds_321 : decode cL_holds 321 = .ok (.if_icmp .eq 16, 3) := by decide +kernel
theorem dL_holds_324 : decode cL_holds 324 = .ok (.iload 11, 2) := by decide +kernel
theorem dL_holds_326 : decode cL_holds 326 = .ok (.iconst 4, 1) := by decide +kernel
theorem dL_holds_327 : decode cL_holds 327 = .ok (.if_icmp .eq 10, 3) := by decide +kernel
theorem dL_holds_330 : decode cL_holds 330 = .ok (.iload 11, 2) := by decide +kernel
theorem dL_holds_332 : decode cL_holds 332 = .ok (.bipush 8, 2) := by decide +kernel
theorem dL_holds_334 : decode cL_holds 334 = .ok (.if_icmp .ne 37, 3) := by decide +kernel
theorem dL_holds_337 : decode cL_holds 337 = .ok (.iload 11, 2) := by decide +kernel
theorem dL_holds_339 : decode cL_holds 339 = .ok (.iconst 1, 1) := by decide +kernel
theorem dL_holds_340 : decode cL_holds 340 = .ok (.if_icmp .eq 12, 3) := by decide +kernel
theorem dL_holds_343 : decode cL_holds 343 = .ok (.aload_n 0, 1) := by decide +kernel
theorem dL_holds_344 : decode cL_holds 344 = .ok (.iload 8, 2) := by decide +kernel
theorem dL_holds_346 : decode cL_holds 346 = .ok (.invokestatic 108, 3) := by decide +kernel
theorem dL_holds_349 : decode cL_holds 349 = .ok (.ifCond .le 22, 3) := by decide +kernel
theorem dL_holds_352 : decode cL_holds 352 = .ok (.iload 12, 2) := by decide +kernel
theorem dL_holds_354 : decode cL_holds 354 = .ok (.iconst (-1), 1) := by decide +kernel
theorem dL_holds_355 : decode cL_holds 355 = .ok (.if_icmp .eq 12, 3) := by decide +kernel
theorem dL_holds_358 : decode cL_holds 358 = .ok (.iload 12, 2) := by decide +kernel
theorem dL_holds_360 : decode cL_holds 360 = .ok (.aload_n 0, 1) := by decide +kernel
theorem dL_holds_361 : decode cL_holds 361 = .ok (.invokevirtual 119, 3) := by decide +kernel
theorem dL_holds_364 : decode cL_holds 364 = .ok (.if_icmp .le 7, 3) := by decide +kernel
theorem dL_holds_367 : decode cL_holds 367 = .ok (.iconst 1, 1) := by decide +kernel
theorem dL_holds_368 : decode cL_holds 368 = .ok (.goto 4, 3) := by decide +kernel
theorem dL_holds_371 : decode cL_holds 371 = .ok (.iconst 0, 1) := by decide +kernel
theorem dL_holds_372 : decode cL_holds 372 = .ok (.istore 7, 2) := by decide +kernel
theorem dL_holds_374 : decode cL_holds 374 = .ok (.goto 39, 3) := by decide +kernel
theorem dL_holds_377 : decode cL_holds 377 = .ok (.iload 9, 2) := by decide +kernel
theorem dL_holds_379 : decode cL_holds 379 = .ok (.ldc 25, 2) := by decide +kernel
theorem dL_holds_381 : decode cL_holds 381 = .ok (.if_icmp .ne 29, 3) := by decide +kernel
theorem dL_holds_384 : decode cL_holds 384 = .ok (.aload_n 0, 1) := by decide +kernel
theorem dL_holds_385 : decode cL_holds 385 = .ok (.iload 8, 2) := by decide +kernel
theorem dL_holds_387 : decode cL_holds 387 = .ok (.invokestatic 101, 3) := by decide +kernel
theorem dL_holds_390 : decode cL_holds 390 = .ok (.ldc 25, 2) := by decide +kernel
theorem dL_holds_392 : decode cL_holds 392 = .ok (.if_icmp .ne 18, 3) := by decide +kernel
theorem dL_holds_395 : decode cL_holds 395 = .ok (.aload_n 0, 1) := by decide +kernel
theorem dL_holds_396 : decode cL_holds 396 = .ok (.iload 8, 2) := by decide +kernel
theorem dL_holds_398 : decode cL_holds 398 = .ok (.invokestatic 110, 3) := by decide +kernel
theorem dL_holds_401 : decode cL_holds 401 = .ok (.ldc 25, 2) := by decide +kernel
theorem dL_holds_403 : decode cL_holds 403 = .ok (.if_icmp .ne 7, 3) := by decide +kernel
theorem dL_holds_406 : decode cL_holds 406 = .ok (.iconst 1, 1) := by decide +kernel
theorem dL_holds_407 : decode cL_holds 407 = .ok (.goto 4, 3) := by decide +kernel
theorem dL_holds_410 : decode cL_holds 410 = .ok (.iconst 0, 1) := by decide +kernel
theorem dL_holds_411 : decode cL_holds 411 = .ok (.istore 7, 2) := by decide +kernel
theorem dL_holds_413 : decode cL_holds 413 = .ok (.iinc 8 1, 3) := by decide +kernel
theorem dL_holds_416 : decode cL_holds 416 = .ok (.goto (-305), 3) := by decide +kernel
theorem dL_holds_419 : decode cL_holds 419 = .ok (.iload 7, 2) := by decide +kernel
theorem dL_holds_421 : decode cL_holds 421 = .ok (.ifCond .eq 86, 3) := by decide +kernel
theorem dL_holds_424 : decode cL_holds 424 = .ok (.iload_n 3, 1) := by decide +kernel
theorem dL_holds_425 : decode cL_holds 425 = .ok (.aload_n 0, 1) := by decide +kernel
theorem dL_holds_426 : decode cL_holds 426 = .ok (.invokevirtual 112, 3) := by decide +kernel
theorem dL_holds_429 : decode cL_holds 429 = .ok (.if_icmp .ne 78, 3) := by decide +kernel
theorem dL_holds_432 : decode cL_holds 432 = .ok (.iload 4, 2) := by decide +kernel
theorem dL_holds_434 : decode cL_holds 434 = .ok (.iconst 1, 1) := by decide +kernel
theorem dL_holds_435 : decode cL_holds 435 = .ok (.iload_n 3, 1) := by decide +kernel
theorem dL_holds_436 : decode cL_holds 436 = .ok (.ishl, 1) := by decide +kernel
theorem dL_holds_437 : decode cL_holds 437 = .ok (.iconst 1, 1) := by decide +kernel
theorem dL_holds_438 : decode cL_holds 438 = .ok (.isub, 1) := by decide +kernel
theorem dL_holds_439 : decode cL_holds 439 = .ok (.if_icmp .ne 68, 3) := by decide +kernel
theorem dL_holds_442 : decode cL_holds 442 = .ok (.iload_n 2, 1) := by decide +kernel
theorem dL_holds_443 : decode cL_holds 443 = .ok (.aload_n 0, 1) := by decide +kernel
theorem dL_holds_444 : decode cL_holds 444 = .ok (.invokevirtual 122, 3) := by decide +kernel
theorem dL_holds_447 : decode cL_holds 447 = .ok (.iadd, 1) := by decide +kernel
theorem dL_holds_448 : decode cL_holds 448 = .ok (.bipush 24, 2) := by decide +kernel
theorem dL_holds_450 : decode cL_holds 450 = .ok (.if_icmp .ne 57, 3) := by decide +kernel
theorem dL_holds_453 : decode cL_holds 453 = .ok (.aload_n 0, 1) := by decide +kernel
theorem dL_holds_454 : decode cL_holds 454 = .ok (.invokevirtual 122, 3) := by decide +kernel
theorem dL_holds_457 : decode cL_holds 457 = .ok (.ifCond .lt 50, 3) := by decide +kernel
theorem dL_holds_460 : decode cL_holds 460 = .ok (.iload_n 3, 1) := by decide +kernel
theorem dL_holds_461 : decode cL_holds 461 = .ok (.ifCond .eq 26, 3) := by decide +kernel
theorem dL_holds_464 : decode cL_holds 464 = .ok (.iload 6, 2) := by decide +kernel
theorem dL_holds_466 : decode cL_holds 466 = .ok (.ifCond .le 7, 3) := by decide +kernel
theorem dL_holds_469 : decode cL_holds 469 = .ok (.iconst 1, 1) := by decide +kernel
theorem dL_holds_470 : decode cL_holds 470 = .ok (.goto 4, 3) := by decide +kernel
theorem dL_holds_473 : decode cL_holds 473 = .ok (.iconst 0, 1) := by decide +kernel
theorem dL_holds_474 : decode cL_holds 474 = .ok (.iload 5, 2) := by decide +kernel
theorem dL_holds_476 : decode cL_holds 476 = .ok (.ifCond .le 7, 3) := by decide +kernel
theorem dL_holds_479 : decode cL_holds 479 = .ok (.iconst 1, 1) := by decide +kernel
theorem dL_holds_480 : decode cL_holds 480 = .ok (.goto 4, 3) := by decide +kernel
theorem dL_holds_483 : decode cL_holds 483 = .ok (.iconst 0, 1) := by decide +kernel
theorem dL_holds_484 : decode cL_holds 484 = .ok (.if_icmp .ne 23, 3) := by decide +kernel
theorem dL_holds_487 : decode cL_holds 487 = .ok (.aload_n 0, 1) := by decide +kernel
theorem dL_holds_488 : decode cL_holds 488 = .ok (.invokevirtual 125, 3) := by decide +kernel
theorem dL_holds_491 : decode cL_holds 491 = .ok (.ifCond .lt 16, 3) := by decide +kernel
theorem dL_holds_494 : decode cL_holds 494 = .ok (.aload_n 0, 1) := by decide +kernel
theorem dL_holds_495 : decode cL_holds 495 = .ok (.invokevirtual 125, 3) := by decide +kernel
theorem dL_holds_498 : decode cL_holds 498 = .ok (.bipush 48, 2) := by decide +kernel
theorem dL_holds_500 : decode cL_holds 500 = .ok (.if_icmp .gt 7, 3) := by decide +kernel
theorem dL_holds_503 : decode cL_holds 503 = .ok (.iconst 1, 1) := by decide +kernel
theorem dL_holds_504 : decode cL_holds 504 = .ok (.goto 4, 3) := by decide +kernel
theorem dL_holds_507 : decode cL_holds 507 = .ok (.iconst 0, 1) := by decide +kernel
theorem dL_holds_508 : decode cL_holds 508 = .ok (.ireturn, 1) := by decide +kernel
