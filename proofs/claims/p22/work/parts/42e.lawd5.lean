theorem goodIn_cons {big b : List Cond} {c : Cond} (ha : GoodIn big [c]) (hb : GoodIn big b) : GoodIn big (c :: b) := fun w h => (List.mem_cons.mp h).elim (fun e => ha w (List.mem_cons.mpr (Or.inl e))) (hb w)
set_option maxRecDepth 20000 in
theorem ggL_law_X3_init : GoodIn wsL_law wsX3_init := goodIn_r _ [6, 7, 8, 9, 10, 11, 12, 13, 14, 15, 16, 3, 17, 18, 19, 20, 21, 22, 23, 24, 25, 26, 27, 28, 384, 385, 376, 377, 378, 379, 380, 381, 382, 383] (by decide +kernel) (by decide +kernel)
set_option maxRecDepth 20000 in
theorem gL_law_X3_init : GoodIn wsL_law (wsX3_init) := ggL_law_X3_init
set_option maxRecDepth 20000 in
theorem ggL_law_L_drawn : GoodIn wsL_law wsL_drawn := goodIn_r _ [32, 33, 34] (by decide +kernel) (by decide +kernel)
set_option maxRecDepth 20000 in
theorem gL_law_L_drawn : GoodIn wsL_law (va_wsS RL 133 yL_drawn wsL_drawn) := goodIn_app (goodIn_of _ (by decide +kernel)) ggL_law_L_drawn
set_option maxRecDepth 20000 in
theorem ggc_act : GoodIn wsL_law [Cond.code yL_act cL_act 10 (some .int)] := goodIn_r _ [37] (by decide +kernel) (by decide +kernel)
set_option maxRecDepth 20000 in
theorem gg_wsL_act_r1 : GoodIn wsL_law wsL_act_r1 := goodIn_r _ [38, 39, 31, 40, 41, 42, 43, 44, 45, 46, 47, 2, 48, 49, 50, 51, 52, 14, 19, 15, 53, 54, 55, 56] (by decide +kernel) (by decide +kernel)
set_option maxRecDepth 20000 in
theorem gg_wsL_act_r2 : GoodIn wsL_law wsL_act_r2 := goodIn_r _ [57, 21, 13, 58, 59, 60, 61, 62, 63, 64, 65, 66, 67, 12, 68, 28, 69, 70, 71, 72, 8, 9, 73, 74] (by decide +kernel) (by decide +kernel)
set_option maxRecDepth 20000 in
theorem gg_wsL_act_r3 : GoodIn wsL_law wsL_act_r3 := goodIn_r _ [75, 76, 77, 78, 79, 80, 81, 82, 83, 84, 85, 86, 87, 88, 89, 90, 91, 92, 93, 94, 95, 96, 97, 98] (by decide +kernel) (by decide +kernel)
set_option maxRecDepth 20000 in
theorem gg_wsL_act_r4 : GoodIn wsL_law wsL_act_r4 := goodIn_r _ [99, 100, 101, 102, 103, 27, 104, 105, 106, 107, 108, 16, 109, 110, 111, 112, 113, 114, 115, 116, 117, 118, 119, 120] (by decide +kernel) (by decide +kernel)
set_option maxRecDepth 20000 in
theorem gg_wsL_act_r5 : GoodIn wsL_law wsL_act_r5 := goodIn_r _ [121, 122, 123, 124, 125, 20, 126, 127, 128, 129, 130, 131, 132, 133, 134, 135, 136, 137, 138, 139, 140, 141, 142, 143] (by decide +kernel) (by decide +kernel)
set_option maxRecDepth 20000 in
theorem gg_wsL_act_r6 : GoodIn wsL_law wsL_act_r6 := goodIn_r _ [144, 145, 146, 147, 148, 149, 150, 151, 152, 153, 154, 155, 156, 157, 158, 159, 160, 161, 162, 163, 164, 165, 166, 167] (by decide +kernel) (by decide +kernel)
set_option maxRecDepth 20000 in
theorem gg_wsL_act_r7 : GoodIn wsL_law wsL_act_r7 := goodIn_r _ [168, 169, 170, 171, 172, 173, 174, 175, 176, 177, 178, 179, 180, 181, 182, 183, 184, 185, 186, 187, 188, 189, 190, 191] (by decide +kernel) (by decide +kernel)
set_option maxRecDepth 20000 in
theorem gg_wsL_act_r8 : GoodIn wsL_law wsL_act_r8 := goodIn_r _ [192, 193, 194, 195, 196, 197, 198, 199, 200, 201, 202, 203, 204, 205, 206, 207, 208, 209, 210, 211, 212, 213, 214, 215] (by decide +kernel) (by decide +kernel)
set_option maxRecDepth 20000 in
theorem gg_wsL_act_r9 : GoodIn wsL_law wsL_act_r9 := goodIn_r _ [216, 217, 218, 219, 220, 221, 222, 223, 224, 225, 226, 227, 228, 229, 230, 231, 232, 233, 234, 235, 236, 237, 238, 239] (by decide +kernel) (by decide +kernel)
set_option maxRecDepth 20000 in
theorem gg_wsL_act_r10 : GoodIn wsL_law wsL_act_r10 := goodIn_r _ [240, 241, 17, 18, 242, 243, 244, 245, 246, 247, 248, 249, 250, 251, 252, 253, 254, 255, 256, 257, 258, 259, 260, 261] (by decide +kernel) (by decide +kernel)
set_option maxRecDepth 20000 in
theorem gg_wsL_act_r11 : GoodIn wsL_law wsL_act_r11 := goodIn_r _ [262, 263, 264, 265, 266, 267, 268, 269, 270, 271, 272, 273, 274, 275, 276, 277, 278, 279, 280, 281, 282, 283, 284, 285] (by decide +kernel) (by decide +kernel)
set_option maxRecDepth 20000 in
theorem gg_wsL_act_r12 : GoodIn wsL_law wsL_act_r12 := goodIn_r _ [286, 287, 288, 289, 290] (by decide +kernel) (by decide +kernel)
set_option maxRecDepth 20000 in
theorem ggL_law_L_act : GoodIn wsL_law wsL_act := goodIn_ca (goodIn_ca (goodIn_ca (goodIn_cons ggc_act (goodIn_app (goodIn_app (goodIn_app (goodIn_app (goodIn_app gg_wsL_act_r1 (goodIn_app gg_wsL_act_r2 (goodIn_app gg_wsL_act_r3 (goodIn_app gg_wsL_act_r4 (goodIn_app gg_wsL_act_r5 (goodIn_app gg_wsL_act_r6 (goodIn_app gg_wsL_act_r7 (goodIn_app gg_wsL_act_r8 (goodIn_app gg_wsL_act_r9 (goodIn_app gg_wsL_act_r10 (goodIn_app gg_wsL_act_r11 gg_wsL_act_r12))))))))))) (goodIn_sub inlX3 (by decide +kernel))) (goodIn_sub inlX1 (by decide +kernel))) (goodIn_sub inlX0 (by decide +kernel))) (goodIn_sub inlX2 (by decide +kernel)))) (goodIn_sub (fun _ h => List.mem_append_left _ (List.mem_append_left _ (List.mem_append_right _ h))) (by decide +kernel))) (goodIn_sub (fun _ h => List.mem_append_left _ (List.mem_append_right _ h)) (by decide +kernel))) (goodIn_sub (fun _ h => List.mem_append_right _ h) (by decide +kernel))
set_option maxRecDepth 20000 in
theorem gL_law_L_act : GoodIn wsL_law (va_wsS RL 137 yL_act wsL_act) := goodIn_app (goodIn_of _ (by decide +kernel)) ggL_law_L_act
set_option maxRecDepth 20000 in
theorem ggc_refuses : GoodIn wsL_law [Cond.code yL_refuses cL_refuses 9 (some .boolean)] := goodIn_r _ [293] (by decide +kernel) (by decide +kernel)
set_option maxRecDepth 20000 in
theorem gg_wsL_refuses_r1 : GoodIn wsL_law wsL_refuses_r1 := goodIn_r _ [43, 168, 44, 38, 39, 31, 40, 41, 42, 45, 46, 47, 2, 48, 49, 50, 51, 52, 14, 19, 15, 53, 54, 55] (by decide +kernel) (by decide +kernel)
set_option maxRecDepth 20000 in
theorem gg_wsL_refuses_r2 : GoodIn wsL_law wsL_refuses_r2 := goodIn_r _ [56, 57, 21, 13, 58, 59, 60, 61, 62, 63, 64, 65, 66, 67, 12, 68, 28, 69, 70, 71, 72, 8, 9, 73] (by decide +kernel) (by decide +kernel)
set_option maxRecDepth 20000 in
theorem gg_wsL_refuses_r3 : GoodIn wsL_law wsL_refuses_r3 := goodIn_r _ [74, 75, 76, 77, 78, 79, 80, 81, 82, 83, 84, 85, 86, 87, 88, 89, 90, 91, 92, 93, 94, 95, 96, 97] (by decide +kernel) (by decide +kernel)
set_option maxRecDepth 20000 in
theorem gg_wsL_refuses_r4 : GoodIn wsL_law wsL_refuses_r4 := goodIn_r _ [98, 99, 100, 101, 102, 103, 27, 104, 105, 106, 107, 108, 16, 109, 110, 111, 112, 113, 114, 115, 116, 117, 118, 119] (by decide +kernel) (by decide +kernel)
set_option maxRecDepth 20000 in
theorem gg_wsL_refuses_r5 : GoodIn wsL_law wsL_refuses_r5 := goodIn_r _ [120, 121, 122, 123, 124, 125, 20, 126, 127, 128, 129, 130, 131, 132, 133, 134, 135, 136, 137, 138, 139, 140, 141, 142] (by decide +kernel) (by decide +kernel)
set_option maxRecDepth 20000 in
theorem gg_wsL_refuses_r6 : GoodIn wsL_law wsL_refuses_r6 := goodIn_r _ [143, 144, 145, 146, 147, 148, 149, 150, 151, 152, 153, 154, 155, 156, 157, 158, 159, 164, 165, 166, 167, 169, 170, 171] (by decide +kernel) (by decide +kernel)
set_option maxRecDepth 20000 in
theorem gg_wsL_refuses_r7 : GoodIn wsL_law wsL_refuses_r7 := goodIn_r _ [172, 173, 174, 175, 176, 177, 178, 179, 180, 181, 182, 183, 184, 185, 186, 187, 188, 189, 190, 191, 192, 193, 194, 195] (by decide +kernel) (by decide +kernel)
set_option maxRecDepth 20000 in
theorem gg_wsL_refuses_r8 : GoodIn wsL_law wsL_refuses_r8 := goodIn_r _ [196, 197, 198, 199, 200, 201, 202, 203, 204, 205, 206, 207, 208, 209, 210, 250, 251, 252, 253, 254, 255, 256, 257, 258] (by decide +kernel) (by decide +kernel)
set_option maxRecDepth 20000 in
theorem gg_wsL_refuses_r9 : GoodIn wsL_law wsL_refuses_r9 := goodIn_r _ [259, 260, 261, 218, 262, 263, 245, 264, 265, 266, 267, 268, 269, 270, 271, 227, 228, 229, 230, 272, 273, 274, 275, 276] (by decide +kernel) (by decide +kernel)
set_option maxRecDepth 20000 in
theorem gg_wsL_refuses_r10 : GoodIn wsL_law wsL_refuses_r10 := goodIn_r _ [277, 278, 279, 280, 281, 282, 283, 284, 285, 286, 287, 288, 289, 290, 211, 212, 213, 214, 215, 216, 217, 219, 220, 221] (by decide +kernel) (by decide +kernel)
set_option maxRecDepth 20000 in
theorem gg_wsL_refuses_r11 : GoodIn wsL_law wsL_refuses_r11 := goodIn_r _ [222, 223, 224, 225, 226, 231, 232, 233, 294, 295, 296, 297, 298, 299, 300, 301, 302, 303, 304, 305, 306, 307, 308, 309] (by decide +kernel) (by decide +kernel)
set_option maxRecDepth 20000 in
theorem gg_wsL_refuses_r12 : GoodIn wsL_law wsL_refuses_r12 := goodIn_r _ [310, 311, 312, 313, 314, 315, 316, 317, 318, 319, 320, 321, 322, 323, 324, 325, 326, 327, 328, 329, 330, 331, 332, 333] (by decide +kernel) (by decide +kernel)
set_option maxRecDepth 20000 in
theorem gg_wsL_refuses_r13 : GoodIn wsL_law wsL_refuses_r13 := goodIn_r _ [334, 335, 336, 337, 338, 339, 340, 341, 342, 343, 344, 345, 346, 347, 348, 349, 350, 351, 160, 161, 162, 163] (by decide +kernel) (by decide +kernel)
set_option maxRecDepth 20000 in
theorem ggL_law_L_refuses : GoodIn wsL_law wsL_refuses := goodIn_ca (goodIn_ca (goodIn_ca (goodIn_cons ggc_refuses (goodIn_app (goodIn_app (goodIn_app (goodIn_app (goodIn_app gg_wsL_refuses_r1 (goodIn_app gg_wsL_refuses_r2 (goodIn_app gg_wsL_refuses_r3 (goodIn_app gg_wsL_refuses_r4 (goodIn_app gg_wsL_refuses_r5 (goodIn_app gg_wsL_refuses_r6 (goodIn_app gg_wsL_refuses_r7 (goodIn_app gg_wsL_refuses_r8 (goodIn_app gg_wsL_refuses_r9 (goodIn_app gg_wsL_refuses_r10 (goodIn_app gg_wsL_refuses_r11 (goodIn_app gg_wsL_refuses_r12 gg_wsL_refuses_r13)))))))))))) (goodIn_sub inlX3 (by decide +kernel))) (goodIn_sub inlX1 (by decide +kernel))) (goodIn_sub inlX0 (by decide +kernel))) (goodIn_sub inlX2 (by decide +kernel)))) (goodIn_sub (fun _ h => List.mem_append_left _ (List.mem_append_left _ (List.mem_append_right _ h))) (by decide +kernel))) (goodIn_sub (fun _ h => List.mem_append_left _ (List.mem_append_right _ h)) (by decide +kernel))) (goodIn_sub (fun _ h => List.mem_append_right _ h) (by decide +kernel))
set_option maxRecDepth 20000 in
theorem gL_law_L_refuses : GoodIn wsL_law (va_wsS RL 141 yL_refuses wsL_refuses) := goodIn_app (goodIn_of _ (by decide +kernel)) ggL_law_L_refuses
set_option maxRecDepth 20000 in
theorem ggc_alike : GoodIn wsL_law [Cond.code yL_alike cL_alike 6 (some .boolean)] := goodIn_r _ [354] (by decide +kernel) (by decide +kernel)
set_option maxRecDepth 20000 in
theorem gg_wsL_alike_r1 : GoodIn wsL_law wsL_alike_r1 := goodIn_r _ [355, 356, 357, 2, 358, 21, 160, 161, 162, 163, 14, 65, 66, 67, 12, 68, 28, 359, 360, 361, 362, 20, 363, 364] (by decide +kernel) (by decide +kernel)
set_option maxRecDepth 20000 in
theorem gg_wsL_alike_r2 : GoodIn wsL_law wsL_alike_r2 := goodIn_r _ [365, 366, 238, 239, 240, 241, 16, 17, 18, 231, 232, 233, 58, 242, 243, 244, 245, 294, 295, 31, 296, 167, 168, 297] (by decide +kernel) (by decide +kernel)
set_option maxRecDepth 20000 in
theorem gg_wsL_alike_r3 : GoodIn wsL_law wsL_alike_r3 := goodIn_r _ [298, 299, 300, 219, 220, 221, 222, 177, 178, 59, 60, 61, 301, 302, 303, 304, 305, 306, 307, 173, 174, 175, 176, 13] (by decide +kernel) (by decide +kernel)
set_option maxRecDepth 20000 in
theorem gg_wsL_alike_r4 : GoodIn wsL_law wsL_alike_r4 := goodIn_r _ [179, 152, 153, 154, 27, 155, 109, 110, 111, 112, 308, 309, 310, 311, 312, 313, 314, 108, 315, 316, 317, 318, 319, 320] (by decide +kernel) (by decide +kernel)
set_option maxRecDepth 20000 in
theorem gg_wsL_alike_r5 : GoodIn wsL_law wsL_alike_r5 := goodIn_r _ [321, 180, 181, 182, 54, 183, 94, 184, 128, 129, 130, 89, 90, 322, 323, 324, 325, 326, 327, 328, 329, 330, 331, 332] (by decide +kernel) (by decide +kernel)
set_option maxRecDepth 20000 in
theorem gg_wsL_alike_r6 : GoodIn wsL_law wsL_alike_r6 := goodIn_r _ [333, 334, 335, 218, 336, 337, 338, 339, 340, 341, 342, 343, 344, 345, 346, 347, 348, 349, 350, 351, 277, 278] (by decide +kernel) (by decide +kernel)
set_option maxRecDepth 20000 in
theorem ggL_law_L_alike : GoodIn wsL_law wsL_alike := goodIn_ca (goodIn_cons ggc_alike (goodIn_app (goodIn_app (goodIn_app (goodIn_app (goodIn_app gg_wsL_alike_r1 (goodIn_app gg_wsL_alike_r2 (goodIn_app gg_wsL_alike_r3 (goodIn_app gg_wsL_alike_r4 (goodIn_app gg_wsL_alike_r5 gg_wsL_alike_r6))))) (goodIn_sub inlX3 (by decide +kernel))) (goodIn_sub inlX2 (by decide +kernel))) (goodIn_sub inlX1 (by decide +kernel))) (goodIn_sub inlX0 (by decide +kernel)))) (goodIn_sub (fun _ h => List.mem_append_right _ h) (by decide +kernel))
set_option maxRecDepth 20000 in
theorem gL_law_L_alike : GoodIn wsL_law (va_wsS RL 145 yL_alike wsL_alike) := goodIn_app (goodIn_of _ (by decide +kernel)) ggL_law_L_alike
set_option maxRecDepth 20000 in
theorem ggc_holds : GoodIn wsL_law [Cond.code yL_holds cL_holds 13 (some .boolean)] := goodIn_r _ [369] (by decide +kernel) (by decide +kernel)
set_option maxRecDepth 20000 in
theorem gg_wsL_holds_r1 : GoodIn wsL_law wsL_holds_r1 := goodIn_r _ [168, 294, 295, 31, 296, 167, 297, 298, 299, 2, 300, 219, 220, 221, 222, 177, 178, 16, 59, 60, 61, 231, 232, 233] (by decide +kernel) (by decide +kernel)
set_option maxRecDepth 20000 in
theorem gg_wsL_holds_r2 : GoodIn wsL_law wsL_holds_r2 := goodIn_r _ [58, 308, 309, 310, 311, 312, 313, 314, 108, 173, 174, 175, 176, 13, 179, 152, 153, 12, 154, 27, 155, 109, 110, 111] (by decide +kernel) (by decide +kernel)
set_option maxRecDepth 20000 in
theorem gg_wsL_holds_r3 : GoodIn wsL_law wsL_holds_r3 := goodIn_r _ [112, 301, 302, 303, 304, 305, 306, 307, 14, 315, 316, 317, 318, 319, 320, 321, 180, 181, 182, 54, 183, 94, 184, 128] (by decide +kernel) (by decide +kernel)
set_option maxRecDepth 20000 in
theorem gg_wsL_holds_r4 : GoodIn wsL_law wsL_holds_r4 := goodIn_r _ [129, 130, 89, 90, 329, 330, 331, 332, 333, 334, 335, 218, 336, 345, 346, 347, 348, 349, 350, 351, 277, 278, 322, 323] (by decide +kernel) (by decide +kernel)
set_option maxRecDepth 20000 in
theorem gg_wsL_holds_r5 : GoodIn wsL_law wsL_holds_r5 := goodIn_r _ [324, 325, 326, 327, 328, 245, 337, 338, 339, 340, 341, 342, 343, 344, 355, 356, 357, 358, 21, 160, 161, 162, 163, 65] (by decide +kernel) (by decide +kernel)
set_option maxRecDepth 20000 in
theorem gg_wsL_holds_r6 : GoodIn wsL_law wsL_holds_r6 := goodIn_r _ [66, 67, 68, 28, 359, 360, 361, 362, 20, 363, 364, 365, 366, 238, 239, 240, 241, 17, 18, 242, 243, 244] (by decide +kernel) (by decide +kernel)
set_option maxRecDepth 20000 in
theorem ggL_law_L_holds : GoodIn wsL_law wsL_holds := goodIn_ca (goodIn_cons ggc_holds (goodIn_app (goodIn_app (goodIn_app (goodIn_app (goodIn_app gg_wsL_holds_r1 (goodIn_app gg_wsL_holds_r2 (goodIn_app gg_wsL_holds_r3 (goodIn_app gg_wsL_holds_r4 (goodIn_app gg_wsL_holds_r5 gg_wsL_holds_r6))))) (goodIn_sub inlX3 (by decide +kernel))) (goodIn_sub inlX1 (by decide +kernel))) (goodIn_sub inlX2 (by decide +kernel))) (goodIn_sub inlX0 (by decide +kernel)))) (goodIn_sub (fun _ h => List.mem_append_right _ h) (by decide +kernel))
set_option maxRecDepth 20000 in
theorem gL_law_L_holds : GoodIn wsL_law (va_wsS RL 128 yL_holds wsL_holds) := goodIn_app (goodIn_of _ (by decide +kernel)) ggL_law_L_holds
set_option maxRecDepth 20000 in
theorem ggc_shows : GoodIn wsL_law [Cond.code yL_shows cL_shows 10 (some .boolean)] := goodIn_r _ [372] (by decide +kernel) (by decide +kernel)
set_option maxRecDepth 20000 in
theorem gg_wsL_shows_r1 : GoodIn wsL_law wsL_shows_r1 := goodIn_r _ [363, 364, 365, 2, 366, 238, 239, 240, 241, 16, 17, 18, 231, 232, 233, 58, 242, 243, 244, 245, 234, 235, 236, 237] (by decide +kernel) (by decide +kernel)
set_option maxRecDepth 20000 in
theorem gg_wsL_shows_r2 : GoodIn wsL_law wsL_shows_r2 := goodIn_r _ [246, 247, 248, 249, 294, 295, 31, 296, 167, 168, 297, 298, 299, 300, 219, 220, 221, 222, 177, 178, 59, 60, 61, 345] (by decide +kernel) (by decide +kernel)
set_option maxRecDepth 20000 in
theorem gg_wsL_shows_r3 : GoodIn wsL_law wsL_shows_r3 := goodIn_r _ [346, 347, 348, 349, 350, 351, 218, 277, 278, 173, 174, 175, 176, 13, 179, 152, 153, 12, 154, 27, 155, 109, 110, 111] (by decide +kernel) (by decide +kernel)
set_option maxRecDepth 20000 in
theorem gg_wsL_shows_r4 : GoodIn wsL_law wsL_shows_r4 := goodIn_r _ [112, 211, 212, 213, 214, 215, 216, 217, 126, 21, 223, 224, 225, 57, 226, 73, 79, 81, 227, 228, 229, 230, 80, 315] (by decide +kernel) (by decide +kernel)
set_option maxRecDepth 20000 in
theorem gg_wsL_shows_r5 : GoodIn wsL_law wsL_shows_r5 := goodIn_r _ [316, 317, 318, 319, 320, 321, 180, 181, 182, 54, 183, 94, 184, 128, 129, 130, 89, 90, 355, 356, 357, 358, 301, 302] (by decide +kernel) (by decide +kernel)
set_option maxRecDepth 20000 in
theorem gg_wsL_shows_r6 : GoodIn wsL_law wsL_shows_r6 := goodIn_r _ [303, 304, 305, 306, 307, 14, 160, 161, 162, 163, 65, 66, 67, 68, 28, 200, 201, 202, 203, 204, 205, 206, 147, 148] (by decide +kernel) (by decide +kernel)
set_option maxRecDepth 20000 in
theorem gg_wsL_shows_r7 : GoodIn wsL_law wsL_shows_r7 := goodIn_r _ [149, 150, 151, 100, 101, 102, 103, 207, 208, 209, 210, 185, 186, 187, 188, 104, 105, 106, 107, 108, 113, 114, 115, 116] (by decide +kernel) (by decide +kernel)
set_option maxRecDepth 20000 in
theorem gg_wsL_shows_r8 : GoodIn wsL_law wsL_shows_r8 := goodIn_r _ [117, 118, 119, 120, 121, 87, 88, 91, 156, 157, 158, 159, 122, 123, 124, 125, 20, 127, 131, 132, 133, 134, 135, 136] (by decide +kernel) (by decide +kernel)
set_option maxRecDepth 20000 in
theorem gg_wsL_shows_r9 : GoodIn wsL_law wsL_shows_r9 := goodIn_r _ [137, 138, 139, 140, 141, 142, 95, 92, 143, 144, 145, 146, 78] (by decide +kernel) (by decide +kernel)
set_option maxRecDepth 20000 in
theorem ggL_law_L_shows : GoodIn wsL_law wsL_shows := goodIn_ca (goodIn_cons ggc_shows (goodIn_app (goodIn_app (goodIn_app (goodIn_app (goodIn_app gg_wsL_shows_r1 (goodIn_app gg_wsL_shows_r2 (goodIn_app gg_wsL_shows_r3 (goodIn_app gg_wsL_shows_r4 (goodIn_app gg_wsL_shows_r5 (goodIn_app gg_wsL_shows_r6 (goodIn_app gg_wsL_shows_r7 (goodIn_app gg_wsL_shows_r8 gg_wsL_shows_r9)))))))) (goodIn_sub inlX3 (by decide +kernel))) (goodIn_sub inlX1 (by decide +kernel))) (goodIn_sub inlX0 (by decide +kernel))) (goodIn_sub inlX2 (by decide +kernel)))) (goodIn_sub (fun _ h => List.mem_append_right _ h) (by decide +kernel))
set_option maxRecDepth 20000 in
theorem gL_law_L_shows : GoodIn wsL_law (va_wsS RL 149 yL_shows wsL_shows) := goodIn_app (goodIn_of _ (by decide +kernel)) ggL_law_L_shows
set_option maxRecDepth 20000 in
theorem ggc_ends : GoodIn wsL_law [Cond.code yL_ends cL_ends 5 (some .boolean)] := goodIn_r _ [375] (by decide +kernel) (by decide +kernel)
set_option maxRecDepth 20000 in
theorem gg_wsL_ends_r1 : GoodIn wsL_law wsL_ends_r1 := goodIn_r _ [160, 161, 162, 2, 163, 14, 65, 66, 67, 12, 68, 28, 301, 302, 31, 303, 167, 168, 304, 305, 306, 307, 58, 173] (by decide +kernel) (by decide +kernel)
set_option maxRecDepth 20000 in
theorem gg_wsL_ends_r2 : GoodIn wsL_law wsL_ends_r2 := goodIn_r _ [174, 175, 176, 177, 178, 13, 179, 152, 153, 154, 27, 155, 109, 110, 111, 112, 164, 165, 166, 169, 170, 171, 172, 20] (by decide +kernel) (by decide +kernel)
set_option maxRecDepth 20000 in
theorem gg_wsL_ends_r3 : GoodIn wsL_law wsL_ends_r3 := goodIn_r _ [147, 148, 149, 150, 151, 180, 181, 182, 54, 183, 94, 184, 128, 129, 130, 89, 90, 185, 186, 187, 188, 104, 105, 106] (by decide +kernel) (by decide +kernel)
set_option maxRecDepth 20000 in
theorem gg_wsL_ends_r4 : GoodIn wsL_law wsL_ends_r4 := goodIn_r _ [107, 108, 16, 113, 114, 115, 116, 117, 118, 119, 120, 121, 87, 88, 91, 156, 157, 158, 159, 126, 122, 123, 124, 125] (by decide +kernel) (by decide +kernel)
set_option maxRecDepth 20000 in
theorem gg_wsL_ends_r5 : GoodIn wsL_law wsL_ends_r5 := goodIn_r _ [127, 131, 132, 133, 134, 135, 136, 137, 138, 21, 139, 140, 141, 142, 95, 92, 143, 144, 145, 57, 146, 79, 78, 367] (by decide +kernel) (by decide +kernel)
set_option maxRecDepth 20000 in
theorem gg_wsL_ends_r6 : GoodIn wsL_law wsL_ends_r6 := goodIn_r _ [368, 369, 294, 295, 296, 297, 298, 299, 300, 219, 220, 221, 222, 59, 60, 61, 231, 232, 233, 308, 309, 310, 311, 312] (by decide +kernel) (by decide +kernel)
set_option maxRecDepth 20000 in
theorem gg_wsL_ends_r7 : GoodIn wsL_law wsL_ends_r7 := goodIn_r _ [313, 314, 315, 316, 317, 318, 319, 320, 321, 329, 330, 331, 332, 333, 334, 335, 218, 336, 345, 346, 347, 348, 349, 350] (by decide +kernel) (by decide +kernel)
set_option maxRecDepth 20000 in
theorem gg_wsL_ends_r8 : GoodIn wsL_law wsL_ends_r8 := goodIn_r _ [351, 277, 278, 322, 323, 324, 325, 326, 327, 328, 245, 337, 338, 339, 340, 341, 342, 343, 344, 355, 356, 357, 358, 359] (by decide +kernel) (by decide +kernel)
set_option maxRecDepth 20000 in
theorem gg_wsL_ends_r9 : GoodIn wsL_law wsL_ends_r9 := goodIn_r _ [360, 361, 362, 363, 364, 365, 366, 238, 239, 240, 241, 17, 18, 242, 243, 244] (by decide +kernel) (by decide +kernel)
set_option maxRecDepth 20000 in
theorem ggL_law_L_ends : GoodIn wsL_law wsL_ends := goodIn_ca (goodIn_cons ggc_ends (goodIn_app (goodIn_app (goodIn_app (goodIn_app (goodIn_app gg_wsL_ends_r1 (goodIn_app gg_wsL_ends_r2 (goodIn_app gg_wsL_ends_r3 (goodIn_app gg_wsL_ends_r4 (goodIn_app gg_wsL_ends_r5 (goodIn_app gg_wsL_ends_r6 (goodIn_app gg_wsL_ends_r7 (goodIn_app gg_wsL_ends_r8 gg_wsL_ends_r9)))))))) (goodIn_sub inlX3 (by decide +kernel))) (goodIn_sub inlX2 (by decide +kernel))) (goodIn_sub inlX1 (by decide +kernel))) (goodIn_sub inlX0 (by decide +kernel)))) (goodIn_sub (fun _ h => List.mem_append_right _ h) (by decide +kernel))
set_option maxRecDepth 20000 in
theorem gL_law_L_ends : GoodIn wsL_law (va_wsS RL 152 yL_ends wsL_ends) := goodIn_app (goodIn_of _ (by decide +kernel)) ggL_law_L_ends
theorem dL_law_0 : decode cL_law 0 = .ok (.new 8, 3) := by decide +kernel
theorem dL_law_3 : decode cL_law 3 = .ok (.dup, 1) := by decide +kernel
theorem dL_law_4 : decode cL_law 4 = .ok (.invokespecial 132, 3) := by decide +kernel
theorem dL_law_7 : decode cL_law 7 = .ok (.astore_n 1, 1) := by decide +kernel
theorem dL_law_8 : decode cL_law 8 = .ok (.new 8, 3) := by decide +kernel
theorem dL_law_11 : decode cL_law 11 = .ok (.dup, 1) := by decide +kernel
theorem dL_law_12 : decode cL_law 12 = .ok (.invokespecial 132, 3) := by decide +kernel
theorem dL_law_15 : decode cL_law 15 = .ok (.astore_n 2, 1) := by decide +kernel
theorem dL_law_16 : decode cL_law 16 = .ok (.iconst 1, 1) := by decide +kernel
theorem dL_law_17 : decode cL_law 17 = .ok (.newarray .int, 2) := by decide +kernel
theorem dL_law_19 : decode cL_law 19 = .ok (.astore_n 3, 1) := by decide +kernel
theorem dL_law_20 : decode cL_law 20 = .ok (.bipush 16, 2) := by decide +kernel
theorem dL_law_22 : decode cL_law 22 = .ok (.aload_n 0, 1) := by decide +kernel
theorem dL_law_23 : decode cL_law 23 = .ok (.iconst 0, 1) := by decide +kernel
theorem dL_law_24 : decode cL_law 24 = .ok (.invokestatic 133, 3) := by decide +kernel
theorem dL_law_27 : decode cL_law 27 = .ok (.bipush 25, 2) := by decide +kernel
theorem dL_law_29 : decode cL_law 29 = .ok (.irem, 1) := by decide +kernel
theorem dL_law_30 : decode cL_law 30 = .ok (.iadd, 1) := by decide +kernel
theorem dL_law_31 : decode cL_law 31 = .ok (.istore 4, 2) := by decide +kernel
theorem dL_law_33 : decode cL_law 33 = .ok (.iconst 1, 1) := by decide +kernel
theorem dL_law_34 : decode cL_law 34 = .ok (.istore 5, 2) := by decide +kernel
theorem dL_law_36 : decode cL_law 36 = .ok (.iconst 0, 1) := by decide +kernel
theorem dL_law_37 : decode cL_law 37 = .ok (.istore 6, 2) := by decide +kernel
theorem dL_law_39 : decode cL_law 39 = .ok (.iload 6, 2) := by decide +kernel
theorem dL_law_41 : decode cL_law 41 = .ok (.iload 4, 2) := by decide +kernel
theorem dL_law_43 : decode cL_law 43 = .ok (.if_icmp .ge 186, 3) := by decide +kernel
theorem dL_law_46 : decode cL_law 46 = .ok (.iload 5, 2) := by decide +kernel
theorem dL_law_48 : decode cL_law 48 = .ok (.ifCond .eq 181, 3) := by decide +kernel
theorem dL_law_51 : decode cL_law 51 = .ok (.aload_n 0, 1) := by decide +kernel
theorem dL_law_52 : decode cL_law 52 = .ok (.iconst 1, 1) := by decide +kernel
theorem dL_law_53 : decode cL_law 53 = .ok (.iload 6, 2) := by decide +kernel
theorem dL_law_55 : decode cL_law 55 = .ok (.iadd, 1) := by decide +kernel
theorem dL_law_56 : decode cL_law 56 = .ok (.invokestatic 133, 3) := by decide +kernel
theorem dL_law_59 : decode cL_law 59 = .ok (.istore 7, 2) := by decide +kernel
theorem dL_law_61 : decode cL_law 61 = .ok (.iload 6, 2) := by decide +kernel
theorem dL_law_63 : decode cL_law 63 = .ok (.iconst 3, 1) := by decide +kernel
theorem dL_law_64 : decode cL_law 64 = .ok (.if_icmp .ge 14, 3) := by decide +kernel
theorem dL_law_67 : decode cL_law 67 = .ok (.iload 7, 2) := by decide +kernel
theorem dL_law_69 : decode cL_law 69 = .ok (.bipush 16, 2) := by decide +kernel
theorem dL_law_71 : decode cL_law 71 = .ok (.idiv, 1) := by decide +kernel
theorem dL_law_72 : decode cL_law 72 = .ok (.bipush 16, 2) := by decide +kernel
theorem dL_law_74 : decode cL_law 74 = .ok (.imul, 1) := by decide +kernel
theorem dL_law_75 : decode cL_law 75 = .ok (.goto 5, 3) := by decide +kernel
theorem dL_law_78 : decode cL_law 78 = .ok (.iload 7, 2) := by decide +kernel
theorem dL_law_80 : decode cL_law 80 = .ok (.istore 7, 2) := by decide +kernel
theorem dL_law_82 : decode cL_law 82 = .ok (.aload_n 1, 1) := by decide +kernel
theorem dL_law_83 : decode cL_law 83 = .ok (.aload_n 3, 1) := by decide +kernel
theorem dL_law_84 : decode cL_law 84 = .ok (.iload 7, 2) := by decide +kernel
theorem dL_law_86 : decode cL_law 86 = .ok (.iconst 0, 1) := by decide +kernel
theorem dL_law_87 : decode cL_law 87 = .ok (.invokestatic 137, 3) := by decide +kernel
theorem dL_law_90 : decode cL_law 90 = .ok (.istore 8, 2) := by decide +kernel
theorem dL_law_92 : decode cL_law 92 = .ok (.aload_n 2, 1) := by decide +kernel
theorem dL_law_93 : decode cL_law 93 = .ok (.aload_n 3, 1) := by decide +kernel
theorem dL_law_94 : decode cL_law 94 = .ok (.iload 7, 2) := by decide +kernel
theorem dL_law_96 : decode cL_law 96 = .ok (.sipush 9973, 3) := by decide +kernel
theorem dL_law_99 : decode cL_law 99 = .ok (.irem, 1) := by decide +kernel
theorem dL_law_100 : decode cL_law 100 = .ok (.invokestatic 141, 3) := by decide +kernel
theorem dL_law_103 : decode cL_law 103 = .ok (.ifCond .eq 20, 3) := by decide +kernel
theorem dL_law_106 : decode cL_law 106 = .ok (.aload_n 2, 1) := by decide +kernel
theorem dL_law_107 : decode cL_law 107 = .ok (.aload_n 3, 1) := by decide +kernel
theorem dL_law_108 : decode cL_law 108 = .ok (.iload 7, 2) := by decide +kernel
theorem dL_law_110 : decode cL_law 110 = .ok (.iconst 1, 1) := by decide +kernel
theorem dL_law_111 : decode cL_law 111 = .ok (.invokestatic 137, 3) := by decide +kernel
theorem dL_law_114 : decode cL_law 114 = .ok (.iload 8, 2) := by decide +kernel
theorem dL_law_116 : decode cL_law 116 = .ok (.if_icmp .ne 7, 3) := by decide +kernel
theorem dL_law_119 : decode cL_law 119 = .ok (.iconst 1, 1) := by decide +kernel
theorem dL_law_120 : decode cL_law 120 = .ok (.goto 4, 3) := by decide +kernel
theorem dL_law_123 : decode cL_law 123 = .ok (.iconst 0, 1) := by decide +kernel
theorem dL_law_124 : decode cL_law 124 = .ok (.istore 5, 2) := by decide +kernel
theorem dL_law_126 : decode cL_law 126 = .ok (.aload_n 3, 1) := by decide +kernel
theorem dL_law_127 : decode cL_law 127 = .ok (.iconst 0, 1) := by decide +kernel
theorem dL_law_128 : decode cL_law 128 = .ok (.dup2, 1) := by decide +kernel
theorem dL_law_129 : decode cL_law 129 = .ok (.iaload, 1) := by decide +kernel
theorem dL_law_130 : decode cL_law 130 = .ok (.iload 7, 2) := by decide +kernel
theorem dL_law_132 : decode cL_law 132 = .ok (.bipush 16, 2) := by decide +kernel
theorem dL_law_134 : decode cL_law 134 = .ok (.irem, 1) := by decide +kernel
theorem dL_law_135 : decode cL_law 135 = .ok (.iconst 4, 1) := by decide +kernel
theorem dL_law_136 : decode cL_law 136 = .ok (.if_icmp .ge 12, 3) := by decide +kernel
theorem dL_law_139 : decode cL_law 139 = .ok (.iload 8, 2) := by decide +kernel
theorem dL_law_141 : decode cL_law 141 = .ok (.ifCond .lt 7, 3) := by decide +kernel
theorem dL_law_144 : decode cL_law 144 = .ok (.iconst 1, 1) := by decide +kernel
theorem dL_law_145 : decode cL_law 145 = .ok (.goto 4, 3) := by decide +kernel
theorem dL_law_148 : decode cL_law 148 = .ok (.iconst 0, 1) := by decide +kernel
theorem dL_law_149 : decode cL_law 149 = .ok (.iadd, 1) := by decide +kernel
theorem dL_law_150 : decode cL_law 150 = .ok (.iastore, 1) := by decide +kernel
theorem dL_law_151 : decode cL_law 151 = .ok (.iload 5, 2) := by decide +kernel
theorem dL_law_153 : decode cL_law 153 = .ok (.ifCond .eq 67, 3) := by decide +kernel
theorem dL_law_156 : decode cL_law 156 = .ok (.iload 6, 2) := by decide +kernel
theorem dL_law_158 : decode cL_law 158 = .ok (.iconst 3, 1) := by decide +kernel
theorem dL_law_159 : decode cL_law 159 = .ok (.irem, 1) := by decide +kernel
theorem dL_law_160 : decode cL_law 160 = .ok (.ifCond .gt 17, 3) := by decide +kernel
theorem dL_law_163 : decode cL_law 163 = .ok (.aload_n 2, 1) := by decide +kernel
theorem dL_law_164 : decode cL_law 164 = .ok (.aload_n 3, 1) := by decide +kernel
theorem dL_law_165 : decode cL_law 165 = .ok (.iload 7, 2) := by decide +kernel
theorem dL_law_167 : decode cL_law 167 = .ok (.sipush 499, 3) := by decide +kernel
theorem dL_law_170 : decode cL_law 170 = .ok (.irem, 1) := by decide +kernel
theorem dL_law_171 : decode cL_law 171 = .ok (.invokestatic 141, 3) := by decide +kernel
theorem dL_law_174 : decode cL_law 174 = .ok (.ifCond .eq 46, 3) := by decide +kernel
theorem dL_law_177 : decode cL_law 177 = .ok (.iload 6, 2) := by decide +kernel
theorem dL_law_179 : decode cL_law 179 = .ok (.iconst 3, 1) := by decide +kernel
theorem dL_law_180 : decode cL_law 180 = .ok (.irem, 1) := by decide +kernel
theorem dL_law_181 : decode cL_law 181 = .ok (.iconst 1, 1) := by decide +kernel
theorem dL_law_182 : decode cL_law 182 = .ok (.if_icmp .gt 16, 3) := by decide +kernel
theorem dL_law_185 : decode cL_law 185 = .ok (.aload_n 1, 1) := by decide +kernel
theorem dL_law_186 : decode cL_law 186 = .ok (.aload_n 2, 1) := by decide +kernel
theorem dL_law_187 : decode cL_law 187 = .ok (.aload_n 3, 1) := by decide +kernel
theorem dL_law_188 : decode cL_law 188 = .ok (.iload 7, 2) := by decide +kernel
theorem dL_law_190 : decode cL_law 190 = .ok (.iconst 3, 1) := by decide +kernel
theorem dL_law_191 : decode cL_law 191 = .ok (.idiv, 1) := by decide +kernel
theorem dL_law_192 : decode cL_law 192 = .ok (.invokestatic 145, 3) := by decide +kernel
theorem dL_law_195 : decode cL_law 195 = .ok (.ifCond .eq 25, 3) := by decide +kernel
theorem dL_law_198 : decode cL_law 198 = .ok (.iload 6, 2) := by decide +kernel
theorem dL_law_200 : decode cL_law 200 = .ok (.bipush 8, 2) := by decide +kernel
theorem dL_law_202 : decode cL_law 202 = .ok (.irem, 1) := by decide +kernel
theorem dL_law_203 : decode cL_law 203 = .ok (.bipush 7, 2) := by decide +kernel
theorem dL_law_205 : decode cL_law 205 = .ok (.if_icmp .lt 11, 3) := by decide +kernel
theorem dL_law_208 : decode cL_law 208 = .ok (.aload_n 2, 1) := by decide +kernel
theorem dL_law_209 : decode cL_law 209 = .ok (.aload_n 3, 1) := by decide +kernel
theorem dL_law_210 : decode cL_law 210 = .ok (.invokestatic 128, 3) := by decide +kernel
theorem dL_law_213 : decode cL_law 213 = .ok (.ifCond .eq 7, 3) := by decide +kernel
theorem dL_law_216 : decode cL_law 216 = .ok (.iconst 1, 1) := by decide +kernel
theorem dL_law_217 : decode cL_law 217 = .ok (.goto 4, 3) := by decide +kernel
theorem dL_law_220 : decode cL_law 220 = .ok (.iconst 0, 1) := by decide +kernel
theorem dL_law_221 : decode cL_law 221 = .ok (.istore 5, 2) := by decide +kernel
theorem dL_law_223 : decode cL_law 223 = .ok (.iinc 6 1, 3) := by decide +kernel
theorem dL_law_226 : decode cL_law 226 = .ok (.goto (-187), 3) := by decide +kernel
theorem dL_law_229 : decode cL_law 229 = .ok (.iload 5, 2) := by decide +kernel
theorem dL_law_231 : decode cL_law 231 = .ok (.ifCond .eq 57, 3) := by decide +kernel
theorem dL_law_234 : decode cL_law 234 = .ok (.aload_n 1, 1) := by decide +kernel
theorem dL_law_235 : decode cL_law 235 = .ok (.aload_n 2, 1) := by decide +kernel
theorem dL_law_236 : decode cL_law 236 = .ok (.aload_n 3, 1) := by decide +kernel
theorem dL_law_237 : decode cL_law 237 = .ok (.iconst 0, 1) := by decide +kernel
theorem dL_law_238 : decode cL_law 238 = .ok (.invokestatic 145, 3) := by decide +kernel
theorem dL_law_241 : decode cL_law 241 = .ok (.ifCond .eq 47, 3) := by decide +kernel
theorem dL_law_244 : decode cL_law 244 = .ok (.aload_n 1, 1) := by decide +kernel
theorem dL_law_245 : decode cL_law 245 = .ok (.aload_n 3, 1) := by decide +kernel
theorem dL_law_246 : decode cL_law 246 = .ok (.invokestatic 128, 3) := by decide +kernel
theorem dL_law_249 : decode cL_law 249 = .ok (.ifCond .eq 39, 3) := by decide +kernel
theorem dL_law_252 : decode cL_law 252 = .ok (.aload_n 1, 1) := by decide +kernel
theorem dL_law_253 : decode cL_law 253 = .ok (.aload_n 3, 1) := by decide +kernel
theorem dL_law_254 : decode cL_law 254 = .ok (.aload_n 0, 1) := by decide +kernel
theorem dL_law_255 : decode cL_law 255 = .ok (.iconst 0, 1) := by decide +kernel
theorem dL_law_256 : decode cL_law 256 = .ok (.invokestatic 133, 3) := by decide +kernel
theorem dL_law_259 : decode cL_law 259 = .ok (.bipush 25, 2) := by decide +kernel
theorem dL_law_261 : decode cL_law 261 = .ok (.idiv, 1) := by decide +kernel
theorem dL_law_262 : decode cL_law 262 = .ok (.invokestatic 149, 3) := by decide +kernel
theorem dL_law_265 : decode cL_law 265 = .ok (.ifCond .eq 23, 3) := by decide +kernel
theorem dL_law_268 : decode cL_law 268 = .ok (.aload_n 1, 1) := by decide +kernel
theorem dL_law_269 : decode cL_law 269 = .ok (.aload_n 3, 1) := by decide +kernel
theorem dL_law_270 : decode cL_law 270 = .ok (.invokestatic 128, 3) := by decide +kernel
theorem dL_law_273 : decode cL_law 273 = .ok (.ifCond .eq 15, 3) := by decide +kernel
theorem dL_law_276 : decode cL_law 276 = .ok (.aload_n 2, 1) := by decide +kernel
theorem dL_law_277 : decode cL_law 277 = .ok (.aload_n 3, 1) := by decide +kernel
theorem dL_law_278 : decode cL_law 278 = .ok (.invokestatic 152, 3) := by decide +kernel
theorem dL_law_281 : decode cL_law 281 = .ok (.ifCond .eq 7, 3) := by decide +kernel
theorem dL_law_284 : decode cL_law 284 = .ok (.iconst 1, 1) := by decide +kernel
theorem dL_law_285 : decode cL_law 285 = .ok (.goto 4, 3) := by decide +kernel
theorem dL_law_288 : decode cL_law 288 = .ok (.iconst 0, 1) := by decide +kernel
theorem dL_law_289 : decode cL_law 289 = .ok (.ireturn, 1) := by decide +kernel

