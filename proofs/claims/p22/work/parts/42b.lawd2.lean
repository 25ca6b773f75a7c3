theorem dL_drawn_0 : decode cL_drawn 0 = .ok (.iload_n 1, 1) := by decide +kernel
theorem dL_drawn_1 : decode cL_drawn 1 = .ok (.aload_n 0, 1) := by decide +kernel
theorem dL_drawn_2 : decode cL_drawn 2 = .ok (.arraylength, 1) := by decide +kernel
theorem dL_drawn_3 : decode cL_drawn 3 = .ok (.if_icmp .ge 9, 3) := by decide +kernel
theorem dL_drawn_6 : decode cL_drawn 6 = .ok (.aload_n 0, 1) := by decide +kernel
theorem dL_drawn_7 : decode cL_drawn 7 = .ok (.iload_n 1, 1) := by decide +kernel
theorem dL_drawn_8 : decode cL_drawn 8 = .ok (.iaload, 1) := by decide +kernel
theorem dL_drawn_9 : decode cL_drawn 9 = .ok (.goto 13, 3) := by decide +kernel
theorem dL_drawn_12 : decode cL_drawn 12 = .ok (.ldc 66, 2) := by decide +kernel
theorem dL_drawn_14 : decode cL_drawn 14 = .ok (.iload_n 1, 1) := by decide +kernel
theorem dL_drawn_15 : decode cL_drawn 15 = .ok (.iconst 3, 1) := by decide +kernel
theorem dL_drawn_16 : decode cL_drawn 16 = .ok (.iadd, 1) := by decide +kernel
theorem dL_drawn_17 : decode cL_drawn 17 = .ok (.imul, 1) := by decide +kernel
theorem dL_drawn_18 : decode cL_drawn 18 = .ok (.sipush 13907, 3) := by decide +kernel
theorem dL_drawn_21 : decode cL_drawn 21 = .ok (.iadd, 1) := by decide +kernel
theorem dL_drawn_22 : decode cL_drawn 22 = .ok (.ldc 67, 2) := by decide +kernel
theorem dL_drawn_24 : decode cL_drawn 24 = .ok (.iand, 1) := by decide +kernel
theorem dL_drawn_25 : decode cL_drawn 25 = .ok (.ireturn, 1) := by decide +kernel
set_option maxRecDepth 20000 in
theorem ggL_refuses_L_opens : GoodIn wsL_refuses wsL_opens := goodIn_ca (goodIn_ca (goodIn_r _ [7, 8, 9, 1, 3, 10, 11, 12, 13, 14, 15, 16, 17, 18, 19, 20, 21, 22, 23, 24, 25, 26, 27, 28, 29, 30, 31, 32, 33, 34, 35, 36, 37, 38, 39, 40, 41, 42, 43, 44, 45, 46, 47, 48, 49, 50, 51, 52, 53, 54, 55, 56, 57, 58, 59, 60, 61, 62, 63, 64, 65, 66, 67, 68, 69, 70, 71, 72, 73, 74, 75, 76, 77, 78, 79, 80, 81, 82, 83, 84, 85, 86, 87, 88, 89, 90, 91, 92, 93, 94, 95, 96, 97, 98, 99, 100, 101, 102, 103, 104, 105, 106, 107, 108, 109, 110, 111, 112, 113, 114, 115, 116, 117, 118, 119, 120, 121, 122, 123, 124, 125, 126, 127, 128, 129, 130, 131, 132, 133, 134, 135, 136, 137, 311, 312, 313, 314, 315, 316, 317, 318, 319, 320, 321, 322, 323, 324, 325, 326, 327, 328, 329, 330, 331, 332, 333, 334, 335, 336, 337, 338, 339] (by decide +kernel) (by decide +kernel)) (goodIn_sub (fun _ h => List.mem_cons_of_mem _ (List.mem_append_left _ (List.mem_append_left _ (List.mem_append_right _ h)))) (by decide +kernel))) (goodIn_sub (fun _ h => List.mem_cons_of_mem _ (List.mem_append_left _ (List.mem_append_right _ h))) (by decide +kernel))
set_option maxRecDepth 20000 in
theorem gL_refuses_L_opens : GoodIn wsL_refuses (va_wsS RL 68 yL_opens wsL_opens) := goodIn_app (goodIn_of _ (by decide +kernel)) ggL_refuses_L_opens
set_option maxRecDepth 20000 in
theorem ggL_refuses_L_closes : GoodIn wsL_refuses wsL_closes := goodIn_ca (goodIn_r _ [140, 141, 2, 142, 143, 144, 13, 145, 19, 28, 103, 146, 147, 148, 149, 150, 151, 152, 130, 131, 39, 132, 79, 133, 86, 87, 88, 89, 125, 126, 127, 128, 41, 129, 153, 154, 155, 23, 156, 69, 157, 106, 107, 108, 64, 65, 158, 159, 160, 161, 80, 81, 82, 83, 84, 85, 36, 37, 38, 40, 90, 91, 92, 93, 94, 95, 96, 97, 98, 62, 63, 66, 134, 135, 136, 137, 104, 99, 100, 101, 102, 105, 109, 110, 111, 112, 113, 114, 115, 116, 27, 117, 118, 119, 120, 70, 67, 121, 122, 123, 26, 124, 54, 53, 311, 312, 313, 314, 315, 316, 317, 318, 338, 339, 319, 320, 321, 322, 323, 324, 325, 326, 327, 328, 329, 330, 331, 332, 333, 334, 335, 336, 337] (by decide +kernel) (by decide +kernel)) (goodIn_sub (fun _ h => List.mem_cons_of_mem _ (List.mem_append_right _ h)) (by decide +kernel))
set_option maxRecDepth 20000 in
theorem gL_refuses_L_closes : GoodIn wsL_refuses (va_wsS RL 74 yL_closes wsL_closes) := goodIn_app (goodIn_of _ (by decide +kernel)) ggL_refuses_L_closes
set_option maxRecDepth 20000 in
theorem ggL_refuses_L_moves : GoodIn wsL_refuses wsL_moves := goodIn_ca (goodIn_ca (goodIn_r _ [164, 141, 8, 2, 1, 165, 166, 167, 13, 168, 15, 16, 169, 170, 171, 172, 146, 147, 148, 149, 150, 151, 28, 152, 130, 131, 39, 132, 79, 133, 86, 87, 88, 89, 30, 31, 32, 33, 34, 35, 158, 159, 160, 161, 80, 81, 82, 83, 19, 84, 85, 36, 37, 38, 40, 41, 90, 91, 92, 93, 94, 95, 96, 97, 23, 98, 62, 64, 63, 65, 66, 134, 135, 136, 137, 104, 99, 100, 101, 102, 103, 105, 106, 107, 108, 109, 110, 111, 112, 113, 114, 115, 116, 27, 117, 118, 119, 120, 69, 70, 67, 121, 122, 123, 26, 124, 54, 53, 319, 320, 321, 322, 323, 324, 325, 326, 327, 328, 311, 312, 313, 314, 315, 316, 317, 318, 338, 339, 329, 330, 331, 332, 333, 334, 335, 336, 337] (by decide +kernel) (by decide +kernel)) (goodIn_sub (fun _ h => List.mem_cons_of_mem _ (List.mem_append_left _ (List.mem_append_left _ (List.mem_append_right _ h)))) (by decide +kernel))) (goodIn_sub (fun _ h => List.mem_cons_of_mem _ (List.mem_append_right _ h)) (by decide +kernel))
set_option maxRecDepth 20000 in
theorem gL_refuses_L_moves : GoodIn wsL_refuses (va_wsS RL 78 yL_moves wsL_moves) := goodIn_app (goodIn_of _ (by decide +kernel)) ggL_refuses_L_moves
set_option maxRecDepth 20000 in
theorem ggL_refuses_L_lays : GoodIn wsL_refuses wsL_lays := goodIn_ca (goodIn_r _ [175, 141, 2, 176, 177, 178, 13, 179, 19, 146, 147, 148, 149, 150, 151, 28, 152, 130, 131, 39, 132, 79, 133, 86, 87, 88, 89, 125, 126, 127, 128, 41, 129, 75, 76, 77, 78, 180, 181, 182, 183, 158, 159, 160, 161, 80, 81, 82, 83, 84, 85, 36, 37, 38, 40, 90, 91, 92, 93, 94, 95, 96, 97, 23, 98, 62, 64, 63, 65, 66, 134, 135, 136, 137, 104, 99, 100, 101, 102, 103, 105, 106, 107, 108, 109, 110, 111, 112, 113, 114, 115, 116, 27, 117, 118, 119, 120, 69, 70, 67, 121, 122, 123, 26, 124, 54, 53, 311, 312, 313, 314, 315, 316, 317, 318, 338, 339, 319, 320, 321, 322, 323, 324, 325, 326, 327, 328, 329, 330, 331, 332, 333, 334, 335, 336, 337] (by decide +kernel) (by decide +kernel)) (goodIn_sub (fun _ h => List.mem_cons_of_mem _ (List.mem_append_right _ h)) (by decide +kernel))
set_option maxRecDepth 20000 in
theorem gL_refuses_L_lays : GoodIn wsL_refuses (va_wsS RL 82 yL_lays wsL_lays) := goodIn_app (goodIn_of _ (by decide +kernel)) ggL_refuses_L_lays
set_option maxRecDepth 20000 in
theorem ggL_refuses_L_passes : GoodIn wsL_refuses wsL_passes := goodIn_ca (goodIn_ca (goodIn_r _ [186, 8, 9, 1, 3, 187, 188, 189, 13, 190, 15, 16, 17, 18, 27, 191, 192, 193, 194, 195, 196, 197, 198, 199, 200, 201, 202, 203, 28, 84, 104, 36, 37, 38, 39, 40, 41, 86, 87, 88, 89, 79, 204, 205, 206, 26, 207, 54, 53, 48, 50, 208, 209, 210, 211, 55, 56, 212, 122, 123, 124, 213, 214, 215, 216, 217, 218, 219, 220, 221, 222, 52, 223, 224, 225, 226, 227, 228, 229, 230, 51, 311, 312, 313, 314, 315, 316, 317, 318, 319, 320, 321, 322, 323, 324, 325, 326, 327, 328, 329, 330, 331, 332, 333, 334, 335, 336, 337, 338, 339] (by decide +kernel) (by decide +kernel)) (goodIn_sub (fun _ h => List.mem_cons_of_mem _ (List.mem_append_left _ (List.mem_append_left _ (List.mem_append_right _ h)))) (by decide +kernel))) (goodIn_sub (fun _ h => List.mem_cons_of_mem _ (List.mem_append_left _ (List.mem_append_right _ h))) (by decide +kernel))
set_option maxRecDepth 20000 in
theorem gL_refuses_L_passes : GoodIn wsL_refuses (va_wsS RL 86 yL_passes wsL_passes) := goodIn_app (goodIn_of _ (by decide +kernel)) ggL_refuses_L_passes
set_option maxRecDepth 20000 in
theorem ggL_refuses_L_inputs : GoodIn wsL_refuses wsL_inputs := goodIn_ca (goodIn_r _ [233, 141, 2, 234, 235, 236, 13, 237, 104, 196, 27, 238, 239, 240, 241, 150, 151, 85, 30, 31, 32, 242, 243, 244, 26, 245, 48, 54, 56, 208, 209, 210, 211, 55, 246, 247, 248, 29, 319, 320, 321, 322, 323, 324, 325, 326, 327, 328, 311, 312, 313, 314, 315, 316, 317, 318, 329, 330, 331, 332, 333, 334, 335, 336, 337] (by decide +kernel) (by decide +kernel)) (goodIn_sub (fun _ h => List.mem_cons_of_mem _ (List.mem_append_right _ h)) (by decide +kernel))
set_option maxRecDepth 20000 in
theorem gL_refuses_L_inputs : GoodIn wsL_refuses (va_wsS RL 89 yL_inputs wsL_inputs) := goodIn_app (goodIn_of _ (by decide +kernel)) ggL_refuses_L_inputs
set_option maxRecDepth 20000 in
theorem ggL_refuses_L_at : GoodIn wsL_refuses wsL_at := goodIn_ca (goodIn_r _ [251, 141, 2, 252, 253, 254, 13, 255, 238, 239, 240, 241, 150, 151, 85, 30, 31, 32, 246, 247, 248, 29, 311, 312, 313, 314, 315, 316, 317, 318, 319, 320, 321, 322, 323, 324, 325, 326, 327, 328] (by decide +kernel) (by decide +kernel)) (goodIn_sub (fun _ h => List.mem_cons_of_mem _ (List.mem_append_right _ h)) (by decide +kernel))
set_option maxRecDepth 20000 in
theorem gL_refuses_L_at : GoodIn wsL_refuses (va_wsS RL 93 yL_at wsL_at) := goodIn_app (goodIn_of _ (by decide +kernel)) ggL_refuses_L_at
set_option maxRecDepth 20000 in
theorem ggL_refuses_L_place : GoodIn wsL_refuses wsL_place := goodIn_ca (goodIn_r _ [258, 141, 2, 259, 260, 261, 13, 262, 19, 29, 146, 147, 148, 149, 150, 151, 28, 152, 130, 131, 39, 132, 79, 133, 86, 87, 88, 89, 311, 312, 313, 314, 315, 316, 317, 318, 319, 320, 321, 322, 323, 324, 325, 326, 327, 328, 338, 339] (by decide +kernel) (by decide +kernel)) (goodIn_sub (fun _ h => List.mem_cons_of_mem _ (List.mem_append_right _ h)) (by decide +kernel))
set_option maxRecDepth 20000 in
theorem gL_refuses_L_place : GoodIn wsL_refuses (va_wsS RL 95 yL_place wsL_place) := goodIn_app (goodIn_of _ (by decide +kernel)) ggL_refuses_L_place
set_option maxRecDepth 20000 in
theorem ggL_refuses_L_seen : GoodIn wsL_refuses wsL_seen := goodIn_ca (goodIn_r _ [265, 141, 2, 266, 267, 268, 13, 269, 84, 146, 147, 148, 149, 150, 151, 28, 152, 130, 131, 39, 132, 79, 133, 86, 87, 88, 89, 319, 320, 321, 322, 323, 324, 325, 326, 327, 328, 311, 312, 313, 314, 315, 316, 317, 318, 338, 339] (by decide +kernel) (by decide +kernel)) (goodIn_sub (fun _ h => List.mem_cons_of_mem _ (List.mem_append_right _ h)) (by decide +kernel))
set_option maxRecDepth 20000 in
theorem gL_refuses_L_seen : GoodIn wsL_refuses (va_wsS RL 98 yL_seen wsL_seen) := goodIn_app (goodIn_of _ (by decide +kernel)) ggL_refuses_L_seen
set_option maxRecDepth 20000 in
theorem ggL_refuses_L_pages : GoodIn wsL_refuses wsL_pages := goodIn_ca (goodIn_r _ [272, 141, 2, 273, 274, 275, 13, 276, 146, 147, 148, 149, 150, 151, 28, 152, 130, 131, 39, 132, 79, 133, 86, 87, 88, 89, 153, 154, 155, 23, 156, 69, 157, 106, 107, 108, 64, 65, 311, 312, 313, 314, 315, 316, 317, 318, 338, 339, 319, 320, 321, 322, 323, 324, 325, 326, 327, 328] (by decide +kernel) (by decide +kernel)) (goodIn_sub (fun _ h => List.mem_cons_of_mem _ (List.mem_append_right _ h)) (by decide +kernel))
set_option maxRecDepth 20000 in
theorem gL_refuses_L_pages : GoodIn wsL_refuses (va_wsS RL 101 yL_pages wsL_pages) := goodIn_app (goodIn_of _ (by decide +kernel)) ggL_refuses_L_pages
set_option maxRecDepth 20000 in
theorem ggL_refuses_L_picture : GoodIn wsL_refuses wsL_picture := goodIn_ca (goodIn_r _ [279, 141, 2, 280, 281, 282, 13, 283, 199, 146, 147, 148, 149, 150, 151, 28, 152, 130, 131, 39, 132, 79, 133, 86, 87, 88, 89, 319, 320, 321, 322, 323, 324, 325, 326, 327, 328, 311, 312, 313, 314, 315, 316, 317, 318, 338, 339] (by decide +kernel) (by decide +kernel)) (goodIn_sub (fun _ h => List.mem_cons_of_mem _ (List.mem_append_right _ h)) (by decide +kernel))
set_option maxRecDepth 20000 in
theorem gL_refuses_L_picture : GoodIn wsL_refuses (va_wsS RL 104 yL_picture wsL_picture) := goodIn_app (goodIn_of _ (by decide +kernel)) ggL_refuses_L_picture
set_option maxRecDepth 20000 in
theorem ggL_refuses_L_pace : GoodIn wsL_refuses wsL_pace := goodIn_ca (goodIn_r _ [286, 141, 2, 287, 288, 289, 13, 290, 196, 291, 146, 147, 148, 149, 150, 151, 28, 152, 130, 131, 39, 132, 79, 133, 86, 87, 88, 89, 319, 320, 321, 322, 323, 324, 325, 326, 327, 328, 329, 330, 331, 332, 333, 334, 335, 336, 337, 311, 312, 313, 314, 315, 316, 317, 318, 338, 339] (by decide +kernel) (by decide +kernel)) (goodIn_sub (fun _ h => List.mem_cons_of_mem _ (List.mem_append_right _ h)) (by decide +kernel))
set_option maxRecDepth 20000 in
theorem gL_refuses_L_pace : GoodIn wsL_refuses (va_wsS RL 106 yL_pace wsL_pace) := goodIn_app (goodIn_of _ (by decide +kernel)) ggL_refuses_L_pace
set_option maxRecDepth 20000 in
theorem ggL_refuses_L_misses : GoodIn wsL_refuses wsL_misses := goodIn_ca (goodIn_r _ [294, 141, 2, 295, 296, 297, 13, 298, 196, 299, 146, 147, 148, 149, 150, 151, 28, 152, 130, 131, 39, 132, 79, 133, 86, 87, 88, 89, 319, 320, 321, 322, 323, 324, 325, 326, 327, 328, 329, 330, 331, 332, 333, 334, 335, 336, 337, 311, 312, 313, 314, 315, 316, 317, 318, 338, 339] (by decide +kernel) (by decide +kernel)) (goodIn_sub (fun _ h => List.mem_cons_of_mem _ (List.mem_append_right _ h)) (by decide +kernel))
set_option maxRecDepth 20000 in
theorem gL_refuses_L_misses : GoodIn wsL_refuses (va_wsS RL 108 yL_misses wsL_misses) := goodIn_app (goodIn_of _ (by decide +kernel)) ggL_refuses_L_misses
set_option maxRecDepth 20000 in
theorem ggL_refuses_L_deadline : GoodIn wsL_refuses wsL_deadline := goodIn_ca (goodIn_r _ [302, 141, 2, 303, 304, 305, 13, 306, 196, 217, 218, 146, 147, 148, 149, 150, 151, 28, 152, 130, 131, 39, 132, 79, 133, 86, 87, 88, 89, 319, 320, 321, 322, 323, 324, 325, 326, 327, 328, 329, 330, 331, 332, 333, 334, 335, 336, 337, 311, 312, 313, 314, 315, 316, 317, 318, 338, 339] (by decide +kernel) (by decide +kernel)) (goodIn_sub (fun _ h => List.mem_cons_of_mem _ (List.mem_append_right _ h)) (by decide +kernel))
set_option maxRecDepth 20000 in
theorem gL_refuses_L_deadline : GoodIn wsL_refuses (va_wsS RL 110 yL_deadline wsL_deadline) := goodIn_app (goodIn_of _ (by decide +kernel)) ggL_refuses_L_deadline
set_option maxRecDepth 20000 in
theorem ggL_refuses_X3_windows : GoodIn wsL_refuses wsX3_windows := goodIn_r _ [310, 19, 36, 37, 38, 39, 40, 41, 311, 312, 313, 314, 315, 316, 317, 318, 338, 339] (by decide +kernel) (by decide +kernel)
set_option maxRecDepth 20000 in
theorem gL_refuses_X3_windows : GoodIn wsL_refuses (wsV RL 112 RX3 yX3_windows wsX3_windows) := goodIn_app (goodIn_of _ (by decide +kernel)) ggL_refuses_X3_windows
theorem dL_refuses_0 : decode cL_refuses 0 = .ok (.iload_n 2, 1) := by decide +kernel
theorem dL_refuses_1 : decode cL_refuses 1 = .ok (.iconst 2, 1) := by decide +kernel
theorem dL_refuses_2 : decode cL_refuses 2 = .ok (.irem, 1) := by decide +kernel
theorem dL_refuses_3 : decode cL_refuses 3 = .ok (.ifCond .ne 7, 3) := by decide +kernel
theorem dL_refuses_6 : decode cL_refuses 6 = .ok (.iconst 1, 1) := by decide +kernel
theorem dL_refuses_7 : decode cL_refuses 7 = .ok (.goto 4, 3) := by decide +kernel
theorem dL_refuses_10 : decode cL_refuses 10 = .ok (.iconst 0, 1) := by decide +kernel
theorem dL_refuses_11 : decode cL_refuses 11 = .ok (.istore_n 3, 1) := by decide +kernel
theorem dL_refuses_12 : decode cL_refuses 12 = .ok (.iload_n 3, 1) := by decide +kernel
theorem dL_refuses_13 : decode cL_refuses 13 = .ok (.ifCond .eq 12, 3) := by decide +kernel
theorem dL_refuses_16 : decode cL_refuses 16 = .ok (.iconst (-1), 1) := by decide +kernel
theorem dL_refuses_17 : decode cL_refuses 17 = .ok (.iload_n 2, 1) := by decide +kernel
theorem dL_refuses_18 : decode cL_refuses 18 = .ok (.bipush 50, 2) := by decide +kernel
theorem dL_refuses_20 : decode cL_refuses 20 = .ok (.irem, 1) := by decide +kernel
theorem dL_refuses_21 : decode cL_refuses 21 = .ok (.isub, 1) := by decide +kernel
theorem dL_refuses_22 : decode cL_refuses 22 = .ok (.goto 11, 3) := by decide +kernel
theorem dL_refuses_25 : decode cL_refuses 25 = .ok (.aload_n 1, 1) := by decide +kernel
theorem dL_refuses_26 : decode cL_refuses 26 = .ok (.iconst 0, 1) := by decide +kernel
theorem dL_refuses_27 : decode cL_refuses 27 = .ok (.iaload, 1) := by decide +kernel
theorem dL_refuses_28 : decode cL_refuses 28 = .ok (.iload_n 2, 1) := by decide +kernel
theorem dL_refuses_29 : decode cL_refuses 29 = .ok (.bipush 50, 2) := by decide +kernel
theorem dL_refuses_31 : decode cL_refuses 31 = .ok (.irem, 1) := by decide +kernel
theorem dL_refuses_32 : decode cL_refuses 32 = .ok (.iadd, 1) := by decide +kernel
theorem dL_refuses_33 : decode cL_refuses 33 = .ok (.istore 4, 2) := by decide +kernel
theorem dL_refuses_35 : decode cL_refuses 35 = .ok (.iload_n 3, 1) := by decide +kernel
theorem dL_refuses_36 : decode cL_refuses 36 = .ok (.ifCond .eq 12, 3) := by decide +kernel
theorem dL_refuses_39 : decode cL_refuses 39 = .ok (.iconst (-1), 1) := by decide +kernel
theorem dL_refuses_40 : decode cL_refuses 40 = .ok (.iload_n 2, 1) := by decide +kernel
theorem dL_refuses_41 : decode cL_refuses 41 = .ok (.bipush 50, 2) := by decide +kernel
theorem dL_refuses_43 : decode cL_refuses 43 = .ok (.irem, 1) := by decide +kernel
theorem dL_refuses_44 : decode cL_refuses 44 = .ok (.isub, 1) := by decide +kernel
theorem dL_refuses_45 : decode cL_refuses 45 = .ok (.goto 10, 3) := by decide +kernel
theorem dL_refuses_48 : decode cL_refuses 48 = .ok (.bipush 8, 2) := by decide +kernel
theorem dL_refuses_50 : decode cL_refuses 50 = .ok (.iload_n 2, 1) := by decide +kernel
theorem dL_refuses_51 : decode cL_refuses 51 = .ok (.bipush 50, 2) := by decide +kernel
theorem dL_refuses_53 : decode cL_refuses 53 = .ok (.irem, 1) := by decide +kernel
theorem dL_refuses_54 : decode cL_refuses 54 = .ok (.iadd, 1) := by decide +kernel
theorem dL_refuses_55 : decode cL_refuses 55 = .ok (.istore 5, 2) := by decide +kernel
theorem dL_refuses_57 : decode cL_refuses 57 = .ok (.iload_n 3, 1) := by decide +kernel
theorem dL_refuses_58 : decode cL_refuses 58 = .ok (.ifCond .eq 12, 3) := by decide +kernel
theorem dL_refuses_61 : decode cL_refuses 61 = .ok (.iconst (-1), 1) := by decide +kernel
theorem dL_refuses_62 : decode cL_refuses 62 = .ok (.iload_n 2, 1) := by decide +kernel
theorem dL_refuses_63 : decode cL_refuses 63 = .ok (.bipush 50, 2) := by decide +kernel
theorem dL_refuses_65 : decode cL_refuses 65 = .ok (.irem, 1) := by decide +kernel
theorem dL_refuses_66 : decode cL_refuses 66 = .ok (.isub, 1) := by decide +kernel
theorem dL_refuses_67 : decode cL_refuses 67 = .ok (.goto 10, 3) := by decide +kernel
theorem dL_refuses_70 : decode cL_refuses 70 = .ok (.bipush 6, 2) := by decide +kernel
theorem dL_refuses_72 : decode cL_refuses 72 = .ok (.iload_n 2, 1) := by decide +kernel
theorem dL_refuses_73 : decode cL_refuses 73 = .ok (.bipush 50, 2) := by decide +kernel
theorem dL_refuses_75 : decode cL_refuses 75 = .ok (.irem, 1) := by decide +kernel
theorem dL_refuses_76 : decode cL_refuses 76 = .ok (.iadd, 1) := by decide +kernel
theorem dL_refuses_77 : decode cL_refuses 77 = .ok (.istore 6, 2) := by decide +kernel
theorem dL_refuses_79 : decode cL_refuses 79 = .ok (.aload_n 0, 1) := by decide +kernel
theorem dL_refuses_80 : decode cL_refuses 80 = .ok (.iload 5, 2) := by decide +kernel
theorem dL_refuses_82 : decode cL_refuses 82 = .ok (.iconst 0, 1) := by decide +kernel
theorem dL_refuses_83 : decode cL_refuses 83 = .ok (.iconst 1, 1) := by decide +kernel
theorem dL_refuses_84 : decode cL_refuses 84 = .ok (.iconst 1, 1) := by decide +kernel
theorem dL_refuses_85 : decode cL_refuses 85 = .ok (.iconst 0, 1) := by decide +kernel
theorem dL_refuses_86 : decode cL_refuses 86 = .ok (.iconst 5, 1) := by decide +kernel
theorem dL_refuses_87 : decode cL_refuses 87 = .ok (.iconst 5, 1) := by decide +kernel
theorem dL_refuses_88 : decode cL_refuses 88 = .ok (.invokestatic 68, 3) := by decide +kernel
theorem dL_refuses_91 : decode cL_refuses 91 = .ok (.ldc 15, 2) := by decide +kernel
theorem dL_refuses_93 : decode cL_refuses 93 = .ok (.if_icmp .ne 400, 3) := by decide +kernel
theorem dL_refuses_96 : decode cL_refuses 96 = .ok (.aload_n 0, 1) := by decide +kernel
theorem dL_refuses_97 : decode cL_refuses 97 = .ok (.iconst 0, 1) := by decide +kernel
theorem dL_refuses_98 : decode cL_refuses 98 = .ok (.iload 6, 2) := by decide +kernel
theorem dL_refuses_100 : decode cL_refuses 100 = .ok (.iconst 1, 1) := by decide +kernel
theorem dL_refuses_101 : decode cL_refuses 101 = .ok (.iconst 1, 1) := by decide +kernel
theorem dL_refuses_102 : decode cL_refuses 102 = .ok (.iconst 0, 1) := by decide +kernel
theorem dL_refuses_103 : decode cL_refuses 103 = .ok (.iconst 5, 1) := by decide +kernel
theorem dL_refuses_104 : decode cL_refuses 104 = .ok (.iconst 5, 1) := by decide +kernel
theorem dL_refuses_105 : decode cL_refuses 105 = .ok (.invokestatic 68, 3) := by decide +kernel
theorem dL_refuses_108 : decode cL_refuses 108 = .ok (.ldc 15, 2) := by decide +kernel
theorem dL_refuses_110 : decode cL_refuses 110 = .ok (.if_icmp .ne 383, 3) := by decide +kernel
theorem dL_refuses_113 : decode cL_refuses 113 = .ok (.aload_n 0, 1) := by decide +kernel
theorem dL_refuses_114 : decode cL_refuses 114 = .ok (.iload_n 2, 1) := by decide +kernel
theorem dL_refuses_115 : decode cL_refuses 115 = .ok (.bipush 8, 2) := by decide +kernel
theorem dL_refuses_117 : decode cL_refuses 117 = .ok (.irem, 1) := by decide +kernel
theorem dL_refuses_118 : decode cL_refuses 118 = .ok (.iconst 0, 1) := by decide +kernel
theorem dL_refuses_119 : decode cL_refuses 119 = .ok (.bipush 9, 2) := by decide +kernel
theorem dL_refuses_121 : decode cL_refuses 121 = .ok (.iload_n 2, 1) := by decide +kernel
theorem dL_refuses_122 : decode cL_refuses 122 = .ok (.bipush 8, 2) := by decide +kernel
theorem dL_refuses_124 : decode cL_refuses 124 = .ok (.irem, 1) := by decide +kernel
theorem dL_refuses_125 : decode cL_refuses 125 = .ok (.isub, 1) := by decide +kernel
theorem dL_refuses_126 : decode cL_refuses 126 = .ok (.iconst 1, 1) := by decide +kernel
theorem dL_refuses_127 : decode cL_refuses 127 = .ok (.iconst 1, 1) := by decide +kernel
theorem dL_refuses_128 : decode cL_refuses 128 = .ok (.iconst 5, 1) := by decide +kernel
theorem dL_refuses_129 : decode cL_refuses 129 = .ok (.iconst 5, 1) := by decide +kernel
theorem dL_refuses_130 : decode cL_refuses 130 = .ok (.invokestatic 68, 3) := by decide +kernel
theorem dL_refuses_133 : decode cL_refuses 133 = .ok (.ldc 15, 2) := by decide +kernel
theorem dL_refuses_135 : decode cL_refuses 135 = .ok (.if_icmp .ne 358, 3) := by decide +kernel
theorem dL_refuses_138 : decode cL_refuses 138 = .ok (.aload_n 0, 1) := by decide +kernel
theorem dL_refuses_139 : decode cL_refuses 139 = .ok (.iconst 0, 1) := by decide +kernel
theorem dL_refuses_140 : decode cL_refuses 140 = .ok (.iload_n 2, 1) := by decide +kernel
theorem dL_refuses_141 : decode cL_refuses 141 = .ok (.bipush 6, 2) := by decide +kernel
theorem dL_refuses_143 : decode cL_refuses 143 = .ok (.irem, 1) := by decide +kernel
theorem dL_refuses_144 : decode cL_refuses 144 = .ok (.iconst 1, 1) := by decide +kernel
theorem dL_refuses_145 : decode cL_refuses 145 = .ok (.bipush 7, 2) := by decide +kernel
theorem dL_refuses_147 : decode cL_refuses 147 = .ok (.iload_n 2, 1) := by decide +kernel
theorem dL_refuses_148 : decode cL_refuses 148 = .ok (.bipush 6, 2) := by decide +kernel
theorem dL_refuses_150 : decode cL_refuses 150 = .ok (.irem, 1) := by decide +kernel
theorem dL_refuses_151 : decode cL_refuses 151 = .ok (.isub, 1) := by decide +kernel
theorem dL_refuses_152 : decode cL_refuses 152 = .ok (.iconst 1, 1) := by decide +kernel
theorem dL_refuses_153 : decode cL_refuses 153 = .ok (.iconst 5, 1) := by decide +kernel
theorem dL_refuses_154 : decode cL_refuses 154 = .ok (.iconst 5, 1) := by decide +kernel
theorem dL_refuses_155 : decode cL_refuses 155 = .ok (.invokestatic 68, 3) := by decide +kernel
theorem dL_refuses_158 : decode cL_refuses 158 = .ok (.ldc 15, 2) := by decide +kernel
theorem dL_refuses_160 : decode cL_refuses 160 = .ok (.if_icmp .ne 333, 3) := by decide +kernel
theorem dL_refuses_163 : decode cL_refuses 163 = .ok (.aload_n 0, 1) := by decide +kernel
theorem dL_refuses_164 : decode cL_refuses 164 = .ok (.iconst 0, 1) := by decide +kernel
theorem dL_refuses_165 : decode cL_refuses 165 = .ok (.iconst 0, 1) := by decide +kernel
theorem dL_refuses_166 : decode cL_refuses 166 = .ok (.iconst 0, 1) := by decide +kernel
theorem dL_refuses_167 : decode cL_refuses 167 = .ok (.iconst 1, 1) := by decide +kernel
theorem dL_refuses_168 : decode cL_refuses 168 = .ok (.iconst 0, 1) := by decide +kernel
theorem dL_refuses_169 : decode cL_refuses 169 = .ok (.iconst 5, 1) := by decide +kernel
theorem dL_refuses_170 : decode cL_refuses 170 = .ok (.iconst 5, 1) := by decide +kernel
theorem dL_refuses_171 : decode cL_refuses 171 = .ok (.invokestatic 68, 3) := by decide +kernel
theorem dL_refuses_174 : decode cL_refuses 174 = .ok (.ldc 15, 2) := by decide +kernel
theorem dL_refuses_176 : decode cL_refuses 176 = .ok (.if_icmp .ne 317, 3) := by decide +kernel
theorem dL_refuses_179 : decode cL_refuses 179 = .ok (.aload_n 0, 1) := by decide +kernel
theorem dL_refuses_180 : decode cL_refuses 180 = .ok (.iconst 0, 1) := by decide +kernel
theorem dL_refuses_181 : decode cL_refuses 181 = .ok (.iconst 0, 1) := by decide +kernel
theorem dL_refuses_182 : decode cL_refuses 182 = .ok (.iconst 1, 1) := by decide +kernel
theorem dL_refuses_183 : decode cL_refuses 183 = .ok (.iload_n 2, 1) := by decide +kernel
theorem dL_refuses_184 : decode cL_refuses 184 = .ok (.ineg, 1) := by decide +kernel
theorem dL_refuses_185 : decode cL_refuses 185 = .ok (.iconst 0, 1) := by decide +kernel
theorem dL_refuses_186 : decode cL_refuses 186 = .ok (.iconst 5, 1) := by decide +kernel
theorem dL_refuses_187 : decode cL_refuses 187 = .ok (.iconst 5, 1) := by decide +kernel
theorem dL_refuses_188 : decode cL_refuses 188 = .ok (.invokestatic 68, 3) := by decide +kernel
theorem dL_refuses_191 : decode cL_refuses 191 = .ok (.ldc 15, 2) := by decide +kernel
theorem dL_refuses_193 : decode cL_refuses 193 = .ok (.if_icmp .ne 300, 3) := by decide +kernel
theorem dL_refuses_196 : decode cL_refuses 196 = .ok (.aload_n 0, 1) := by decide +kernel
theorem dL_refuses_197 : decode cL_refuses 197 = .ok (.iconst 0, 1) := by decide +kernel
theorem dL_refuses_198 : decode cL_refuses 198 = .ok (.iconst 0, 1) := by decide +kernel
theorem dL_refuses_199 : decode cL_refuses 199 = .ok (.iconst 1, 1) := by decide +kernel
theorem dL_refuses_200 : decode cL_refuses 200 = .ok (.iconst 1, 1) := by decide +kernel
theorem dL_refuses_201 : decode cL_refuses 201 = .ok (.iconst 0, 1) := by decide +kernel
theorem dL_refuses_202 : decode cL_refuses 202 = .ok (.bipush 101, 2) := by decide +kernel
theorem dL_refuses_204 : decode cL_refuses 204 = .ok (.iload_n 2, 1) := by decide +kernel
theorem dL_refuses_205 : decode cL_refuses 205 = .ok (.iadd, 1) := by decide +kernel
theorem dL_refuses_206 : decode cL_refuses 206 = .ok (.iconst 5, 1) := by decide +kernel
theorem dL_refuses_207 : decode cL_refuses 207 = .ok (.invokestatic 68, 3) := by decide +kernel
theorem dL_refuses_210 : decode cL_refuses 210 = .ok (.ldc 15, 2) := by decide +kernel
theorem dL_refuses_212 : decode cL_refuses 212 = .ok (.if_icmp .ne 281, 3) := by decide +kernel
theorem dL_refuses_215 : decode cL_refuses 215 = .ok (.aload_n 0, 1) := by decide +kernel
theorem dL_refuses_216 : decode cL_refuses 216 = .ok (.iconst 0, 1) := by decide +kernel
theorem dL_refuses_217 : decode cL_refuses 217 = .ok (.iconst 0, 1) := by decide +kernel
theorem dL_refuses_218 : decode cL_refuses 218 = .ok (.iconst 1, 1) := by decide +kernel
theorem dL_refuses_219 : decode cL_refuses 219 = .ok (.iconst 1, 1) := by decide +kernel
theorem dL_refuses_220 : decode cL_refuses 220 = .ok (.iconst 0, 1) := by decide +kernel
theorem dL_refuses_221 : decode cL_refuses 221 = .ok (.iload_n 2, 1) := by decide +kernel
theorem dL_refuses_222 : decode cL_refuses 222 = .ok (.ineg, 1) := by decide +kernel
theorem dL_refuses_223 : decode cL_refuses 223 = .ok (.iconst 5, 1) := by decide +kernel
theorem dL_refuses_224 : decode cL_refuses 224 = .ok (.invokestatic 68, 3) := by decide +kernel
theorem dL_refuses_227 : decode cL_refuses 227 = .ok (.ldc 15, 2) := by decide +kernel
theorem dL_refuses_229 : decode cL_refuses 229 = .ok (.if_icmp .ne 264, 3) := by decide +kernel
theorem dL_refuses_232 : decode cL_refuses 232 = .ok (.aload_n 0, 1) := by decide +kernel
theorem dL_refuses_233 : decode cL_refuses 233 = .ok (.iconst 0, 1) := by decide +kernel
theorem dL_refuses_234 : decode cL_refuses 234 = .ok (.iconst 0, 1) := by decide +kernel
theorem dL_refuses_235 : decode cL_refuses 235 = .ok (.iconst 1, 1) := by decide +kernel
theorem dL_refuses_236 : decode cL_refuses 236 = .ok (.iconst 1, 1) := by decide +kernel
theorem dL_refuses_237 : decode cL_refuses 237 = .ok (.iconst 0, 1) := by decide +kernel
theorem dL_refuses_238 : decode cL_refuses 238 = .ok (.iconst 5, 1) := by decide +kernel
theorem dL_refuses_239 : decode cL_refuses 239 = .ok (.bipush 21, 2) := by decide +kernel
theorem dL_refuses_241 : decode cL_refuses 241 = .ok (.iload_n 2, 1) := by decide +kernel
theorem dL_refuses_242 : decode cL_refuses 242 = .ok (.iadd, 1) := by decide +kernel
theorem dL_refuses_243 : decode cL_refuses 243 = .ok (.invokestatic 68, 3) := by decide +kernel
theorem dL_refuses_246 : decode cL_refuses 246 = .ok (.ldc 15, 2) := by decide +kernel
theorem dL_refuses_248 : decode cL_refuses 248 = .ok (.if_icmp .ne 245, 3) := by decide +kernel
theorem dL_refuses_251 : decode cL_refuses 251 = .ok (.aload_n 0, 1) := by decide +kernel
theorem dL_refuses_252 : decode cL_refuses 252 = .ok (.iconst 0, 1) := by decide +kernel
theorem dL_refuses_253 : decode cL_refuses 253 = .ok (.iconst 0, 1) := by decide +kernel
theorem dL_refuses_254 : decode cL_refuses 254 = .ok (.iconst 1, 1) := by decide +kernel
theorem dL_refuses_255 : decode cL_refuses 255 = .ok (.iconst 1, 1) := by decide +kernel
theorem dL_refuses_256 : decode cL_refuses 256 = .ok (.iconst 0, 1) := by decide +kernel
theorem dL_refuses_257 : decode cL_refuses 257 = .ok (.iconst 5, 1) := by decide +kernel
theorem dL_refuses_258 : decode cL_refuses 258 = .ok (.iload_n 2, 1) := by decide +kernel
theorem dL_refuses_259 : decode cL_refuses 259 = .ok (.ineg, 1) := by decide +kernel
theorem dL_refuses_260 : decode cL_refuses 260 = .ok (.invokestatic 68, 3) := by decide +kernel
theorem dL_refuses_263 : decode cL_refuses 263 = .ok (.ldc 15, 2) := by decide +kernel
theorem dL_refuses_265 : decode cL_refuses 265 = .ok (.if_icmp .ne 228, 3) := by decide +kernel
theorem dL_refuses_268 : decode cL_refuses 268 = .ok (.aload_n 0, 1) := by decide +kernel
theorem dL_refuses_269 : decode cL_refuses 269 = .ok (.iload 4, 2) := by decide +kernel
theorem dL_refuses_271 : decode cL_refuses 271 = .ok (.invokestatic 74, 3) := by decide +kernel
theorem dL_refuses_274 : decode cL_refuses 274 = .ok (.ldc 25, 2) := by decide +kernel
theorem dL_refuses_276 : decode cL_refuses 276 = .ok (.if_icmp .ne 217, 3) := by decide +kernel
theorem dL_refuses_279 : decode cL_refuses 279 = .ok (.aload_n 0, 1) := by decide +kernel
theorem dL_refuses_280 : decode cL_refuses 280 = .ok (.iload 4, 2) := by decide +kernel
theorem dL_refuses_282 : decode cL_refuses 282 = .ok (.iload 5, 2) := by decide +kernel
theorem dL_refuses_284 : decode cL_refuses 284 = .ok (.iload 6, 2) := by decide +kernel
theorem dL_refuses_286 : decode cL_refuses 286 = .ok (.invokestatic 78, 3) := by decide +kernel
theorem dL_refuses_289 : decode cL_refuses 289 = .ok (.ldc 25, 2) := by decide +kernel
theorem dL_refuses_291 : decode cL_refuses 291 = .ok (.if_icmp .ne 202, 3) := by decide +kernel
theorem dL_refuses_294 : decode cL_refuses 294 = .ok (.aload_n 0, 1) := by decide +kernel
theorem dL_refuses_295 : decode cL_refuses 295 = .ok (.iload 4, 2) := by decide +kernel
theorem dL_refuses_297 : decode cL_refuses 297 = .ok (.iconst 1, 1) := by decide +kernel
theorem dL_refuses_298 : decode cL_refuses 298 = .ok (.invokestatic 82, 3) := by decide +kernel
theorem dL_refuses_301 : decode cL_refuses 301 = .ok (.ldc 25, 2) := by decide +kernel
theorem dL_refuses_303 : decode cL_refuses 303 = .ok (.if_icmp .ne 190, 3) := by decide +kernel
theorem dL_refuses_306 : decode cL_refuses 306 = .ok (.aload_n 0, 1) := by decide +kernel
theorem dL_refuses_307 : decode cL_refuses 307 = .ok (.iload_n 2, 1) := by decide +kernel
theorem dL_refuses_308 : decode cL_refuses 308 = .ok (.ineg, 1) := by decide +kernel
theorem dL_refuses_309 : decode cL_refuses 309 = .ok (.invokestatic 86, 3) := by decide +kernel
theorem dL_refuses_312 : decode cL_refuses 312 = .ok (.ldc 15, 2) := by decide +kernel
theorem dL_refuses_314 : decode cL_refuses 314 = .ok (.if_icmp .ne 179, 3) := by decide +kernel
theorem dL_refuses_317 : decode cL_refuses 317 = .ok (.aload_n 0, 1) := by decide +kernel
theorem dL_refuses_318 : decode cL_refuses 318 = .ok (.sipush 201, 3) := by decide +kernel
theorem dL_refuses_321 : decode cL_refuses 321 = .ok (.iload_n 2, 1) := by decide +kernel
theorem dL_refuses_322 : decode cL_refuses 322 = .ok (.iadd, 1) := by decide +kernel
theorem dL_refuses_323 : decode cL_refuses 323 = .ok (.invokestatic 86, 3) := by decide +kernel
theorem dL_refuses_326 : decode cL_refuses 326 = .ok (.ldc 15, 2) := by decide +kernel
theorem dL_refuses_328 : decode cL_refuses 328 = .ok (.if_icmp .ne 165, 3) := by decide +kernel
theorem dL_refuses_331 : decode cL_refuses 331 = .ok (.aload_n 0, 1) := by decide +kernel
theorem dL_refuses_332 : decode cL_refuses 332 = .ok (.iload 5, 2) := by decide +kernel
theorem dL_refuses_334 : decode cL_refuses 334 = .ok (.iconst 0, 1) := by decide +kernel
theorem dL_refuses_335 : decode cL_refuses 335 = .ok (.invokestatic 89, 3) := by decide +kernel
theorem dL_refuses_338 : decode cL_refuses 338 = .ok (.ldc 25, 2) := by decide +kernel
theorem dL_refuses_340 : decode cL_refuses 340 = .ok (.if_icmp .ne 153, 3) := by decide +kernel
theorem dL_refuses_343 : decode cL_refuses 343 = .ok (.aload_n 0, 1) := by decide +kernel
theorem dL_refuses_344 : decode cL_refuses 344 = .ok (.iconst 0, 1) := by decide +kernel
theorem dL_refuses_345 : decode cL_refuses 345 = .ok (.iload 6, 2) := by decide +kernel
theorem dL_refuses_347 : decode cL_refuses 347 = .ok (.invokestatic 89, 3) := by decide +kernel
theorem dL_refuses_350 : decode cL_refuses 350 = .ok (.ldc 25, 2) := by decide +kernel
theorem dL_refuses_352 : decode cL_refuses 352 = .ok (.if_icmp .ne 141, 3) := by decide +kernel
theorem dL_refuses_355 : decode cL_refuses 355 = .ok (.aload_n 0, 1) := by decide +kernel
theorem dL_refuses_356 : decode cL_refuses 356 = .ok (.iload 5, 2) := by decide +kernel
theorem dL_refuses_358 : decode cL_refuses 358 = .ok (.iconst 0, 1) := by decide +kernel
theorem dL_refuses_359 : decode cL_refuses 359 = .ok (.invokestatic 93, 3) := by decide +kernel
theorem dL_refuses_362 : decode cL_refuses 362 = .ok (.ldc 25, 2) := by decide +kernel
theorem dL_refuses_364 : decode cL_refuses 364 = .ok (.if_icmp .ne 129, 3) := by decide +kernel
theorem dL_refuses_367 : decode cL_refuses 367 = .ok (.aload_n 0, 1) := by decide +kernel
theorem dL_refuses_368 : decode cL_refuses 368 = .ok (.iconst 0, 1) := by decide +kernel
theorem dL_refuses_369 : decode cL_refuses 369 = .ok (.iload 6, 2) := by decide +kernel
theorem dL_refuses_371 : decode cL_refuses 371 = .ok (.invokestatic 93, 3) := by decide +kernel
theorem dL_refuses_374 : decode cL_refuses 374 = .ok (.ldc 25, 2) := by decide +kernel
theorem dL_refuses_376 : decode cL_refuses 376 = .ok (.if_icmp .ne 117, 3) := by decide +kernel
theorem dL_refuses_379 : decode cL_refuses 379 = .ok (.aload_n 0, 1) := by decide +kernel
theorem dL_refuses_380 : decode cL_refuses 380 = .ok (.iload 4, 2) := by decide +kernel
theorem dL_refuses_382 : decode cL_refuses 382 = .ok (.invokestatic 95, 3) := by decide +kernel
theorem dL_refuses_385 : decode cL_refuses 385 = .ok (.ldc 25, 2) := by decide +kernel
theorem dL_refuses_387 : decode cL_refuses 387 = .ok (.if_icmp .ne 106, 3) := by decide +kernel
theorem dL_refuses_390 : decode cL_refuses 390 = .ok (.aload_n 0, 1) := by decide +kernel
theorem dL_refuses_391 : decode cL_refuses 391 = .ok (.iload 4, 2) := by decide +kernel
theorem dL_refuses_393 : decode cL_refuses 393 = .ok (.invokestatic 98, 3) := by decide +kernel
theorem dL_refuses_396 : decode cL_refuses 396 = .ok (.ldc 25, 2) := by decide +kernel
theorem dL_refuses_398 : decode cL_refuses 398 = .ok (.if_icmp .ne 95, 3) := by decide +kernel
theorem dL_refuses_401 : decode cL_refuses 401 = .ok (.aload_n 0, 1) := by decide +kernel
theorem dL_refuses_402 : decode cL_refuses 402 = .ok (.iload 4, 2) := by decide +kernel
theorem dL_refuses_404 : decode cL_refuses 404 = .ok (.invokestatic 101, 3) := by decide +kernel
theorem dL_refuses_407 : decode cL_refuses 407 = .ok (.ldc 25, 2) := by decide +kernel
theorem dL_refuses_409 : decode cL_refuses 409 = .ok (.if_icmp .ne 84, 3) := by decide +kernel
theorem dL_refuses_412 : decode cL_refuses 412 = .ok (.aload_n 0, 1) := by decide +kernel
theorem dL_refuses_413 : decode cL_refuses 413 = .ok (.iload 4, 2) := by decide +kernel
theorem dL_refuses_415 : decode cL_refuses 415 = .ok (.invokestatic 104, 3) := by decide +kernel
theorem dL_refuses_418 : decode cL_refuses 418 = .ok (.ldc 25, 2) := by decide +kernel
theorem dL_refuses_420 : decode cL_refuses 420 = .ok (.if_icmp .ne 73, 3) := by decide +kernel
theorem dL_refuses_423 : decode cL_refuses 423 = .ok (.aload_n 0, 1) := by decide +kernel
theorem dL_refuses_424 : decode cL_refuses 424 = .ok (.iload 4, 2) := by decide +kernel
theorem dL_refuses_426 : decode cL_refuses 426 = .ok (.invokestatic 106, 3) := by decide +kernel
theorem dL_refuses_429 : decode cL_refuses 429 = .ok (.ldc 25, 2) := by decide +kernel
theorem dL_refuses_431 : decode cL_refuses 431 = .ok (.if_icmp .ne 62, 3) := by decide +kernel
theorem dL_refuses_434 : decode cL_refuses 434 = .ok (.aload_n 0, 1) := by decide +kernel
theorem dL_refuses_435 : decode cL_refuses 435 = .ok (.iload 4, 2) := by decide +kernel
theorem dL_refuses_437 : decode cL_refuses 437 = .ok (.invokestatic 108, 3) := by decide +kernel
theorem dL_refuses_440 : decode cL_refuses 440 = .ok (.ldc 25, 2) := by decide +kernel
theorem dL_refuses_442 : decode cL_refuses 442 = .ok (.if_icmp .ne 51, 3) := by decide +kernel
theorem dL_refuses_445 : decode cL_refuses 445 = .ok (.aload_n 0, 1) := by decide +kernel
theorem dL_refuses_446 : decode cL_refuses 446 = .ok (.iload 4, 2) := by decide +kernel
theorem dL_refuses_448 : decode cL_refuses 448 = .ok (.invokestatic 110, 3) := by decide +kernel
theorem dL_refuses_451 : decode cL_refuses 451 = .ok (.ldc 25, 2) := by decide +kernel
theorem dL_refuses_453 : decode cL_refuses 453 = .ok (.if_icmp .ne 40, 3) := by decide +kernel
theorem dL_refuses_456 : decode cL_refuses 456 = .ok (.aload_n 0, 1) := by decide +kernel
theorem dL_refuses_457 : decode cL_refuses 457 = .ok (.invokevirtual 112, 3) := by decide +kernel
theorem dL_refuses_460 : decode cL_refuses 460 = .ok (.bipush 8, 2) := by decide +kernel
theorem dL_refuses_462 : decode cL_refuses 462 = .ok (.if_icmp .ge 11, 3) := by decide +kernel
theorem dL_refuses_465 : decode cL_refuses 465 = .ok (.aload_n 1, 1) := by decide +kernel
theorem dL_refuses_466 : decode cL_refuses 466 = .ok (.iconst 0, 1) := by decide +kernel
theorem dL_refuses_467 : decode cL_refuses 467 = .ok (.iaload, 1) := by decide +kernel
theorem dL_refuses_468 : decode cL_refuses 468 = .ok (.bipush 40, 2) := by decide +kernel
theorem dL_refuses_470 : decode cL_refuses 470 = .ok (.if_icmp .lt 19, 3) := by decide +kernel
theorem dL_refuses_473 : decode cL_refuses 473 = .ok (.aload_n 0, 1) := by decide +kernel
theorem dL_refuses_474 : decode cL_refuses 474 = .ok (.iconst 0, 1) := by decide +kernel
theorem dL_refuses_475 : decode cL_refuses 475 = .ok (.iconst 0, 1) := by decide +kernel
theorem dL_refuses_476 : decode cL_refuses 476 = .ok (.iconst 1, 1) := by decide +kernel
theorem dL_refuses_477 : decode cL_refuses 477 = .ok (.iconst 1, 1) := by decide +kernel
theorem dL_refuses_478 : decode cL_refuses 478 = .ok (.iconst 1, 1) := by decide +kernel
theorem dL_refuses_479 : decode cL_refuses 479 = .ok (.iconst 5, 1) := by decide +kernel
theorem dL_refuses_480 : decode cL_refuses 480 = .ok (.iconst 5, 1) := by decide +kernel
theorem dL_refuses_481 : decode cL_refuses 481 = .ok (.invokestatic 68, 3) := by decide +kernel
theorem dL_refuses_484 : decode cL_refuses 484 = .ok (.ldc 18, 2) := by decide +kernel
theorem dL_refuses_486 : decode cL_refuses 486 = .ok (.if_icmp .ne 7, 3) := by decide +kernel
theorem dL_refuses_489 : decode cL_refuses 489 = .ok (.iconst 1, 1) := by decide +kernel
theorem dL_refuses_490 : decode cL_refuses 490 = .ok (.goto 4, 3) := by decide +kernel
theorem dL_refuses_493 : decode cL_refuses 493 = .ok (.iconst 0, 1) := by decide +kernel
theorem dL_refuses_494 : decode cL_refuses 494 = .ok (.istore 7, 2) := by decide +kernel
theorem dL_refuses_496 : decode cL_refuses 496 = .ok (.aload_n 1, 1) := by decide +kernel
theorem dL_refuses_497 : decode cL_refuses 497 = .ok (.iconst 0, 1) := by decide +kernel
theorem dL_refuses_498 : decode cL_refuses 498 = .ok (.iaload, 1) := by decide +kernel
theorem dL_refuses_499 : decode cL_refuses 499 = .ok (.ifCond .ne 7, 3) := by decide +kernel
theorem dL_refuses_502 : decode cL_refuses 502 = .ok (.iconst (-1), 1) := by decide +kernel
theorem dL_refuses_503 : decode cL_refuses 503 = .ok (.goto 10, 3) := by decide +kernel
theorem dL_refuses_506 : decode cL_refuses 506 = .ok (.iload_n 2, 1) := by decide +kernel
theorem dL_refuses_507 : decode cL_refuses 507 = .ok (.iconst 2, 1) := by decide +kernel
theorem dL_refuses_508 : decode cL_refuses 508 = .ok (.idiv, 1) := by decide +kernel
theorem dL_refuses_509 : decode cL_refuses 509 = .ok (.aload_n 1, 1) := by decide +kernel
theorem dL_refuses_510 : decode cL_refuses 510 = .ok (.iconst 0, 1) := by decide +kernel
theorem dL_refuses_511 : decode cL_refuses 511 = .ok (.iaload, 1) := by decide +kernel
theorem dL_refuses_512 : decode cL_refuses 512 = .ok (.irem, 1) := by decide +kernel
theorem dL_refuses_513 : decode cL_refuses 513 = .ok (.istore 8, 2) := by decide +kernel
theorem dL_refuses_515 : decode cL_refuses 515 = .ok (.iload 7, 2) := by decide +kernel
theorem dL_refuses_517 : decode cL_refuses 517 = .ok (.ifCond .eq 67, 3) := by decide +kernel
theorem dL_refuses_520 : decode cL_refuses 520 = .ok (.iload 8, 2) := by decide +kernel
theorem dL_refuses_522 : decode cL_refuses 522 = .ok (.ifCond .lt 62, 3) := by decide +kernel
theorem dL_refuses_525 : decode cL_refuses 525 = .ok (.aload_n 0, 1) := by decide +kernel
theorem dL_refuses_526 : decode cL_refuses 526 = .ok (.iload 8, 2) := by decide +kernel
theorem dL_refuses_528 : decode cL_refuses 528 = .ok (.invokestatic 95, 3) := by decide +kernel
theorem dL_refuses_531 : decode cL_refuses 531 = .ok (.ifCond .lt 53, 3) := by decide +kernel
theorem dL_refuses_534 : decode cL_refuses 534 = .ok (.aload_n 0, 1) := by decide +kernel
theorem dL_refuses_535 : decode cL_refuses 535 = .ok (.iload 8, 2) := by decide +kernel
theorem dL_refuses_537 : decode cL_refuses 537 = .ok (.iload 5, 2) := by decide +kernel
theorem dL_refuses_539 : decode cL_refuses 539 = .ok (.iconst 0, 1) := by decide +kernel
theorem dL_refuses_540 : decode cL_refuses 540 = .ok (.invokestatic 78, 3) := by decide +kernel
theorem dL_refuses_543 : decode cL_refuses 543 = .ok (.ldc 15, 2) := by decide +kernel
theorem dL_refuses_545 : decode cL_refuses 545 = .ok (.if_icmp .ne 36, 3) := by decide +kernel
theorem dL_refuses_548 : decode cL_refuses 548 = .ok (.aload_n 0, 1) := by decide +kernel
theorem dL_refuses_549 : decode cL_refuses 549 = .ok (.iload 8, 2) := by decide +kernel
theorem dL_refuses_551 : decode cL_refuses 551 = .ok (.iconst 0, 1) := by decide +kernel
theorem dL_refuses_552 : decode cL_refuses 552 = .ok (.iload 6, 2) := by decide +kernel
theorem dL_refuses_554 : decode cL_refuses 554 = .ok (.invokestatic 78, 3) := by decide +kernel
theorem dL_refuses_557 : decode cL_refuses 557 = .ok (.ldc 15, 2) := by decide +kernel
theorem dL_refuses_559 : decode cL_refuses 559 = .ok (.if_icmp .ne 22, 3) := by decide +kernel
theorem dL_refuses_562 : decode cL_refuses 562 = .ok (.aload_n 0, 1) := by decide +kernel
theorem dL_refuses_563 : decode cL_refuses 563 = .ok (.iload 8, 2) := by decide +kernel
theorem dL_refuses_565 : decode cL_refuses 565 = .ok (.bipush 8, 2) := by decide +kernel
theorem dL_refuses_567 : decode cL_refuses 567 = .ok (.bipush 6, 2) := by decide +kernel
theorem dL_refuses_569 : decode cL_refuses 569 = .ok (.invokestatic 78, 3) := by decide +kernel
theorem dL_refuses_572 : decode cL_refuses 572 = .ok (.ldc 15, 2) := by decide +kernel
theorem dL_refuses_574 : decode cL_refuses 574 = .ok (.if_icmp .ne 7, 3) := by decide +kernel
theorem dL_refuses_577 : decode cL_refuses 577 = .ok (.iconst 1, 1) := by decide +kernel
theorem dL_refuses_578 : decode cL_refuses 578 = .ok (.goto 4, 3) := by decide +kernel
theorem dL_refuses_581 : decode cL_refuses 581 = .ok (.iconst 0, 1) := by decide +kernel
theorem dL_refuses_582 : decode cL_refuses 582 = .ok (.istore 7, 2) := by decide +kernel
theorem dL_refuses_584 : decode cL_refuses 584 = .ok (.iload 7, 2) := by decide +kernel
theorem dL_refuses_586 : decode cL_refuses 586 = .ok (.ireturn, 1) := by decide +kernel
set_option maxRecDepth 20000 in
theorem ggL_act_L_opens : GoodIn wsL_act wsL_opens := goodIn_ca (goodIn_ca (goodIn_r _ [4, 5, 6, 7, 8, 9, 10, 11, 12, 13, 14, 15, 16, 17, 18, 19, 20, 21, 22, 23, 24, 25, 26, 27, 28, 29, 30, 31, 32, 33, 34, 35, 36, 37, 38, 39, 40, 41, 42, 43, 44, 45, 46, 47, 48, 49, 50, 51, 52, 53, 54, 55, 56, 57, 58, 59, 60, 61, 62, 63, 64, 65, 66, 67, 68, 69, 70, 71, 72, 73, 74, 75, 76, 77, 78, 79, 80, 81, 82, 83, 84, 85, 86, 87, 88, 89, 90, 91, 92, 93, 94, 95, 96, 97, 98, 99, 100, 101, 102, 103, 104, 105, 106, 107, 108, 109, 110, 111, 112, 113, 114, 115, 116, 117, 118, 119, 120, 121, 122, 123, 124, 125, 126, 127, 128, 129, 130, 131, 132, 133, 134, 135, 136, 270, 271, 272, 273, 274, 275, 276, 277, 278, 279, 280, 281, 282, 283, 284, 285, 286, 287, 288, 289, 290, 291, 292, 293, 294, 295, 296, 297, 298] (by decide +kernel) (by decide +kernel)) (goodIn_sub (fun _ h => List.mem_cons_of_mem _ (List.mem_append_left _ (List.mem_append_left _ (List.mem_append_right _ h)))) (by decide +kernel))) (goodIn_sub (fun _ h => List.mem_cons_of_mem _ (List.mem_append_left _ (List.mem_append_right _ h))) (by decide +kernel))
set_option maxRecDepth 20000 in
theorem gL_act_L_opens : GoodIn wsL_act (va_wsS RL 68 yL_opens wsL_opens) := goodIn_app (goodIn_of _ (by decide +kernel)) ggL_act_L_opens
set_option maxRecDepth 20000 in
theorem ggL_act_X3_windows : GoodIn wsL_act wsX3_windows := goodIn_r _ [140, 18, 35, 36, 37, 38, 39, 40, 270, 271, 272, 273, 274, 275, 276, 277, 297, 298] (by decide +kernel) (by decide +kernel)
set_option maxRecDepth 20000 in
theorem gL_act_X3_windows : GoodIn wsL_act (wsV RL 112 RX3 yX3_windows wsX3_windows) := goodIn_app (goodIn_of _ (by decide +kernel)) ggL_act_X3_windows
set_option maxRecDepth 20000 in
theorem ggL_act_L_closes : GoodIn wsL_act wsL_closes := goodIn_ca (goodIn_r _ [143, 144, 145, 146, 147, 148, 12, 149, 18, 27, 102, 150, 151, 152, 153, 154, 155, 156, 129, 130, 38, 131, 78, 132, 85, 86, 87, 88, 124, 125, 126, 127, 40, 128, 157, 158, 159, 22, 160, 68, 161, 105, 106, 107, 63, 64, 162, 163, 164, 165, 79, 80, 81, 82, 83, 84, 35, 36, 37, 39, 89, 90, 91, 92, 93, 94, 95, 96, 97, 61, 62, 65, 133, 134, 135, 136, 103, 98, 99, 100, 101, 104, 108, 109, 110, 111, 112, 113, 114, 115, 26, 116, 117, 118, 119, 69, 66, 120, 121, 122, 25, 123, 53, 52, 270, 271, 272, 273, 274, 275, 276, 277, 297, 298, 278, 279, 280, 281, 282, 283, 284, 285, 286, 287, 288, 289, 290, 291, 292, 293, 294, 295, 296] (by decide +kernel) (by decide +kernel)) (goodIn_sub (fun _ h => List.mem_cons_of_mem _ (List.mem_append_right _ h)) (by decide +kernel))
set_option maxRecDepth 20000 in
theorem gL_act_L_closes : GoodIn wsL_act (va_wsS RL 74 yL_closes wsL_closes) := goodIn_app (goodIn_of _ (by decide +kernel)) ggL_act_L_closes
set_option maxRecDepth 20000 in
theorem ggL_act_L_moves : GoodIn wsL_act wsL_moves := goodIn_ca (goodIn_ca (goodIn_r _ [168, 144, 5, 145, 7, 169, 170, 171, 12, 172, 14, 15, 173, 174, 175, 176, 150, 151, 152, 153, 154, 155, 27, 156, 129, 130, 38, 131, 78, 132, 85, 86, 87, 88, 29, 30, 31, 32, 33, 34, 162, 163, 164, 165, 79, 80, 81, 82, 18, 83, 84, 35, 36, 37, 39, 40, 89, 90, 91, 92, 93, 94, 95, 96, 22, 97, 61, 63, 62, 64, 65, 133, 134, 135, 136, 103, 98, 99, 100, 101, 102, 104, 105, 106, 107, 108, 109, 110, 111, 112, 113, 114, 115, 26, 116, 117, 118, 119, 68, 69, 66, 120, 121, 122, 25, 123, 53, 52, 278, 279, 280, 281, 282, 283, 284, 285, 286, 287, 270, 271, 272, 273, 274, 275, 276, 277, 297, 298, 288, 289, 290, 291, 292, 293, 294, 295, 296] (by decide +kernel) (by decide +kernel)) (goodIn_sub (fun _ h => List.mem_cons_of_mem _ (List.mem_append_left _ (List.mem_append_left _ (List.mem_append_right _ h)))) (by decide +kernel))) (goodIn_sub (fun _ h => List.mem_cons_of_mem _ (List.mem_append_right _ h)) (by decide +kernel))
set_option maxRecDepth 20000 in
theorem gL_act_L_moves : GoodIn wsL_act (va_wsS RL 78 yL_moves wsL_moves) := goodIn_app (goodIn_of _ (by decide +kernel)) ggL_act_L_moves
set_option maxRecDepth 20000 in
theorem ggL_act_L_lays : GoodIn wsL_act wsL_lays := goodIn_ca (goodIn_r _ [179, 144, 145, 180, 181, 182, 12, 183, 18, 150, 151, 152, 153, 154, 155, 27, 156, 129, 130, 38, 131, 78, 132, 85, 86, 87, 88, 124, 125, 126, 127, 40, 128, 74, 75, 76, 77, 184, 185, 186, 187, 162, 163, 164, 165, 79, 80, 81, 82, 83, 84, 35, 36, 37, 39, 89, 90, 91, 92, 93, 94, 95, 96, 22, 97, 61, 63, 62, 64, 65, 133, 134, 135, 136, 103, 98, 99, 100, 101, 102, 104, 105, 106, 107, 108, 109, 110, 111, 112, 113, 114, 115, 26, 116, 117, 118, 119, 68, 69, 66, 120, 121, 122, 25, 123, 53, 52, 270, 271, 272, 273, 274, 275, 276, 277, 297, 298, 278, 279, 280, 281, 282, 283, 284, 285, 286, 287, 288, 289, 290, 291, 292, 293, 294, 295, 296] (by decide +kernel) (by decide +kernel)) (goodIn_sub (fun _ h => List.mem_cons_of_mem _ (List.mem_append_right _ h)) (by decide +kernel))
set_option maxRecDepth 20000 in
theorem gL_act_L_lays : GoodIn wsL_act (va_wsS RL 82 yL_lays wsL_lays) := goodIn_app (goodIn_of _ (by decide +kernel)) ggL_act_L_lays
set_option maxRecDepth 20000 in
theorem ggL_act_L_inputs : GoodIn wsL_act wsL_inputs := goodIn_ca (goodIn_r _ [190, 144, 145, 191, 192, 193, 12, 194, 103, 195, 26, 196, 197, 198, 199, 154, 155, 84, 29, 30, 31, 200, 201, 202, 25, 203, 47, 53, 55, 204, 205, 206, 207, 54, 208, 209, 210, 28, 278, 279, 280, 281, 282, 283, 284, 285, 286, 287, 270, 271, 272, 273, 274, 275, 276, 277, 288, 289, 290, 291, 292, 293, 294, 295, 296] (by decide +kernel) (by decide +kernel)) (goodIn_sub (fun _ h => List.mem_cons_of_mem _ (List.mem_append_right _ h)) (by decide +kernel))
set_option maxRecDepth 20000 in
theorem gL_act_L_inputs : GoodIn wsL_act (va_wsS RL 89 yL_inputs wsL_inputs) := goodIn_app (goodIn_of _ (by decide +kernel)) ggL_act_L_inputs
set_option maxRecDepth 20000 in
theorem ggL_act_X3_show : GoodIn wsL_act wsX3_show := goodIn_r _ [214, 215, 216, 217, 12, 218, 84, 219, 220, 208, 209, 210, 28, 221, 222, 223, 224, 225, 226, 227, 228, 270, 271, 272, 273, 274, 275, 276, 277, 278, 279, 280, 281, 282, 283, 284, 285, 286, 287] (by decide +kernel) (by decide +kernel)
set_option maxRecDepth 20000 in
theorem gL_act_X3_show : GoodIn wsL_act (wsV RL 116 RX3 yX3_show wsX3_show) := goodIn_app (goodIn_of _ (by decide +kernel)) ggL_act_X3_show
set_option maxRecDepth 20000 in
theorem ggL_act_L_passes : GoodIn wsL_act wsL_passes := goodIn_ca (goodIn_ca (goodIn_r _ [231, 5, 6, 7, 8, 232, 233, 234, 12, 235, 14, 15, 16, 17, 26, 236, 237, 238, 239, 240, 195, 241, 242, 224, 243, 244, 245, 246, 27, 83, 103, 35, 36, 37, 38, 39, 40, 85, 86, 87, 88, 78, 247, 248, 249, 25, 250, 53, 52, 47, 49, 204, 205, 206, 207, 54, 55, 251, 121, 122, 123, 252, 253, 254, 255, 256, 257, 258, 259, 260, 261, 51, 262, 263, 264, 265, 266, 267, 268, 269, 50, 270, 271, 272, 273, 274, 275, 276, 277, 278, 279, 280, 281, 282, 283, 284, 285, 286, 287, 288, 289, 290, 291, 292, 293, 294, 295, 296, 297, 298] (by decide +kernel) (by decide +kernel)) (goodIn_sub (fun _ h => List.mem_cons_of_mem _ (List.mem_append_left _ (List.mem_append_left _ (List.mem_append_right _ h)))) (by decide +kernel))) (goodIn_sub (fun _ h => List.mem_cons_of_mem _ (List.mem_append_left _ (List.mem_append_right _ h))) (by decide +kernel))
set_option maxRecDepth 20000 in
theorem gL_act_L_passes : GoodIn wsL_act (va_wsS RL 86 yL_passes wsL_passes) := goodIn_app (goodIn_of _ (by decide +kernel)) ggL_act_L_passes
theorem dL_act_0 : decode cL_act 0 = .ok (.iload_n 2, 1) := by decide +kernel
theorem dL_act_1 : decode cL_act 1 = .ok (.bipush 16, 2) := by decide +kernel
theorem dL_act_3 : decode cL_act 3 = .ok (.idiv, 1) := by decide +kernel
theorem dL_act_4 : decode cL_act 4 = .ok (.istore 4, 2) := by decide +kernel
theorem dL_act_6 : decode cL_act 6 = .ok (.aload_n 1, 1) := by decide +kernel
theorem dL_act_7 : decode cL_act 7 = .ok (.iconst 0, 1) := by decide +kernel
theorem dL_act_8 : decode cL_act 8 = .ok (.iaload, 1) := by decide +kernel
theorem dL_act_9 : decode cL_act 9 = .ok (.ifCond .ne 7, 3) := by decide +kernel
theorem dL_act_12 : decode cL_act 12 = .ok (.iconst 0, 1) := by decide +kernel
theorem dL_act_13 : decode cL_act 13 = .ok (.goto 9, 3) := by decide +kernel
theorem dL_act_16 : decode cL_act 16 = .ok (.iload 4, 2) := by decide +kernel
theorem dL_act_18 : decode cL_act 18 = .ok (.aload_n 1, 1) := by decide +kernel
theorem dL_act_19 : decode cL_act 19 = .ok (.iconst 0, 1) := by decide +kernel
theorem dL_act_20 : decode cL_act 20 = .ok (.iaload, 1) := by decide +kernel
theorem dL_act_21 : decode cL_act 21 = .ok (.irem, 1) := by decide +kernel
theorem dL_act_22 : decode cL_act 22 = .ok (.istore 5, 2) := by decide +kernel
theorem dL_act_24 : decode cL_act 24 = .ok (.iload_n 2, 1) := by decide +kernel
theorem dL_act_25 : decode cL_act 25 = .ok (.bipush 16, 2) := by decide +kernel
theorem dL_act_27 : decode cL_act 27 = .ok (.irem, 1) := by decide +kernel
theorem dL_act_28 : decode cL_act 28 = .ok (.tableswitch 246 0 11 #[64, 64, 64, 64, 153, 177, 177, 201, 201, 223, 223, 241], 64) := by decide +kernel
theorem dL_act_92 : decode cL_act 92 = .ok (.iload 4, 2) := by decide +kernel
theorem dL_act_94 : decode cL_act 94 = .ok (.bipush 8, 2) := by decide +kernel
theorem dL_act_96 : decode cL_act 96 = .ok (.irem, 1) := by decide +kernel
theorem dL_act_97 : decode cL_act 97 = .ok (.istore 6, 2) := by decide +kernel
theorem dL_act_99 : decode cL_act 99 = .ok (.iload 4, 2) := by decide +kernel
theorem dL_act_101 : decode cL_act 101 = .ok (.bipush 8, 2) := by decide +kernel
theorem dL_act_103 : decode cL_act 103 = .ok (.idiv, 1) := by decide +kernel
theorem dL_act_104 : decode cL_act 104 = .ok (.bipush 6, 2) := by decide +kernel
theorem dL_act_106 : decode cL_act 106 = .ok (.irem, 1) := by decide +kernel
theorem dL_act_107 : decode cL_act 107 = .ok (.istore 7, 2) := by decide +kernel
theorem dL_act_109 : decode cL_act 109 = .ok (.aload_n 0, 1) := by decide +kernel
theorem dL_act_110 : decode cL_act 110 = .ok (.iload 6, 2) := by decide +kernel
theorem dL_act_112 : decode cL_act 112 = .ok (.iload 7, 2) := by decide +kernel
theorem dL_act_114 : decode cL_act 114 = .ok (.iconst 1, 1) := by decide +kernel
theorem dL_act_115 : decode cL_act 115 = .ok (.iload 4, 2) := by decide +kernel
theorem dL_act_117 : decode cL_act 117 = .ok (.bipush 48, 2) := by decide +kernel
theorem dL_act_119 : decode cL_act 119 = .ok (.idiv, 1) := by decide +kernel
theorem dL_act_120 : decode cL_act 120 = .ok (.bipush 8, 2) := by decide +kernel
theorem dL_act_122 : decode cL_act 122 = .ok (.iload 6, 2) := by decide +kernel
theorem dL_act_124 : decode cL_act 124 = .ok (.isub, 1) := by decide +kernel
theorem dL_act_125 : decode cL_act 125 = .ok (.irem, 1) := by decide +kernel
theorem dL_act_126 : decode cL_act 126 = .ok (.iadd, 1) := by decide +kernel
theorem dL_act_127 : decode cL_act 127 = .ok (.iconst 1, 1) := by decide +kernel
theorem dL_act_128 : decode cL_act 128 = .ok (.iload 4, 2) := by decide +kernel
theorem dL_act_130 : decode cL_act 130 = .ok (.sipush 384, 3) := by decide +kernel
theorem dL_act_133 : decode cL_act 133 = .ok (.idiv, 1) := by decide +kernel
theorem dL_act_134 : decode cL_act 134 = .ok (.bipush 6, 2) := by decide +kernel
theorem dL_act_136 : decode cL_act 136 = .ok (.iload 7, 2) := by decide +kernel
theorem dL_act_138 : decode cL_act 138 = .ok (.isub, 1) := by decide +kernel
theorem dL_act_139 : decode cL_act 139 = .ok (.irem, 1) := by decide +kernel
theorem dL_act_140 : decode cL_act 140 = .ok (.iadd, 1) := by decide +kernel
theorem dL_act_141 : decode cL_act 141 = .ok (.iload 4, 2) := by decide +kernel
theorem dL_act_143 : decode cL_act 143 = .ok (.sipush 2304, 3) := by decide +kernel
theorem dL_act_146 : decode cL_act 146 = .ok (.idiv, 1) := by decide +kernel
theorem dL_act_147 : decode cL_act 147 = .ok (.iconst 3, 1) := by decide +kernel
theorem dL_act_148 : decode cL_act 148 = .ok (.irem, 1) := by decide +kernel
theorem dL_act_149 : decode cL_act 149 = .ok (.ifCond .ne 7, 3) := by decide +kernel
theorem dL_act_152 : decode cL_act 152 = .ok (.iconst 1, 1) := by decide +kernel
theorem dL_act_153 : decode cL_act 153 = .ok (.goto 4, 3) := by decide +kernel
theorem dL_act_156 : decode cL_act 156 = .ok (.iconst 0, 1) := by decide +kernel
theorem dL_act_157 : decode cL_act 157 = .ok (.iconst 1, 1) := by decide +kernel
theorem dL_act_158 : decode cL_act 158 = .ok (.iload 4, 2) := by decide +kernel
theorem dL_act_160 : decode cL_act 160 = .ok (.bipush 7, 2) := by decide +kernel
theorem dL_act_162 : decode cL_act 162 = .ok (.idiv, 1) := by decide +kernel
theorem dL_act_163 : decode cL_act 163 = .ok (.bipush 30, 2) := by decide +kernel
theorem dL_act_165 : decode cL_act 165 = .ok (.irem, 1) := by decide +kernel
theorem dL_act_166 : decode cL_act 166 = .ok (.iadd, 1) := by decide +kernel
theorem dL_act_167 : decode cL_act 167 = .ok (.iconst 1, 1) := by decide +kernel
theorem dL_act_168 : decode cL_act 168 = .ok (.iload 4, 2) := by decide +kernel
theorem dL_act_170 : decode cL_act 170 = .ok (.bipush 11, 2) := by decide +kernel
theorem dL_act_172 : decode cL_act 172 = .ok (.idiv, 1) := by decide +kernel
theorem dL_act_173 : decode cL_act 173 = .ok (.bipush 8, 2) := by decide +kernel
theorem dL_act_175 : decode cL_act 175 = .ok (.irem, 1) := by decide +kernel
theorem dL_act_176 : decode cL_act 176 = .ok (.iadd, 1) := by decide +kernel
theorem dL_act_177 : decode cL_act 177 = .ok (.invokestatic 68, 3) := by decide +kernel
theorem dL_act_180 : decode cL_act 180 = .ok (.ireturn, 1) := by decide +kernel
theorem dL_act_181 : decode cL_act 181 = .ok (.iload 4, 2) := by decide +kernel
theorem dL_act_183 : decode cL_act 183 = .ok (.bipush 40, 2) := by decide +kernel
theorem dL_act_185 : decode cL_act 185 = .ok (.idiv, 1) := by decide +kernel
theorem dL_act_186 : decode cL_act 186 = .ok (.iconst 2, 1) := by decide +kernel
theorem dL_act_187 : decode cL_act 187 = .ok (.irem, 1) := by decide +kernel
theorem dL_act_188 : decode cL_act 188 = .ok (.ifCond .ne 10, 3) := by decide +kernel
theorem dL_act_191 : decode cL_act 191 = .ok (.aload_n 0, 1) := by decide +kernel
theorem dL_act_192 : decode cL_act 192 = .ok (.invokevirtual 112, 3) := by decide +kernel
theorem dL_act_195 : decode cL_act 195 = .ok (.goto 9, 3) := by decide +kernel
theorem dL_act_198 : decode cL_act 198 = .ok (.aload_n 0, 1) := by decide +kernel
theorem dL_act_199 : decode cL_act 199 = .ok (.iload 5, 2) := by decide +kernel
theorem dL_act_201 : decode cL_act 201 = .ok (.invokestatic 74, 3) := by decide +kernel
theorem dL_act_204 : decode cL_act 204 = .ok (.ireturn, 1) := by decide +kernel
theorem dL_act_205 : decode cL_act 205 = .ok (.aload_n 0, 1) := by decide +kernel
theorem dL_act_206 : decode cL_act 206 = .ok (.iload 5, 2) := by decide +kernel
theorem dL_act_208 : decode cL_act 208 = .ok (.iload 4, 2) := by decide +kernel
theorem dL_act_210 : decode cL_act 210 = .ok (.bipush 40, 2) := by decide +kernel
theorem dL_act_212 : decode cL_act 212 = .ok (.idiv, 1) := by decide +kernel
theorem dL_act_213 : decode cL_act 213 = .ok (.bipush 8, 2) := by decide +kernel
theorem dL_act_215 : decode cL_act 215 = .ok (.irem, 1) := by decide +kernel
theorem dL_act_216 : decode cL_act 216 = .ok (.iload 4, 2) := by decide +kernel
theorem dL_act_218 : decode cL_act 218 = .ok (.sipush 320, 3) := by decide +kernel
theorem dL_act_221 : decode cL_act 221 = .ok (.idiv, 1) := by decide +kernel
theorem dL_act_222 : decode cL_act 222 = .ok (.bipush 6, 2) := by decide +kernel
theorem dL_act_224 : decode cL_act 224 = .ok (.irem, 1) := by decide +kernel
theorem dL_act_225 : decode cL_act 225 = .ok (.invokestatic 78, 3) := by decide +kernel
theorem dL_act_228 : decode cL_act 228 = .ok (.ireturn, 1) := by decide +kernel
theorem dL_act_229 : decode cL_act 229 = .ok (.aload_n 0, 1) := by decide +kernel
theorem dL_act_230 : decode cL_act 230 = .ok (.iload 5, 2) := by decide +kernel
theorem dL_act_232 : decode cL_act 232 = .ok (.iload 4, 2) := by decide +kernel
theorem dL_act_234 : decode cL_act 234 = .ok (.bipush 40, 2) := by decide +kernel
theorem dL_act_236 : decode cL_act 236 = .ok (.idiv, 1) := by decide +kernel
theorem dL_act_237 : decode cL_act 237 = .ok (.iconst 2, 1) := by decide +kernel
theorem dL_act_238 : decode cL_act 238 = .ok (.irem, 1) := by decide +kernel
theorem dL_act_239 : decode cL_act 239 = .ok (.ifCond .ne 7, 3) := by decide +kernel
theorem dL_act_242 : decode cL_act 242 = .ok (.iconst 1, 1) := by decide +kernel
theorem dL_act_243 : decode cL_act 243 = .ok (.goto 4, 3) := by decide +kernel
theorem dL_act_246 : decode cL_act 246 = .ok (.iconst 0, 1) := by decide +kernel
theorem dL_act_247 : decode cL_act 247 = .ok (.invokestatic 82, 3) := by decide +kernel
theorem dL_act_250 : decode cL_act 250 = .ok (.ireturn, 1) := by decide +kernel
theorem dL_act_251 : decode cL_act 251 = .ok (.aload_n 0, 1) := by decide +kernel
theorem dL_act_252 : decode cL_act 252 = .ok (.iload 4, 2) := by decide +kernel
theorem dL_act_254 : decode cL_act 254 = .ok (.bipush 8, 2) := by decide +kernel
theorem dL_act_256 : decode cL_act 256 = .ok (.irem, 1) := by decide +kernel
theorem dL_act_257 : decode cL_act 257 = .ok (.iload 4, 2) := by decide +kernel
theorem dL_act_259 : decode cL_act 259 = .ok (.bipush 8, 2) := by decide +kernel
theorem dL_act_261 : decode cL_act 261 = .ok (.idiv, 1) := by decide +kernel
theorem dL_act_262 : decode cL_act 262 = .ok (.bipush 6, 2) := by decide +kernel
theorem dL_act_264 : decode cL_act 264 = .ok (.irem, 1) := by decide +kernel
theorem dL_act_265 : decode cL_act 265 = .ok (.invokestatic 89, 3) := by decide +kernel
theorem dL_act_268 : decode cL_act 268 = .ok (.ireturn, 1) := by decide +kernel
theorem dL_act_269 : decode cL_act 269 = .ok (.aload_n 0, 1) := by decide +kernel
theorem dL_act_270 : decode cL_act 270 = .ok (.invokevirtual 116, 3) := by decide +kernel
theorem dL_act_273 : decode cL_act 273 = .ok (.ireturn, 1) := by decide +kernel
theorem dL_act_274 : decode cL_act 274 = .ok (.iconst 1, 1) := by decide +kernel
theorem dL_act_275 : decode cL_act 275 = .ok (.iload 4, 2) := by decide +kernel
theorem dL_act_277 : decode cL_act 277 = .ok (.iload 4, 2) := by decide +kernel
theorem dL_act_279 : decode cL_act 279 = .ok (.iconst 3, 1) := by decide +kernel
theorem dL_act_280 : decode cL_act 280 = .ok (.irem, 1) := by decide +kernel
theorem dL_act_281 : decode cL_act 281 = .ok (.ifCond .ne 8, 3) := by decide +kernel
theorem dL_act_284 : decode cL_act 284 = .ok (.bipush 40, 2) := by decide +kernel
theorem dL_act_286 : decode cL_act 286 = .ok (.goto 5, 3) := by decide +kernel
theorem dL_act_289 : decode cL_act 289 = .ok (.bipush 6, 2) := by decide +kernel
theorem dL_act_291 : decode cL_act 291 = .ok (.irem, 1) := by decide +kernel
theorem dL_act_292 : decode cL_act 292 = .ok (.iadd, 1) := by decide +kernel
theorem dL_act_293 : decode cL_act 293 = .ok (.istore 8, 2) := by decide +kernel
theorem dL_act_295 : decode cL_act 295 = .ok (.iconst 1, 1) := by decide +kernel
theorem dL_act_296 : decode cL_act 296 = .ok (.istore 9, 2) := by decide +kernel
theorem dL_act_298 : decode cL_act 298 = .ok (.iload 9, 2) := by decide +kernel
theorem dL_act_300 : decode cL_act 300 = .ok (.iload 8, 2) := by decide +kernel
theorem dL_act_302 : decode cL_act 302 = .ok (.if_icmp .ge 19, 3) := by decide +kernel
theorem dL_act_305 : decode cL_act 305 = .ok (.iload_n 3, 1) := by decide +kernel
theorem dL_act_306 : decode cL_act 306 = .ok (.ifCond .eq 15, 3) := by decide +kernel
theorem dL_act_309 : decode cL_act 309 = .ok (.aload_n 0, 1) := by decide +kernel
theorem dL_act_310 : decode cL_act 310 = .ok (.iconst 1, 1) := by decide +kernel
theorem dL_act_311 : decode cL_act 311 = .ok (.invokestatic 86, 3) := by decide +kernel
theorem dL_act_314 : decode cL_act 314 = .ok (.pop, 1) := by decide +kernel
theorem dL_act_315 : decode cL_act 315 = .ok (.iinc 9 1, 3) := by decide +kernel
theorem dL_act_318 : decode cL_act 318 = .ok (.goto (-20), 3) := by decide +kernel
theorem dL_act_321 : decode cL_act 321 = .ok (.aload_n 0, 1) := by decide +kernel
theorem dL_act_322 : decode cL_act 322 = .ok (.iload_n 3, 1) := by decide +kernel
theorem dL_act_323 : decode cL_act 323 = .ok (.ifCond .eq 7, 3) := by decide +kernel
theorem dL_act_326 : decode cL_act 326 = .ok (.iconst 1, 1) := by decide +kernel
theorem dL_act_327 : decode cL_act 327 = .ok (.goto 5, 3) := by decide +kernel
theorem dL_act_330 : decode cL_act 330 = .ok (.iload 8, 2) := by decide +kernel
theorem dL_act_332 : decode cL_act 332 = .ok (.invokestatic 86, 3) := by decide +kernel
theorem dL_act_335 : decode cL_act 335 = .ok (.ireturn, 1) := by decide +kernel
