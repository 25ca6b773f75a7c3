theorem wsL_law_x0 : ∀ w ∈ (vx_atS RX3 54 "java/lang/IllegalArgumentException" ["java/lang/RuntimeException", "java/lang/Exception"]).filter goodWord, w ∈ lw_tbl := by decide +kernel
theorem wsL_law_x1 : ∀ w ∈ (vx_atS RX3 67 "java/lang/IllegalStateException" ["java/lang/RuntimeException", "java/lang/Exception"]).filter goodWord, w ∈ lw_tbl := by decide +kernel
theorem wsL_law_x2 : ∀ w ∈ (vx_atS RX3 183 "java/lang/IndexOutOfBoundsException" ["java/lang/RuntimeException", "java/lang/Exception"]).filter goodWord, w ∈ lw_tbl := by decide +kernel
theorem wsL_law_in : ∀ w ∈ wsL_law, w ∈ lw_tbl := fun w h => (List.mem_append.mp h).elim (fun h => (List.mem_append.mp h).elim (fun h => (List.mem_append.mp h).elim (fun h => wsL_law_in0 w h) (fun h => wsL_law_x0 w h)) (fun h => wsL_law_x1 w h)) (fun h => wsL_law_x2 w h)
theorem inlX0 : ∀ w ∈ wsX00, w ∈ wsL_law := fun _ h => List.mem_append_left _ (List.mem_append_left _ (List.mem_append_left _ (List.mem_append_left _ (List.mem_append_right _ h))))
theorem inX0 : ∀ w ∈ wsX00, w ∈ lw_tbl := fun w h => wsL_law_in w (inlX0 w h)
theorem inlX1 : ∀ w ∈ wsX10, w ∈ wsL_law := fun _ h => List.mem_append_left _ (List.mem_append_left _ (List.mem_append_left _ (List.mem_append_left _ (List.mem_append_left _ (List.mem_append_right _ h)))))
theorem inX1 : ∀ w ∈ wsX10, w ∈ lw_tbl := fun w h => wsL_law_in w (inlX1 w h)
theorem inlX2 : ∀ w ∈ wsX20, w ∈ wsL_law := fun _ h => List.mem_append_left _ (List.mem_append_left _ (List.mem_append_left _ (List.mem_append_left _ (List.mem_append_left _ (List.mem_append_left _ (List.mem_append_right _ h))))))
theorem inX2 : ∀ w ∈ wsX20, w ∈ lw_tbl := fun w h => wsL_law_in w (inlX2 w h)
theorem inlX3 : ∀ w ∈ wsX30, w ∈ wsL_law := fun _ h => List.mem_append_left _ (List.mem_append_left _ (List.mem_append_left _ (List.mem_append_left _ (List.mem_append_left _ (List.mem_append_left _ (List.mem_append_left _ (List.mem_append_right _ h)))))))
theorem inX3 : ∀ w ∈ wsX30, w ∈ lw_tbl := fun w h => wsL_law_in w (inlX3 w h)
theorem inX4 : ∀ w ∈ wsX40, w ∈ lw_tbl := by decide +kernel
theorem inJ0 : ∀ w ∈ wsJ00, w ∈ lw_tbl := by decide +kernel
set_option maxRecDepth 20000 in
theorem ggL_opens_X3_open : GoodIn wsL_opens wsX3_open := goodIn_ca (goodIn_ca (goodIn_r _ [9, 10, 11, 12, 13, 14, 15, 16, 17, 18, 19, 20, 21, 22, 23, 24, 25, 26, 8, 27, 28, 29, 30, 31, 32, 33, 34, 35, 36, 37, 38, 39, 40, 41, 42, 43, 44, 45, 46, 47, 48, 49, 50, 51, 52, 53, 54, 55, 56, 57, 58, 59, 60, 61, 62, 63, 64, 65, 66, 67, 68, 69, 70, 71, 72, 73, 74, 75, 76, 77, 78, 79, 80, 81, 82, 83, 84, 85, 86, 87, 88, 89, 90, 91, 92, 93, 94, 95, 96, 97, 98, 99, 100, 101, 102, 103, 104, 105, 106, 107, 108, 109, 110, 111, 112, 113, 114, 115, 116, 117, 118, 119, 120, 121, 122, 123, 124, 125, 126, 127, 128, 129, 130, 131, 132, 133, 134, 135, 136, 137, 138, 139, 140, 141, 142, 143, 144, 145, 146, 147, 148, 149, 150, 151, 152, 153, 154, 155, 156, 157, 158, 159, 160, 161] (by decide +kernel) (by decide +kernel)) (goodIn_sub (fun _ h => List.mem_cons_of_mem _ (List.mem_append_left _ (List.mem_append_right _ h))) (by decide +kernel))) (goodIn_sub (fun _ h => List.mem_cons_of_mem _ (List.mem_append_right _ h)) (by decide +kernel))
set_option maxRecDepth 20000 in
theorem gL_opens_X3_open : GoodIn wsL_opens (wsV RL 7 RX3 yX3_open wsX3_open) := goodIn_app (goodIn_of _ (by decide +kernel)) ggL_opens_X3_open
theorem dL_opens_0 : decode cL_opens 0 = .ok (.aload_n 0, 1) := by decide +kernel
theorem dL_opens_1 : decode cL_opens 1 = .ok (.iload_n 1, 1) := by decide +kernel
theorem dL_opens_2 : decode cL_opens 2 = .ok (.iload_n 2, 1) := by decide +kernel
theorem dL_opens_3 : decode cL_opens 3 = .ok (.iload_n 3, 1) := by decide +kernel
theorem dL_opens_4 : decode cL_opens 4 = .ok (.iload 4, 2) := by decide +kernel
theorem dL_opens_6 : decode cL_opens 6 = .ok (.iload 5, 2) := by decide +kernel
theorem dL_opens_8 : decode cL_opens 8 = .ok (.iload 6, 2) := by decide +kernel
theorem dL_opens_10 : decode cL_opens 10 = .ok (.iload 7, 2) := by decide +kernel
theorem dL_opens_12 : decode cL_opens 12 = .ok (.invokevirtual 7, 3) := by decide +kernel
theorem dL_opens_15 : decode cL_opens 15 = .ok (.ireturn, 1) := by decide +kernel
theorem dL_opens_16 : decode cL_opens 16 = .ok (.astore 8, 2) := by decide +kernel
theorem dL_opens_18 : decode cL_opens 18 = .ok (.ldc 15, 2) := by decide +kernel
theorem dL_opens_20 : decode cL_opens 20 = .ok (.ireturn, 1) := by decide +kernel
theorem dL_opens_21 : decode cL_opens 21 = .ok (.astore 8, 2) := by decide +kernel
theorem dL_opens_23 : decode cL_opens 23 = .ok (.ldc 18, 2) := by decide +kernel
theorem dL_opens_25 : decode cL_opens 25 = .ok (.ireturn, 1) := by decide +kernel
set_option maxRecDepth 20000 in
theorem ggL_closes_X3_close : GoodIn wsL_closes wsX3_close := goodIn_ca (goodIn_r _ [7, 8, 9, 10, 11, 12, 13, 6, 14, 15, 16, 17, 18, 19, 20, 21, 22, 23, 24, 25, 26, 27, 28, 29, 30, 31, 32, 33, 34, 35, 36, 37, 38, 39, 40, 41, 42, 43, 44, 45, 46, 47, 48, 49, 50, 51, 52, 53, 54, 55, 56, 57, 58, 59, 60, 61, 62, 63, 64, 65, 66, 67, 68, 69, 70, 71, 72, 73, 74, 75, 76, 77, 78, 79, 80, 81, 82, 83, 84, 85, 86, 87, 88, 89, 90, 91, 92, 93, 94, 95, 96, 97, 98, 99, 100, 101, 102, 103, 104, 105, 106, 107, 108, 109, 110, 111, 112, 113, 114, 115, 116, 117, 118, 119, 120, 121, 122, 123, 124, 125, 126, 127, 128, 129, 130, 131, 132] (by decide +kernel) (by decide +kernel)) (goodIn_sub (fun _ h => List.mem_cons_of_mem _ (List.mem_append_right _ h)) (by decide +kernel))
set_option maxRecDepth 20000 in
theorem gL_closes_X3_close : GoodIn wsL_closes (wsV RL 19 RX3 yX3_close wsX3_close) := goodIn_app (goodIn_of _ (by decide +kernel)) ggL_closes_X3_close
theorem dL_closes_0 : decode cL_closes 0 = .ok (.aload_n 0, 1) := by decide +kernel
theorem dL_closes_1 : decode cL_closes 1 = .ok (.iload_n 1, 1) := by decide +kernel
theorem dL_closes_2 : decode cL_closes 2 = .ok (.invokevirtual 19, 3) := by decide +kernel
theorem dL_closes_5 : decode cL_closes 5 = .ok (.ireturn, 1) := by decide +kernel
theorem dL_closes_6 : decode cL_closes 6 = .ok (.astore_n 2, 1) := by decide +kernel
theorem dL_closes_7 : decode cL_closes 7 = .ok (.ldc 25, 2) := by decide +kernel
theorem dL_closes_9 : decode cL_closes 9 = .ok (.ireturn, 1) := by decide +kernel
set_option maxRecDepth 20000 in
theorem ggL_moves_X3_move : GoodIn wsL_moves wsX3_move := goodIn_ca (goodIn_ca (goodIn_r _ [9, 10, 11, 12, 13, 14, 15, 16, 17, 18, 8, 19, 20, 21, 22, 23, 24, 25, 26, 27, 28, 29, 30, 31, 32, 33, 34, 35, 36, 37, 38, 39, 40, 41, 42, 43, 44, 45, 46, 47, 48, 49, 50, 51, 52, 53, 54, 55, 56, 57, 58, 59, 60, 61, 62, 63, 64, 65, 66, 67, 68, 69, 70, 71, 72, 73, 74, 75, 76, 77, 78, 79, 80, 81, 82, 83, 84, 85, 86, 87, 88, 89, 90, 91, 92, 93, 94, 95, 96, 97, 98, 99, 100, 101, 102, 103, 104, 105, 106, 107, 108, 109, 110, 111, 112, 113, 114, 115, 116, 117, 118, 119, 120, 121, 122, 123, 124, 125, 126, 127, 128, 129, 130, 131, 132, 133, 134, 135, 136] (by decide +kernel) (by decide +kernel)) (goodIn_sub (fun _ h => List.mem_cons_of_mem _ (List.mem_append_left _ (List.mem_append_right _ h))) (by decide +kernel))) (goodIn_sub (fun _ h => List.mem_cons_of_mem _ (List.mem_append_right _ h)) (by decide +kernel))
set_option maxRecDepth 20000 in
theorem gL_moves_X3_move : GoodIn wsL_moves (wsV RL 26 RX3 yX3_move wsX3_move) := goodIn_app (goodIn_of _ (by decide +kernel)) ggL_moves_X3_move
theorem dL_moves_0 : decode cL_moves 0 = .ok (.aload_n 0, 1) := by decide +kernel
theorem dL_moves_1 : decode cL_moves 1 = .ok (.iload_n 1, 1) := by decide +kernel
theorem dL_moves_2 : decode cL_moves 2 = .ok (.iload_n 2, 1) := by decide +kernel
theorem dL_moves_3 : decode cL_moves 3 = .ok (.iload_n 3, 1) := by decide +kernel
theorem dL_moves_4 : decode cL_moves 4 = .ok (.invokevirtual 26, 3) := by decide +kernel
theorem dL_moves_7 : decode cL_moves 7 = .ok (.iconst 0, 1) := by decide +kernel
theorem dL_moves_8 : decode cL_moves 8 = .ok (.ireturn, 1) := by decide +kernel
theorem dL_moves_9 : decode cL_moves 9 = .ok (.astore 4, 2) := by decide +kernel
theorem dL_moves_11 : decode cL_moves 11 = .ok (.ldc 25, 2) := by decide +kernel
theorem dL_moves_13 : decode cL_moves 13 = .ok (.ireturn, 1) := by decide +kernel
theorem dL_moves_14 : decode cL_moves 14 = .ok (.astore 4, 2) := by decide +kernel
theorem dL_moves_16 : decode cL_moves 16 = .ok (.ldc 15, 2) := by decide +kernel
theorem dL_moves_18 : decode cL_moves 18 = .ok (.ireturn, 1) := by decide +kernel
set_option maxRecDepth 20000 in
theorem ggL_lays_X3_lay : GoodIn wsL_lays wsX3_lay := goodIn_ca (goodIn_r _ [7, 8, 9, 10, 11, 6, 12, 13, 14, 15, 16, 17, 18, 19, 20, 21, 22, 23, 24, 25, 26, 27, 28, 29, 30, 31, 32, 33, 34, 35, 36, 37, 38, 39, 40, 41, 42, 43, 44, 45, 46, 47, 48, 49, 50, 51, 52, 53, 54, 55, 56, 57, 58, 59, 60, 61, 62, 63, 64, 65, 66, 67, 68, 69, 70, 71, 72, 73, 74, 75, 76, 77, 78, 79, 80, 81, 82, 83, 84, 85, 86, 87, 88, 89, 90, 91, 92, 93, 94, 95, 96, 97, 98, 99, 100, 101, 102, 103, 104, 105, 106, 107, 108, 109, 110, 111, 112, 113, 114, 115, 116, 117, 118, 119, 120, 121, 122, 123, 124, 125, 126, 127, 128, 129, 130, 131, 132, 133, 134, 135] (by decide +kernel) (by decide +kernel)) (goodIn_sub (fun _ h => List.mem_cons_of_mem _ (List.mem_append_right _ h)) (by decide +kernel))
set_option maxRecDepth 20000 in
theorem gL_lays_X3_lay : GoodIn wsL_lays (wsV RL 30 RX3 yX3_lay wsX3_lay) := goodIn_app (goodIn_of _ (by decide +kernel)) ggL_lays_X3_lay
theorem dL_lays_0 : decode cL_lays 0 = .ok (.aload_n 0, 1) := by decide +kernel
theorem dL_lays_1 : decode cL_lays 1 = .ok (.iload_n 1, 1) := by decide +kernel
theorem dL_lays_2 : decode cL_lays 2 = .ok (.iload_n 2, 1) := by decide +kernel
theorem dL_lays_3 : decode cL_lays 3 = .ok (.invokevirtual 30, 3) := by decide +kernel
theorem dL_lays_6 : decode cL_lays 6 = .ok (.ireturn, 1) := by decide +kernel
theorem dL_lays_7 : decode cL_lays 7 = .ok (.astore_n 3, 1) := by decide +kernel
theorem dL_lays_8 : decode cL_lays 8 = .ok (.ldc 25, 2) := by decide +kernel
theorem dL_lays_10 : decode cL_lays 10 = .ok (.ireturn, 1) := by decide +kernel
set_option maxRecDepth 20000 in
theorem ggL_passes_X3_advance : GoodIn wsL_passes wsX3_advance := goodIn_ca (goodIn_ca (goodIn_r _ [9, 10, 11, 12, 13, 14, 15, 16, 17, 18, 8, 19, 20, 21, 22, 23, 24, 25, 26, 27, 28, 29, 30, 31, 32, 33, 34, 35, 36, 37, 38, 39, 40, 41, 42, 43, 44, 45, 46, 47, 48, 49, 50, 51, 52, 53, 54, 55, 56, 57, 58, 59, 60, 61, 62, 63, 64, 65, 66, 67, 68, 69, 70, 71, 72, 73, 74, 75, 76, 77, 78, 79, 80, 81, 82, 83, 84, 85, 86, 87, 88, 89, 90, 91, 92, 93, 94, 95, 96, 97, 98, 99, 100, 101, 102, 103, 104, 105, 106, 107, 108, 109] (by decide +kernel) (by decide +kernel)) (goodIn_sub (fun _ h => List.mem_cons_of_mem _ (List.mem_append_left _ (List.mem_append_right _ h))) (by decide +kernel))) (goodIn_sub (fun _ h => List.mem_cons_of_mem _ (List.mem_append_right _ h)) (by decide +kernel))
set_option maxRecDepth 20000 in
theorem gL_passes_X3_advance : GoodIn wsL_passes (wsV RL 34 RX3 yX3_advance wsX3_advance) := goodIn_app (goodIn_of _ (by decide +kernel)) ggL_passes_X3_advance
theorem dL_passes_0 : decode cL_passes 0 = .ok (.aload_n 0, 1) := by decide +kernel
theorem dL_passes_1 : decode cL_passes 1 = .ok (.iload_n 1, 1) := by decide +kernel
theorem dL_passes_2 : decode cL_passes 2 = .ok (.invokevirtual 34, 3) := by decide +kernel
theorem dL_passes_5 : decode cL_passes 5 = .ok (.ireturn, 1) := by decide +kernel
theorem dL_passes_6 : decode cL_passes 6 = .ok (.astore_n 2, 1) := by decide +kernel
theorem dL_passes_7 : decode cL_passes 7 = .ok (.ldc 15, 2) := by decide +kernel
theorem dL_passes_9 : decode cL_passes 9 = .ok (.ireturn, 1) := by decide +kernel
theorem dL_passes_10 : decode cL_passes 10 = .ok (.astore_n 2, 1) := by decide +kernel
theorem dL_passes_11 : decode cL_passes 11 = .ok (.ldc 18, 2) := by decide +kernel
theorem dL_passes_13 : decode cL_passes 13 = .ok (.ireturn, 1) := by decide +kernel
set_option maxRecDepth 20000 in
theorem ggL_inputs_X3_input : GoodIn wsL_inputs wsX3_input := goodIn_ca (goodIn_r _ [7, 8, 9, 10, 11, 12, 13, 6, 14, 15, 16, 17, 18, 19, 20, 21, 22, 23, 24, 25, 26, 27, 28, 29, 30, 31, 32, 33, 34, 35, 36, 37, 38, 39, 40, 41, 42, 43, 44, 45, 46, 47, 48, 49, 50, 51, 52, 53, 54, 55, 56, 57, 58, 59, 60, 61, 62, 63, 64] (by decide +kernel) (by decide +kernel)) (goodIn_sub (fun _ h => List.mem_cons_of_mem _ (List.mem_append_right _ h)) (by decide +kernel))
set_option maxRecDepth 20000 in
theorem gL_inputs_X3_input : GoodIn wsL_inputs (wsV RL 37 RX3 yX3_input wsX3_input) := goodIn_app (goodIn_of _ (by decide +kernel)) ggL_inputs_X3_input
theorem dL_inputs_0 : decode cL_inputs 0 = .ok (.aload_n 0, 1) := by decide +kernel
theorem dL_inputs_1 : decode cL_inputs 1 = .ok (.iload_n 1, 1) := by decide +kernel
theorem dL_inputs_2 : decode cL_inputs 2 = .ok (.iload_n 2, 1) := by decide +kernel
theorem dL_inputs_3 : decode cL_inputs 3 = .ok (.invokevirtual 37, 3) := by decide +kernel
theorem dL_inputs_6 : decode cL_inputs 6 = .ok (.ireturn, 1) := by decide +kernel
theorem dL_inputs_7 : decode cL_inputs 7 = .ok (.astore_n 3, 1) := by decide +kernel
theorem dL_inputs_8 : decode cL_inputs 8 = .ok (.ldc 25, 2) := by decide +kernel
theorem dL_inputs_10 : decode cL_inputs 10 = .ok (.ireturn, 1) := by decide +kernel
set_option maxRecDepth 20000 in
theorem ggL_at_X3_at : GoodIn wsL_at wsX3_at := goodIn_ca (goodIn_r _ [7, 8, 9, 10, 6, 11, 12, 13, 14, 15, 16, 17, 18, 19, 20, 21, 22, 23, 24, 25, 26, 27, 28, 29, 30, 31, 32, 33, 34, 35, 36, 37, 38, 39] (by decide +kernel) (by decide +kernel)) (goodIn_sub (fun _ h => List.mem_cons_of_mem _ (List.mem_append_right _ h)) (by decide +kernel))
set_option maxRecDepth 20000 in
theorem gL_at_X3_at : GoodIn wsL_at (wsV RL 41 RX3 yX3_at wsX3_at) := goodIn_app (goodIn_of _ (by decide +kernel)) ggL_at_X3_at
theorem dL_at_0 : decode cL_at 0 = .ok (.aload_n 0, 1) := by decide +kernel
theorem dL_at_1 : decode cL_at 1 = .ok (.iload_n 1, 1) := by decide +kernel
theorem dL_at_2 : decode cL_at 2 = .ok (.iload_n 2, 1) := by decide +kernel
theorem dL_at_3 : decode cL_at 3 = .ok (.invokevirtual 41, 3) := by decide +kernel
theorem dL_at_6 : decode cL_at 6 = .ok (.ireturn, 1) := by decide +kernel
theorem dL_at_7 : decode cL_at 7 = .ok (.astore_n 3, 1) := by decide +kernel
theorem dL_at_8 : decode cL_at 8 = .ok (.ldc 25, 2) := by decide +kernel
theorem dL_at_10 : decode cL_at 10 = .ok (.ireturn, 1) := by decide +kernel
set_option maxRecDepth 20000 in
theorem ggL_place_X3_placeOf : GoodIn wsL_place wsX3_placeOf := goodIn_ca (goodIn_r _ [7, 8, 9, 10, 11, 12, 6, 13, 14, 15, 16, 17, 18, 19, 20, 21, 22, 23, 24, 25, 26, 27, 28, 29, 30, 31, 32, 33, 34, 35, 36, 37, 38, 39, 40, 41, 42, 43, 44, 45, 46, 47] (by decide +kernel) (by decide +kernel)) (goodIn_sub (fun _ h => List.mem_cons_of_mem _ (List.mem_append_right _ h)) (by decide +kernel))
set_option maxRecDepth 20000 in
theorem gL_place_X3_placeOf : GoodIn wsL_place (wsV RL 44 RX3 yX3_placeOf wsX3_placeOf) := goodIn_app (goodIn_of _ (by decide +kernel)) ggL_place_X3_placeOf
theorem dL_place_0 : decode cL_place 0 = .ok (.aload_n 0, 1) := by decide +kernel
theorem dL_place_1 : decode cL_place 1 = .ok (.iload_n 1, 1) := by decide +kernel
theorem dL_place_2 : decode cL_place 2 = .ok (.invokevirtual 44, 3) := by decide +kernel
theorem dL_place_5 : decode cL_place 5 = .ok (.ireturn, 1) := by decide +kernel
theorem dL_place_6 : decode cL_place 6 = .ok (.astore_n 2, 1) := by decide +kernel
theorem dL_place_7 : decode cL_place 7 = .ok (.ldc 25, 2) := by decide +kernel
theorem dL_place_9 : decode cL_place 9 = .ok (.ireturn, 1) := by decide +kernel
set_option maxRecDepth 20000 in
theorem ggL_seen_X3_isSeen : GoodIn wsL_seen wsX3_isSeen := goodIn_ca (goodIn_r _ [7, 8, 9, 10, 11, 6, 12, 13, 14, 15, 16, 17, 18, 19, 20, 21, 22, 23, 24, 25, 26, 27, 28, 29, 30, 31, 32, 33, 34, 35, 36, 37, 38, 39, 40, 41, 42, 43, 44, 45, 46] (by decide +kernel) (by decide +kernel)) (goodIn_sub (fun _ h => List.mem_cons_of_mem _ (List.mem_append_right _ h)) (by decide +kernel))
set_option maxRecDepth 20000 in
theorem gL_seen_X3_isSeen : GoodIn wsL_seen (wsV RL 47 RX3 yX3_isSeen wsX3_isSeen) := goodIn_app (goodIn_of _ (by decide +kernel)) ggL_seen_X3_isSeen
theorem dL_seen_0 : decode cL_seen 0 = .ok (.aload_n 0, 1) := by decide +kernel
theorem dL_seen_1 : decode cL_seen 1 = .ok (.iload_n 1, 1) := by decide +kernel
theorem dL_seen_2 : decode cL_seen 2 = .ok (.invokevirtual 47, 3) := by decide +kernel
theorem dL_seen_5 : decode cL_seen 5 = .ok (.ifCond .eq 7, 3) := by decide +kernel
theorem dL_seen_8 : decode cL_seen 8 = .ok (.iconst 1, 1) := by decide +kernel
theorem dL_seen_9 : decode cL_seen 9 = .ok (.goto 4, 3) := by decide +kernel
theorem dL_seen_12 : decode cL_seen 12 = .ok (.iconst 0, 1) := by decide +kernel
theorem dL_seen_13 : decode cL_seen 13 = .ok (.ireturn, 1) := by decide +kernel
theorem dL_seen_14 : decode cL_seen 14 = .ok (.astore_n 2, 1) := by decide +kernel
theorem dL_seen_15 : decode cL_seen 15 = .ok (.ldc 25, 2) := by decide +kernel
theorem dL_seen_17 : decode cL_seen 17 = .ok (.ireturn, 1) := by decide +kernel
set_option maxRecDepth 20000 in
theorem ggL_pages_X3_pagesOf : GoodIn wsL_pages wsX3_pagesOf := goodIn_ca (goodIn_r _ [7, 8, 9, 10, 6, 11, 12, 13, 14, 15, 16, 17, 18, 19, 20, 21, 22, 23, 24, 25, 26, 27, 28, 29, 30, 31, 32, 33, 34, 35, 36, 37, 38, 39, 40, 41, 42, 43, 44, 45, 46, 47, 48, 49, 50, 51, 52, 53, 54, 55, 56, 57] (by decide +kernel) (by decide +kernel)) (goodIn_sub (fun _ h => List.mem_cons_of_mem _ (List.mem_append_right _ h)) (by decide +kernel))
set_option maxRecDepth 20000 in
theorem gL_pages_X3_pagesOf : GoodIn wsL_pages (wsV RL 51 RX3 yX3_pagesOf wsX3_pagesOf) := goodIn_app (goodIn_of _ (by decide +kernel)) ggL_pages_X3_pagesOf
theorem dL_pages_0 : decode cL_pages 0 = .ok (.aload_n 0, 1) := by decide +kernel
theorem dL_pages_1 : decode cL_pages 1 = .ok (.iload_n 1, 1) := by decide +kernel
theorem dL_pages_2 : decode cL_pages 2 = .ok (.invokevirtual 51, 3) := by decide +kernel
theorem dL_pages_5 : decode cL_pages 5 = .ok (.ireturn, 1) := by decide +kernel
theorem dL_pages_6 : decode cL_pages 6 = .ok (.astore_n 2, 1) := by decide +kernel
theorem dL_pages_7 : decode cL_pages 7 = .ok (.ldc 25, 2) := by decide +kernel
theorem dL_pages_9 : decode cL_pages 9 = .ok (.ireturn, 1) := by decide +kernel
set_option maxRecDepth 20000 in
theorem ggL_picture_X3_picture : GoodIn wsL_picture wsX3_picture := goodIn_ca (goodIn_r _ [7, 8, 9, 10, 11, 6, 12, 13, 14, 15, 16, 17, 18, 19, 20, 21, 22, 23, 24, 25, 26, 27, 28, 29, 30, 31, 32, 33, 34, 35, 36, 37, 38, 39, 40, 41, 42, 43, 44, 45, 46] (by decide +kernel) (by decide +kernel)) (goodIn_sub (fun _ h => List.mem_cons_of_mem _ (List.mem_append_right _ h)) (by decide +kernel))
set_option maxRecDepth 20000 in
theorem gL_picture_X3_picture : GoodIn wsL_picture (wsV RL 54 RX3 yX3_picture wsX3_picture) := goodIn_app (goodIn_of _ (by decide +kernel)) ggL_picture_X3_picture
theorem dL_picture_0 : decode cL_picture 0 = .ok (.aload_n 0, 1) := by decide +kernel
theorem dL_picture_1 : decode cL_picture 1 = .ok (.iload_n 1, 1) := by decide +kernel
theorem dL_picture_2 : decode cL_picture 2 = .ok (.invokevirtual 54, 3) := by decide +kernel
theorem dL_picture_5 : decode cL_picture 5 = .ok (.ireturn, 1) := by decide +kernel
theorem dL_picture_6 : decode cL_picture 6 = .ok (.astore_n 2, 1) := by decide +kernel
theorem dL_picture_7 : decode cL_picture 7 = .ok (.ldc 25, 2) := by decide +kernel
theorem dL_picture_9 : decode cL_picture 9 = .ok (.ireturn, 1) := by decide +kernel
set_option maxRecDepth 20000 in
theorem ggL_pace_X3_pace : GoodIn wsL_pace wsX3_pace := goodIn_ca (goodIn_r _ [7, 8, 9, 10, 11, 12, 6, 13, 14, 15, 16, 17, 18, 19, 20, 21, 22, 23, 24, 25, 26, 27, 28, 29, 30, 31, 32, 33, 34, 35, 36, 37, 38, 39, 40, 41, 42, 43, 44, 45, 46, 47, 48, 49, 50, 51, 52, 53, 54, 55, 56] (by decide +kernel) (by decide +kernel)) (goodIn_sub (fun _ h => List.mem_cons_of_mem _ (List.mem_append_right _ h)) (by decide +kernel))
set_option maxRecDepth 20000 in
theorem gL_pace_X3_pace : GoodIn wsL_pace (wsV RL 57 RX3 yX3_pace wsX3_pace) := goodIn_app (goodIn_of _ (by decide +kernel)) ggL_pace_X3_pace
theorem dL_pace_0 : decode cL_pace 0 = .ok (.aload_n 0, 1) := by decide +kernel
theorem dL_pace_1 : decode cL_pace 1 = .ok (.iload_n 1, 1) := by decide +kernel
theorem dL_pace_2 : decode cL_pace 2 = .ok (.invokevirtual 57, 3) := by decide +kernel
theorem dL_pace_5 : decode cL_pace 5 = .ok (.ireturn, 1) := by decide +kernel
theorem dL_pace_6 : decode cL_pace 6 = .ok (.astore_n 2, 1) := by decide +kernel
theorem dL_pace_7 : decode cL_pace 7 = .ok (.ldc 25, 2) := by decide +kernel
theorem dL_pace_9 : decode cL_pace 9 = .ok (.ireturn, 1) := by decide +kernel
set_option maxRecDepth 20000 in
theorem ggL_misses_X3_misses : GoodIn wsL_misses wsX3_misses := goodIn_ca (goodIn_r _ [7, 8, 9, 10, 11, 12, 6, 13, 14, 15, 16, 17, 18, 19, 20, 21, 22, 23, 24, 25, 26, 27, 28, 29, 30, 31, 32, 33, 34, 35, 36, 37, 38, 39, 40, 41, 42, 43, 44, 45, 46, 47, 48, 49, 50, 51, 52, 53, 54, 55, 56] (by decide +kernel) (by decide +kernel)) (goodIn_sub (fun _ h => List.mem_cons_of_mem _ (List.mem_append_right _ h)) (by decide +kernel))
set_option maxRecDepth 20000 in
theorem gL_misses_X3_misses : GoodIn wsL_misses (wsV RL 60 RX3 yX3_misses wsX3_misses) := goodIn_app (goodIn_of _ (by decide +kernel)) ggL_misses_X3_misses
theorem dL_misses_0 : decode cL_misses 0 = .ok (.aload_n 0, 1) := by decide +kernel
theorem dL_misses_1 : decode cL_misses 1 = .ok (.iload_n 1, 1) := by decide +kernel
theorem dL_misses_2 : decode cL_misses 2 = .ok (.invokevirtual 60, 3) := by decide +kernel
theorem dL_misses_5 : decode cL_misses 5 = .ok (.ireturn, 1) := by decide +kernel
theorem dL_misses_6 : decode cL_misses 6 = .ok (.astore_n 2, 1) := by decide +kernel
theorem dL_misses_7 : decode cL_misses 7 = .ok (.ldc 25, 2) := by decide +kernel
theorem dL_misses_9 : decode cL_misses 9 = .ok (.ireturn, 1) := by decide +kernel
set_option maxRecDepth 20000 in
theorem ggL_deadline_X3_deadline : GoodIn wsL_deadline wsX3_deadline := goodIn_ca (goodIn_r _ [7, 8, 9, 10, 11, 12, 13, 6, 14, 15, 16, 17, 18, 19, 20, 21, 22, 23, 24, 25, 26, 27, 28, 29, 30, 31, 32, 33, 34, 35, 36, 37, 38, 39, 40, 41, 42, 43, 44, 45, 46, 47, 48, 49, 50, 51, 52, 53, 54, 55, 56, 57] (by decide +kernel) (by decide +kernel)) (goodIn_sub (fun _ h => List.mem_cons_of_mem _ (List.mem_append_right _ h)) (by decide +kernel))
set_option maxRecDepth 20000 in
theorem gL_deadline_X3_deadline : GoodIn wsL_deadline (wsV RL 63 RX3 yX3_deadline wsX3_deadline) := goodIn_app (goodIn_of _ (by decide +kernel)) ggL_deadline_X3_deadline
theorem dL_deadline_0 : decode cL_deadline 0 = .ok (.aload_n 0, 1) := by decide +kernel
theorem dL_deadline_1 : decode cL_deadline 1 = .ok (.iload_n 1, 1) := by decide +kernel
theorem dL_deadline_2 : decode cL_deadline 2 = .ok (.invokevirtual 63, 3) := by decide +kernel
theorem dL_deadline_5 : decode cL_deadline 5 = .ok (.ireturn, 1) := by decide +kernel
theorem dL_deadline_6 : decode cL_deadline 6 = .ok (.astore_n 2, 1) := by decide +kernel
theorem dL_deadline_7 : decode cL_deadline 7 = .ok (.ldc 25, 2) := by decide +kernel
theorem dL_deadline_9 : decode cL_deadline 9 = .ok (.ireturn, 1) := by decide +kernel
