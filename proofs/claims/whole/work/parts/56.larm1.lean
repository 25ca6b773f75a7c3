set_option maxHeartbeats 4000000 in
set_option maxRecDepth 100000 in
theorem lb_arm_close {p : Program} {l : Launch} {e : Env} {s : State} {m : MethodId} {below : List Frame} {meth : Method} {c : Code} {H : Heap} {locs : List Loc} {cells slots b L x mo o i : Nat} {ls : Array Slot} {D : va_G} {xs : Nat → Int32} (S : lb_S p l s m meth c D b L xs) (hc : cells + 3 ≤ 601024) (hs : slots + 25 ≤ 7293033) (hI : lb_I D s x mo o H) (hS : va_S (lb_B s) s.heap H locs) (hl : lv_has ls 7 (lb_l b x mo o (nI i))) (hi : i + 8 ≤ L)
    (K : lb_K p l e s m below meth c D b x mo o (cells + 3) (slots + 25) i) : W p l e room_1 s m #[Value.ref b] below meth c H locs cells slots (lw_Z below #[Value.ref b] s) (F0 m 280 ls []) := by
  obtain ⟨I, E, P, Ls, n, adC, adM, adO, f, hR, ⟨rfl, rfl, rfl⟩, hQ⟩ := hI
  have hC := S.1
  have hK := S.2.2.1
  have hx := hC.1
  have hb := hC.2.1
  have hts := hC.2.2.2.2
  refine lv_aload_n hx hb dL_law_280 rfl (lv_at hl 1 rfl) ?_
  refine lb_rd (j := 1) S hS (lv_at hl 0 rfl) (lv_at hl 4 rfl) hi (by decide) (by decide) dL_law_281 dL_law_282 dL_law_284 dL_law_285 dL_law_286 ?_
  refine lv_aload_n hx hb dL_law_287 rfl (lv_at hl 3 rfl) ?_
  have X := X_close hR (xs (i + 1))
  obtain ⟨bv, J, E1, P1, L1, n1, hm, hR1, hcr⟩ := X
  have go : ∀ (u : Nat → Nat) (f1 : Nat → Int64) (H1 : Heap) (locs1 : List Loc), u 0 = adC 0 → (J 0 0 = 0 → f1 0 = bv.toInt64) → lb_Q D s u adM adO (hC J E1 P1 n1) I f1 H1 → va_S (lb_B s) s.heap H1 locs1 → W p l e room_1 s m #[Value.ref b] below meth c H1 locs1 (cells + 1) (slots + 6) (lw_Z below #[Value.ref b] s) (F0 m 291 ls [.int (J 0 0)]) := by
    intro u f1 H1 locs1 hu hf1 hQ1 hS1
    replace hS := hS1
    rw [← hu] at hl K
    refine lv_istore (lv' := (5, .int (J 0 0)) :: lb_l b (u 0) (adM 0) (adO 0) (nI i)) hx hb dL_law_291 hl (by decide) rfl (fun ls hl => ?_)
    refine lv_aload_n hx hb dL_law_293 rfl (lv_at hl 3 rfl) ?_
    refine lb_rd (j := 1) S hS (lv_at hl 1 rfl) (lv_at hl 5 rfl) hi (by decide) (by decide) dL_law_294 dL_law_295 dL_law_297 dL_law_298 dL_law_299 ?_
    refine lb_cMi (va_runV (As := [.int (xs (i + 1))]) (rest := []) hC (kX4_close l D adM (hM I) 0 (xs (i + 1)) (bv, hM J) hm) (cwV 1 hts gL_law_X4_close rfl rfl rfl (by decide +kernel) ⟨Nat.le_of_ble_eq_true rfl, Nat.le_of_ble_eq_true rfl⟩) (p_preV hK hQ1.1.2.1.self (hM_ob I) rfl) rfl rfl hl.1 rfl (lv_room (Nat.le_of_ble_eq_true rfl)) dL_law_300 ⟨by show cells + 1 + 0 ≤ 601024; omega, by show slots + 6 + 0 ≤ 7293033; omega⟩) hQ1 hS fun H2 locs2 hQ2 hS2 => ?_
    refine lv_istore (lv' := (6, .int bv) :: (5, .int (J 0 0)) :: lb_l b (u 0) (adM 0) (adO 0) (nI i)) hx hb dL_law_303 hl (by decide) rfl (fun ls hl => ?_)
    exact lb_tail S (by show cells + 1 ≤ 601024; omega) (by show slots + 6 ≤ 7293033; omega) hR1 hQ2 ⟨rfl, rfl, rfl⟩ hS2 hl rfl hf1 dL_law_305 dL_law_306 dL_law_309 dL_law_311 dL_law_316 dL_law_318 dL_law_321 dL_law_322 dL_law_323 dL_law_324 dL_law_326 dL_law_327 dL_law_328 dL_law_333 (by decide) K (by omega) (by omega)
  have hE := (lb_E S hS).narrow (p_sub hQ.1.1)
  have hca := S.2.2.2.2.1
  rcases hcr with ⟨h0, hq⟩ | ⟨Ex, g, hmem, hq, hsub⟩
  · refine lb_cM (vx_runSW (As := [.ref (adC 0), .int (xs (i + 1)), .ref (adO 0)]) (rest := []) hC (wL_close l S.2.1 D adC adO H.size (hC I E P n) f (hQ.2.2.1.not 0 _ (hO_0 f)) (xs (i + 1)) () (.inr (bv, hC J E1 P1 n1)) hq hC_ob (fun E9 g9 h9 => by cases h9)) (vx_cwSW 3 hts gL_law_L_close rfl rfl rfl (by decide +kernel) ⟨Nat.le_of_ble_eq_true rfl, Nat.le_of_ble_eq_true rfl⟩) (lb_pPM hK hQ.1.1.self hE rfl hQ.1.2.2.tt hca) rfl rfl hl.1 rfl (lv_room (Nat.le_of_ble_eq_true rfl)) dL_law_288 ⟨by show cells + 1 ≤ 601024; omega, by show slots + 6 ≤ 7293033; omega⟩) hQ hS (p_sub hQ.1.1) hQ.2.1.not (hQ.2.2.1.not 0 _ (hO_0 f)) fun u H1 locs1 hu hQ1 hS1 => ?_
    have k := go u (w_fM f (.inr (bv, hC J E1 P1 n1))) H1 locs1 hu (fun _ => if_pos rfl) hQ1 hS1
    rw [h0] at k
    exact k
  · have hx1 : Ex = xIO ∧ J 0 0 = 1 := by simpa using hmem
    obtain ⟨rfl, hj⟩ := hx1
    refine lb_cM (vx_runSW (As := [.ref (adC 0), .int (xs (i + 1)), .ref (adO 0)]) (rest := []) hC (wL_close l S.2.1 D adC adO H.size (hC I E P n) f (hQ.2.2.1.not 0 _ (hO_0 f)) (xs (i + 1)) () (.inl (xIO, g)) hq hC_ob (fun E9 g9 h9 => by cases h9; rfl)) (vx_cwSW 3 hts gL_law_L_close rfl rfl rfl (by decide +kernel) ⟨Nat.le_of_ble_eq_true rfl, Nat.le_of_ble_eq_true rfl⟩) (lb_pPM hK hQ.1.1.self hE rfl hQ.1.2.2.tt hca) rfl rfl hl.1 rfl (lv_room (Nat.le_of_ble_eq_true rfl)) dL_law_288 ⟨by show cells + 1 ≤ 601024; omega, by show slots + 6 ≤ 7293033; omega⟩) hQ hS (p_sub hQ.1.1) hQ.2.1.not (hQ.2.2.1.not 0 _ (hO_0 f)) fun u H1 locs1 hu hQ1 hS1 => ?_
    have k := go u f H1 locs1 hu (fun h => absurd (hj.symm.trans h) (by decide)) ⟨⟨hQ1.1.1.sub hsub hR1.1.2.2.2, hQ1.1.2⟩, hQ1.2.1.fewer hsub, hQ1.2.2.1.fewer hsub, hQ1.2.2.2⟩ hS1
    rw [hj] at k
    exact k
