/-! THE LAW: its arms (a); text by wip/whole/gen_arms.py -/
set_option maxHeartbeats 4000000 in
set_option maxRecDepth 100000 in
theorem lb_arm_close {p : Program} {l : Launch} {e : Env} {s : State} {m : MethodId} {below : List Frame} {meth : Method} {c : Code} {H : Heap} {locs : List Loc} {cells slots b L x mo o i : Nat} {ls : Array Slot} {D : va_G} {xs : Nat → Int32} (S : lb_S p l s m meth c D b L xs) (hc : cells + 3 ≤ 601024) (hs : slots + 25 ≤ 7293033) (hI : lb_I D s x mo o H) (hS : va_S (lb_B s) s.heap H locs) (hl : lv_has ls 7 (lb_l b x mo o (nI i))) (hi : i + 8 ≤ L)
    (K : lb_K p l e s m below meth c D b x mo o (cells + 3) (slots + 25) i) : W p l e room_1 s m #[Value.ref b] below meth c H locs cells slots (lw_Z below #[Value.ref b] s) (F0 m 280 ls []) := by
  obtain ⟨I, E, P, Ls, n, adC, adM, adO, f, hR, ⟨rfl, rfl, rfl⟩, hQ⟩ := hI
  have hCF := S.1
  have hK := S.2.2.1
  have hx := hCF.1
  have hb := hCF.2.1
  have hts := hCF.2.2.2.2
  refine lv_aload_n hx hb dL_law_280 rfl (lv_at hl 1 rfl) ?_
  refine lb_rd (j := 1) S hS (lv_at hl 0 rfl) (lv_at hl 4 rfl) hi (by decide) (by decide) dL_law_281 dL_law_282 dL_law_284 dL_law_285 dL_law_286 ?_
  refine lv_aload_n hx hb dL_law_287 rfl (lv_at hl 3 rfl) ?_
  have X := X_close hR (xs (i + 1))
  obtain ⟨bv, J, E1, P1, L1, n1, hm, hR1, hcr⟩ := X
  have go : ∀ (u : Nat → Nat) (f1 : Nat → Int64) (H1 : Heap) (locs1 : List Loc), u 0 = adC 0 → (J 0 0 = 0 → f1 0 = bv.toInt64) → lb_Q D s u adM adO (hC J E1 P1 n1) I f1 H1 → va_S (lb_B s) s.heap H1 locs1 → W p l e room_1 s m #[Value.ref b] below meth c H1 locs1 (cells + 1) (slots + 6) (lw_Z below #[Value.ref b] s) (F0 m 291 ls [.int (J 0 0)]) := by
    intro u f1 H1 locs1 hu hf1 hQ1 hS1
    replace hS := hS1
    rw [← hu] at hl K
    refine lv_istore (lv' := (5, .int (J 0 0)) :: lb_l b (u 0) (adM 0) (adO 0) (nI i)) hx hb dL_law_291 hl (by decide) rfl (fun ls hl => ?_)
    refine lv_aload_n hx hb dL_law_293 rfl (lv_at hl 3 rfl) ?_
    refine lb_rd (j := 1) S hS (lv_at hl 1 rfl) (lv_at hl 5 rfl) hi (by decide) (by decide) dL_law_294 dL_law_295 dL_law_297 dL_law_298 dL_law_299 ?_
    refine lb_cMi (va_runV (As := [.int (xs (i + 1))]) (rest := []) hCF (kX4_close l D adM (hM I) 0 (xs (i + 1)) (bv, hM J) hm) (cwV 1 hts gL_law_X4_close rfl rfl rfl (by decide +kernel) ⟨Nat.le_of_ble_eq_true rfl, Nat.le_of_ble_eq_true rfl⟩) (p_preV hK hQ1.1.2.1.self (hM_ob I) rfl) rfl rfl hl.1 rfl (lv_room (Nat.le_of_ble_eq_true rfl)) dL_law_300 ⟨by show cells + 1 + 0 ≤ 601024; omega, by show slots + 6 + 0 ≤ 7293033; omega⟩) hQ1 hS fun H2 locs2 hQ2 hS2 => ?_
    refine lv_istore (lv' := (6, .int bv) :: (5, .int (J 0 0)) :: lb_l b (u 0) (adM 0) (adO 0) (nI i)) hx hb dL_law_303 hl (by decide) rfl (fun ls hl => ?_)
    exact lb_tail S (by show cells + 1 ≤ 601024; omega) (by show slots + 6 ≤ 7293033; omega) hR1 hQ2 ⟨rfl, rfl, rfl⟩ hS2 hl rfl hf1 dL_law_305 dL_law_306 dL_law_309 dL_law_311 dL_law_316 dL_law_318 dL_law_321 dL_law_322 dL_law_323 dL_law_324 dL_law_326 dL_law_327 dL_law_328 dL_law_333 (by decide) K (by omega) (by omega)
  have hE := (lb_E S hS).narrow (p_sub hQ.1.1)
  have hca := S.2.2.2.2.1
  rcases hcr with ⟨h0, hq⟩ | ⟨Ex, g, hmem, hq, hsub⟩
  · refine lb_cM (vx_runSW (As := [.ref (adC 0), .int (xs (i + 1)), .ref (adO 0)]) (rest := []) hCF (wL_close l S.2.1 D adC adO H.size (hC I E P n) f (hQ.2.2.1.not 0 _ (hO_0 f)) (xs (i + 1)) () (.inr (bv, hC J E1 P1 n1)) hq hC_ob (fun E9 g9 h9 => by cases h9)) (vx_cwSW 3 hts gL_law_L_close rfl rfl rfl (by decide +kernel) ⟨Nat.le_of_ble_eq_true rfl, Nat.le_of_ble_eq_true rfl⟩) (lb_pPM hK hQ.1.1.self hE rfl hQ.1.2.2.tt hca) rfl rfl hl.1 rfl (lv_room (Nat.le_of_ble_eq_true rfl)) dL_law_288 ⟨by show cells + 1 ≤ 601024; omega, by show slots + 6 ≤ 7293033; omega⟩) hQ hS (p_sub hQ.1.1) hQ.2.1.not (hQ.2.2.1.not 0 _ (hO_0 f)) fun u H1 locs1 hu hQ1 hS1 => ?_
    have k := go u (w_fM f (.inr (bv, hC J E1 P1 n1))) H1 locs1 hu (fun _ => (if_pos rfl : vp_updL f 0 bv.toInt64 0 = bv.toInt64)) hQ1 hS1
    rw [h0] at k
    exact k
  · have hx1 : Ex = xIO ∧ J 0 0 = 1 := by simpa using hmem
    obtain ⟨rfl, hj⟩ := hx1
    refine lb_cM (vx_runSW (As := [.ref (adC 0), .int (xs (i + 1)), .ref (adO 0)]) (rest := []) hCF (wL_close l S.2.1 D adC adO H.size (hC I E P n) f (hQ.2.2.1.not 0 _ (hO_0 f)) (xs (i + 1)) () (.inl (xIO, g)) hq hC_ob (fun E9 g9 h9 => by cases h9; rfl)) (vx_cwSW 3 hts gL_law_L_close rfl rfl rfl (by decide +kernel) ⟨Nat.le_of_ble_eq_true rfl, Nat.le_of_ble_eq_true rfl⟩) (lb_pPM hK hQ.1.1.self hE rfl hQ.1.2.2.tt hca) rfl rfl hl.1 rfl (lv_room (Nat.le_of_ble_eq_true rfl)) dL_law_288 ⟨by show cells + 1 ≤ 601024; omega, by show slots + 6 ≤ 7293033; omega⟩) hQ hS (p_sub hQ.1.1) hQ.2.1.not (hQ.2.2.1.not 0 _ (hO_0 f)) fun u H1 locs1 hu hQ1 hS1 => ?_
    have k := go u f H1 locs1 hu (fun h => absurd (hj.symm.trans h) (by decide)) ⟨⟨hQ1.1.1.sub hsub hR1.1.2.2.2, hQ1.1.2⟩, hQ1.2.1.fewer hsub, hQ1.2.2.1.fewer hsub, hQ1.2.2.2⟩ hS1
    rw [hj] at k
    exact k
set_option maxHeartbeats 4000000 in
set_option maxRecDepth 100000 in
theorem lb_arm_lay {p : Program} {l : Launch} {e : Env} {s : State} {m : MethodId} {below : List Frame} {meth : Method} {c : Code} {H : Heap} {locs : List Loc} {cells slots b L x mo o i : Nat} {ls : Array Slot} {D : va_G} {xs : Nat → Int32} (S : lb_S p l s m meth c D b L xs) (hc : cells + 3 ≤ 601024) (hs : slots + 25 ≤ 7293033) (hI : lb_I D s x mo o H) (hS : va_S (lb_B s) s.heap H locs) (hl : lv_has ls 7 (lb_l b x mo o (nI i))) (hi : i + 8 ≤ L)
    (K : lb_K p l e s m below meth c D b x mo o (cells + 3) (slots + 25) i) : W p l e room_1 s m #[Value.ref b] below meth c H locs cells slots (lw_Z below #[Value.ref b] s) (F0 m 396 ls []) := by
  obtain ⟨I, E, P, Ls, n, adC, adM, adO, f, hR, ⟨rfl, rfl, rfl⟩, hQ⟩ := hI
  have hCF := S.1
  have hK := S.2.2.1
  have hx := hCF.1
  have hb := hCF.2.1
  have hts := hCF.2.2.2.2
  refine lv_aload_n hx hb dL_law_396 rfl (lv_at hl 1 rfl) ?_
  refine lb_rd (j := 1) S hS (lv_at hl 0 rfl) (lv_at hl 4 rfl) hi (by decide) (by decide) dL_law_397 dL_law_398 dL_law_400 dL_law_401 dL_law_402 ?_
  refine lb_rd (j := 2) S hS (lv_at hl 0 rfl) (lv_at hl 4 rfl) hi (by decide) (by decide) dL_law_403 dL_law_404 dL_law_406 dL_law_407 dL_law_408 ?_
  refine lb_bz S dL_law_409 dL_law_412 dL_law_413 dL_law_416 ?_
  refine lv_aload_n hx hb dL_law_417 rfl (lv_at hl 3 rfl) ?_
  have X := X_lay hR (xs (i + 1)) (lb_z (xs (i + 2)))
  obtain ⟨bv, J, E1, P1, L1, n1, hm, hR1, hcr⟩ := X
  have go : ∀ (u : Nat → Nat) (f1 : Nat → Int64) (H1 : Heap) (locs1 : List Loc), u 0 = adC 0 → (J 0 0 = 0 → f1 0 = bv.toInt64) → lb_Q D s u adM adO (hC J E1 P1 n1) I f1 H1 → va_S (lb_B s) s.heap H1 locs1 → W p l e room_1 s m #[Value.ref b] below meth c H1 locs1 (cells + 1) (slots + 6) (lw_Z below #[Value.ref b] s) (F0 m 421 ls [.int (J 0 0)]) := by
    intro u f1 H1 locs1 hu hf1 hQ1 hS1
    replace hS := hS1
    rw [← hu] at hl K
    refine lv_istore (lv' := (5, .int (J 0 0)) :: lb_l b (u 0) (adM 0) (adO 0) (nI i)) hx hb dL_law_421 hl (by decide) rfl (fun ls hl => ?_)
    refine lv_aload_n hx hb dL_law_423 rfl (lv_at hl 3 rfl) ?_
    refine lb_rd (j := 1) S hS (lv_at hl 1 rfl) (lv_at hl 5 rfl) hi (by decide) (by decide) dL_law_424 dL_law_425 dL_law_427 dL_law_428 dL_law_429 ?_
    refine lb_rd (j := 2) S hS (lv_at hl 1 rfl) (lv_at hl 5 rfl) hi (by decide) (by decide) dL_law_430 dL_law_431 dL_law_433 dL_law_434 dL_law_435 ?_
    refine lb_bz S dL_law_436 dL_law_439 dL_law_440 dL_law_443 ?_
    refine lb_cMi (va_runV (As := [.int (xs (i + 1)), .int (lb_z (xs (i + 2)))]) (rest := []) hCF (kX4_lay l D adM (hM I) 0 (xs (i + 1)) (lb_z (xs (i + 2))) (bv, hM J) hm) (cwV 2 hts gL_law_X4_lay rfl rfl rfl (by decide +kernel) ⟨Nat.le_of_ble_eq_true rfl, Nat.le_of_ble_eq_true rfl⟩) (p_preV hK hQ1.1.2.1.self (hM_ob I) rfl) rfl rfl hl.1 rfl (lv_room (Nat.le_of_ble_eq_true rfl)) dL_law_444 ⟨by show cells + 1 + 0 ≤ 601024; omega, by show slots + 6 + 0 ≤ 7293033; omega⟩) hQ1 hS fun H2 locs2 hQ2 hS2 => ?_
    refine lv_istore (lv' := (6, .int bv) :: (5, .int (J 0 0)) :: lb_l b (u 0) (adM 0) (adO 0) (nI i)) hx hb dL_law_447 hl (by decide) rfl (fun ls hl => ?_)
    exact lb_tail S (by show cells + 1 ≤ 601024; omega) (by show slots + 6 ≤ 7293033; omega) hR1 hQ2 ⟨rfl, rfl, rfl⟩ hS2 hl rfl hf1 dL_law_449 dL_law_450 dL_law_453 dL_law_455 dL_law_460 dL_law_462 dL_law_465 dL_law_466 dL_law_467 dL_law_468 dL_law_470 dL_law_471 dL_law_472 dL_law_477 (by decide) K (by omega) (by omega)
  have hE := (lb_E S hS).narrow (p_sub hQ.1.1)
  have hca := S.2.2.2.2.1
  rcases hcr with ⟨h0, hq⟩ | ⟨Ex, g, hmem, hq, hsub⟩
  · refine lb_cM (vx_runSW (As := [.ref (adC 0), .int (xs (i + 1)), .int (lb_z (xs (i + 2))), .ref (adO 0)]) (rest := []) hCF (wL_lay l S.2.1 D adC adO H.size (hC I E P n) f (hQ.2.2.1.not 0 _ (hO_0 f)) (xs (i + 1)) (lb_z (xs (i + 2))) () (.inr (bv, hC J E1 P1 n1)) hq hC_ob (fun E9 g9 h9 => by cases h9)) (vx_cwSW 4 hts gL_law_L_lay rfl rfl rfl (by decide +kernel) ⟨Nat.le_of_ble_eq_true rfl, Nat.le_of_ble_eq_true rfl⟩) (lb_pPM hK hQ.1.1.self hE rfl hQ.1.2.2.tt hca) rfl rfl hl.1 rfl (lv_room (Nat.le_of_ble_eq_true rfl)) dL_law_418 ⟨by show cells + 1 ≤ 601024; omega, by show slots + 6 ≤ 7293033; omega⟩) hQ hS (p_sub hQ.1.1) hQ.2.1.not (hQ.2.2.1.not 0 _ (hO_0 f)) fun u H1 locs1 hu hQ1 hS1 => ?_
    have k := go u (w_fM f (.inr (bv, hC J E1 P1 n1))) H1 locs1 hu (fun _ => (if_pos rfl : vp_updL f 0 bv.toInt64 0 = bv.toInt64)) hQ1 hS1
    rw [h0] at k
    exact k
  · have hx1 : Ex = xIO ∧ J 0 0 = 1 := by simpa using hmem
    obtain ⟨rfl, hj⟩ := hx1
    refine lb_cM (vx_runSW (As := [.ref (adC 0), .int (xs (i + 1)), .int (lb_z (xs (i + 2))), .ref (adO 0)]) (rest := []) hCF (wL_lay l S.2.1 D adC adO H.size (hC I E P n) f (hQ.2.2.1.not 0 _ (hO_0 f)) (xs (i + 1)) (lb_z (xs (i + 2))) () (.inl (xIO, g)) hq hC_ob (fun E9 g9 h9 => by cases h9; rfl)) (vx_cwSW 4 hts gL_law_L_lay rfl rfl rfl (by decide +kernel) ⟨Nat.le_of_ble_eq_true rfl, Nat.le_of_ble_eq_true rfl⟩) (lb_pPM hK hQ.1.1.self hE rfl hQ.1.2.2.tt hca) rfl rfl hl.1 rfl (lv_room (Nat.le_of_ble_eq_true rfl)) dL_law_418 ⟨by show cells + 1 ≤ 601024; omega, by show slots + 6 ≤ 7293033; omega⟩) hQ hS (p_sub hQ.1.1) hQ.2.1.not (hQ.2.2.1.not 0 _ (hO_0 f)) fun u H1 locs1 hu hQ1 hS1 => ?_
    have k := go u f H1 locs1 hu (fun h => absurd (hj.symm.trans h) (by decide)) ⟨⟨hQ1.1.1.sub hsub hR1.1.2.2.2, hQ1.1.2⟩, hQ1.2.1.fewer hsub, hQ1.2.2.1.fewer hsub, hQ1.2.2.2⟩ hS1
    rw [hj] at k
    exact k
set_option maxHeartbeats 4000000 in
set_option maxRecDepth 100000 in
theorem lb_arm_input {p : Program} {l : Launch} {e : Env} {s : State} {m : MethodId} {below : List Frame} {meth : Method} {c : Code} {H : Heap} {locs : List Loc} {cells slots b L x mo o i : Nat} {ls : Array Slot} {D : va_G} {xs : Nat → Int32} (S : lb_S p l s m meth c D b L xs) (hc : cells + 3 ≤ 601024) (hs : slots + 25 ≤ 7293033) (hI : lb_I D s x mo o H) (hS : va_S (lb_B s) s.heap H locs) (hl : lv_has ls 7 (lb_l b x mo o (nI i))) (hi : i + 8 ≤ L)
    (K : lb_K p l e s m below meth c D b x mo o (cells + 3) (slots + 25) i) : W p l e room_1 s m #[Value.ref b] below meth c H locs cells slots (lw_Z below #[Value.ref b] s) (F0 m 536 ls []) := by
  obtain ⟨I, E, P, Ls, n, adC, adM, adO, f, hR, ⟨rfl, rfl, rfl⟩, hQ⟩ := hI
  have hCF := S.1
  have hK := S.2.2.1
  have hx := hCF.1
  have hb := hCF.2.1
  have hts := hCF.2.2.2.2
  refine lv_aload_n hx hb dL_law_536 rfl (lv_at hl 1 rfl) ?_
  refine lb_rd (j := 1) S hS (lv_at hl 0 rfl) (lv_at hl 4 rfl) hi (by decide) (by decide) dL_law_537 dL_law_538 dL_law_540 dL_law_541 dL_law_542 ?_
  refine lb_rd (j := 2) S hS (lv_at hl 0 rfl) (lv_at hl 4 rfl) hi (by decide) (by decide) dL_law_543 dL_law_544 dL_law_546 dL_law_547 dL_law_548 ?_
  refine lv_aload_n hx hb dL_law_549 rfl (lv_at hl 3 rfl) ?_
  have X := X_input hR (xs (i + 1)) (xs (i + 2))
  obtain ⟨bv, J, E1, P1, L1, n1, hm, hR1, hcr⟩ := X
  have go : ∀ (u : Nat → Nat) (f1 : Nat → Int64) (H1 : Heap) (locs1 : List Loc), u 0 = adC 0 → (J 0 0 = 0 → f1 0 = bv.toInt64) → lb_Q D s u adM adO (hC J E1 P1 n1) I f1 H1 → va_S (lb_B s) s.heap H1 locs1 → W p l e room_1 s m #[Value.ref b] below meth c H1 locs1 (cells + 1) (slots + 6) (lw_Z below #[Value.ref b] s) (F0 m 553 ls [.int (J 0 0)]) := by
    intro u f1 H1 locs1 hu hf1 hQ1 hS1
    replace hS := hS1
    rw [← hu] at hl K
    refine lv_istore (lv' := (5, .int (J 0 0)) :: lb_l b (u 0) (adM 0) (adO 0) (nI i)) hx hb dL_law_553 hl (by decide) rfl (fun ls hl => ?_)
    refine lv_aload_n hx hb dL_law_555 rfl (lv_at hl 3 rfl) ?_
    refine lb_rd (j := 1) S hS (lv_at hl 1 rfl) (lv_at hl 5 rfl) hi (by decide) (by decide) dL_law_556 dL_law_557 dL_law_559 dL_law_560 dL_law_561 ?_
    refine lb_rd (j := 2) S hS (lv_at hl 1 rfl) (lv_at hl 5 rfl) hi (by decide) (by decide) dL_law_562 dL_law_563 dL_law_565 dL_law_566 dL_law_567 ?_
    refine lb_cMi (va_runV (As := [.int (xs (i + 1)), .int (xs (i + 2))]) (rest := []) hCF (kX4_input l D adM (hM I) 0 (xs (i + 1)) (xs (i + 2)) (bv, hM J) hm) (cwV 2 hts gL_law_X4_input rfl rfl rfl (by decide +kernel) ⟨Nat.le_of_ble_eq_true rfl, Nat.le_of_ble_eq_true rfl⟩) (p_preV hK hQ1.1.2.1.self (hM_ob I) rfl) rfl rfl hl.1 rfl (lv_room (Nat.le_of_ble_eq_true rfl)) dL_law_568 ⟨by show cells + 1 + 0 ≤ 601024; omega, by show slots + 6 + 0 ≤ 7293033; omega⟩) hQ1 hS fun H2 locs2 hQ2 hS2 => ?_
    refine lv_istore (lv' := (6, .int bv) :: (5, .int (J 0 0)) :: lb_l b (u 0) (adM 0) (adO 0) (nI i)) hx hb dL_law_571 hl (by decide) rfl (fun ls hl => ?_)
    exact lb_tail S (by show cells + 1 ≤ 601024; omega) (by show slots + 6 ≤ 7293033; omega) hR1 hQ2 ⟨rfl, rfl, rfl⟩ hS2 hl rfl hf1 dL_law_573 dL_law_574 dL_law_577 dL_law_579 dL_law_584 dL_law_586 dL_law_589 dL_law_590 dL_law_591 dL_law_592 dL_law_594 dL_law_595 dL_law_596 dL_law_601 (by decide) K (by omega) (by omega)
  have hE := (lb_E S hS).narrow (p_sub hQ.1.1)
  have hca := S.2.2.2.2.1
  rcases hcr with ⟨h0, hq⟩ | ⟨Ex, g, hmem, hq, hsub⟩
  · refine lb_cM (vx_runSW (As := [.ref (adC 0), .int (xs (i + 1)), .int (xs (i + 2)), .ref (adO 0)]) (rest := []) hCF (wL_input l S.2.1 D adC adO H.size (hC I E P n) f (hQ.2.2.1.not 0 _ (hO_0 f)) (xs (i + 1)) (xs (i + 2)) () (.inr (bv, hC J E1 P1 n1)) hq hC_ob (fun E9 g9 h9 => by cases h9)) (vx_cwSW 4 hts gL_law_L_input rfl rfl rfl (by decide +kernel) ⟨Nat.le_of_ble_eq_true rfl, Nat.le_of_ble_eq_true rfl⟩) (lb_pPM hK hQ.1.1.self hE rfl hQ.1.2.2.tt hca) rfl rfl hl.1 rfl (lv_room (Nat.le_of_ble_eq_true rfl)) dL_law_550 ⟨by show cells + 1 ≤ 601024; omega, by show slots + 6 ≤ 7293033; omega⟩) hQ hS (p_sub hQ.1.1) hQ.2.1.not (hQ.2.2.1.not 0 _ (hO_0 f)) fun u H1 locs1 hu hQ1 hS1 => ?_
    have k := go u (w_fM f (.inr (bv, hC J E1 P1 n1))) H1 locs1 hu (fun _ => (if_pos rfl : vp_updL f 0 bv.toInt64 0 = bv.toInt64)) hQ1 hS1
    rw [h0] at k
    exact k
  · have hx1 : Ex = xIO ∧ J 0 0 = 1 := by simpa using hmem
    obtain ⟨rfl, hj⟩ := hx1
    refine lb_cM (vx_runSW (As := [.ref (adC 0), .int (xs (i + 1)), .int (xs (i + 2)), .ref (adO 0)]) (rest := []) hCF (wL_input l S.2.1 D adC adO H.size (hC I E P n) f (hQ.2.2.1.not 0 _ (hO_0 f)) (xs (i + 1)) (xs (i + 2)) () (.inl (xIO, g)) hq hC_ob (fun E9 g9 h9 => by cases h9; rfl)) (vx_cwSW 4 hts gL_law_L_input rfl rfl rfl (by decide +kernel) ⟨Nat.le_of_ble_eq_true rfl, Nat.le_of_ble_eq_true rfl⟩) (lb_pPM hK hQ.1.1.self hE rfl hQ.1.2.2.tt hca) rfl rfl hl.1 rfl (lv_room (Nat.le_of_ble_eq_true rfl)) dL_law_550 ⟨by show cells + 1 ≤ 601024; omega, by show slots + 6 ≤ 7293033; omega⟩) hQ hS (p_sub hQ.1.1) hQ.2.1.not (hQ.2.2.1.not 0 _ (hO_0 f)) fun u H1 locs1 hu hQ1 hS1 => ?_
    have k := go u f H1 locs1 hu (fun h => absurd (hj.symm.trans h) (by decide)) ⟨⟨hQ1.1.1.sub hsub hR1.1.2.2.2, hQ1.1.2⟩, hQ1.2.1.fewer hsub, hQ1.2.2.1.fewer hsub, hQ1.2.2.2⟩ hS1
    rw [hj] at k
    exact k
set_option maxHeartbeats 4000000 in
set_option maxRecDepth 100000 in
theorem lb_arm_advance {p : Program} {l : Launch} {e : Env} {s : State} {m : MethodId} {below : List Frame} {meth : Method} {c : Code} {H : Heap} {locs : List Loc} {cells slots b L x mo o i : Nat} {ls : Array Slot} {D : va_G} {xs : Nat → Int32} (S : lb_S p l s m meth c D b L xs) (hc : cells + 3 ≤ 601024) (hs : slots + 25 ≤ 7293033) (hI : lb_I D s x mo o H) (hS : va_S (lb_B s) s.heap H locs) (hl : lv_has ls 7 (lb_l b x mo o (nI i))) (hi : i + 8 ≤ L)
    (K : lb_K p l e s m below meth c D b x mo o (cells + 3) (slots + 25) i) : W p l e room_1 s m #[Value.ref b] below meth c H locs cells slots (lw_Z below #[Value.ref b] s) (F0 m 480 ls []) := by
  obtain ⟨I, E, P, Ls, n, adC, adM, adO, f, hR, ⟨rfl, rfl, rfl⟩, hQ⟩ := hI
  have hCF := S.1
  have hK := S.2.2.1
  have hx := hCF.1
  have hb := hCF.2.1
  have hts := hCF.2.2.2.2
  refine lv_aload_n hx hb dL_law_480 rfl (lv_at hl 1 rfl) ?_
  refine lb_rd (j := 1) S hS (lv_at hl 0 rfl) (lv_at hl 4 rfl) hi (by decide) (by decide) dL_law_481 dL_law_482 dL_law_484 dL_law_485 dL_law_486 ?_
  refine lv_aload_n hx hb dL_law_487 rfl (lv_at hl 3 rfl) ?_
  have X := X_advance hR (xs (i + 1))
  obtain ⟨bv, J, E1, P1, L1, n1, hm, hR1, hcr⟩ := X
  have go : ∀ (u : Nat → Nat) (f1 : Nat → Int64) (H1 : Heap) (locs1 : List Loc), u 0 = adC 0 → (J 0 0 = 0 → f1 0 = bv.toInt64) → lb_Q D s u adM adO (hC J E1 P1 n1) I f1 H1 → va_S (lb_B s) s.heap H1 locs1 → W p l e room_1 s m #[Value.ref b] below meth c H1 locs1 (cells + 1) (slots + 6) (lw_Z below #[Value.ref b] s) (F0 m 491 ls [.int (J 0 0)]) := by
    intro u f1 H1 locs1 hu hf1 hQ1 hS1
    replace hS := hS1
    rw [← hu] at hl K
    refine lv_istore (lv' := (5, .int (J 0 0)) :: lb_l b (u 0) (adM 0) (adO 0) (nI i)) hx hb dL_law_491 hl (by decide) rfl (fun ls hl => ?_)
    refine lv_aload_n hx hb dL_law_493 rfl (lv_at hl 3 rfl) ?_
    refine lb_rd (j := 1) S hS (lv_at hl 1 rfl) (lv_at hl 5 rfl) hi (by decide) (by decide) dL_law_494 dL_law_495 dL_law_497 dL_law_498 dL_law_499 ?_
    refine lb_cMi (va_runV (As := [.int (xs (i + 1))]) (rest := []) hCF (kX4_advance l D adM (hM I) 0 (xs (i + 1)) (bv, hM J) hm) (cwV 1 hts gL_law_X4_advance rfl rfl rfl (by decide +kernel) ⟨Nat.le_of_ble_eq_true rfl, Nat.le_of_ble_eq_true rfl⟩) (p_preV hK hQ1.1.2.1.self (hM_ob I) rfl) rfl rfl hl.1 rfl (lv_room (Nat.le_of_ble_eq_true rfl)) dL_law_500 ⟨by show cells + 1 + 0 ≤ 601024; omega, by show slots + 6 + 0 ≤ 7293033; omega⟩) hQ1 hS fun H2 locs2 hQ2 hS2 => ?_
    refine lv_istore (lv' := (6, .int bv) :: (5, .int (J 0 0)) :: lb_l b (u 0) (adM 0) (adO 0) (nI i)) hx hb dL_law_503 hl (by decide) rfl (fun ls hl => ?_)
    exact lb_tail S (by show cells + 1 ≤ 601024; omega) (by show slots + 6 ≤ 7293033; omega) hR1 hQ2 ⟨rfl, rfl, rfl⟩ hS2 hl rfl hf1 dL_law_505 dL_law_506 dL_law_509 dL_law_511 dL_law_516 dL_law_518 dL_law_521 dL_law_522 dL_law_523 dL_law_524 dL_law_526 dL_law_527 dL_law_528 dL_law_533 (by decide) K (by omega) (by omega)
  have hE := (lb_E S hS).narrow (p_sub hQ.1.1)
  have hca := S.2.2.2.2.1
  rcases hcr with ⟨h0, hq⟩ | ⟨Ex, g, hmem, hq, hsub⟩
  · refine lb_cM (vx_runSW (As := [.ref (adC 0), .int (xs (i + 1)), .ref (adO 0)]) (rest := []) hCF (wL_advance l S.2.1 D adC adO H.size (hC I E P n) f (hQ.2.2.1.not 0 _ (hO_0 f)) (xs (i + 1)) () (.inr (bv, hC J E1 P1 n1)) hq hC_ob 1 (fun E9 g9 h9 => by cases h9)) (vx_cwSW 3 hts gL_law_L_advance rfl rfl rfl (by decide +kernel) ⟨Nat.le_of_ble_eq_true rfl, Nat.le_of_ble_eq_true rfl⟩) (lb_pPM hK hQ.1.1.self hE rfl hQ.1.2.2.tt hca) rfl rfl hl.1 rfl (lv_room (Nat.le_of_ble_eq_true rfl)) dL_law_488 ⟨by show cells + 1 ≤ 601024; omega, by show slots + 6 ≤ 7293033; omega⟩) hQ hS (p_sub hQ.1.1) hQ.2.1.not (hQ.2.2.1.not 0 _ (hO_0 f)) fun u H1 locs1 hu hQ1 hS1 => ?_
    have k := go u (w_fM f (.inr (bv, hC J E1 P1 n1))) H1 locs1 hu (fun _ => (if_pos rfl : vp_updL f 0 bv.toInt64 0 = bv.toInt64)) hQ1 hS1
    rw [h0] at k
    exact k
  · have hx1 : (Ex = xIA ∧ J 0 0 = 1) ∨ (Ex = xIS ∧ J 0 0 = 2) := by simpa using hmem
    have hj : J 0 0 = J 0 0 := rfl
    refine lb_cM (vx_runSW (As := [.ref (adC 0), .int (xs (i + 1)), .ref (adO 0)]) (rest := []) hCF (wL_advance l S.2.1 D adC adO H.size (hC I E P n) f (hQ.2.2.1.not 0 _ (hO_0 f)) (xs (i + 1)) () (.inl (Ex, g)) hq hC_ob (J 0 0) (fun E9 g9 h9 => by cases h9; exact hx1)) (vx_cwSW 3 hts gL_law_L_advance rfl rfl rfl (by decide +kernel) ⟨Nat.le_of_ble_eq_true rfl, Nat.le_of_ble_eq_true rfl⟩) (lb_pPM hK hQ.1.1.self hE rfl hQ.1.2.2.tt hca) rfl rfl hl.1 rfl (lv_room (Nat.le_of_ble_eq_true rfl)) dL_law_488 ⟨by show cells + 1 ≤ 601024; omega, by show slots + 6 ≤ 7293033; omega⟩) hQ hS (p_sub hQ.1.1) hQ.2.1.not (hQ.2.2.1.not 0 _ (hO_0 f)) fun u H1 locs1 hu hQ1 hS1 => ?_
    have k := go u f H1 locs1 hu (fun h => by rcases hx1 with ⟨-, q⟩ | ⟨-, q⟩ <;> exact absurd (q.symm.trans h) (by decide)) ⟨⟨hQ1.1.1.sub hsub hR1.1.2.2.2, hQ1.1.2⟩, hQ1.2.1.fewer hsub, hQ1.2.2.1.fewer hsub, hQ1.2.2.2⟩ hS1
    exact k
set_option maxHeartbeats 4000000 in
set_option maxRecDepth 100000 in
theorem lb_arm_move {p : Program} {l : Launch} {e : Env} {s : State} {m : MethodId} {below : List Frame} {meth : Method} {c : Code} {H : Heap} {locs : List Loc} {cells slots b L x mo o i : Nat} {ls : Array Slot} {D : va_G} {xs : Nat → Int32} (S : lb_S p l s m meth c D b L xs) (hc : cells + 3 ≤ 601024) (hs : slots + 25 ≤ 7293033) (hI : lb_I D s x mo o H) (hS : va_S (lb_B s) s.heap H locs) (hl : lv_has ls 7 (lb_l b x mo o (nI i))) (hi : i + 8 ≤ L)
    (K : lb_K p l e s m below meth c D b x mo o (cells + 3) (slots + 25) i) : W p l e room_1 s m #[Value.ref b] below meth c H locs cells slots (lw_Z below #[Value.ref b] s) (F0 m 336 ls []) := by
  obtain ⟨I, E, P, Ls, n, adC, adM, adO, f, hR, ⟨rfl, rfl, rfl⟩, hQ⟩ := hI
  have hCF := S.1
  have hK := S.2.2.1
  have hx := hCF.1
  have hb := hCF.2.1
  have hts := hCF.2.2.2.2
  refine lv_aload_n hx hb dL_law_336 rfl (lv_at hl 1 rfl) ?_
  refine lb_rd (j := 1) S hS (lv_at hl 0 rfl) (lv_at hl 4 rfl) hi (by decide) (by decide) dL_law_337 dL_law_338 dL_law_340 dL_law_341 dL_law_342 ?_
  refine lb_rd (j := 2) S hS (lv_at hl 0 rfl) (lv_at hl 4 rfl) hi (by decide) (by decide) dL_law_343 dL_law_344 dL_law_346 dL_law_347 dL_law_348 ?_
  refine lb_rd (j := 3) S hS (lv_at hl 0 rfl) (lv_at hl 4 rfl) hi (by decide) (by decide) dL_law_349 dL_law_350 dL_law_352 dL_law_353 dL_law_354 ?_
  have X := X_move hR (xs (i + 1)) (xs (i + 2)) (xs (i + 3))
  obtain ⟨J, E1, P1, L1, n1, hm, hR1, hcr⟩ := X
  have go : ∀ (u : Nat → Nat) (H1 : Heap) (locs1 : List Loc), u 0 = adC 0 → lb_Q D s u adM adO (hC J E1 P1 n1) I f H1 → va_S (lb_B s) s.heap H1 locs1 → W p l e room_1 s m #[Value.ref b] below meth c H1 locs1 (cells + 2) (slots + 12) (lw_Z below #[Value.ref b] s) (F0 m 358 ls [.int (J 0 0)]) := by
    intro u H1 locs1 hu hQ1 hS1
    replace hS := hS1
    rw [← hu] at hl K
    refine lv_istore (lv' := (5, .int (J 0 0)) :: lb_l b (u 0) (adM 0) (adO 0) (nI i)) hx hb dL_law_358 hl (by decide) rfl (fun ls hl => ?_)
    refine lv_aload_n hx hb dL_law_360 rfl (lv_at hl 3 rfl) ?_
    refine lb_rd (j := 1) S hS (lv_at hl 1 rfl) (lv_at hl 5 rfl) hi (by decide) (by decide) dL_law_361 dL_law_362 dL_law_364 dL_law_365 dL_law_366 ?_
    refine lb_rd (j := 2) S hS (lv_at hl 1 rfl) (lv_at hl 5 rfl) hi (by decide) (by decide) dL_law_367 dL_law_368 dL_law_370 dL_law_371 dL_law_372 ?_
    refine lb_rd (j := 3) S hS (lv_at hl 1 rfl) (lv_at hl 5 rfl) hi (by decide) (by decide) dL_law_373 dL_law_374 dL_law_376 dL_law_377 dL_law_378 ?_
    refine lb_cMv (va_runV (As := [.int (xs (i + 1)), .int (xs (i + 2)), .int (xs (i + 3))]) (rest := []) hCF (kX4_move l D adM (hM I) 0 (xs (i + 1)) (xs (i + 2)) (xs (i + 3)) (hM J) hm) (cwV 3 hts gL_law_X4_move rfl rfl rfl (by decide +kernel) ⟨Nat.le_of_ble_eq_true rfl, Nat.le_of_ble_eq_true rfl⟩) (p_preV hK hQ1.1.2.1.self (hM_ob I) rfl) rfl rfl hl.1 rfl (lv_room (Nat.le_of_ble_eq_true rfl)) dL_law_379 ⟨by show cells + 2 + 0 ≤ 601024; omega, by show slots + 12 + 0 ≤ 7293033; omega⟩) hQ1 hS fun H2 locs2 hQ2 hS2 => ?_
    refine lb_th S (by show cells + 2 ≤ 601024; omega) (by show slots + 12 ≤ 7293033; omega) hQ2 rfl hS2 hl.1 (lv_at hl 3 rfl) (lv_at hl 0 rfl) rfl dL_law_382 dL_law_383 dL_law_386 dL_law_388 fun H3 locs3 hQ3 hS3 => ?_
    refine lv_goto (tgt := 1136) hx hb dL_law_393 (by decide) ?_
    exact W.widen (by omega) (by omega) (K H3 locs3 ls ⟨J, E1, P1, L1, n1, u, adM, adO, f, hR1, ⟨rfl, rfl, rfl⟩, hQ3⟩ hS3 (lv_sub hl [1, 2, 3, 4, 5] rfl))
  have hE := (lb_E S hS).narrow (p_sub hQ.1.1)
  have hca := S.2.2.2.2.1
  rcases hcr with ⟨h0, hq⟩ | ⟨Ex, g, hmem, hq, hsub⟩
  · refine lb_cV (vx_runSW (As := [.ref (adC 0), .int (xs (i + 1)), .int (xs (i + 2)), .int (xs (i + 3))]) (rest := []) hCF (wL_move l S.2.1 D adC H.size (hC I E P n) (xs (i + 1)) (xs (i + 2)) (xs (i + 3)) () (.inr (hC J E1 P1 n1)) hq hC_ob 1 (fun E9 g9 h9 => by cases h9)) (vx_cwSW 4 hts gL_law_L_move rfl rfl rfl (by decide +kernel) ⟨Nat.le_of_ble_eq_true rfl, Nat.le_of_ble_eq_true rfl⟩) (lb_pPV hK hQ.1.1.self hE rfl hca) rfl rfl hl.1 rfl (lv_room (Nat.le_of_ble_eq_true rfl)) dL_law_355 ⟨by show cells + 2 ≤ 601024; omega, by show slots + 12 ≤ 7293033; omega⟩) hQ hS (p_sub hQ.1.1) hQ.2.1.not (hQ.2.2.1.not 0 _ (hO_0 f)) fun u H1 locs1 hu hQ1 hS1 => ?_
    have k := go u H1 locs1 hu hQ1 hS1
    rw [h0] at k
    exact k
  · have hx1 : (Ex = xIO ∧ J 0 0 = 1) ∨ (Ex = xIA ∧ J 0 0 = 2) := by simpa using hmem
    have hj : J 0 0 = J 0 0 := rfl
    refine lb_cV (vx_runSW (As := [.ref (adC 0), .int (xs (i + 1)), .int (xs (i + 2)), .int (xs (i + 3))]) (rest := []) hCF (wL_move l S.2.1 D adC H.size (hC I E P n) (xs (i + 1)) (xs (i + 2)) (xs (i + 3)) () (.inl (Ex, g)) hq hC_ob (J 0 0) (fun E9 g9 h9 => by cases h9; exact hx1)) (vx_cwSW 4 hts gL_law_L_move rfl rfl rfl (by decide +kernel) ⟨Nat.le_of_ble_eq_true rfl, Nat.le_of_ble_eq_true rfl⟩) (lb_pPV hK hQ.1.1.self hE rfl hca) rfl rfl hl.1 rfl (lv_room (Nat.le_of_ble_eq_true rfl)) dL_law_355 ⟨by show cells + 2 ≤ 601024; omega, by show slots + 12 ≤ 7293033; omega⟩) hQ hS (p_sub hQ.1.1) hQ.2.1.not (hQ.2.2.1.not 0 _ (hO_0 f)) fun u H1 locs1 hu hQ1 hS1 => ?_
    have k := go u H1 locs1 hu ⟨⟨hQ1.1.1.sub hsub hR1.1.2.2.2, hQ1.1.2⟩, hQ1.2.1.fewer hsub, hQ1.2.2.1.fewer hsub, hQ1.2.2.2⟩ hS1
    exact k
