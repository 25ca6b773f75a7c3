/-! THE LAW: walks of its methods; text by wip/p22/gen_b.py -/
abbrev rL_refuses : Room := { frames := 9, cells := 57, slots := 419, locals := 177 }
set_option maxHeartbeats 8000000 in
set_option maxRecDepth 100000 in
theorem kL_refuses (l : Launch) (hl : l.stackTraces = false) (D : va_G) (x y sz : Nat) (A : Nat → Prop) (hA : ∀ q, sz ≤ q → A q) (hAy : ¬ A y) (g : Sg) (k : Int32) (i2 : Int32) (r : Int32 × Sg) (hf : fL_refuses k g i2 = some r) : Met l yL_refuses wsL_refuses rL_refuses (b_N D x y A A sz g k [.ref x, .ref y, .int i2]) (b_M D x A r) 57 419 A := by
  refine Met.ofW (cc := cL_refuses) (maxL := 9) (ret := some .boolean) (by decide) rfl ?_
  intro p e s m args below meth c s₁ B hml hv
  obtain ⟨hargs, hK, hQ, hE, hsz, hca, hN⟩ := hv
  have hAz : ∀ q, s.heap.size ≤ q → A q := fun q hq => hA q (by rw [← hsz]; exact hq)
  have hx := B.exec
  have hb := B.bytes
  have hr := B.returns
  have hts := atoms_spec (ws := wsL_refuses) B.pre
  have hown : s.vm.findClass RL = some m.cls := findClass_of_methodNamed B.named
  have hlocks := B.notSynchronized
  have hC : CallFix p m c cL_refuses 9 s args wsL_refuses RL := ⟨hx, hb, hml, hown, hts⟩
  have hS : va_S A s.heap s.heap [] := va_S.rf
  obtain ⟨ls, hls, hL⟩ := p_start (n := 9) hargs (by simp [p_cat, p_ci, p_cr, p_cn]) (Nat.le_of_ble_eq_true rfl)
  show W p l e rL_refuses s m args below meth c s.heap [] 0 0 (MQ below (b_M D x A r) args s 57 419 A) (entryFrame m args 9)
  rw [hls]
  clear hls
  have hL : p_L ls 9 [(0, .ref x), (1, .ref y), (2, .int i2)] := hL
  have b584 : ∀ (cells slots : Nat) (H : Heap) (locs : List Loc) (ls : Array Slot) (g1 : Sg) (i7 : Int32), cells + (0) ≤ 57 → slots + (0) ≤ 419 → bk D x A g1 s H → va_S A s.heap H locs → p_L ls 9 [(7, .int i7)] → fL_refuses_584 k  g1 i7 = some r → W p l e rL_refuses s m args below meth c H locs cells slots (MQ below (b_M D x A r) args s 57 419 A) (F0 m 584 ls []) := by
    intro cells slots H locs ls g1 i7 hcc hss hQ hS hL hf
    rw [fL_refuses_584] at hf
    refine lv_iload hx hb dL_refuses_584 (lv_at hL.1 0 rfl) ?_
    exact b_rZ hC hr hlocks hQ hS hf (by omega) (by omega) dL_refuses_586
  have b582 : ∀ (cells slots : Nat) (H : Heap) (locs : List Loc) (ls : Array Slot) (g1 : Sg) (si0 : Int32), cells + (0) ≤ 57 → slots + (0) ≤ 419 → bk D x A g1 s H → va_S A s.heap H locs → p_L ls 9 [] → fL_refuses_582 k  g1 si0 = some r → W p l e rL_refuses s m args below meth c H locs cells slots (MQ below (b_M D x A r) args s 57 419 A) (F0 m 582 ls [.int si0]) := by
    intro cells slots H locs ls g1 si0 hcc hss hQ hS hL hf
    rw [fL_refuses_582] at hf
    refine p_istore (lv' := [(7, .int si0)]) hx hb dL_refuses_582 hL (by decide) rfl (fun ls hL => ?_)
    exact b584 _ _ _ _ _ g1 si0 (by omega) (by omega) hQ hS (hL.sub [0] rfl) hf
  have b581 : ∀ (cells slots : Nat) (H : Heap) (locs : List Loc) (ls : Array Slot) (g1 : Sg), cells + (0) ≤ 57 → slots + (0) ≤ 419 → bk D x A g1 s H → va_S A s.heap H locs → p_L ls 9 [] → fL_refuses_581 k  g1 = some r → W p l e rL_refuses s m args below meth c H locs cells slots (MQ below (b_M D x A r) args s 57 419 A) (F0 m 581 ls []) := by
    intro cells slots H locs ls g1 hcc hss hQ hS hL hf
    rw [fL_refuses_581] at hf
    refine lv_iconst (v := 0) hx hb dL_refuses_581 (by decide) ?_
    exact b582 _ _ _ _ _ g1 0 (by omega) (by omega) hQ hS (hL.sub [] rfl) hf
  have b513 : ∀ (cells slots : Nat) (H : Heap) (locs : List Loc) (ls : Array Slot) (g1 : Sg) (i5 : Int32) (i6 : Int32) (i7 : Int32) (si0 : Int32), cells + (7) ≤ 57 → slots + (42) ≤ 419 → bk D x A g1 s H → va_S A s.heap H locs → p_L ls 9 [(0, .ref x), (5, .int i5), (6, .int i6), (7, .int i7)] → fL_refuses_513 k  g1 i5 i6 i7 si0 = some r → W p l e rL_refuses s m args below meth c H locs cells slots (MQ below (b_M D x A r) args s 57 419 A) (F0 m 513 ls [.int si0]) := by
    intro cells slots H locs ls g1 i5 i6 i7 si0 hcc hss hQ hS hL hf
    rw [fL_refuses_513] at hf
    refine p_istore (lv' := [(8, .int si0), (0, .ref x), (5, .int i5), (6, .int i6), (7, .int i7)]) hx hb dL_refuses_513 hL (by decide) rfl (fun ls hL => ?_)
    refine lv_iload hx hb dL_refuses_515 (lv_at hL.1 4 rfl) ?_
    refine lv_if_eq (tgt := 584) hx hb dL_refuses_517 (by decide) (fun c1 => ?_) (fun c1 => ?_)
    · rw [if_pos c1] at hf
      exact b584 _ _ _ _ _ g1 i7 (by omega) (by omega) hQ hS (hL.sub [4] rfl) hf
    · rw [if_neg c1] at hf
      refine lv_iload hx hb dL_refuses_520 (lv_at hL.1 0 rfl) ?_
      refine lv_if_lt (tgt := 584) hx hb dL_refuses_522 (by decide) (fun c2 => ?_) (fun c2 => ?_)
      · rw [if_pos c2] at hf
        exact b584 _ _ _ _ _ g1 i7 (by omega) (by omega) hQ hS (hL.sub [4] rfl) hf
      · rw [if_neg c2] at hf
        refine lv_aload_n hx hb dL_refuses_525 rfl (lv_at hL.1 1 rfl) ?_
        refine lv_iload hx hb dL_refuses_526 (lv_at hL.1 0 rfl) ?_
        refine b_rd (vx_runSW (As := [.ref x, .int si0]) (rest := []) hC (wL_place l hl D x H.size g1 si0) (vx_cwSW 2 hts gL_refuses_L_place rfl rfl rfl (by decide +kernel) ⟨Nat.le_of_ble_eq_true rfl, Nat.le_of_ble_eq_true rfl⟩) (b_preS hK hQ.tt ((hE.kept hS.2.1).narrow fun _ h9 => h9.elim) hca) rfl rfl hL.1.1 rfl (lv_room (Nat.le_of_ble_eq_true rfl)) dL_refuses_528 ⟨by show _ ≤ (57 : Nat); omega, by show _ ≤ (419 : Nat); omega⟩) hQ hS (fun H locs hQ hS => ?_)
        refine lv_if_lt (tgt := 584) hx hb dL_refuses_531 (by decide) (fun c3 => ?_) (fun c3 => ?_)
        · rw [if_pos c3] at hf
          exact b584 _ _ _ _ _ g1 i7 (by omega) (by omega) hQ hS (hL.sub [4] rfl) hf
        · rw [if_neg c3] at hf
          refine lv_aload_n hx hb dL_refuses_534 rfl (lv_at hL.1 1 rfl) ?_
          refine lv_iload hx hb dL_refuses_535 (lv_at hL.1 0 rfl) ?_
          refine lv_iload hx hb dL_refuses_537 (lv_at hL.1 2 rfl) ?_
          refine lv_iconst (v := 0) hx hb dL_refuses_539 (by decide) ?_
          obtain ⟨y4, e5, hf⟩ := p_b hf
          refine b_mv (vx_runSW (As := [.ref x, .int si0, .int i5, .int 0]) (rest := []) hC (b_eqM (wL_moves l hl D x H.size A (fun q hq => hAz q (Nat.le_trans hS.1 hq)) g1 si0 i5 0) e5) (vx_cwSW 4 hts gL_refuses_L_moves rfl rfl rfl (by decide +kernel) ⟨Nat.le_of_ble_eq_true rfl, Nat.le_of_ble_eq_true rfl⟩) (b_preS hK hQ (hE.kept hS.2.1) hca) rfl rfl hL.1.1 rfl (lv_room (Nat.le_of_ble_eq_true rfl)) dL_refuses_540 ⟨by show _ ≤ (57 : Nat); omega, by show _ ≤ (419 : Nat); omega⟩) hS (fun H locs hQ hS => ?_)
          refine lv_ldc (v := kAR) hx hb hown (hts (.constant RL 15 kAR) (by decide +kernel)) dL_refuses_543 ?_
          refine lv_icmp_ne (tgt := 581) hx hb dL_refuses_545 (by decide) (fun c6 => ?_) (fun c6 => ?_)
          · rw [if_neg c6] at hf
            exact b581 _ _ _ _ _ y4.2 (by omega) (by omega) hQ hS (hL.sub [] rfl) hf
          · rw [if_pos c6] at hf
            refine lv_aload_n hx hb dL_refuses_548 rfl (lv_at hL.1 1 rfl) ?_
            refine lv_iload hx hb dL_refuses_549 (lv_at hL.1 0 rfl) ?_
            refine lv_iconst (v := 0) hx hb dL_refuses_551 (by decide) ?_
            refine lv_iload hx hb dL_refuses_552 (lv_at hL.1 3 rfl) ?_
            obtain ⟨y7, e8, hf⟩ := p_b hf
            refine b_mv (vx_runSW (As := [.ref x, .int si0, .int 0, .int i6]) (rest := []) hC (b_eqM (wL_moves l hl D x H.size A (fun q hq => hAz q (Nat.le_trans hS.1 hq)) y4.2 si0 0 i6) e8) (vx_cwSW 4 hts gL_refuses_L_moves rfl rfl rfl (by decide +kernel) ⟨Nat.le_of_ble_eq_true rfl, Nat.le_of_ble_eq_true rfl⟩) (b_preS hK hQ (hE.kept hS.2.1) hca) rfl rfl hL.1.1 rfl (lv_room (Nat.le_of_ble_eq_true rfl)) dL_refuses_554 ⟨by show _ ≤ (57 : Nat); omega, by show _ ≤ (419 : Nat); omega⟩) hS (fun H locs hQ hS => ?_)
            refine lv_ldc (v := kAR) hx hb hown (hts (.constant RL 15 kAR) (by decide +kernel)) dL_refuses_557 ?_
            refine lv_icmp_ne (tgt := 581) hx hb dL_refuses_559 (by decide) (fun c9 => ?_) (fun c9 => ?_)
            · rw [if_neg c9] at hf
              exact b581 _ _ _ _ _ y7.2 (by omega) (by omega) hQ hS (hL.sub [] rfl) hf
            · rw [if_pos c9] at hf
              refine lv_aload_n hx hb dL_refuses_562 rfl (lv_at hL.1 1 rfl) ?_
              refine lv_iload hx hb dL_refuses_563 (lv_at hL.1 0 rfl) ?_
              refine lv_bipush (v := 8) hx hb dL_refuses_565 (by decide) ?_
              refine lv_bipush (v := 6) hx hb dL_refuses_567 (by decide) ?_
              obtain ⟨y10, e11, hf⟩ := p_b hf
              refine b_mv (vx_runSW (As := [.ref x, .int si0, .int 8, .int 6]) (rest := []) hC (b_eqM (wL_moves l hl D x H.size A (fun q hq => hAz q (Nat.le_trans hS.1 hq)) y7.2 si0 8 6) e11) (vx_cwSW 4 hts gL_refuses_L_moves rfl rfl rfl (by decide +kernel) ⟨Nat.le_of_ble_eq_true rfl, Nat.le_of_ble_eq_true rfl⟩) (b_preS hK hQ (hE.kept hS.2.1) hca) rfl rfl hL.1.1 rfl (lv_room (Nat.le_of_ble_eq_true rfl)) dL_refuses_569 ⟨by show _ ≤ (57 : Nat); omega, by show _ ≤ (419 : Nat); omega⟩) hS (fun H locs hQ hS => ?_)
              refine lv_ldc (v := kAR) hx hb hown (hts (.constant RL 15 kAR) (by decide +kernel)) dL_refuses_572 ?_
              refine lv_icmp_ne (tgt := 581) hx hb dL_refuses_574 (by decide) (fun c12 => ?_) (fun c12 => ?_)
              · rw [if_neg c12] at hf
                exact b581 _ _ _ _ _ y10.2 (by omega) (by omega) hQ hS (hL.sub [] rfl) hf
              · rw [if_pos c12] at hf
                refine lv_iconst (v := 1) hx hb dL_refuses_577 (by decide) ?_
                refine lv_goto (tgt := 582) hx hb dL_refuses_578 (by decide) ?_
                exact b582 _ _ _ _ _ y10.2 1 (by omega) (by omega) hQ hS (hL.sub [] rfl) hf
  have b494 : ∀ (cells slots : Nat) (H : Heap) (locs : List Loc) (ls : Array Slot) (g1 : Sg) (i2 : Int32) (i5 : Int32) (i6 : Int32) (si0 : Int32), cells + (7) ≤ 57 → slots + (42) ≤ 419 → bk D x A g1 s H → va_S A s.heap H locs → p_L ls 9 [(0, .ref x), (1, .ref y), (2, .int i2), (5, .int i5), (6, .int i6)] → fL_refuses_494 k  g1 i2 i5 i6 si0 = some r → W p l e rL_refuses s m args below meth c H locs cells slots (MQ below (b_M D x A r) args s 57 419 A) (F0 m 494 ls [.int si0]) := by
    intro cells slots H locs ls g1 i2 i5 i6 si0 hcc hss hQ hS hL hf
    rw [fL_refuses_494] at hf
    refine p_istore (lv' := [(7, .int si0), (0, .ref x), (1, .ref y), (2, .int i2), (5, .int i5), (6, .int i6)]) hx hb dL_refuses_494 hL (by decide) rfl (fun ls hL => ?_)
    refine lv_aload_n hx hb dL_refuses_496 rfl (lv_at hL.1 2 rfl) ?_
    refine lv_iconst (v := 0) hx hb dL_refuses_497 (by decide) ?_
    refine b_n0 hx hb hN hAy hS dL_refuses_498 ?_
    refine lv_if_ne (tgt := 506) hx hb dL_refuses_499 (by decide) (fun c13 => ?_) (fun c13 => ?_)
    · rw [if_neg c13] at hf
      refine lv_iload_n hx hb dL_refuses_506 rfl (lv_at hL.1 3 rfl) ?_
      refine lv_iconst (v := 2) hx hb dL_refuses_507 (by decide) ?_
      refine lv_idiv hx hb dL_refuses_508 (by decide) ?_
      refine lv_aload_n hx hb dL_refuses_509 rfl (lv_at hL.1 2 rfl) ?_
      refine lv_iconst (v := 0) hx hb dL_refuses_510 (by decide) ?_
      refine b_n0 hx hb hN hAy hS dL_refuses_511 ?_
      obtain ⟨u14, e15, hf⟩ := p_b hf
      refine lv_irem hx hb dL_refuses_512 (p_nzd_of e15) ?_
      exact b513 _ _ _ _ _ g1 i5 i6 si0 ((i2 / 2) - (i2 / 2) / k * k) (by omega) (by omega) hQ hS (hL.sub [1, 4, 5, 0] rfl) hf
    · rw [if_pos c13] at hf
      refine lv_iconst (v := -1) hx hb dL_refuses_502 (by decide) ?_
      refine lv_goto (tgt := 513) hx hb dL_refuses_503 (by decide) ?_
      exact b513 _ _ _ _ _ g1 i5 i6 si0 (-1) (by omega) (by omega) hQ hS (hL.sub [1, 4, 5, 0] rfl) hf
  have b493 : ∀ (cells slots : Nat) (H : Heap) (locs : List Loc) (ls : Array Slot) (g1 : Sg) (i2 : Int32) (i5 : Int32) (i6 : Int32), cells + (7) ≤ 57 → slots + (42) ≤ 419 → bk D x A g1 s H → va_S A s.heap H locs → p_L ls 9 [(0, .ref x), (1, .ref y), (2, .int i2), (5, .int i5), (6, .int i6)] → fL_refuses_493 k  g1 i2 i5 i6 = some r → W p l e rL_refuses s m args below meth c H locs cells slots (MQ below (b_M D x A r) args s 57 419 A) (F0 m 493 ls []) := by
    intro cells slots H locs ls g1 i2 i5 i6 hcc hss hQ hS hL hf
    rw [fL_refuses_493] at hf
    refine lv_iconst (v := 0) hx hb dL_refuses_493 (by decide) ?_
    exact b494 _ _ _ _ _ g1 i2 i5 i6 0 (by omega) (by omega) hQ hS (hL.sub [0, 1, 2, 3, 4] rfl) hf
  have b489 : ∀ (cells slots : Nat) (H : Heap) (locs : List Loc) (ls : Array Slot) (g1 : Sg) (i2 : Int32) (i5 : Int32) (i6 : Int32), cells + (7) ≤ 57 → slots + (42) ≤ 419 → bk D x A g1 s H → va_S A s.heap H locs → p_L ls 9 [(0, .ref x), (1, .ref y), (2, .int i2), (5, .int i5), (6, .int i6)] → fL_refuses_489 k  g1 i2 i5 i6 = some r → W p l e rL_refuses s m args below meth c H locs cells slots (MQ below (b_M D x A r) args s 57 419 A) (F0 m 489 ls []) := by
    intro cells slots H locs ls g1 i2 i5 i6 hcc hss hQ hS hL hf
    rw [fL_refuses_489] at hf
    refine lv_iconst (v := 1) hx hb dL_refuses_489 (by decide) ?_
    refine lv_goto (tgt := 494) hx hb dL_refuses_490 (by decide) ?_
    exact b494 _ _ _ _ _ g1 i2 i5 i6 1 (by omega) (by omega) hQ hS (hL.sub [0, 1, 2, 3, 4] rfl) hf
  have b473 : ∀ (cells slots : Nat) (H : Heap) (locs : List Loc) (ls : Array Slot) (g1 : Sg) (i2 : Int32) (i5 : Int32) (i6 : Int32), cells + (10) ≤ 57 → slots + (67) ≤ 419 → bk D x A g1 s H → va_S A s.heap H locs → p_L ls 9 [(0, .ref x), (1, .ref y), (2, .int i2), (5, .int i5), (6, .int i6)] → fL_refuses_473 k  g1 i2 i5 i6 = some r → W p l e rL_refuses s m args below meth c H locs cells slots (MQ below (b_M D x A r) args s 57 419 A) (F0 m 473 ls []) := by
    intro cells slots H locs ls g1 i2 i5 i6 hcc hss hQ hS hL hf
    rw [fL_refuses_473] at hf
    refine lv_aload_n hx hb dL_refuses_473 rfl (lv_at hL.1 0 rfl) ?_
    refine lv_iconst (v := 0) hx hb dL_refuses_474 (by decide) ?_
    refine lv_iconst (v := 0) hx hb dL_refuses_475 (by decide) ?_
    refine lv_iconst (v := 1) hx hb dL_refuses_476 (by decide) ?_
    refine lv_iconst (v := 1) hx hb dL_refuses_477 (by decide) ?_
    refine lv_iconst (v := 1) hx hb dL_refuses_478 (by decide) ?_
    refine lv_iconst (v := 5) hx hb dL_refuses_479 (by decide) ?_
    refine lv_iconst (v := 5) hx hb dL_refuses_480 (by decide) ?_
    obtain ⟨u18, e19, hf⟩ := p_b hf
    obtain ⟨y16, e17, hf⟩ := p_b hf
    refine b_mv (vx_runSW (As := [.ref x, .int 0, .int 0, .int 1, .int 1, .int 1, .int 5, .int 5]) (rest := []) hC (b_eqM (wL_opens l hl D x H.size A (fun q hq => hAz q (Nat.le_trans hS.1 hq)) g1 0 0 1 1 1 5 5 (p_z_or e19)) e17) (vx_cwSW 8 hts gL_refuses_L_opens rfl rfl rfl (by decide +kernel) ⟨Nat.le_of_ble_eq_true rfl, Nat.le_of_ble_eq_true rfl⟩) (b_preS hK hQ (hE.kept hS.2.1) hca) rfl rfl hL.1.1 rfl (lv_room (Nat.le_of_ble_eq_true rfl)) dL_refuses_481 ⟨by show _ ≤ (57 : Nat); omega, by show _ ≤ (419 : Nat); omega⟩) hS (fun H locs hQ hS => ?_)
    refine lv_ldc (v := kST) hx hb hown (hts (.constant RL 18 kST) (by decide +kernel)) dL_refuses_484 ?_
    refine lv_icmp_ne (tgt := 493) hx hb dL_refuses_486 (by decide) (fun c20 => ?_) (fun c20 => ?_)
    · rw [if_neg c20] at hf
      exact b493 _ _ _ _ _ y16.2 i2 i5 i6 (by omega) (by omega) hQ hS (hL.sub [0, 1, 2, 3, 4] rfl) hf
    · rw [if_pos c20] at hf
      exact b489 _ _ _ _ _ y16.2 i2 i5 i6 (by omega) (by omega) hQ hS (hL.sub [0, 1, 2, 3, 4] rfl) hf
  have b77 : ∀ (cells slots : Nat) (H : Heap) (locs : List Loc) (ls : Array Slot) (g1 : Sg) (i2 : Int32) (i4 : Int32) (i5 : Int32) (si0 : Int32), cells + (57) ≤ 57 → slots + (419) ≤ 419 → bk D x A g1 s H → va_S A s.heap H locs → p_L ls 9 [(0, .ref x), (1, .ref y), (2, .int i2), (4, .int i4), (5, .int i5)] → fL_refuses_77 k  g1 i2 i4 i5 si0 = some r → W p l e rL_refuses s m args below meth c H locs cells slots (MQ below (b_M D x A r) args s 57 419 A) (F0 m 77 ls [.int si0]) := by
    intro cells slots H locs ls g1 i2 i4 i5 si0 hcc hss hQ hS hL hf
    rw [fL_refuses_77] at hf
    refine p_istore (lv' := [(6, .int si0), (0, .ref x), (1, .ref y), (2, .int i2), (4, .int i4), (5, .int i5)]) hx hb dL_refuses_77 hL (by decide) rfl (fun ls hL => ?_)
    refine lv_aload_n hx hb dL_refuses_79 rfl (lv_at hL.1 1 rfl) ?_
    refine lv_iload hx hb dL_refuses_80 (lv_at hL.1 5 rfl) ?_
    refine lv_iconst (v := 0) hx hb dL_refuses_82 (by decide) ?_
    refine lv_iconst (v := 1) hx hb dL_refuses_83 (by decide) ?_
    refine lv_iconst (v := 1) hx hb dL_refuses_84 (by decide) ?_
    refine lv_iconst (v := 0) hx hb dL_refuses_85 (by decide) ?_
    refine lv_iconst (v := 5) hx hb dL_refuses_86 (by decide) ?_
    refine lv_iconst (v := 5) hx hb dL_refuses_87 (by decide) ?_
    obtain ⟨u23, e24, hf⟩ := p_b hf
    obtain ⟨y21, e22, hf⟩ := p_b hf
    refine b_mv (vx_runSW (As := [.ref x, .int i5, .int 0, .int 1, .int 1, .int 0, .int 5, .int 5]) (rest := []) hC (b_eqM (wL_opens l hl D x H.size A (fun q hq => hAz q (Nat.le_trans hS.1 hq)) g1 i5 0 1 1 0 5 5 (p_z_or e24)) e22) (vx_cwSW 8 hts gL_refuses_L_opens rfl rfl rfl (by decide +kernel) ⟨Nat.le_of_ble_eq_true rfl, Nat.le_of_ble_eq_true rfl⟩) (b_preS hK hQ (hE.kept hS.2.1) hca) rfl rfl hL.1.1 rfl (lv_room (Nat.le_of_ble_eq_true rfl)) dL_refuses_88 ⟨by show _ ≤ (57 : Nat); omega, by show _ ≤ (419 : Nat); omega⟩) hS (fun H locs hQ hS => ?_)
    refine lv_ldc (v := kAR) hx hb hown (hts (.constant RL 15 kAR) (by decide +kernel)) dL_refuses_91 ?_
    refine lv_icmp_ne (tgt := 493) hx hb dL_refuses_93 (by decide) (fun c25 => ?_) (fun c25 => ?_)
    · rw [if_neg c25] at hf
      exact b493 _ _ _ _ _ y21.2 i2 i5 si0 (by omega) (by omega) hQ hS (hL.sub [1, 2, 3, 5, 0] rfl) hf
    · rw [if_pos c25] at hf
      refine lv_aload_n hx hb dL_refuses_96 rfl (lv_at hL.1 1 rfl) ?_
      refine lv_iconst (v := 0) hx hb dL_refuses_97 (by decide) ?_
      refine lv_iload hx hb dL_refuses_98 (lv_at hL.1 0 rfl) ?_
      refine lv_iconst (v := 1) hx hb dL_refuses_100 (by decide) ?_
      refine lv_iconst (v := 1) hx hb dL_refuses_101 (by decide) ?_
      refine lv_iconst (v := 0) hx hb dL_refuses_102 (by decide) ?_
      refine lv_iconst (v := 5) hx hb dL_refuses_103 (by decide) ?_
      refine lv_iconst (v := 5) hx hb dL_refuses_104 (by decide) ?_
      obtain ⟨u28, e29, hf⟩ := p_b hf
      obtain ⟨y26, e27, hf⟩ := p_b hf
      refine b_mv (vx_runSW (As := [.ref x, .int 0, .int si0, .int 1, .int 1, .int 0, .int 5, .int 5]) (rest := []) hC (b_eqM (wL_opens l hl D x H.size A (fun q hq => hAz q (Nat.le_trans hS.1 hq)) y21.2 0 si0 1 1 0 5 5 (p_z_or e29)) e27) (vx_cwSW 8 hts gL_refuses_L_opens rfl rfl rfl (by decide +kernel) ⟨Nat.le_of_ble_eq_true rfl, Nat.le_of_ble_eq_true rfl⟩) (b_preS hK hQ (hE.kept hS.2.1) hca) rfl rfl hL.1.1 rfl (lv_room (Nat.le_of_ble_eq_true rfl)) dL_refuses_105 ⟨by show _ ≤ (57 : Nat); omega, by show _ ≤ (419 : Nat); omega⟩) hS (fun H locs hQ hS => ?_)
      refine lv_ldc (v := kAR) hx hb hown (hts (.constant RL 15 kAR) (by decide +kernel)) dL_refuses_108 ?_
      refine lv_icmp_ne (tgt := 493) hx hb dL_refuses_110 (by decide) (fun c30 => ?_) (fun c30 => ?_)
      · rw [if_neg c30] at hf
        exact b493 _ _ _ _ _ y26.2 i2 i5 si0 (by omega) (by omega) hQ hS (hL.sub [1, 2, 3, 5, 0] rfl) hf
      · rw [if_pos c30] at hf
        refine lv_aload_n hx hb dL_refuses_113 rfl (lv_at hL.1 1 rfl) ?_
        refine lv_iload_n hx hb dL_refuses_114 rfl (lv_at hL.1 3 rfl) ?_
        refine lv_bipush (v := 8) hx hb dL_refuses_115 (by decide) ?_
        refine lv_irem hx hb dL_refuses_117 (by decide) ?_
        refine lv_iconst (v := 0) hx hb dL_refuses_118 (by decide) ?_
        refine lv_bipush (v := 9) hx hb dL_refuses_119 (by decide) ?_
        refine lv_iload_n hx hb dL_refuses_121 rfl (lv_at hL.1 3 rfl) ?_
        refine lv_bipush (v := 8) hx hb dL_refuses_122 (by decide) ?_
        refine lv_irem hx hb dL_refuses_124 (by decide) ?_
        refine lv_isub hx hb dL_refuses_125 ?_
        refine lv_iconst (v := 1) hx hb dL_refuses_126 (by decide) ?_
        refine lv_iconst (v := 1) hx hb dL_refuses_127 (by decide) ?_
        refine lv_iconst (v := 5) hx hb dL_refuses_128 (by decide) ?_
        refine lv_iconst (v := 5) hx hb dL_refuses_129 (by decide) ?_
        obtain ⟨u33, e34, hf⟩ := p_b hf
        obtain ⟨y31, e32, hf⟩ := p_b hf
        refine b_mv (vx_runSW (As := [.ref x, .int (i2 - i2 / 8 * 8), .int 0, .int (9 - (i2 - i2 / 8 * 8)), .int 1, .int 1, .int 5, .int 5]) (rest := []) hC (b_eqM (wL_opens l hl D x H.size A (fun q hq => hAz q (Nat.le_trans hS.1 hq)) y26.2 (i2 - i2 / 8 * 8) 0 (9 - (i2 - i2 / 8 * 8)) 1 1 5 5 (p_z_or e34)) e32) (vx_cwSW 8 hts gL_refuses_L_opens rfl rfl rfl (by decide +kernel) ⟨Nat.le_of_ble_eq_true rfl, Nat.le_of_ble_eq_true rfl⟩) (b_preS hK hQ (hE.kept hS.2.1) hca) rfl rfl hL.1.1 rfl (lv_room (Nat.le_of_ble_eq_true rfl)) dL_refuses_130 ⟨by show _ ≤ (57 : Nat); omega, by show _ ≤ (419 : Nat); omega⟩) hS (fun H locs hQ hS => ?_)
        refine lv_ldc (v := kAR) hx hb hown (hts (.constant RL 15 kAR) (by decide +kernel)) dL_refuses_133 ?_
        refine lv_icmp_ne (tgt := 493) hx hb dL_refuses_135 (by decide) (fun c35 => ?_) (fun c35 => ?_)
        · rw [if_neg c35] at hf
          exact b493 _ _ _ _ _ y31.2 i2 i5 si0 (by omega) (by omega) hQ hS (hL.sub [1, 2, 3, 5, 0] rfl) hf
        · rw [if_pos c35] at hf
          refine lv_aload_n hx hb dL_refuses_138 rfl (lv_at hL.1 1 rfl) ?_
          refine lv_iconst (v := 0) hx hb dL_refuses_139 (by decide) ?_
          refine lv_iload_n hx hb dL_refuses_140 rfl (lv_at hL.1 3 rfl) ?_
          refine lv_bipush (v := 6) hx hb dL_refuses_141 (by decide) ?_
          refine lv_irem hx hb dL_refuses_143 (by decide) ?_
          refine lv_iconst (v := 1) hx hb dL_refuses_144 (by decide) ?_
          refine lv_bipush (v := 7) hx hb dL_refuses_145 (by decide) ?_
          refine lv_iload_n hx hb dL_refuses_147 rfl (lv_at hL.1 3 rfl) ?_
          refine lv_bipush (v := 6) hx hb dL_refuses_148 (by decide) ?_
          refine lv_irem hx hb dL_refuses_150 (by decide) ?_
          refine lv_isub hx hb dL_refuses_151 ?_
          refine lv_iconst (v := 1) hx hb dL_refuses_152 (by decide) ?_
          refine lv_iconst (v := 5) hx hb dL_refuses_153 (by decide) ?_
          refine lv_iconst (v := 5) hx hb dL_refuses_154 (by decide) ?_
          obtain ⟨u38, e39, hf⟩ := p_b hf
          obtain ⟨y36, e37, hf⟩ := p_b hf
          refine b_mv (vx_runSW (As := [.ref x, .int 0, .int (i2 - i2 / 6 * 6), .int 1, .int (7 - (i2 - i2 / 6 * 6)), .int 1, .int 5, .int 5]) (rest := []) hC (b_eqM (wL_opens l hl D x H.size A (fun q hq => hAz q (Nat.le_trans hS.1 hq)) y31.2 0 (i2 - i2 / 6 * 6) 1 (7 - (i2 - i2 / 6 * 6)) 1 5 5 (p_z_or e39)) e37) (vx_cwSW 8 hts gL_refuses_L_opens rfl rfl rfl (by decide +kernel) ⟨Nat.le_of_ble_eq_true rfl, Nat.le_of_ble_eq_true rfl⟩) (b_preS hK hQ (hE.kept hS.2.1) hca) rfl rfl hL.1.1 rfl (lv_room (Nat.le_of_ble_eq_true rfl)) dL_refuses_155 ⟨by show _ ≤ (57 : Nat); omega, by show _ ≤ (419 : Nat); omega⟩) hS (fun H locs hQ hS => ?_)
          refine lv_ldc (v := kAR) hx hb hown (hts (.constant RL 15 kAR) (by decide +kernel)) dL_refuses_158 ?_
          refine lv_icmp_ne (tgt := 493) hx hb dL_refuses_160 (by decide) (fun c40 => ?_) (fun c40 => ?_)
          · rw [if_neg c40] at hf
            exact b493 _ _ _ _ _ y36.2 i2 i5 si0 (by omega) (by omega) hQ hS (hL.sub [1, 2, 3, 5, 0] rfl) hf
          · rw [if_pos c40] at hf
            refine lv_aload_n hx hb dL_refuses_163 rfl (lv_at hL.1 1 rfl) ?_
            refine lv_iconst (v := 0) hx hb dL_refuses_164 (by decide) ?_
            refine lv_iconst (v := 0) hx hb dL_refuses_165 (by decide) ?_
            refine lv_iconst (v := 0) hx hb dL_refuses_166 (by decide) ?_
            refine lv_iconst (v := 1) hx hb dL_refuses_167 (by decide) ?_
            refine lv_iconst (v := 0) hx hb dL_refuses_168 (by decide) ?_
            refine lv_iconst (v := 5) hx hb dL_refuses_169 (by decide) ?_
            refine lv_iconst (v := 5) hx hb dL_refuses_170 (by decide) ?_
            obtain ⟨u43, e44, hf⟩ := p_b hf
            obtain ⟨y41, e42, hf⟩ := p_b hf
            refine b_mv (vx_runSW (As := [.ref x, .int 0, .int 0, .int 0, .int 1, .int 0, .int 5, .int 5]) (rest := []) hC (b_eqM (wL_opens l hl D x H.size A (fun q hq => hAz q (Nat.le_trans hS.1 hq)) y36.2 0 0 0 1 0 5 5 (p_z_or e44)) e42) (vx_cwSW 8 hts gL_refuses_L_opens rfl rfl rfl (by decide +kernel) ⟨Nat.le_of_ble_eq_true rfl, Nat.le_of_ble_eq_true rfl⟩) (b_preS hK hQ (hE.kept hS.2.1) hca) rfl rfl hL.1.1 rfl (lv_room (Nat.le_of_ble_eq_true rfl)) dL_refuses_171 ⟨by show _ ≤ (57 : Nat); omega, by show _ ≤ (419 : Nat); omega⟩) hS (fun H locs hQ hS => ?_)
            refine lv_ldc (v := kAR) hx hb hown (hts (.constant RL 15 kAR) (by decide +kernel)) dL_refuses_174 ?_
            refine lv_icmp_ne (tgt := 493) hx hb dL_refuses_176 (by decide) (fun c45 => ?_) (fun c45 => ?_)
            · rw [if_neg c45] at hf
              exact b493 _ _ _ _ _ y41.2 i2 i5 si0 (by omega) (by omega) hQ hS (hL.sub [1, 2, 3, 5, 0] rfl) hf
            · rw [if_pos c45] at hf
              refine lv_aload_n hx hb dL_refuses_179 rfl (lv_at hL.1 1 rfl) ?_
              refine lv_iconst (v := 0) hx hb dL_refuses_180 (by decide) ?_
              refine lv_iconst (v := 0) hx hb dL_refuses_181 (by decide) ?_
              refine lv_iconst (v := 1) hx hb dL_refuses_182 (by decide) ?_
              refine lv_iload_n hx hb dL_refuses_183 rfl (lv_at hL.1 3 rfl) ?_
              refine lv_ineg hx hb dL_refuses_184 ?_
              refine lv_iconst (v := 0) hx hb dL_refuses_185 (by decide) ?_
              refine lv_iconst (v := 5) hx hb dL_refuses_186 (by decide) ?_
              refine lv_iconst (v := 5) hx hb dL_refuses_187 (by decide) ?_
              obtain ⟨u48, e49, hf⟩ := p_b hf
              obtain ⟨y46, e47, hf⟩ := p_b hf
              refine b_mv (vx_runSW (As := [.ref x, .int 0, .int 0, .int 1, .int (-i2), .int 0, .int 5, .int 5]) (rest := []) hC (b_eqM (wL_opens l hl D x H.size A (fun q hq => hAz q (Nat.le_trans hS.1 hq)) y41.2 0 0 1 (-i2) 0 5 5 (p_z_or e49)) e47) (vx_cwSW 8 hts gL_refuses_L_opens rfl rfl rfl (by decide +kernel) ⟨Nat.le_of_ble_eq_true rfl, Nat.le_of_ble_eq_true rfl⟩) (b_preS hK hQ (hE.kept hS.2.1) hca) rfl rfl hL.1.1 rfl (lv_room (Nat.le_of_ble_eq_true rfl)) dL_refuses_188 ⟨by show _ ≤ (57 : Nat); omega, by show _ ≤ (419 : Nat); omega⟩) hS (fun H locs hQ hS => ?_)
              refine lv_ldc (v := kAR) hx hb hown (hts (.constant RL 15 kAR) (by decide +kernel)) dL_refuses_191 ?_
              refine lv_icmp_ne (tgt := 493) hx hb dL_refuses_193 (by decide) (fun c50 => ?_) (fun c50 => ?_)
              · rw [if_neg c50] at hf
                exact b493 _ _ _ _ _ y46.2 i2 i5 si0 (by omega) (by omega) hQ hS (hL.sub [1, 2, 3, 5, 0] rfl) hf
              · rw [if_pos c50] at hf
                refine lv_aload_n hx hb dL_refuses_196 rfl (lv_at hL.1 1 rfl) ?_
                refine lv_iconst (v := 0) hx hb dL_refuses_197 (by decide) ?_
                refine lv_iconst (v := 0) hx hb dL_refuses_198 (by decide) ?_
                refine lv_iconst (v := 1) hx hb dL_refuses_199 (by decide) ?_
                refine lv_iconst (v := 1) hx hb dL_refuses_200 (by decide) ?_
                refine lv_iconst (v := 0) hx hb dL_refuses_201 (by decide) ?_
                refine lv_bipush (v := 101) hx hb dL_refuses_202 (by decide) ?_
                refine lv_iload_n hx hb dL_refuses_204 rfl (lv_at hL.1 3 rfl) ?_
                refine lv_iadd hx hb dL_refuses_205 ?_
                refine lv_iconst (v := 5) hx hb dL_refuses_206 (by decide) ?_
                obtain ⟨u53, e54, hf⟩ := p_b hf
                obtain ⟨y51, e52, hf⟩ := p_b hf
                refine b_mv (vx_runSW (As := [.ref x, .int 0, .int 0, .int 1, .int 1, .int 0, .int (101 + i2), .int 5]) (rest := []) hC (b_eqM (wL_opens l hl D x H.size A (fun q hq => hAz q (Nat.le_trans hS.1 hq)) y46.2 0 0 1 1 0 (101 + i2) 5 (p_z_or e54)) e52) (vx_cwSW 8 hts gL_refuses_L_opens rfl rfl rfl (by decide +kernel) ⟨Nat.le_of_ble_eq_true rfl, Nat.le_of_ble_eq_true rfl⟩) (b_preS hK hQ (hE.kept hS.2.1) hca) rfl rfl hL.1.1 rfl (lv_room (Nat.le_of_ble_eq_true rfl)) dL_refuses_207 ⟨by show _ ≤ (57 : Nat); omega, by show _ ≤ (419 : Nat); omega⟩) hS (fun H locs hQ hS => ?_)
                refine lv_ldc (v := kAR) hx hb hown (hts (.constant RL 15 kAR) (by decide +kernel)) dL_refuses_210 ?_
                refine lv_icmp_ne (tgt := 493) hx hb dL_refuses_212 (by decide) (fun c55 => ?_) (fun c55 => ?_)
                · rw [if_neg c55] at hf
                  exact b493 _ _ _ _ _ y51.2 i2 i5 si0 (by omega) (by omega) hQ hS (hL.sub [1, 2, 3, 5, 0] rfl) hf
                · rw [if_pos c55] at hf
                  refine lv_aload_n hx hb dL_refuses_215 rfl (lv_at hL.1 1 rfl) ?_
                  refine lv_iconst (v := 0) hx hb dL_refuses_216 (by decide) ?_
                  refine lv_iconst (v := 0) hx hb dL_refuses_217 (by decide) ?_
                  refine lv_iconst (v := 1) hx hb dL_refuses_218 (by decide) ?_
                  refine lv_iconst (v := 1) hx hb dL_refuses_219 (by decide) ?_
                  refine lv_iconst (v := 0) hx hb dL_refuses_220 (by decide) ?_
                  refine lv_iload_n hx hb dL_refuses_221 rfl (lv_at hL.1 3 rfl) ?_
                  refine lv_ineg hx hb dL_refuses_222 ?_
                  refine lv_iconst (v := 5) hx hb dL_refuses_223 (by decide) ?_
                  obtain ⟨u58, e59, hf⟩ := p_b hf
                  obtain ⟨y56, e57, hf⟩ := p_b hf
                  refine b_mv (vx_runSW (As := [.ref x, .int 0, .int 0, .int 1, .int 1, .int 0, .int (-i2), .int 5]) (rest := []) hC (b_eqM (wL_opens l hl D x H.size A (fun q hq => hAz q (Nat.le_trans hS.1 hq)) y51.2 0 0 1 1 0 (-i2) 5 (p_z_or e59)) e57) (vx_cwSW 8 hts gL_refuses_L_opens rfl rfl rfl (by decide +kernel) ⟨Nat.le_of_ble_eq_true rfl, Nat.le_of_ble_eq_true rfl⟩) (b_preS hK hQ (hE.kept hS.2.1) hca) rfl rfl hL.1.1 rfl (lv_room (Nat.le_of_ble_eq_true rfl)) dL_refuses_224 ⟨by show _ ≤ (57 : Nat); omega, by show _ ≤ (419 : Nat); omega⟩) hS (fun H locs hQ hS => ?_)
                  refine lv_ldc (v := kAR) hx hb hown (hts (.constant RL 15 kAR) (by decide +kernel)) dL_refuses_227 ?_
                  refine lv_icmp_ne (tgt := 493) hx hb dL_refuses_229 (by decide) (fun c60 => ?_) (fun c60 => ?_)
                  · rw [if_neg c60] at hf
                    exact b493 _ _ _ _ _ y56.2 i2 i5 si0 (by omega) (by omega) hQ hS (hL.sub [1, 2, 3, 5, 0] rfl) hf
                  · rw [if_pos c60] at hf
                    refine lv_aload_n hx hb dL_refuses_232 rfl (lv_at hL.1 1 rfl) ?_
                    refine lv_iconst (v := 0) hx hb dL_refuses_233 (by decide) ?_
                    refine lv_iconst (v := 0) hx hb dL_refuses_234 (by decide) ?_
                    refine lv_iconst (v := 1) hx hb dL_refuses_235 (by decide) ?_
                    refine lv_iconst (v := 1) hx hb dL_refuses_236 (by decide) ?_
                    refine lv_iconst (v := 0) hx hb dL_refuses_237 (by decide) ?_
                    refine lv_iconst (v := 5) hx hb dL_refuses_238 (by decide) ?_
                    refine lv_bipush (v := 21) hx hb dL_refuses_239 (by decide) ?_
                    refine lv_iload_n hx hb dL_refuses_241 rfl (lv_at hL.1 3 rfl) ?_
                    refine lv_iadd hx hb dL_refuses_242 ?_
                    obtain ⟨u63, e64, hf⟩ := p_b hf
                    obtain ⟨y61, e62, hf⟩ := p_b hf
                    refine b_mv (vx_runSW (As := [.ref x, .int 0, .int 0, .int 1, .int 1, .int 0, .int 5, .int (21 + i2)]) (rest := []) hC (b_eqM (wL_opens l hl D x H.size A (fun q hq => hAz q (Nat.le_trans hS.1 hq)) y56.2 0 0 1 1 0 5 (21 + i2) (p_z_or e64)) e62) (vx_cwSW 8 hts gL_refuses_L_opens rfl rfl rfl (by decide +kernel) ⟨Nat.le_of_ble_eq_true rfl, Nat.le_of_ble_eq_true rfl⟩) (b_preS hK hQ (hE.kept hS.2.1) hca) rfl rfl hL.1.1 rfl (lv_room (Nat.le_of_ble_eq_true rfl)) dL_refuses_243 ⟨by show _ ≤ (57 : Nat); omega, by show _ ≤ (419 : Nat); omega⟩) hS (fun H locs hQ hS => ?_)
                    refine lv_ldc (v := kAR) hx hb hown (hts (.constant RL 15 kAR) (by decide +kernel)) dL_refuses_246 ?_
                    refine lv_icmp_ne (tgt := 493) hx hb dL_refuses_248 (by decide) (fun c65 => ?_) (fun c65 => ?_)
                    · rw [if_neg c65] at hf
                      exact b493 _ _ _ _ _ y61.2 i2 i5 si0 (by omega) (by omega) hQ hS (hL.sub [1, 2, 3, 5, 0] rfl) hf
                    · rw [if_pos c65] at hf
                      refine lv_aload_n hx hb dL_refuses_251 rfl (lv_at hL.1 1 rfl) ?_
                      refine lv_iconst (v := 0) hx hb dL_refuses_252 (by decide) ?_
                      refine lv_iconst (v := 0) hx hb dL_refuses_253 (by decide) ?_
                      refine lv_iconst (v := 1) hx hb dL_refuses_254 (by decide) ?_
                      refine lv_iconst (v := 1) hx hb dL_refuses_255 (by decide) ?_
                      refine lv_iconst (v := 0) hx hb dL_refuses_256 (by decide) ?_
                      refine lv_iconst (v := 5) hx hb dL_refuses_257 (by decide) ?_
                      refine lv_iload_n hx hb dL_refuses_258 rfl (lv_at hL.1 3 rfl) ?_
                      refine lv_ineg hx hb dL_refuses_259 ?_
                      obtain ⟨u68, e69, hf⟩ := p_b hf
                      obtain ⟨y66, e67, hf⟩ := p_b hf
                      refine b_mv (vx_runSW (As := [.ref x, .int 0, .int 0, .int 1, .int 1, .int 0, .int 5, .int (-i2)]) (rest := []) hC (b_eqM (wL_opens l hl D x H.size A (fun q hq => hAz q (Nat.le_trans hS.1 hq)) y61.2 0 0 1 1 0 5 (-i2) (p_z_or e69)) e67) (vx_cwSW 8 hts gL_refuses_L_opens rfl rfl rfl (by decide +kernel) ⟨Nat.le_of_ble_eq_true rfl, Nat.le_of_ble_eq_true rfl⟩) (b_preS hK hQ (hE.kept hS.2.1) hca) rfl rfl hL.1.1 rfl (lv_room (Nat.le_of_ble_eq_true rfl)) dL_refuses_260 ⟨by show _ ≤ (57 : Nat); omega, by show _ ≤ (419 : Nat); omega⟩) hS (fun H locs hQ hS => ?_)
                      refine lv_ldc (v := kAR) hx hb hown (hts (.constant RL 15 kAR) (by decide +kernel)) dL_refuses_263 ?_
                      refine lv_icmp_ne (tgt := 493) hx hb dL_refuses_265 (by decide) (fun c70 => ?_) (fun c70 => ?_)
                      · rw [if_neg c70] at hf
                        exact b493 _ _ _ _ _ y66.2 i2 i5 si0 (by omega) (by omega) hQ hS (hL.sub [1, 2, 3, 5, 0] rfl) hf
                      · rw [if_pos c70] at hf
                        refine lv_aload_n hx hb dL_refuses_268 rfl (lv_at hL.1 1 rfl) ?_
                        refine lv_iload hx hb dL_refuses_269 (lv_at hL.1 4 rfl) ?_
                        obtain ⟨y71, e72, hf⟩ := p_b hf
                        refine b_mv (vx_runSW (As := [.ref x, .int i4]) (rest := []) hC (b_eqM (wL_closes l hl D x H.size A (fun q hq => hAz q (Nat.le_trans hS.1 hq)) y66.2 i4) e72) (vx_cwSW 2 hts gL_refuses_L_closes rfl rfl rfl (by decide +kernel) ⟨Nat.le_of_ble_eq_true rfl, Nat.le_of_ble_eq_true rfl⟩) (b_preS hK hQ (hE.kept hS.2.1) hca) rfl rfl hL.1.1 rfl (lv_room (Nat.le_of_ble_eq_true rfl)) dL_refuses_271 ⟨by show _ ≤ (57 : Nat); omega, by show _ ≤ (419 : Nat); omega⟩) hS (fun H locs hQ hS => ?_)
                        refine lv_ldc (v := kIX) hx hb hown (hts (.constant RL 25 kIX) (by decide +kernel)) dL_refuses_274 ?_
                        refine lv_icmp_ne (tgt := 493) hx hb dL_refuses_276 (by decide) (fun c73 => ?_) (fun c73 => ?_)
                        · rw [if_neg c73] at hf
                          exact b493 _ _ _ _ _ y71.2 i2 i5 si0 (by omega) (by omega) hQ hS (hL.sub [1, 2, 3, 5, 0] rfl) hf
                        · rw [if_pos c73] at hf
                          refine lv_aload_n hx hb dL_refuses_279 rfl (lv_at hL.1 1 rfl) ?_
                          refine lv_iload hx hb dL_refuses_280 (lv_at hL.1 4 rfl) ?_
                          refine lv_iload hx hb dL_refuses_282 (lv_at hL.1 5 rfl) ?_
                          refine lv_iload hx hb dL_refuses_284 (lv_at hL.1 0 rfl) ?_
                          obtain ⟨y74, e75, hf⟩ := p_b hf
                          refine b_mv (vx_runSW (As := [.ref x, .int i4, .int i5, .int si0]) (rest := []) hC (b_eqM (wL_moves l hl D x H.size A (fun q hq => hAz q (Nat.le_trans hS.1 hq)) y71.2 i4 i5 si0) e75) (vx_cwSW 4 hts gL_refuses_L_moves rfl rfl rfl (by decide +kernel) ⟨Nat.le_of_ble_eq_true rfl, Nat.le_of_ble_eq_true rfl⟩) (b_preS hK hQ (hE.kept hS.2.1) hca) rfl rfl hL.1.1 rfl (lv_room (Nat.le_of_ble_eq_true rfl)) dL_refuses_286 ⟨by show _ ≤ (57 : Nat); omega, by show _ ≤ (419 : Nat); omega⟩) hS (fun H locs hQ hS => ?_)
                          refine lv_ldc (v := kIX) hx hb hown (hts (.constant RL 25 kIX) (by decide +kernel)) dL_refuses_289 ?_
                          refine lv_icmp_ne (tgt := 493) hx hb dL_refuses_291 (by decide) (fun c76 => ?_) (fun c76 => ?_)
                          · rw [if_neg c76] at hf
                            exact b493 _ _ _ _ _ y74.2 i2 i5 si0 (by omega) (by omega) hQ hS (hL.sub [1, 2, 3, 5, 0] rfl) hf
                          · rw [if_pos c76] at hf
                            refine lv_aload_n hx hb dL_refuses_294 rfl (lv_at hL.1 1 rfl) ?_
                            refine lv_iload hx hb dL_refuses_295 (lv_at hL.1 4 rfl) ?_
                            refine lv_iconst (v := 1) hx hb dL_refuses_297 (by decide) ?_
                            obtain ⟨y77, e78, hf⟩ := p_b hf
                            refine b_mv (vx_runSW (As := [.ref x, .int i4, .int 1]) (rest := []) hC (b_eqM (wL_lays l hl D x H.size A (fun q hq => hAz q (Nat.le_trans hS.1 hq)) y74.2 i4 1) e78) (vx_cwSW 3 hts gL_refuses_L_lays rfl rfl rfl (by decide +kernel) ⟨Nat.le_of_ble_eq_true rfl, Nat.le_of_ble_eq_true rfl⟩) (b_preS hK hQ (hE.kept hS.2.1) hca) rfl rfl hL.1.1 rfl (lv_room (Nat.le_of_ble_eq_true rfl)) dL_refuses_298 ⟨by show _ ≤ (57 : Nat); omega, by show _ ≤ (419 : Nat); omega⟩) hS (fun H locs hQ hS => ?_)
                            refine lv_ldc (v := kIX) hx hb hown (hts (.constant RL 25 kIX) (by decide +kernel)) dL_refuses_301 ?_
                            refine lv_icmp_ne (tgt := 493) hx hb dL_refuses_303 (by decide) (fun c79 => ?_) (fun c79 => ?_)
                            · rw [if_neg c79] at hf
                              exact b493 _ _ _ _ _ y77.2 i2 i5 si0 (by omega) (by omega) hQ hS (hL.sub [1, 2, 3, 5, 0] rfl) hf
                            · rw [if_pos c79] at hf
                              refine lv_aload_n hx hb dL_refuses_306 rfl (lv_at hL.1 1 rfl) ?_
                              refine lv_iload_n hx hb dL_refuses_307 rfl (lv_at hL.1 3 rfl) ?_
                              refine lv_ineg hx hb dL_refuses_308 ?_
                              obtain ⟨y80, e81, hf⟩ := p_b hf
                              refine b_mv (vx_runSW (As := [.ref x, .int (-i2)]) (rest := []) hC (b_eqM (wL_passes l hl D x H.size A (fun q hq => hAz q (Nat.le_trans hS.1 hq)) y77.2 (-i2)) e81) (vx_cwSW 2 hts gL_refuses_L_passes rfl rfl rfl (by decide +kernel) ⟨Nat.le_of_ble_eq_true rfl, Nat.le_of_ble_eq_true rfl⟩) (b_preS hK hQ (hE.kept hS.2.1) hca) rfl rfl hL.1.1 rfl (lv_room (Nat.le_of_ble_eq_true rfl)) dL_refuses_309 ⟨by show _ ≤ (57 : Nat); omega, by show _ ≤ (419 : Nat); omega⟩) hS (fun H locs hQ hS => ?_)
                              refine lv_ldc (v := kAR) hx hb hown (hts (.constant RL 15 kAR) (by decide +kernel)) dL_refuses_312 ?_
                              refine lv_icmp_ne (tgt := 493) hx hb dL_refuses_314 (by decide) (fun c82 => ?_) (fun c82 => ?_)
                              · rw [if_neg c82] at hf
                                exact b493 _ _ _ _ _ y80.2 i2 i5 si0 (by omega) (by omega) hQ hS (hL.sub [1, 2, 3, 5, 0] rfl) hf
                              · rw [if_pos c82] at hf
                                refine lv_aload_n hx hb dL_refuses_317 rfl (lv_at hL.1 1 rfl) ?_
                                refine lv_sipush (v := 201) hx hb dL_refuses_318 (by decide) ?_
                                refine lv_iload_n hx hb dL_refuses_321 rfl (lv_at hL.1 3 rfl) ?_
                                refine lv_iadd hx hb dL_refuses_322 ?_
                                obtain ⟨y83, e84, hf⟩ := p_b hf
                                refine b_mv (vx_runSW (As := [.ref x, .int (201 + i2)]) (rest := []) hC (b_eqM (wL_passes l hl D x H.size A (fun q hq => hAz q (Nat.le_trans hS.1 hq)) y80.2 (201 + i2)) e84) (vx_cwSW 2 hts gL_refuses_L_passes rfl rfl rfl (by decide +kernel) ⟨Nat.le_of_ble_eq_true rfl, Nat.le_of_ble_eq_true rfl⟩) (b_preS hK hQ (hE.kept hS.2.1) hca) rfl rfl hL.1.1 rfl (lv_room (Nat.le_of_ble_eq_true rfl)) dL_refuses_323 ⟨by show _ ≤ (57 : Nat); omega, by show _ ≤ (419 : Nat); omega⟩) hS (fun H locs hQ hS => ?_)
                                refine lv_ldc (v := kAR) hx hb hown (hts (.constant RL 15 kAR) (by decide +kernel)) dL_refuses_326 ?_
                                refine lv_icmp_ne (tgt := 493) hx hb dL_refuses_328 (by decide) (fun c85 => ?_) (fun c85 => ?_)
                                · rw [if_neg c85] at hf
                                  exact b493 _ _ _ _ _ y83.2 i2 i5 si0 (by omega) (by omega) hQ hS (hL.sub [1, 2, 3, 5, 0] rfl) hf
                                · rw [if_pos c85] at hf
                                  refine lv_aload_n hx hb dL_refuses_331 rfl (lv_at hL.1 1 rfl) ?_
                                  refine lv_iload hx hb dL_refuses_332 (lv_at hL.1 5 rfl) ?_
                                  refine lv_iconst (v := 0) hx hb dL_refuses_334 (by decide) ?_
                                  obtain ⟨y86, e87, hf⟩ := p_b hf
                                  refine b_mv (vx_runSW (As := [.ref x, .int i5, .int 0]) (rest := []) hC (b_eqM (wL_inputs l hl D x H.size A (fun q hq => hAz q (Nat.le_trans hS.1 hq)) y83.2 i5 0) e87) (vx_cwSW 3 hts gL_refuses_L_inputs rfl rfl rfl (by decide +kernel) ⟨Nat.le_of_ble_eq_true rfl, Nat.le_of_ble_eq_true rfl⟩) (b_preS hK hQ (hE.kept hS.2.1) hca) rfl rfl hL.1.1 rfl (lv_room (Nat.le_of_ble_eq_true rfl)) dL_refuses_335 ⟨by show _ ≤ (57 : Nat); omega, by show _ ≤ (419 : Nat); omega⟩) hS (fun H locs hQ hS => ?_)
                                  refine lv_ldc (v := kIX) hx hb hown (hts (.constant RL 25 kIX) (by decide +kernel)) dL_refuses_338 ?_
                                  refine lv_icmp_ne (tgt := 493) hx hb dL_refuses_340 (by decide) (fun c88 => ?_) (fun c88 => ?_)
                                  · rw [if_neg c88] at hf
                                    exact b493 _ _ _ _ _ y86.2 i2 i5 si0 (by omega) (by omega) hQ hS (hL.sub [1, 2, 3, 5, 0] rfl) hf
                                  · rw [if_pos c88] at hf
                                    refine lv_aload_n hx hb dL_refuses_343 rfl (lv_at hL.1 1 rfl) ?_
                                    refine lv_iconst (v := 0) hx hb dL_refuses_344 (by decide) ?_
                                    refine lv_iload hx hb dL_refuses_345 (lv_at hL.1 0 rfl) ?_
                                    obtain ⟨y89, e90, hf⟩ := p_b hf
                                    refine b_mv (vx_runSW (As := [.ref x, .int 0, .int si0]) (rest := []) hC (b_eqM (wL_inputs l hl D x H.size A (fun q hq => hAz q (Nat.le_trans hS.1 hq)) y86.2 0 si0) e90) (vx_cwSW 3 hts gL_refuses_L_inputs rfl rfl rfl (by decide +kernel) ⟨Nat.le_of_ble_eq_true rfl, Nat.le_of_ble_eq_true rfl⟩) (b_preS hK hQ (hE.kept hS.2.1) hca) rfl rfl hL.1.1 rfl (lv_room (Nat.le_of_ble_eq_true rfl)) dL_refuses_347 ⟨by show _ ≤ (57 : Nat); omega, by show _ ≤ (419 : Nat); omega⟩) hS (fun H locs hQ hS => ?_)
                                    refine lv_ldc (v := kIX) hx hb hown (hts (.constant RL 25 kIX) (by decide +kernel)) dL_refuses_350 ?_
                                    refine lv_icmp_ne (tgt := 493) hx hb dL_refuses_352 (by decide) (fun c91 => ?_) (fun c91 => ?_)
                                    · rw [if_neg c91] at hf
                                      exact b493 _ _ _ _ _ y89.2 i2 i5 si0 (by omega) (by omega) hQ hS (hL.sub [1, 2, 3, 5, 0] rfl) hf
                                    · rw [if_pos c91] at hf
                                      refine lv_aload_n hx hb dL_refuses_355 rfl (lv_at hL.1 1 rfl) ?_
                                      refine lv_iload hx hb dL_refuses_356 (lv_at hL.1 5 rfl) ?_
                                      refine lv_iconst (v := 0) hx hb dL_refuses_358 (by decide) ?_
                                      refine b_rd (vx_runSW (As := [.ref x, .int i5, .int 0]) (rest := []) hC (wL_at l hl D x H.size y89.2 i5 0) (vx_cwSW 3 hts gL_refuses_L_at rfl rfl rfl (by decide +kernel) ⟨Nat.le_of_ble_eq_true rfl, Nat.le_of_ble_eq_true rfl⟩) (b_preS hK hQ.tt ((hE.kept hS.2.1).narrow fun _ h9 => h9.elim) hca) rfl rfl hL.1.1 rfl (lv_room (Nat.le_of_ble_eq_true rfl)) dL_refuses_359 ⟨by show _ ≤ (57 : Nat); omega, by show _ ≤ (419 : Nat); omega⟩) hQ hS (fun H locs hQ hS => ?_)
                                      refine lv_ldc (v := kIX) hx hb hown (hts (.constant RL 25 kIX) (by decide +kernel)) dL_refuses_362 ?_
                                      refine lv_icmp_ne (tgt := 493) hx hb dL_refuses_364 (by decide) (fun c92 => ?_) (fun c92 => ?_)
                                      · rw [if_neg c92] at hf
                                        exact b493 _ _ _ _ _ y89.2 i2 i5 si0 (by omega) (by omega) hQ hS (hL.sub [1, 2, 3, 5, 0] rfl) hf
                                      · rw [if_pos c92] at hf
                                        refine lv_aload_n hx hb dL_refuses_367 rfl (lv_at hL.1 1 rfl) ?_
                                        refine lv_iconst (v := 0) hx hb dL_refuses_368 (by decide) ?_
                                        refine lv_iload hx hb dL_refuses_369 (lv_at hL.1 0 rfl) ?_
                                        refine b_rd (vx_runSW (As := [.ref x, .int 0, .int si0]) (rest := []) hC (wL_at l hl D x H.size y89.2 0 si0) (vx_cwSW 3 hts gL_refuses_L_at rfl rfl rfl (by decide +kernel) ⟨Nat.le_of_ble_eq_true rfl, Nat.le_of_ble_eq_true rfl⟩) (b_preS hK hQ.tt ((hE.kept hS.2.1).narrow fun _ h9 => h9.elim) hca) rfl rfl hL.1.1 rfl (lv_room (Nat.le_of_ble_eq_true rfl)) dL_refuses_371 ⟨by show _ ≤ (57 : Nat); omega, by show _ ≤ (419 : Nat); omega⟩) hQ hS (fun H locs hQ hS => ?_)
                                        refine lv_ldc (v := kIX) hx hb hown (hts (.constant RL 25 kIX) (by decide +kernel)) dL_refuses_374 ?_
                                        refine lv_icmp_ne (tgt := 493) hx hb dL_refuses_376 (by decide) (fun c93 => ?_) (fun c93 => ?_)
                                        · rw [if_neg c93] at hf
                                          exact b493 _ _ _ _ _ y89.2 i2 i5 si0 (by omega) (by omega) hQ hS (hL.sub [1, 2, 3, 5, 0] rfl) hf
                                        · rw [if_pos c93] at hf
                                          refine lv_aload_n hx hb dL_refuses_379 rfl (lv_at hL.1 1 rfl) ?_
                                          refine lv_iload hx hb dL_refuses_380 (lv_at hL.1 4 rfl) ?_
                                          refine b_rd (vx_runSW (As := [.ref x, .int i4]) (rest := []) hC (wL_place l hl D x H.size y89.2 i4) (vx_cwSW 2 hts gL_refuses_L_place rfl rfl rfl (by decide +kernel) ⟨Nat.le_of_ble_eq_true rfl, Nat.le_of_ble_eq_true rfl⟩) (b_preS hK hQ.tt ((hE.kept hS.2.1).narrow fun _ h9 => h9.elim) hca) rfl rfl hL.1.1 rfl (lv_room (Nat.le_of_ble_eq_true rfl)) dL_refuses_382 ⟨by show _ ≤ (57 : Nat); omega, by show _ ≤ (419 : Nat); omega⟩) hQ hS (fun H locs hQ hS => ?_)
                                          refine lv_ldc (v := kIX) hx hb hown (hts (.constant RL 25 kIX) (by decide +kernel)) dL_refuses_385 ?_
                                          refine lv_icmp_ne (tgt := 493) hx hb dL_refuses_387 (by decide) (fun c94 => ?_) (fun c94 => ?_)
                                          · rw [if_neg c94] at hf
                                            exact b493 _ _ _ _ _ y89.2 i2 i5 si0 (by omega) (by omega) hQ hS (hL.sub [1, 2, 3, 5, 0] rfl) hf
                                          · rw [if_pos c94] at hf
                                            refine lv_aload_n hx hb dL_refuses_390 rfl (lv_at hL.1 1 rfl) ?_
                                            refine lv_iload hx hb dL_refuses_391 (lv_at hL.1 4 rfl) ?_
                                            refine b_rd (vx_runSW (As := [.ref x, .int i4]) (rest := []) hC (wL_seen l hl D x H.size y89.2 i4) (vx_cwSW 2 hts gL_refuses_L_seen rfl rfl rfl (by decide +kernel) ⟨Nat.le_of_ble_eq_true rfl, Nat.le_of_ble_eq_true rfl⟩) (b_preS hK hQ.tt ((hE.kept hS.2.1).narrow fun _ h9 => h9.elim) hca) rfl rfl hL.1.1 rfl (lv_room (Nat.le_of_ble_eq_true rfl)) dL_refuses_393 ⟨by show _ ≤ (57 : Nat); omega, by show _ ≤ (419 : Nat); omega⟩) hQ hS (fun H locs hQ hS => ?_)
                                            refine lv_ldc (v := kIX) hx hb hown (hts (.constant RL 25 kIX) (by decide +kernel)) dL_refuses_396 ?_
                                            refine lv_icmp_ne (tgt := 493) hx hb dL_refuses_398 (by decide) (fun c95 => ?_) (fun c95 => ?_)
                                            · rw [if_neg c95] at hf
                                              exact b493 _ _ _ _ _ y89.2 i2 i5 si0 (by omega) (by omega) hQ hS (hL.sub [1, 2, 3, 5, 0] rfl) hf
                                            · rw [if_pos c95] at hf
                                              refine lv_aload_n hx hb dL_refuses_401 rfl (lv_at hL.1 1 rfl) ?_
                                              refine lv_iload hx hb dL_refuses_402 (lv_at hL.1 4 rfl) ?_
                                              refine b_rd (vx_runSW (As := [.ref x, .int i4]) (rest := []) hC (wL_pages l hl D x H.size y89.2 i4) (vx_cwSW 2 hts gL_refuses_L_pages rfl rfl rfl (by decide +kernel) ⟨Nat.le_of_ble_eq_true rfl, Nat.le_of_ble_eq_true rfl⟩) (b_preS hK hQ.tt ((hE.kept hS.2.1).narrow fun _ h9 => h9.elim) hca) rfl rfl hL.1.1 rfl (lv_room (Nat.le_of_ble_eq_true rfl)) dL_refuses_404 ⟨by show _ ≤ (57 : Nat); omega, by show _ ≤ (419 : Nat); omega⟩) hQ hS (fun H locs hQ hS => ?_)
                                              refine lv_ldc (v := kIX) hx hb hown (hts (.constant RL 25 kIX) (by decide +kernel)) dL_refuses_407 ?_
                                              refine lv_icmp_ne (tgt := 493) hx hb dL_refuses_409 (by decide) (fun c96 => ?_) (fun c96 => ?_)
                                              · rw [if_neg c96] at hf
                                                exact b493 _ _ _ _ _ y89.2 i2 i5 si0 (by omega) (by omega) hQ hS (hL.sub [1, 2, 3, 5, 0] rfl) hf
                                              · rw [if_pos c96] at hf
                                                refine lv_aload_n hx hb dL_refuses_412 rfl (lv_at hL.1 1 rfl) ?_
                                                refine lv_iload hx hb dL_refuses_413 (lv_at hL.1 4 rfl) ?_
                                                refine b_rd (vx_runSW (As := [.ref x, .int i4]) (rest := []) hC (wL_picture l hl D x H.size y89.2 i4) (vx_cwSW 2 hts gL_refuses_L_picture rfl rfl rfl (by decide +kernel) ⟨Nat.le_of_ble_eq_true rfl, Nat.le_of_ble_eq_true rfl⟩) (b_preS hK hQ.tt ((hE.kept hS.2.1).narrow fun _ h9 => h9.elim) hca) rfl rfl hL.1.1 rfl (lv_room (Nat.le_of_ble_eq_true rfl)) dL_refuses_415 ⟨by show _ ≤ (57 : Nat); omega, by show _ ≤ (419 : Nat); omega⟩) hQ hS (fun H locs hQ hS => ?_)
                                                refine lv_ldc (v := kIX) hx hb hown (hts (.constant RL 25 kIX) (by decide +kernel)) dL_refuses_418 ?_
                                                refine lv_icmp_ne (tgt := 493) hx hb dL_refuses_420 (by decide) (fun c97 => ?_) (fun c97 => ?_)
                                                · rw [if_neg c97] at hf
                                                  exact b493 _ _ _ _ _ y89.2 i2 i5 si0 (by omega) (by omega) hQ hS (hL.sub [1, 2, 3, 5, 0] rfl) hf
                                                · rw [if_pos c97] at hf
                                                  refine lv_aload_n hx hb dL_refuses_423 rfl (lv_at hL.1 1 rfl) ?_
                                                  refine lv_iload hx hb dL_refuses_424 (lv_at hL.1 4 rfl) ?_
                                                  refine b_rd (vx_runSW (As := [.ref x, .int i4]) (rest := []) hC (wL_pace l hl D x H.size y89.2 i4) (vx_cwSW 2 hts gL_refuses_L_pace rfl rfl rfl (by decide +kernel) ⟨Nat.le_of_ble_eq_true rfl, Nat.le_of_ble_eq_true rfl⟩) (b_preS hK hQ.tt ((hE.kept hS.2.1).narrow fun _ h9 => h9.elim) hca) rfl rfl hL.1.1 rfl (lv_room (Nat.le_of_ble_eq_true rfl)) dL_refuses_426 ⟨by show _ ≤ (57 : Nat); omega, by show _ ≤ (419 : Nat); omega⟩) hQ hS (fun H locs hQ hS => ?_)
                                                  refine lv_ldc (v := kIX) hx hb hown (hts (.constant RL 25 kIX) (by decide +kernel)) dL_refuses_429 ?_
                                                  refine lv_icmp_ne (tgt := 493) hx hb dL_refuses_431 (by decide) (fun c98 => ?_) (fun c98 => ?_)
                                                  · rw [if_neg c98] at hf
                                                    exact b493 _ _ _ _ _ y89.2 i2 i5 si0 (by omega) (by omega) hQ hS (hL.sub [1, 2, 3, 5, 0] rfl) hf
                                                  · rw [if_pos c98] at hf
                                                    refine lv_aload_n hx hb dL_refuses_434 rfl (lv_at hL.1 1 rfl) ?_
                                                    refine lv_iload hx hb dL_refuses_435 (lv_at hL.1 4 rfl) ?_
                                                    refine b_rd (vx_runSW (As := [.ref x, .int i4]) (rest := []) hC (wL_misses l hl D x H.size y89.2 i4) (vx_cwSW 2 hts gL_refuses_L_misses rfl rfl rfl (by decide +kernel) ⟨Nat.le_of_ble_eq_true rfl, Nat.le_of_ble_eq_true rfl⟩) (b_preS hK hQ.tt ((hE.kept hS.2.1).narrow fun _ h9 => h9.elim) hca) rfl rfl hL.1.1 rfl (lv_room (Nat.le_of_ble_eq_true rfl)) dL_refuses_437 ⟨by show _ ≤ (57 : Nat); omega, by show _ ≤ (419 : Nat); omega⟩) hQ hS (fun H locs hQ hS => ?_)
                                                    refine lv_ldc (v := kIX) hx hb hown (hts (.constant RL 25 kIX) (by decide +kernel)) dL_refuses_440 ?_
                                                    refine lv_icmp_ne (tgt := 493) hx hb dL_refuses_442 (by decide) (fun c99 => ?_) (fun c99 => ?_)
                                                    · rw [if_neg c99] at hf
                                                      exact b493 _ _ _ _ _ y89.2 i2 i5 si0 (by omega) (by omega) hQ hS (hL.sub [1, 2, 3, 5, 0] rfl) hf
                                                    · rw [if_pos c99] at hf
                                                      refine lv_aload_n hx hb dL_refuses_445 rfl (lv_at hL.1 1 rfl) ?_
                                                      refine lv_iload hx hb dL_refuses_446 (lv_at hL.1 4 rfl) ?_
                                                      refine b_rd (vx_runSW (As := [.ref x, .int i4]) (rest := []) hC (wL_deadline l hl D x H.size y89.2 i4) (vx_cwSW 2 hts gL_refuses_L_deadline rfl rfl rfl (by decide +kernel) ⟨Nat.le_of_ble_eq_true rfl, Nat.le_of_ble_eq_true rfl⟩) (b_preS hK hQ.tt ((hE.kept hS.2.1).narrow fun _ h9 => h9.elim) hca) rfl rfl hL.1.1 rfl (lv_room (Nat.le_of_ble_eq_true rfl)) dL_refuses_448 ⟨by show _ ≤ (57 : Nat); omega, by show _ ≤ (419 : Nat); omega⟩) hQ hS (fun H locs hQ hS => ?_)
                                                      refine lv_ldc (v := kIX) hx hb hown (hts (.constant RL 25 kIX) (by decide +kernel)) dL_refuses_451 ?_
                                                      refine lv_icmp_ne (tgt := 493) hx hb dL_refuses_453 (by decide) (fun c100 => ?_) (fun c100 => ?_)
                                                      · rw [if_neg c100] at hf
                                                        exact b493 _ _ _ _ _ y89.2 i2 i5 si0 (by omega) (by omega) hQ hS (hL.sub [1, 2, 3, 5, 0] rfl) hf
                                                      · rw [if_pos c100] at hf
                                                        refine lv_aload_n hx hb dL_refuses_456 rfl (lv_at hL.1 1 rfl) ?_
                                                        refine b_rd (va_runV (As := []) (rest := []) hC (mX_windows l D x H.size y89.2) (cwV 0 hts gL_refuses_X3_windows rfl rfl rfl (by decide +kernel) ⟨Nat.le_of_ble_eq_true rfl, Nat.le_of_ble_eq_true rfl⟩) (b_preV hK hQ.tt ((hE.kept hS.2.1).narrow fun _ h9 => h9.elim) hca) rfl rfl hL.1.1 rfl (lv_room (Nat.le_of_ble_eq_true rfl)) dL_refuses_457 ⟨by show _ ≤ (57 : Nat); omega, by show _ ≤ (419 : Nat); omega⟩) hQ hS (fun H locs hQ hS => ?_)
                                                        refine lv_bipush (v := 8) hx hb dL_refuses_460 (by decide) ?_
                                                        refine lv_icmp_ge (tgt := 473) hx hb dL_refuses_462 (by decide) (fun c101 => ?_) (fun c101 => ?_)
                                                        · rw [if_pos c101] at hf
                                                          exact b473 _ _ _ _ _ y89.2 i2 i5 si0 (by omega) (by omega) hQ hS (hL.sub [1, 2, 3, 5, 0] rfl) hf
                                                        · rw [if_neg c101] at hf
                                                          refine lv_aload_n hx hb dL_refuses_465 rfl (lv_at hL.1 2 rfl) ?_
                                                          refine lv_iconst (v := 0) hx hb dL_refuses_466 (by decide) ?_
                                                          refine b_n0 hx hb hN hAy hS dL_refuses_467 ?_
                                                          refine lv_bipush (v := 40) hx hb dL_refuses_468 (by decide) ?_
                                                          refine lv_icmp_lt (tgt := 489) hx hb dL_refuses_470 (by decide) (fun c102 => ?_) (fun c102 => ?_)
                                                          · rw [if_pos c102] at hf
                                                            exact b489 _ _ _ _ _ y89.2 i2 i5 si0 (by omega) (by omega) hQ hS (hL.sub [1, 2, 3, 5, 0] rfl) hf
                                                          · rw [if_neg c102] at hf
                                                            exact b473 _ _ _ _ _ y89.2 i2 i5 si0 (by omega) (by omega) hQ hS (hL.sub [1, 2, 3, 5, 0] rfl) hf
  have b55 : ∀ (cells slots : Nat) (H : Heap) (locs : List Loc) (ls : Array Slot) (g1 : Sg) (i2 : Int32) (i3 : Int32) (i4 : Int32) (si0 : Int32), cells + (57) ≤ 57 → slots + (419) ≤ 419 → bk D x A g1 s H → va_S A s.heap H locs → p_L ls 9 [(0, .ref x), (1, .ref y), (2, .int i2), (3, .int i3), (4, .int i4)] → fL_refuses_55 k  g1 i2 i3 i4 si0 = some r → W p l e rL_refuses s m args below meth c H locs cells slots (MQ below (b_M D x A r) args s 57 419 A) (F0 m 55 ls [.int si0]) := by
    intro cells slots H locs ls g1 i2 i3 i4 si0 hcc hss hQ hS hL hf
    rw [fL_refuses_55] at hf
    refine p_istore (lv' := [(5, .int si0), (0, .ref x), (1, .ref y), (2, .int i2), (3, .int i3), (4, .int i4)]) hx hb dL_refuses_55 hL (by decide) rfl (fun ls hL => ?_)
    refine lv_iload_n hx hb dL_refuses_57 rfl (lv_at hL.1 4 rfl) ?_
    refine lv_if_eq (tgt := 70) hx hb dL_refuses_58 (by decide) (fun c103 => ?_) (fun c103 => ?_)
    · rw [if_pos c103] at hf
      refine lv_bipush (v := 6) hx hb dL_refuses_70 (by decide) ?_
      refine lv_iload_n hx hb dL_refuses_72 rfl (lv_at hL.1 3 rfl) ?_
      refine lv_bipush (v := 50) hx hb dL_refuses_73 (by decide) ?_
      refine lv_irem hx hb dL_refuses_75 (by decide) ?_
      refine lv_iadd hx hb dL_refuses_76 ?_
      exact b77 _ _ _ _ _ g1 i2 i4 si0 (6 + (i2 - i2 / 50 * 50)) (by omega) (by omega) hQ hS (hL.sub [1, 2, 3, 5, 0] rfl) hf
    · rw [if_neg c103] at hf
      refine lv_iconst (v := -1) hx hb dL_refuses_61 (by decide) ?_
      refine lv_iload_n hx hb dL_refuses_62 rfl (lv_at hL.1 3 rfl) ?_
      refine lv_bipush (v := 50) hx hb dL_refuses_63 (by decide) ?_
      refine lv_irem hx hb dL_refuses_65 (by decide) ?_
      refine lv_isub hx hb dL_refuses_66 ?_
      refine lv_goto (tgt := 77) hx hb dL_refuses_67 (by decide) ?_
      exact b77 _ _ _ _ _ g1 i2 i4 si0 ((-1) - (i2 - i2 / 50 * 50)) (by omega) (by omega) hQ hS (hL.sub [1, 2, 3, 5, 0] rfl) hf
  have b33 : ∀ (cells slots : Nat) (H : Heap) (locs : List Loc) (ls : Array Slot) (g1 : Sg) (i2 : Int32) (i3 : Int32) (si0 : Int32), cells + (57) ≤ 57 → slots + (419) ≤ 419 → bk D x A g1 s H → va_S A s.heap H locs → p_L ls 9 [(0, .ref x), (1, .ref y), (2, .int i2), (3, .int i3)] → fL_refuses_33 k  g1 i2 i3 si0 = some r → W p l e rL_refuses s m args below meth c H locs cells slots (MQ below (b_M D x A r) args s 57 419 A) (F0 m 33 ls [.int si0]) := by
    intro cells slots H locs ls g1 i2 i3 si0 hcc hss hQ hS hL hf
    rw [fL_refuses_33] at hf
    refine p_istore (lv' := [(4, .int si0), (0, .ref x), (1, .ref y), (2, .int i2), (3, .int i3)]) hx hb dL_refuses_33 hL (by decide) rfl (fun ls hL => ?_)
    refine lv_iload_n hx hb dL_refuses_35 rfl (lv_at hL.1 4 rfl) ?_
    refine lv_if_eq (tgt := 48) hx hb dL_refuses_36 (by decide) (fun c104 => ?_) (fun c104 => ?_)
    · rw [if_pos c104] at hf
      refine lv_bipush (v := 8) hx hb dL_refuses_48 (by decide) ?_
      refine lv_iload_n hx hb dL_refuses_50 rfl (lv_at hL.1 3 rfl) ?_
      refine lv_bipush (v := 50) hx hb dL_refuses_51 (by decide) ?_
      refine lv_irem hx hb dL_refuses_53 (by decide) ?_
      refine lv_iadd hx hb dL_refuses_54 ?_
      exact b55 _ _ _ _ _ g1 i2 i3 si0 (8 + (i2 - i2 / 50 * 50)) (by omega) (by omega) hQ hS (hL.sub [1, 2, 3, 4, 0] rfl) hf
    · rw [if_neg c104] at hf
      refine lv_iconst (v := -1) hx hb dL_refuses_39 (by decide) ?_
      refine lv_iload_n hx hb dL_refuses_40 rfl (lv_at hL.1 3 rfl) ?_
      refine lv_bipush (v := 50) hx hb dL_refuses_41 (by decide) ?_
      refine lv_irem hx hb dL_refuses_43 (by decide) ?_
      refine lv_isub hx hb dL_refuses_44 ?_
      refine lv_goto (tgt := 55) hx hb dL_refuses_45 (by decide) ?_
      exact b55 _ _ _ _ _ g1 i2 i3 si0 ((-1) - (i2 - i2 / 50 * 50)) (by omega) (by omega) hQ hS (hL.sub [1, 2, 3, 4, 0] rfl) hf
  have b11 : ∀ (cells slots : Nat) (H : Heap) (locs : List Loc) (ls : Array Slot) (g1 : Sg) (i2 : Int32) (si0 : Int32), cells + (57) ≤ 57 → slots + (419) ≤ 419 → bk D x A g1 s H → va_S A s.heap H locs → p_L ls 9 [(0, .ref x), (1, .ref y), (2, .int i2)] → fL_refuses_11 k  g1 i2 si0 = some r → W p l e rL_refuses s m args below meth c H locs cells slots (MQ below (b_M D x A r) args s 57 419 A) (F0 m 11 ls [.int si0]) := by
    intro cells slots H locs ls g1 i2 si0 hcc hss hQ hS hL hf
    rw [fL_refuses_11] at hf
    refine p_istore_n (lv' := [(3, .int si0), (0, .ref x), (1, .ref y), (2, .int i2)]) hx hb dL_refuses_11 rfl hL (by decide) rfl (fun ls hL => ?_)
    refine lv_iload_n hx hb dL_refuses_12 rfl (lv_at hL.1 0 rfl) ?_
    refine lv_if_eq (tgt := 25) hx hb dL_refuses_13 (by decide) (fun c105 => ?_) (fun c105 => ?_)
    · rw [if_pos c105] at hf
      refine lv_aload_n hx hb dL_refuses_25 rfl (lv_at hL.1 2 rfl) ?_
      refine lv_iconst (v := 0) hx hb dL_refuses_26 (by decide) ?_
      refine b_n0 hx hb hN hAy hS dL_refuses_27 ?_
      refine lv_iload_n hx hb dL_refuses_28 rfl (lv_at hL.1 3 rfl) ?_
      refine lv_bipush (v := 50) hx hb dL_refuses_29 (by decide) ?_
      refine lv_irem hx hb dL_refuses_31 (by decide) ?_
      refine lv_iadd hx hb dL_refuses_32 ?_
      exact b33 _ _ _ _ _ g1 i2 si0 (k + (i2 - i2 / 50 * 50)) (by omega) (by omega) hQ hS (hL.sub [1, 2, 3, 0] rfl) hf
    · rw [if_neg c105] at hf
      refine lv_iconst (v := -1) hx hb dL_refuses_16 (by decide) ?_
      refine lv_iload_n hx hb dL_refuses_17 rfl (lv_at hL.1 3 rfl) ?_
      refine lv_bipush (v := 50) hx hb dL_refuses_18 (by decide) ?_
      refine lv_irem hx hb dL_refuses_20 (by decide) ?_
      refine lv_isub hx hb dL_refuses_21 ?_
      refine lv_goto (tgt := 33) hx hb dL_refuses_22 (by decide) ?_
      exact b33 _ _ _ _ _ g1 i2 si0 ((-1) - (i2 - i2 / 50 * 50)) (by omega) (by omega) hQ hS (hL.sub [1, 2, 3, 0] rfl) hf
  obtain ⟨H, hH⟩ : ∃ z : Heap, z = s.heap := ⟨_, rfl⟩
  have hQ : bk D x A g s H := by rw [hH]; exact hQ
  have hS : va_S A s.heap H [] := by rw [hH]; exact hS
  rw [← hH]
  rw [fL_refuses] at hf
  obtain ⟨cells, hc0⟩ : ∃ z : Nat, z = 0 := ⟨_, rfl⟩
  obtain ⟨slots, hs0⟩ : ∃ z : Nat, z = 0 := ⟨_, rfl⟩
  have hcc : cells + 57 ≤ 57 := by omega
  have hss : slots + 419 ≤ 419 := by omega
  show W p l e rL_refuses s m args below meth c H [] 0 0 (MQ below (b_M D x A r) args s 57 419 A) (F0 m 0 ls [])
  refine W.widen (k := cells) (n := slots) (by omega) (by omega) ?_
  refine lv_iload_n hx hb dL_refuses_0 rfl (lv_at hL.1 2 rfl) ?_
  refine lv_iconst (v := 2) hx hb dL_refuses_1 (by decide) ?_
  refine lv_irem hx hb dL_refuses_2 (by decide) ?_
  refine lv_if_ne (tgt := 10) hx hb dL_refuses_3 (by decide) (fun c106 => ?_) (fun c106 => ?_)
  · rw [if_neg c106] at hf
    refine lv_iconst (v := 0) hx hb dL_refuses_10 (by decide) ?_
    exact b11 _ _ _ _ _ g i2 0 (by omega) (by omega) hQ hS (hL.sub [0, 1, 2] rfl) hf
  · rw [if_pos c106] at hf
    refine lv_iconst (v := 1) hx hb dL_refuses_6 (by decide) ?_
    refine lv_goto (tgt := 11) hx hb dL_refuses_7 (by decide) ?_
    exact b11 _ _ _ _ _ g i2 1 (by omega) (by omega) hQ hS (hL.sub [0, 1, 2] rfl) hf
