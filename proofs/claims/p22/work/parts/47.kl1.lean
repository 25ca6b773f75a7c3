/-! THE LAW: walks of its methods; text by wip/p22/gen_b.py -/
abbrev rL_holds : Room := { frames := 9, cells := 3087, slots := 18522, locals := 157 }
set_option maxHeartbeats 8000000 in
set_option maxRecDepth 100000 in
theorem kL_holds (l : Launch) (hl : l.stackTraces = false) (D : va_G) (x y sz : Nat) (g : Sg) (k : Int32)  (r : Int32) (hf : fL_holds k g  = some r) : Met l yL_holds wsL_holds rL_holds (b_N D x y p_tt p_no sz g k [.ref x, .ref y]) (p_Ri r) 3087 18522 p_no := by
  refine Met.ofW (cc := cL_holds) (maxL := 13) (ret := some .boolean) (by decide) rfl ?_
  intro p e s m args below meth c s₁ B hml hv
  obtain ⟨hargs, hK, hQ, hE, hsz, hca, hN⟩ := hv
  have hAy : ¬ p_no y := fun h => h
  have hx := B.exec
  have hb := B.bytes
  have hr := B.returns
  have hts := atoms_spec (ws := wsL_holds) B.pre
  have hown : s.vm.findClass RL = some m.cls := findClass_of_methodNamed B.named
  have hlocks := B.notSynchronized
  have hC : CallFix p m c cL_holds 13 s args wsL_holds RL := ⟨hx, hb, hml, hown, hts⟩
  have hS : va_S p_no s.heap s.heap [] := va_S.rf
  obtain ⟨ls, hls, hL⟩ := p_start (n := 13) hargs (by simp [p_cat, p_ci, p_cr, p_cn]) (Nat.le_of_ble_eq_true rfl)
  show W p l e rL_holds s m args below meth c s.heap [] 0 0 (MQ below (p_Ri r) args s 3087 18522 p_no) (entryFrame m args 13)
  rw [hls]
  clear hls
  have hL : p_L ls 13 [(0, .ref x), (1, .ref y)] := hL
  have b508 : ∀ (cells slots : Nat) (H : Heap) (locs : List Loc) (ls : Array Slot) (si0 : Int32), cells + (0) ≤ 3087 → slots + (0) ≤ 18522 → bk D x p_tt g s H → va_S p_no s.heap H locs → p_L ls 13 [] → fL_holds_508 k g  si0 = some r → W p l e rL_holds s m args below meth c H locs cells slots (MQ below (p_Ri r) args s 3087 18522 p_no) (F0 m 508 ls [.int si0]) := by
    intro cells slots H locs ls si0 hcc hss hQ hS hL hf
    rw [fL_holds_508] at hf
    exact b_rR hC hr hlocks hS hf (by omega) (by omega) dL_holds_508
  have b507 : ∀ (cells slots : Nat) (H : Heap) (locs : List Loc) (ls : Array Slot) , cells + (0) ≤ 3087 → slots + (0) ≤ 18522 → bk D x p_tt g s H → va_S p_no s.heap H locs → p_L ls 13 [] → fL_holds_507 k g   = some r → W p l e rL_holds s m args below meth c H locs cells slots (MQ below (p_Ri r) args s 3087 18522 p_no) (F0 m 507 ls []) := by
    intro cells slots H locs ls  hcc hss hQ hS hL hf
    rw [fL_holds_507] at hf
    refine lv_iconst (v := 0) hx hb dL_holds_507 (by decide) ?_
    exact b508 _ _ _ _ _ 0 (by omega) (by omega) hQ hS (hL.sub [] rfl) hf
  have b487 : ∀ (cells slots : Nat) (H : Heap) (locs : List Loc) (ls : Array Slot) , cells + (0) ≤ 3087 → slots + (0) ≤ 18522 → bk D x p_tt g s H → va_S p_no s.heap H locs → p_L ls 13 [(0, .ref x)] → fL_holds_487 k g   = some r → W p l e rL_holds s m args below meth c H locs cells slots (MQ below (p_Ri r) args s 3087 18522 p_no) (F0 m 487 ls []) := by
    intro cells slots H locs ls  hcc hss hQ hS hL hf
    rw [fL_holds_487] at hf
    refine lv_aload_n hx hb dL_holds_487 rfl (lv_at hL.1 0 rfl) ?_
    refine b_rd (va_runV (As := []) (rest := []) hC (mX_damage l D x H.size g) (cwV 0 hts gL_holds_X3_damage rfl rfl rfl (by decide +kernel) ⟨Nat.le_of_ble_eq_true rfl, Nat.le_of_ble_eq_true rfl⟩) (b_preV hK hQ.tt ((hE.kept hS.2.1).narrow fun _ h9 => h9.elim) hca) rfl rfl hL.1.1 rfl (lv_room (Nat.le_of_ble_eq_true rfl)) dL_holds_488 ⟨by show _ ≤ (3087 : Nat); omega, by show _ ≤ (18522 : Nat); omega⟩) hQ hS (fun H locs hQ hS => ?_)
    refine lv_if_lt (tgt := 507) hx hb dL_holds_491 (by decide) (fun c1 => ?_) (fun c1 => ?_)
    · rw [if_pos c1] at hf
      exact b507 _ _ _ _ _  (by omega) (by omega) hQ hS (hL.sub [] rfl) hf
    · rw [if_neg c1] at hf
      refine lv_aload_n hx hb dL_holds_494 rfl (lv_at hL.1 0 rfl) ?_
      refine b_rd (va_runV (As := []) (rest := []) hC (mX_damage l D x H.size g) (cwV 0 hts gL_holds_X3_damage rfl rfl rfl (by decide +kernel) ⟨Nat.le_of_ble_eq_true rfl, Nat.le_of_ble_eq_true rfl⟩) (b_preV hK hQ.tt ((hE.kept hS.2.1).narrow fun _ h9 => h9.elim) hca) rfl rfl hL.1.1 rfl (lv_room (Nat.le_of_ble_eq_true rfl)) dL_holds_495 ⟨by show _ ≤ (3087 : Nat); omega, by show _ ≤ (18522 : Nat); omega⟩) hQ hS (fun H locs hQ hS => ?_)
      refine lv_bipush (v := 48) hx hb dL_holds_498 (by decide) ?_
      refine lv_icmp_gt (tgt := 507) hx hb dL_holds_500 (by decide) (fun c2 => ?_) (fun c2 => ?_)
      · rw [if_pos c2] at hf
        exact b507 _ _ _ _ _  (by omega) (by omega) hQ hS (hL.sub [] rfl) hf
      · rw [if_neg c2] at hf
        refine lv_iconst (v := 1) hx hb dL_holds_503 (by decide) ?_
        refine lv_goto (tgt := 508) hx hb dL_holds_504 (by decide) ?_
        exact b508 _ _ _ _ _ 1 (by omega) (by omega) hQ hS (hL.sub [] rfl) hf
  have b484 : ∀ (cells slots : Nat) (H : Heap) (locs : List Loc) (ls : Array Slot) (si0 : Int32) (si1 : Int32), cells + (0) ≤ 3087 → slots + (0) ≤ 18522 → bk D x p_tt g s H → va_S p_no s.heap H locs → p_L ls 13 [(0, .ref x)] → fL_holds_484 k g  si0 si1 = some r → W p l e rL_holds s m args below meth c H locs cells slots (MQ below (p_Ri r) args s 3087 18522 p_no) (F0 m 484 ls [.int si0, .int si1]) := by
    intro cells slots H locs ls si0 si1 hcc hss hQ hS hL hf
    rw [fL_holds_484] at hf
    refine lv_icmp_ne (tgt := 507) hx hb dL_holds_484 (by decide) (fun c3 => ?_) (fun c3 => ?_)
    · rw [if_neg c3] at hf
      exact b507 _ _ _ _ _  (by omega) (by omega) hQ hS (hL.sub [] rfl) hf
    · rw [if_pos c3] at hf
      exact b487 _ _ _ _ _  (by omega) (by omega) hQ hS (hL.sub [0] rfl) hf
  have b474 : ∀ (cells slots : Nat) (H : Heap) (locs : List Loc) (ls : Array Slot) (i5 : Int32) (si0 : Int32), cells + (0) ≤ 3087 → slots + (0) ≤ 18522 → bk D x p_tt g s H → va_S p_no s.heap H locs → p_L ls 13 [(0, .ref x), (5, .int i5)] → fL_holds_474 k g  i5 si0 = some r → W p l e rL_holds s m args below meth c H locs cells slots (MQ below (p_Ri r) args s 3087 18522 p_no) (F0 m 474 ls [.int si0]) := by
    intro cells slots H locs ls i5 si0 hcc hss hQ hS hL hf
    rw [fL_holds_474] at hf
    refine lv_iload hx hb dL_holds_474 (lv_at hL.1 1 rfl) ?_
    refine lv_if_le (tgt := 483) hx hb dL_holds_476 (by decide) (fun c4 => ?_) (fun c4 => ?_)
    · rw [if_pos c4] at hf
      refine lv_iconst (v := 0) hx hb dL_holds_483 (by decide) ?_
      exact b484 _ _ _ _ _ 0 si0 (by omega) (by omega) hQ hS (hL.sub [0] rfl) hf
    · rw [if_neg c4] at hf
      refine lv_iconst (v := 1) hx hb dL_holds_479 (by decide) ?_
      refine lv_goto (tgt := 484) hx hb dL_holds_480 (by decide) ?_
      exact b484 _ _ _ _ _ 1 si0 (by omega) (by omega) hQ hS (hL.sub [0] rfl) hf
  have b419 : ∀ (cells slots : Nat) (H : Heap) (locs : List Loc) (ls : Array Slot) (i2 : Int32) (i3 : Int32) (i4 : Int32) (i5 : Int32) (i6 : Int32) (i7 : Int32), cells + (0) ≤ 3087 → slots + (0) ≤ 18522 → bk D x p_tt g s H → va_S p_no s.heap H locs → p_L ls 13 [(0, .ref x), (2, .int i2), (3, .int i3), (4, .int i4), (5, .int i5), (6, .int i6), (7, .int i7)] → fL_holds_419 k g  i2 i3 i4 i5 i6 i7 = some r → W p l e rL_holds s m args below meth c H locs cells slots (MQ below (p_Ri r) args s 3087 18522 p_no) (F0 m 419 ls []) := by
    intro cells slots H locs ls i2 i3 i4 i5 i6 i7 hcc hss hQ hS hL hf
    rw [fL_holds_419] at hf
    refine lv_iload hx hb dL_holds_419 (lv_at hL.1 6 rfl) ?_
    refine lv_if_eq (tgt := 507) hx hb dL_holds_421 (by decide) (fun c5 => ?_) (fun c5 => ?_)
    · rw [if_pos c5] at hf
      exact b507 _ _ _ _ _  (by omega) (by omega) hQ hS (hL.sub [] rfl) hf
    · rw [if_neg c5] at hf
      refine lv_iload_n hx hb dL_holds_424 rfl (lv_at hL.1 2 rfl) ?_
      refine lv_aload_n hx hb dL_holds_425 rfl (lv_at hL.1 0 rfl) ?_
      refine b_rd (va_runV (As := []) (rest := [.int i3]) hC (mX_windows l D x H.size g) (cwV 0 hts gL_holds_X3_windows rfl rfl rfl (by decide +kernel) ⟨Nat.le_of_ble_eq_true rfl, Nat.le_of_ble_eq_true rfl⟩) (b_preV hK hQ.tt ((hE.kept hS.2.1).narrow fun _ h9 => h9.elim) hca) rfl rfl hL.1.1 rfl (lv_room (Nat.le_of_ble_eq_true rfl)) dL_holds_426 ⟨by show _ ≤ (3087 : Nat); omega, by show _ ≤ (18522 : Nat); omega⟩) hQ hS (fun H locs hQ hS => ?_)
      refine lv_icmp_ne (tgt := 507) hx hb dL_holds_429 (by decide) (fun c6 => ?_) (fun c6 => ?_)
      · rw [if_neg c6] at hf
        exact b507 _ _ _ _ _  (by omega) (by omega) hQ hS (hL.sub [] rfl) hf
      · rw [if_pos c6] at hf
        refine lv_iload hx hb dL_holds_432 (lv_at hL.1 3 rfl) ?_
        refine lv_iconst (v := 1) hx hb dL_holds_434 (by decide) ?_
        refine lv_iload_n hx hb dL_holds_435 rfl (lv_at hL.1 2 rfl) ?_
        refine lv_ishl hx hb dL_holds_436 ?_
        refine lv_iconst (v := 1) hx hb dL_holds_437 (by decide) ?_
        refine lv_isub hx hb dL_holds_438 ?_
        refine lv_icmp_ne (tgt := 507) hx hb dL_holds_439 (by decide) (fun c7 => ?_) (fun c7 => ?_)
        · rw [if_neg c7] at hf
          exact b507 _ _ _ _ _  (by omega) (by omega) hQ hS (hL.sub [] rfl) hf
        · rw [if_pos c7] at hf
          refine lv_iload_n hx hb dL_holds_442 rfl (lv_at hL.1 1 rfl) ?_
          refine lv_aload_n hx hb dL_holds_443 rfl (lv_at hL.1 0 rfl) ?_
          refine b_rd (va_runV (As := []) (rest := [.int i2]) hC (mX_free l D x H.size g) (cwV 0 hts gL_holds_X3_free rfl rfl rfl (by decide +kernel) ⟨Nat.le_of_ble_eq_true rfl, Nat.le_of_ble_eq_true rfl⟩) (b_preV hK hQ.tt ((hE.kept hS.2.1).narrow fun _ h9 => h9.elim) hca) rfl rfl hL.1.1 rfl (lv_room (Nat.le_of_ble_eq_true rfl)) dL_holds_444 ⟨by show _ ≤ (3087 : Nat); omega, by show _ ≤ (18522 : Nat); omega⟩) hQ hS (fun H locs hQ hS => ?_)
          refine lv_iadd hx hb dL_holds_447 ?_
          refine lv_bipush (v := 24) hx hb dL_holds_448 (by decide) ?_
          refine lv_icmp_ne (tgt := 507) hx hb dL_holds_450 (by decide) (fun c8 => ?_) (fun c8 => ?_)
          · rw [if_neg c8] at hf
            exact b507 _ _ _ _ _  (by omega) (by omega) hQ hS (hL.sub [] rfl) hf
          · rw [if_pos c8] at hf
            refine lv_aload_n hx hb dL_holds_453 rfl (lv_at hL.1 0 rfl) ?_
            refine b_rd (va_runV (As := []) (rest := []) hC (mX_free l D x H.size g) (cwV 0 hts gL_holds_X3_free rfl rfl rfl (by decide +kernel) ⟨Nat.le_of_ble_eq_true rfl, Nat.le_of_ble_eq_true rfl⟩) (b_preV hK hQ.tt ((hE.kept hS.2.1).narrow fun _ h9 => h9.elim) hca) rfl rfl hL.1.1 rfl (lv_room (Nat.le_of_ble_eq_true rfl)) dL_holds_454 ⟨by show _ ≤ (3087 : Nat); omega, by show _ ≤ (18522 : Nat); omega⟩) hQ hS (fun H locs hQ hS => ?_)
            refine lv_if_lt (tgt := 507) hx hb dL_holds_457 (by decide) (fun c9 => ?_) (fun c9 => ?_)
            · rw [if_pos c9] at hf
              exact b507 _ _ _ _ _  (by omega) (by omega) hQ hS (hL.sub [] rfl) hf
            · rw [if_neg c9] at hf
              refine lv_iload_n hx hb dL_holds_460 rfl (lv_at hL.1 2 rfl) ?_
              refine lv_if_eq (tgt := 487) hx hb dL_holds_461 (by decide) (fun c10 => ?_) (fun c10 => ?_)
              · rw [if_pos c10] at hf
                exact b487 _ _ _ _ _  (by omega) (by omega) hQ hS (hL.sub [0] rfl) hf
              · rw [if_neg c10] at hf
                refine lv_iload hx hb dL_holds_464 (lv_at hL.1 5 rfl) ?_
                refine lv_if_le (tgt := 473) hx hb dL_holds_466 (by decide) (fun c11 => ?_) (fun c11 => ?_)
                · rw [if_pos c11] at hf
                  refine lv_iconst (v := 0) hx hb dL_holds_473 (by decide) ?_
                  exact b474 _ _ _ _ _ i5 0 (by omega) (by omega) hQ hS (hL.sub [0, 4] rfl) hf
                · rw [if_neg c11] at hf
                  refine lv_iconst (v := 1) hx hb dL_holds_469 (by decide) ?_
                  refine lv_goto (tgt := 474) hx hb dL_holds_470 (by decide) ?_
                  exact b474 _ _ _ _ _ i5 1 (by omega) (by omega) hQ hS (hL.sub [0, 4] rfl) hf
  have b413 : ∀ (K : Int32 → Int32 → Int32 → Int32 → Int32 → Int32 → Int32 → Option (Int32)) (nd ne : Nat), (∀ (cells slots : Nat) (H : Heap) (locs : List Loc) (ls : Array Slot) (i2 : Int32) (i3 : Int32) (i4 : Int32) (i5 : Int32) (i6 : Int32) (i7 : Int32) (i8 : Int32), cells + (nd) ≤ 3087 → slots + (ne) ≤ 18522 → bk D x p_tt g s H → va_S p_no s.heap H locs → p_L ls 13 [(0, .ref x), (1, .ref y), (2, .int i2), (3, .int i3), (4, .int i4), (5, .int i5), (6, .int i6), (7, .int i7), (8, .int i8)] → K i2 i3 i4 i5 i6 i7 i8 = some r → W p l e rL_holds s m args below meth c H locs cells slots (MQ below (p_Ri r) args s 3087 18522 p_no) (F0 m 111 ls [])) → ∀ (cells slots : Nat) (H : Heap) (locs : List Loc) (ls : Array Slot) (i2 : Int32) (i3 : Int32) (i4 : Int32) (i5 : Int32) (i6 : Int32) (i7 : Int32) (i8 : Int32), cells + (0 + nd) ≤ 3087 → slots + (0 + ne) ≤ 18522 → bk D x p_tt g s H → va_S p_no s.heap H locs → p_L ls 13 [(0, .ref x), (1, .ref y), (2, .int i2), (3, .int i3), (4, .int i4), (5, .int i5), (6, .int i6), (7, .int i7), (8, .int i8)] → fL_holds_413 k g K  i2 i3 i4 i5 i6 i7 i8 = some r → W p l e rL_holds s m args below meth c H locs cells slots (MQ below (p_Ri r) args s 3087 18522 p_no) (F0 m 413 ls []) := by
    intro K nd ne ihK
    intro cells slots H locs ls i2 i3 i4 i5 i6 i7 i8 hcc hss hQ hS hL hf
    rw [fL_holds_413] at hf
    refine p_iinc (v := (i8 + 1)) (lv' := [(8, .int (i8 + 1)), (0, .ref x), (1, .ref y), (2, .int i2), (3, .int i3), (4, .int i4), (5, .int i5), (6, .int i6), (7, .int i7)]) hx hb dL_holds_413 hL (k := 8) rfl rfl (by decide) rfl (fun ls hL => ?_)
    refine lv_goto (tgt := 111) hx hb dL_holds_416 (by decide) ?_
    exact ihK _ _ _ _ _ i2 i3 i4 i5 i6 i7 (i8 + 1) (by omega) (by omega) hQ hS (hL.sub [1, 2, 3, 4, 5, 6, 7, 8, 0] rfl) hf
  have b411 : ∀ (K : Int32 → Int32 → Int32 → Int32 → Int32 → Int32 → Int32 → Option (Int32)) (nd ne : Nat), (∀ (cells slots : Nat) (H : Heap) (locs : List Loc) (ls : Array Slot) (i2 : Int32) (i3 : Int32) (i4 : Int32) (i5 : Int32) (i6 : Int32) (i7 : Int32) (i8 : Int32), cells + (nd) ≤ 3087 → slots + (ne) ≤ 18522 → bk D x p_tt g s H → va_S p_no s.heap H locs → p_L ls 13 [(0, .ref x), (1, .ref y), (2, .int i2), (3, .int i3), (4, .int i4), (5, .int i5), (6, .int i6), (7, .int i7), (8, .int i8)] → K i2 i3 i4 i5 i6 i7 i8 = some r → W p l e rL_holds s m args below meth c H locs cells slots (MQ below (p_Ri r) args s 3087 18522 p_no) (F0 m 111 ls [])) → ∀ (cells slots : Nat) (H : Heap) (locs : List Loc) (ls : Array Slot) (i2 : Int32) (i3 : Int32) (i4 : Int32) (i5 : Int32) (i6 : Int32) (i8 : Int32) (si0 : Int32), cells + (0 + nd) ≤ 3087 → slots + (0 + ne) ≤ 18522 → bk D x p_tt g s H → va_S p_no s.heap H locs → p_L ls 13 [(0, .ref x), (1, .ref y), (2, .int i2), (3, .int i3), (4, .int i4), (5, .int i5), (6, .int i6), (8, .int i8)] → fL_holds_411 k g K  i2 i3 i4 i5 i6 i8 si0 = some r → W p l e rL_holds s m args below meth c H locs cells slots (MQ below (p_Ri r) args s 3087 18522 p_no) (F0 m 411 ls [.int si0]) := by
    intro K nd ne ihK
    intro cells slots H locs ls i2 i3 i4 i5 i6 i8 si0 hcc hss hQ hS hL hf
    rw [fL_holds_411] at hf
    refine p_istore (lv' := [(7, .int si0), (0, .ref x), (1, .ref y), (2, .int i2), (3, .int i3), (4, .int i4), (5, .int i5), (6, .int i6), (8, .int i8)]) hx hb dL_holds_411 hL (by decide) rfl (fun ls hL => ?_)
    exact b413 K nd ne ihK _ _ _ _ _ i2 i3 i4 i5 i6 si0 i8 (by omega) (by omega) hQ hS (hL.sub [1, 2, 3, 4, 5, 6, 7, 0, 8] rfl) hf
  have b410 : ∀ (K : Int32 → Int32 → Int32 → Int32 → Int32 → Int32 → Int32 → Option (Int32)) (nd ne : Nat), (∀ (cells slots : Nat) (H : Heap) (locs : List Loc) (ls : Array Slot) (i2 : Int32) (i3 : Int32) (i4 : Int32) (i5 : Int32) (i6 : Int32) (i7 : Int32) (i8 : Int32), cells + (nd) ≤ 3087 → slots + (ne) ≤ 18522 → bk D x p_tt g s H → va_S p_no s.heap H locs → p_L ls 13 [(0, .ref x), (1, .ref y), (2, .int i2), (3, .int i3), (4, .int i4), (5, .int i5), (6, .int i6), (7, .int i7), (8, .int i8)] → K i2 i3 i4 i5 i6 i7 i8 = some r → W p l e rL_holds s m args below meth c H locs cells slots (MQ below (p_Ri r) args s 3087 18522 p_no) (F0 m 111 ls [])) → ∀ (cells slots : Nat) (H : Heap) (locs : List Loc) (ls : Array Slot) (i2 : Int32) (i3 : Int32) (i4 : Int32) (i5 : Int32) (i6 : Int32) (i8 : Int32), cells + (0 + nd) ≤ 3087 → slots + (0 + ne) ≤ 18522 → bk D x p_tt g s H → va_S p_no s.heap H locs → p_L ls 13 [(0, .ref x), (1, .ref y), (2, .int i2), (3, .int i3), (4, .int i4), (5, .int i5), (6, .int i6), (8, .int i8)] → fL_holds_410 k g K  i2 i3 i4 i5 i6 i8 = some r → W p l e rL_holds s m args below meth c H locs cells slots (MQ below (p_Ri r) args s 3087 18522 p_no) (F0 m 410 ls []) := by
    intro K nd ne ihK
    intro cells slots H locs ls i2 i3 i4 i5 i6 i8 hcc hss hQ hS hL hf
    rw [fL_holds_410] at hf
    refine lv_iconst (v := 0) hx hb dL_holds_410 (by decide) ?_
    exact b411 K nd ne ihK _ _ _ _ _ i2 i3 i4 i5 i6 i8 0 (by omega) (by omega) hQ hS (hL.sub [0, 1, 2, 3, 4, 5, 6, 7] rfl) hf
  have b372 : ∀ (K : Int32 → Int32 → Int32 → Int32 → Int32 → Int32 → Int32 → Option (Int32)) (nd ne : Nat), (∀ (cells slots : Nat) (H : Heap) (locs : List Loc) (ls : Array Slot) (i2 : Int32) (i3 : Int32) (i4 : Int32) (i5 : Int32) (i6 : Int32) (i7 : Int32) (i8 : Int32), cells + (nd) ≤ 3087 → slots + (ne) ≤ 18522 → bk D x p_tt g s H → va_S p_no s.heap H locs → p_L ls 13 [(0, .ref x), (1, .ref y), (2, .int i2), (3, .int i3), (4, .int i4), (5, .int i5), (6, .int i6), (7, .int i7), (8, .int i8)] → K i2 i3 i4 i5 i6 i7 i8 = some r → W p l e rL_holds s m args below meth c H locs cells slots (MQ below (p_Ri r) args s 3087 18522 p_no) (F0 m 111 ls [])) → ∀ (cells slots : Nat) (H : Heap) (locs : List Loc) (ls : Array Slot) (i2 : Int32) (i3 : Int32) (i4 : Int32) (i5 : Int32) (i6 : Int32) (i8 : Int32) (si0 : Int32), cells + (0 + nd) ≤ 3087 → slots + (0 + ne) ≤ 18522 → bk D x p_tt g s H → va_S p_no s.heap H locs → p_L ls 13 [(0, .ref x), (1, .ref y), (2, .int i2), (3, .int i3), (4, .int i4), (5, .int i5), (6, .int i6), (8, .int i8)] → fL_holds_372 k g K  i2 i3 i4 i5 i6 i8 si0 = some r → W p l e rL_holds s m args below meth c H locs cells slots (MQ below (p_Ri r) args s 3087 18522 p_no) (F0 m 372 ls [.int si0]) := by
    intro K nd ne ihK
    intro cells slots H locs ls i2 i3 i4 i5 i6 i8 si0 hcc hss hQ hS hL hf
    rw [fL_holds_372] at hf
    refine p_istore (lv' := [(7, .int si0), (0, .ref x), (1, .ref y), (2, .int i2), (3, .int i3), (4, .int i4), (5, .int i5), (6, .int i6), (8, .int i8)]) hx hb dL_holds_372 hL (by decide) rfl (fun ls hL => ?_)
    refine lv_goto (tgt := 413) hx hb dL_holds_374 (by decide) ?_
    exact b413 K nd ne ihK _ _ _ _ _ i2 i3 i4 i5 i6 si0 i8 (by omega) (by omega) hQ hS (hL.sub [1, 2, 3, 4, 5, 6, 7, 0, 8] rfl) hf
  have b371 : ∀ (K : Int32 → Int32 → Int32 → Int32 → Int32 → Int32 → Int32 → Option (Int32)) (nd ne : Nat), (∀ (cells slots : Nat) (H : Heap) (locs : List Loc) (ls : Array Slot) (i2 : Int32) (i3 : Int32) (i4 : Int32) (i5 : Int32) (i6 : Int32) (i7 : Int32) (i8 : Int32), cells + (nd) ≤ 3087 → slots + (ne) ≤ 18522 → bk D x p_tt g s H → va_S p_no s.heap H locs → p_L ls 13 [(0, .ref x), (1, .ref y), (2, .int i2), (3, .int i3), (4, .int i4), (5, .int i5), (6, .int i6), (7, .int i7), (8, .int i8)] → K i2 i3 i4 i5 i6 i7 i8 = some r → W p l e rL_holds s m args below meth c H locs cells slots (MQ below (p_Ri r) args s 3087 18522 p_no) (F0 m 111 ls [])) → ∀ (cells slots : Nat) (H : Heap) (locs : List Loc) (ls : Array Slot) (i2 : Int32) (i3 : Int32) (i4 : Int32) (i5 : Int32) (i6 : Int32) (i8 : Int32), cells + (0 + nd) ≤ 3087 → slots + (0 + ne) ≤ 18522 → bk D x p_tt g s H → va_S p_no s.heap H locs → p_L ls 13 [(0, .ref x), (1, .ref y), (2, .int i2), (3, .int i3), (4, .int i4), (5, .int i5), (6, .int i6), (8, .int i8)] → fL_holds_371 k g K  i2 i3 i4 i5 i6 i8 = some r → W p l e rL_holds s m args below meth c H locs cells slots (MQ below (p_Ri r) args s 3087 18522 p_no) (F0 m 371 ls []) := by
    intro K nd ne ihK
    intro cells slots H locs ls i2 i3 i4 i5 i6 i8 hcc hss hQ hS hL hf
    rw [fL_holds_371] at hf
    refine lv_iconst (v := 0) hx hb dL_holds_371 (by decide) ?_
    exact b372 K nd ne ihK _ _ _ _ _ i2 i3 i4 i5 i6 i8 0 (by omega) (by omega) hQ hS (hL.sub [0, 1, 2, 3, 4, 5, 6, 7] rfl) hf
  have b367 : ∀ (K : Int32 → Int32 → Int32 → Int32 → Int32 → Int32 → Int32 → Option (Int32)) (nd ne : Nat), (∀ (cells slots : Nat) (H : Heap) (locs : List Loc) (ls : Array Slot) (i2 : Int32) (i3 : Int32) (i4 : Int32) (i5 : Int32) (i6 : Int32) (i7 : Int32) (i8 : Int32), cells + (nd) ≤ 3087 → slots + (ne) ≤ 18522 → bk D x p_tt g s H → va_S p_no s.heap H locs → p_L ls 13 [(0, .ref x), (1, .ref y), (2, .int i2), (3, .int i3), (4, .int i4), (5, .int i5), (6, .int i6), (7, .int i7), (8, .int i8)] → K i2 i3 i4 i5 i6 i7 i8 = some r → W p l e rL_holds s m args below meth c H locs cells slots (MQ below (p_Ri r) args s 3087 18522 p_no) (F0 m 111 ls [])) → ∀ (cells slots : Nat) (H : Heap) (locs : List Loc) (ls : Array Slot) (i2 : Int32) (i3 : Int32) (i4 : Int32) (i5 : Int32) (i6 : Int32) (i8 : Int32), cells + (0 + nd) ≤ 3087 → slots + (0 + ne) ≤ 18522 → bk D x p_tt g s H → va_S p_no s.heap H locs → p_L ls 13 [(0, .ref x), (1, .ref y), (2, .int i2), (3, .int i3), (4, .int i4), (5, .int i5), (6, .int i6), (8, .int i8)] → fL_holds_367 k g K  i2 i3 i4 i5 i6 i8 = some r → W p l e rL_holds s m args below meth c H locs cells slots (MQ below (p_Ri r) args s 3087 18522 p_no) (F0 m 367 ls []) := by
    intro K nd ne ihK
    intro cells slots H locs ls i2 i3 i4 i5 i6 i8 hcc hss hQ hS hL hf
    rw [fL_holds_367] at hf
    refine lv_iconst (v := 1) hx hb dL_holds_367 (by decide) ?_
    refine lv_goto (tgt := 372) hx hb dL_holds_368 (by decide) ?_
    exact b372 K nd ne ihK _ _ _ _ _ i2 i3 i4 i5 i6 i8 1 (by omega) (by omega) hQ hS (hL.sub [0, 1, 2, 3, 4, 5, 6, 7] rfl) hf
  have b352 : ∀ (K : Int32 → Int32 → Int32 → Int32 → Int32 → Int32 → Int32 → Option (Int32)) (nd ne : Nat), (∀ (cells slots : Nat) (H : Heap) (locs : List Loc) (ls : Array Slot) (i2 : Int32) (i3 : Int32) (i4 : Int32) (i5 : Int32) (i6 : Int32) (i7 : Int32) (i8 : Int32), cells + (nd) ≤ 3087 → slots + (ne) ≤ 18522 → bk D x p_tt g s H → va_S p_no s.heap H locs → p_L ls 13 [(0, .ref x), (1, .ref y), (2, .int i2), (3, .int i3), (4, .int i4), (5, .int i5), (6, .int i6), (7, .int i7), (8, .int i8)] → K i2 i3 i4 i5 i6 i7 i8 = some r → W p l e rL_holds s m args below meth c H locs cells slots (MQ below (p_Ri r) args s 3087 18522 p_no) (F0 m 111 ls [])) → ∀ (cells slots : Nat) (H : Heap) (locs : List Loc) (ls : Array Slot) (i2 : Int32) (i3 : Int32) (i4 : Int32) (i5 : Int32) (i6 : Int32) (i8 : Int32) (i12 : Int32), cells + (0 + nd) ≤ 3087 → slots + (0 + ne) ≤ 18522 → bk D x p_tt g s H → va_S p_no s.heap H locs → p_L ls 13 [(0, .ref x), (1, .ref y), (2, .int i2), (3, .int i3), (4, .int i4), (5, .int i5), (6, .int i6), (8, .int i8), (12, .int i12)] → fL_holds_352 k g K  i2 i3 i4 i5 i6 i8 i12 = some r → W p l e rL_holds s m args below meth c H locs cells slots (MQ below (p_Ri r) args s 3087 18522 p_no) (F0 m 352 ls []) := by
    intro K nd ne ihK
    intro cells slots H locs ls i2 i3 i4 i5 i6 i8 i12 hcc hss hQ hS hL hf
    rw [fL_holds_352] at hf
    refine lv_iload hx hb dL_holds_352 (lv_at hL.1 8 rfl) ?_
    refine lv_iconst (v := -1) hx hb dL_holds_354 (by decide) ?_
    refine lv_icmp_eq (tgt := 367) hx hb dL_holds_355 (by decide) (fun c12 => ?_) (fun c12 => ?_)
    · rw [if_pos c12] at hf
      exact b367 K nd ne ihK _ _ _ _ _ i2 i3 i4 i5 i6 i8 (by omega) (by omega) hQ hS (hL.sub [0, 1, 2, 3, 4, 5, 6, 7] rfl) hf
    · rw [if_neg c12] at hf
      refine lv_iload hx hb dL_holds_358 (lv_at hL.1 8 rfl) ?_
      refine lv_aload_n hx hb dL_holds_360 rfl (lv_at hL.1 0 rfl) ?_
      refine b_rd (va_runV (As := []) (rest := [.int i12]) hC (mX_tick l D x H.size g) (cwV 0 hts gL_holds_X3_tick rfl rfl rfl (by decide +kernel) ⟨Nat.le_of_ble_eq_true rfl, Nat.le_of_ble_eq_true rfl⟩) (b_preV hK hQ.tt ((hE.kept hS.2.1).narrow fun _ h9 => h9.elim) hca) rfl rfl hL.1.1 rfl (lv_room (Nat.le_of_ble_eq_true rfl)) dL_holds_361 ⟨by show _ ≤ (3087 : Nat); omega, by show _ ≤ (18522 : Nat); omega⟩) hQ hS (fun H locs hQ hS => ?_)
      refine lv_icmp_le (tgt := 371) hx hb dL_holds_364 (by decide) (fun c13 => ?_) (fun c13 => ?_)
      · rw [if_pos c13] at hf
        exact b371 K nd ne ihK _ _ _ _ _ i2 i3 i4 i5 i6 i8 (by omega) (by omega) hQ hS (hL.sub [0, 1, 2, 3, 4, 5, 6, 7] rfl) hf
      · rw [if_neg c13] at hf
        exact b367 K nd ne ihK _ _ _ _ _ i2 i3 i4 i5 i6 i8 (by omega) (by omega) hQ hS (hL.sub [0, 1, 2, 3, 4, 5, 6, 7] rfl) hf
  have b337 : ∀ (K : Int32 → Int32 → Int32 → Int32 → Int32 → Int32 → Int32 → Option (Int32)) (nd ne : Nat), (∀ (cells slots : Nat) (H : Heap) (locs : List Loc) (ls : Array Slot) (i2 : Int32) (i3 : Int32) (i4 : Int32) (i5 : Int32) (i6 : Int32) (i7 : Int32) (i8 : Int32), cells + (nd) ≤ 3087 → slots + (ne) ≤ 18522 → bk D x p_tt g s H → va_S p_no s.heap H locs → p_L ls 13 [(0, .ref x), (1, .ref y), (2, .int i2), (3, .int i3), (4, .int i4), (5, .int i5), (6, .int i6), (7, .int i7), (8, .int i8)] → K i2 i3 i4 i5 i6 i7 i8 = some r → W p l e rL_holds s m args below meth c H locs cells slots (MQ below (p_Ri r) args s 3087 18522 p_no) (F0 m 111 ls [])) → ∀ (cells slots : Nat) (H : Heap) (locs : List Loc) (ls : Array Slot) (i2 : Int32) (i3 : Int32) (i4 : Int32) (i5 : Int32) (i6 : Int32) (i8 : Int32) (i11 : Int32) (i12 : Int32), cells + (1 + nd) ≤ 3087 → slots + (6 + ne) ≤ 18522 → bk D x p_tt g s H → va_S p_no s.heap H locs → p_L ls 13 [(0, .ref x), (1, .ref y), (2, .int i2), (3, .int i3), (4, .int i4), (5, .int i5), (6, .int i6), (8, .int i8), (11, .int i11), (12, .int i12)] → fL_holds_337 k g K  i2 i3 i4 i5 i6 i8 i11 i12 = some r → W p l e rL_holds s m args below meth c H locs cells slots (MQ below (p_Ri r) args s 3087 18522 p_no) (F0 m 337 ls []) := by
    intro K nd ne ihK
    intro cells slots H locs ls i2 i3 i4 i5 i6 i8 i11 i12 hcc hss hQ hS hL hf
    rw [fL_holds_337] at hf
    refine lv_iload hx hb dL_holds_337 (lv_at hL.1 8 rfl) ?_
    refine lv_iconst (v := 1) hx hb dL_holds_339 (by decide) ?_
    refine lv_icmp_eq (tgt := 352) hx hb dL_holds_340 (by decide) (fun c14 => ?_) (fun c14 => ?_)
    · rw [if_pos c14] at hf
      exact b352 K nd ne ihK _ _ _ _ _ i2 i3 i4 i5 i6 i8 i12 (by omega) (by omega) hQ hS (hL.sub [0, 1, 2, 3, 4, 5, 6, 7, 9] rfl) hf
    · rw [if_neg c14] at hf
      refine lv_aload_n hx hb dL_holds_343 rfl (lv_at hL.1 0 rfl) ?_
      refine lv_iload hx hb dL_holds_344 (lv_at hL.1 7 rfl) ?_
      refine b_rd (vx_runSW (As := [.ref x, .int i8]) (rest := []) hC (wL_misses l hl D x H.size g i8) (vx_cwSW 2 hts gL_holds_L_misses rfl rfl rfl (by decide +kernel) ⟨Nat.le_of_ble_eq_true rfl, Nat.le_of_ble_eq_true rfl⟩) (b_preS hK hQ.tt ((hE.kept hS.2.1).narrow fun _ h9 => h9.elim) hca) rfl rfl hL.1.1 rfl (lv_room (Nat.le_of_ble_eq_true rfl)) dL_holds_346 ⟨by show _ ≤ (3087 : Nat); omega, by show _ ≤ (18522 : Nat); omega⟩) hQ hS (fun H locs hQ hS => ?_)
      refine lv_if_le (tgt := 371) hx hb dL_holds_349 (by decide) (fun c15 => ?_) (fun c15 => ?_)
      · rw [if_pos c15] at hf
        exact b371 K nd ne ihK _ _ _ _ _ i2 i3 i4 i5 i6 i8 (by omega) (by omega) hQ hS (hL.sub [0, 1, 2, 3, 4, 5, 6, 7] rfl) hf
      · rw [if_neg c15] at hf
        exact b352 K nd ne ihK _ _ _ _ _ i2 i3 i4 i5 i6 i8 i12 (by omega) (by omega) hQ hS (hL.sub [0, 1, 2, 3, 4, 5, 6, 7, 9] rfl) hf
  have b303 : ∀ (K : Int32 → Int32 → Int32 → Int32 → Int32 → Int32 → Int32 → Option (Int32)) (nd ne : Nat), (∀ (cells slots : Nat) (H : Heap) (locs : List Loc) (ls : Array Slot) (i2 : Int32) (i3 : Int32) (i4 : Int32) (i5 : Int32) (i6 : Int32) (i7 : Int32) (i8 : Int32), cells + (nd) ≤ 3087 → slots + (ne) ≤ 18522 → bk D x p_tt g s H → va_S p_no s.heap H locs → p_L ls 13 [(0, .ref x), (1, .ref y), (2, .int i2), (3, .int i3), (4, .int i4), (5, .int i5), (6, .int i6), (7, .int i7), (8, .int i8)] → K i2 i3 i4 i5 i6 i7 i8 = some r → W p l e rL_holds s m args below meth c H locs cells slots (MQ below (p_Ri r) args s 3087 18522 p_no) (F0 m 111 ls [])) → ∀ (cells slots : Nat) (H : Heap) (locs : List Loc) (ls : Array Slot) (i2 : Int32) (i3 : Int32) (i4 : Int32) (i5 : Int32) (i6 : Int32) (i8 : Int32) (i11 : Int32) (i12 : Int32), cells + (2 + nd) ≤ 3087 → slots + (12 + ne) ≤ 18522 → bk D x p_tt g s H → va_S p_no s.heap H locs → p_L ls 13 [(0, .ref x), (1, .ref y), (2, .int i2), (3, .int i3), (4, .int i4), (5, .int i5), (6, .int i6), (8, .int i8), (11, .int i11), (12, .int i12)] → fL_holds_303 k g K  i2 i3 i4 i5 i6 i8 i11 i12 = some r → W p l e rL_holds s m args below meth c H locs cells slots (MQ below (p_Ri r) args s 3087 18522 p_no) (F0 m 303 ls []) := by
    intro K nd ne ihK
    intro cells slots H locs ls i2 i3 i4 i5 i6 i8 i11 i12 hcc hss hQ hS hL hf
    rw [fL_holds_303] at hf
    refine lv_aload_n hx hb dL_holds_303 rfl (lv_at hL.1 0 rfl) ?_
    refine lv_iload hx hb dL_holds_304 (lv_at hL.1 7 rfl) ?_
    refine b_rd (vx_runSW (As := [.ref x, .int i8]) (rest := []) hC (wL_picture l hl D x H.size g i8) (vx_cwSW 2 hts gL_holds_L_picture rfl rfl rfl (by decide +kernel) ⟨Nat.le_of_ble_eq_true rfl, Nat.le_of_ble_eq_true rfl⟩) (b_preS hK hQ.tt ((hE.kept hS.2.1).narrow fun _ h9 => h9.elim) hca) rfl rfl hL.1.1 rfl (lv_room (Nat.le_of_ble_eq_true rfl)) dL_holds_306 ⟨by show _ ≤ (3087 : Nat); omega, by show _ ≤ (18522 : Nat); omega⟩) hQ hS (fun H locs hQ hS => ?_)
    refine lv_if_lt (tgt := 371) hx hb dL_holds_309 (by decide) (fun c16 => ?_) (fun c16 => ?_)
    · rw [if_pos c16] at hf
      exact b371 K nd ne ihK _ _ _ _ _ i2 i3 i4 i5 i6 i8 (by omega) (by omega) hQ hS (hL.sub [0, 1, 2, 3, 4, 5, 6, 7] rfl) hf
    · rw [if_neg c16] at hf
      refine lv_iload hx hb dL_holds_312 (lv_at hL.1 8 rfl) ?_
      refine lv_iconst (v := 1) hx hb dL_holds_314 (by decide) ?_
      refine lv_icmp_eq (tgt := 337) hx hb dL_holds_315 (by decide) (fun c17 => ?_) (fun c17 => ?_)
      · rw [if_pos c17] at hf
        exact b337 K nd ne ihK _ _ _ _ _ i2 i3 i4 i5 i6 i8 i11 i12 (by omega) (by omega) hQ hS (hL.sub [0, 1, 2, 3, 4, 5, 6, 7, 8, 9] rfl) hf
      · rw [if_neg c17] at hf
        refine lv_iload hx hb dL_holds_318 (lv_at hL.1 8 rfl) ?_
        refine lv_iconst (v := 2) hx hb dL_holds_320 (by decide) ?_
        refine lv_icmp_eq (tgt := 337) hx hb dL_holds_321 (by decide) (fun c18 => ?_) (fun c18 => ?_)
        · rw [if_pos c18] at hf
          exact b337 K nd ne ihK _ _ _ _ _ i2 i3 i4 i5 i6 i8 i11 i12 (by omega) (by omega) hQ hS (hL.sub [0, 1, 2, 3, 4, 5, 6, 7, 8, 9] rfl) hf
        · rw [if_neg c18] at hf
          refine lv_iload hx hb dL_holds_324 (lv_at hL.1 8 rfl) ?_
          refine lv_iconst (v := 4) hx hb dL_holds_326 (by decide) ?_
          refine lv_icmp_eq (tgt := 337) hx hb dL_holds_327 (by decide) (fun c19 => ?_) (fun c19 => ?_)
          · rw [if_pos c19] at hf
            exact b337 K nd ne ihK _ _ _ _ _ i2 i3 i4 i5 i6 i8 i11 i12 (by omega) (by omega) hQ hS (hL.sub [0, 1, 2, 3, 4, 5, 6, 7, 8, 9] rfl) hf
          · rw [if_neg c19] at hf
            refine lv_iload hx hb dL_holds_330 (lv_at hL.1 8 rfl) ?_
            refine lv_bipush (v := 8) hx hb dL_holds_332 (by decide) ?_
            refine lv_icmp_ne (tgt := 371) hx hb dL_holds_334 (by decide) (fun c20 => ?_) (fun c20 => ?_)
            · rw [if_neg c20] at hf
              exact b371 K nd ne ihK _ _ _ _ _ i2 i3 i4 i5 i6 i8 (by omega) (by omega) hQ hS (hL.sub [0, 1, 2, 3, 4, 5, 6, 7] rfl) hf
            · rw [if_pos c20] at hf
              exact b337 K nd ne ihK _ _ _ _ _ i2 i3 i4 i5 i6 i8 i11 i12 (by omega) (by omega) hQ hS (hL.sub [0, 1, 2, 3, 4, 5, 6, 7, 8, 9] rfl) hf
  have b256 : ∀ (K : Int32 → Int32 → Int32 → Int32 → Int32 → Int32 → Int32 → Option (Int32)) (nd ne : Nat), (∀ (cells slots : Nat) (H : Heap) (locs : List Loc) (ls : Array Slot) (i2 : Int32) (i3 : Int32) (i4 : Int32) (i5 : Int32) (i6 : Int32) (i7 : Int32) (i8 : Int32), cells + (nd) ≤ 3087 → slots + (ne) ≤ 18522 → bk D x p_tt g s H → va_S p_no s.heap H locs → p_L ls 13 [(0, .ref x), (1, .ref y), (2, .int i2), (3, .int i3), (4, .int i4), (5, .int i5), (6, .int i6), (7, .int i7), (8, .int i8)] → K i2 i3 i4 i5 i6 i7 i8 = some r → W p l e rL_holds s m args below meth c H locs cells slots (MQ below (p_Ri r) args s 3087 18522 p_no) (F0 m 111 ls [])) → ∀ (cells slots : Nat) (H : Heap) (locs : List Loc) (ls : Array Slot) (i2 : Int32) (i3 : Int32) (i4 : Int32) (i5 : Int32) (i6 : Int32) (i8 : Int32) (i11 : Int32) (i12 : Int32) (si0 : Int32) (si1 : Int32), cells + (6 + nd) ≤ 3087 → slots + (36 + ne) ≤ 18522 → bk D x p_tt g s H → va_S p_no s.heap H locs → p_L ls 13 [(0, .ref x), (1, .ref y), (2, .int i2), (3, .int i3), (4, .int i4), (5, .int i5), (6, .int i6), (8, .int i8), (11, .int i11), (12, .int i12)] → fL_holds_256 k g K  i2 i3 i4 i5 i6 i8 i11 i12 si0 si1 = some r → W p l e rL_holds s m args below meth c H locs cells slots (MQ below (p_Ri r) args s 3087 18522 p_no) (F0 m 256 ls [.int si0, .int si1]) := by
    intro K nd ne ihK
    intro cells slots H locs ls i2 i3 i4 i5 i6 i8 i11 i12 si0 si1 hcc hss hQ hS hL hf
    rw [fL_holds_256] at hf
    refine lv_icmp_ne (tgt := 371) hx hb dL_holds_256 (by decide) (fun c21 => ?_) (fun c21 => ?_)
    · rw [if_neg c21] at hf
      exact b371 K nd ne ihK _ _ _ _ _ i2 i3 i4 i5 i6 i8 (by omega) (by omega) hQ hS (hL.sub [0, 1, 2, 3, 4, 5, 6, 7] rfl) hf
    · rw [if_pos c21] at hf
      refine lv_aload_n hx hb dL_holds_259 rfl (lv_at hL.1 0 rfl) ?_
      refine lv_iload hx hb dL_holds_260 (lv_at hL.1 7 rfl) ?_
      refine b_rd (vx_runSW (As := [.ref x, .int i8]) (rest := []) hC (wL_pages l hl D x H.size g i8) (vx_cwSW 2 hts gL_holds_L_pages rfl rfl rfl (by decide +kernel) ⟨Nat.le_of_ble_eq_true rfl, Nat.le_of_ble_eq_true rfl⟩) (b_preS hK hQ.tt ((hE.kept hS.2.1).narrow fun _ h9 => h9.elim) hca) rfl rfl hL.1.1 rfl (lv_room (Nat.le_of_ble_eq_true rfl)) dL_holds_262 ⟨by show _ ≤ (3087 : Nat); omega, by show _ ≤ (18522 : Nat); omega⟩) hQ hS (fun H locs hQ hS => ?_)
      refine lv_bipush (v := 12) hx hb dL_holds_265 (by decide) ?_
      refine lv_icmp_gt (tgt := 371) hx hb dL_holds_267 (by decide) (fun c22 => ?_) (fun c22 => ?_)
      · rw [if_pos c22] at hf
        exact b371 K nd ne ihK _ _ _ _ _ i2 i3 i4 i5 i6 i8 (by omega) (by omega) hQ hS (hL.sub [0, 1, 2, 3, 4, 5, 6, 7] rfl) hf
      · rw [if_neg c22] at hf
        refine lv_aload_n hx hb dL_holds_270 rfl (lv_at hL.1 0 rfl) ?_
        refine lv_iload hx hb dL_holds_271 (lv_at hL.1 7 rfl) ?_
        refine b_rd (vx_runSW (As := [.ref x, .int i8]) (rest := []) hC (wL_pages l hl D x H.size g i8) (vx_cwSW 2 hts gL_holds_L_pages rfl rfl rfl (by decide +kernel) ⟨Nat.le_of_ble_eq_true rfl, Nat.le_of_ble_eq_true rfl⟩) (b_preS hK hQ.tt ((hE.kept hS.2.1).narrow fun _ h9 => h9.elim) hca) rfl rfl hL.1.1 rfl (lv_room (Nat.le_of_ble_eq_true rfl)) dL_holds_273 ⟨by show _ ≤ (3087 : Nat); omega, by show _ ≤ (18522 : Nat); omega⟩) hQ hS (fun H locs hQ hS => ?_)
        refine lv_if_lt (tgt := 371) hx hb dL_holds_276 (by decide) (fun c23 => ?_) (fun c23 => ?_)
        · rw [if_pos c23] at hf
          exact b371 K nd ne ihK _ _ _ _ _ i2 i3 i4 i5 i6 i8 (by omega) (by omega) hQ hS (hL.sub [0, 1, 2, 3, 4, 5, 6, 7] rfl) hf
        · rw [if_neg c23] at hf
          refine lv_aload_n hx hb dL_holds_279 rfl (lv_at hL.1 0 rfl) ?_
          refine lv_iload hx hb dL_holds_280 (lv_at hL.1 7 rfl) ?_
          refine b_rd (vx_runSW (As := [.ref x, .int i8]) (rest := []) hC (wL_pages l hl D x H.size g i8) (vx_cwSW 2 hts gL_holds_L_pages rfl rfl rfl (by decide +kernel) ⟨Nat.le_of_ble_eq_true rfl, Nat.le_of_ble_eq_true rfl⟩) (b_preS hK hQ.tt ((hE.kept hS.2.1).narrow fun _ h9 => h9.elim) hca) rfl rfl hL.1.1 rfl (lv_room (Nat.le_of_ble_eq_true rfl)) dL_holds_282 ⟨by show _ ≤ (3087 : Nat); omega, by show _ ≤ (18522 : Nat); omega⟩) hQ hS (fun H locs hQ hS => ?_)
          refine lv_if_gt (tgt := 303) hx hb dL_holds_285 (by decide) (fun c24 => ?_) (fun c24 => ?_)
          · rw [if_pos c24] at hf
            exact b303 K nd ne ihK _ _ _ _ _ i2 i3 i4 i5 i6 i8 i11 i12 (by omega) (by omega) hQ hS (hL.sub [0, 1, 2, 3, 4, 5, 6, 7, 8, 9] rfl) hf
          · rw [if_neg c24] at hf
            refine lv_aload_n hx hb dL_holds_288 rfl (lv_at hL.1 0 rfl) ?_
            refine lv_iload hx hb dL_holds_289 (lv_at hL.1 7 rfl) ?_
            refine b_rd (vx_runSW (As := [.ref x, .int i8]) (rest := []) hC (wL_picture l hl D x H.size g i8) (vx_cwSW 2 hts gL_holds_L_picture rfl rfl rfl (by decide +kernel) ⟨Nat.le_of_ble_eq_true rfl, Nat.le_of_ble_eq_true rfl⟩) (b_preS hK hQ.tt ((hE.kept hS.2.1).narrow fun _ h9 => h9.elim) hca) rfl rfl hL.1.1 rfl (lv_room (Nat.le_of_ble_eq_true rfl)) dL_holds_291 ⟨by show _ ≤ (3087 : Nat); omega, by show _ ≤ (18522 : Nat); omega⟩) hQ hS (fun H locs hQ hS => ?_)
            refine lv_if_ne (tgt := 371) hx hb dL_holds_294 (by decide) (fun c25 => ?_) (fun c25 => ?_)
            · rw [if_neg c25] at hf
              exact b371 K nd ne ihK _ _ _ _ _ i2 i3 i4 i5 i6 i8 (by omega) (by omega) hQ hS (hL.sub [0, 1, 2, 3, 4, 5, 6, 7] rfl) hf
            · rw [if_pos c25] at hf
              refine lv_iload hx hb dL_holds_297 (lv_at hL.1 9 rfl) ?_
              refine lv_iconst (v := -1) hx hb dL_holds_299 (by decide) ?_
              refine lv_icmp_ne (tgt := 371) hx hb dL_holds_300 (by decide) (fun c26 => ?_) (fun c26 => ?_)
              · rw [if_neg c26] at hf
                exact b371 K nd ne ihK _ _ _ _ _ i2 i3 i4 i5 i6 i8 (by omega) (by omega) hQ hS (hL.sub [0, 1, 2, 3, 4, 5, 6, 7] rfl) hf
              · rw [if_pos c26] at hf
                exact b303 K nd ne ihK _ _ _ _ _ i2 i3 i4 i5 i6 i8 i11 i12 (by omega) (by omega) hQ hS (hL.sub [0, 1, 2, 3, 4, 5, 6, 7, 8, 9] rfl) hf
  have b220 : ∀ (K : Int32 → Int32 → Int32 → Int32 → Int32 → Int32 → Int32 → Option (Int32)) (nd ne : Nat), (∀ (cells slots : Nat) (H : Heap) (locs : List Loc) (ls : Array Slot) (i2 : Int32) (i3 : Int32) (i4 : Int32) (i5 : Int32) (i6 : Int32) (i7 : Int32) (i8 : Int32), cells + (nd) ≤ 3087 → slots + (ne) ≤ 18522 → bk D x p_tt g s H → va_S p_no s.heap H locs → p_L ls 13 [(0, .ref x), (1, .ref y), (2, .int i2), (3, .int i3), (4, .int i4), (5, .int i5), (6, .int i6), (7, .int i7), (8, .int i8)] → K i2 i3 i4 i5 i6 i7 i8 = some r → W p l e rL_holds s m args below meth c H locs cells slots (MQ below (p_Ri r) args s 3087 18522 p_no) (F0 m 111 ls [])) → ∀ (cells slots : Nat) (H : Heap) (locs : List Loc) (ls : Array Slot) (i2 : Int32) (i3 : Int32) (i4 : Int32) (i5 : Int32) (i8 : Int32) (i10 : Int32) (si0 : Int32) (si1 : Int32), cells + (9 + nd) ≤ 3087 → slots + (54 + ne) ≤ 18522 → bk D x p_tt g s H → va_S p_no s.heap H locs → p_L ls 13 [(0, .ref x), (1, .ref y), (2, .int i2), (3, .int i3), (4, .int i4), (5, .int i5), (8, .int i8), (10, .int i10)] → fL_holds_220 k g K  i2 i3 i4 i5 i8 i10 si0 si1 = some r → W p l e rL_holds s m args below meth c H locs cells slots (MQ below (p_Ri r) args s 3087 18522 p_no) (F0 m 220 ls [.int si0, .int si1]) := by
    intro K nd ne ihK
    intro cells slots H locs ls i2 i3 i4 i5 i8 i10 si0 si1 hcc hss hQ hS hL hf
    rw [fL_holds_220] at hf
    refine lv_iadd hx hb dL_holds_220 ?_
    refine p_istore (lv' := [(6, .int (si1 + si0)), (0, .ref x), (1, .ref y), (2, .int i2), (3, .int i3), (4, .int i4), (5, .int i5), (8, .int i8), (10, .int i10)]) hx hb dL_holds_221 hL (by decide) rfl (fun ls hL => ?_)
    refine lv_aload_n hx hb dL_holds_223 rfl (lv_at hL.1 1 rfl) ?_
    refine lv_iload hx hb dL_holds_224 (lv_at hL.1 7 rfl) ?_
    refine b_rd (vx_runSW (As := [.ref x, .int i8]) (rest := []) hC (wL_pace l hl D x H.size g i8) (vx_cwSW 2 hts gL_holds_L_pace rfl rfl rfl (by decide +kernel) ⟨Nat.le_of_ble_eq_true rfl, Nat.le_of_ble_eq_true rfl⟩) (b_preS hK hQ.tt ((hE.kept hS.2.1).narrow fun _ h9 => h9.elim) hca) rfl rfl hL.1.1 rfl (lv_room (Nat.le_of_ble_eq_true rfl)) dL_holds_226 ⟨by show _ ≤ (3087 : Nat); omega, by show _ ≤ (18522 : Nat); omega⟩) hQ hS (fun H locs hQ hS => ?_)
    refine p_istore (lv' := [(11, .int (aPace g i8)), (6, .int (si1 + si0)), (0, .ref x), (1, .ref y), (2, .int i2), (3, .int i3), (4, .int i4), (5, .int i5), (8, .int i8), (10, .int i10)]) hx hb dL_holds_229 hL (by decide) rfl (fun ls hL => ?_)
    refine lv_aload_n hx hb dL_holds_231 rfl (lv_at hL.1 2 rfl) ?_
    refine lv_iload hx hb dL_holds_232 (lv_at hL.1 8 rfl) ?_
    refine b_rd (vx_runSW (As := [.ref x, .int i8]) (rest := []) hC (wL_deadline l hl D x H.size g i8) (vx_cwSW 2 hts gL_holds_L_deadline rfl rfl rfl (by decide +kernel) ⟨Nat.le_of_ble_eq_true rfl, Nat.le_of_ble_eq_true rfl⟩) (b_preS hK hQ.tt ((hE.kept hS.2.1).narrow fun _ h9 => h9.elim) hca) rfl rfl hL.1.1 rfl (lv_room (Nat.le_of_ble_eq_true rfl)) dL_holds_234 ⟨by show _ ≤ (3087 : Nat); omega, by show _ ≤ (18522 : Nat); omega⟩) hQ hS (fun H locs hQ hS => ?_)
    refine p_istore (lv' := [(12, .int (aDead g i8)), (11, .int (aPace g i8)), (6, .int (si1 + si0)), (0, .ref x), (1, .ref y), (2, .int i2), (3, .int i3), (4, .int i4), (5, .int i5), (8, .int i8), (10, .int i10)]) hx hb dL_holds_237 hL (by decide) rfl (fun ls hL => ?_)
    refine lv_iload hx hb dL_holds_239 (lv_at hL.1 10 rfl) ?_
    refine lv_aload_n hx hb dL_holds_241 rfl (lv_at hL.1 3 rfl) ?_
    refine lv_iload hx hb dL_holds_242 (lv_at hL.1 9 rfl) ?_
    refine b_rd (vx_runSW (As := [.ref x, .int i8]) (rest := [.int i10]) hC (wL_seen l hl D x H.size g i8) (vx_cwSW 2 hts gL_holds_L_seen rfl rfl rfl (by decide +kernel) ⟨Nat.le_of_ble_eq_true rfl, Nat.le_of_ble_eq_true rfl⟩) (b_preS hK hQ.tt ((hE.kept hS.2.1).narrow fun _ h9 => h9.elim) hca) rfl rfl hL.1.1 rfl (lv_room (Nat.le_of_ble_eq_true rfl)) dL_holds_244 ⟨by show _ ≤ (3087 : Nat); omega, by show _ ≤ (18522 : Nat); omega⟩) hQ hS (fun H locs hQ hS => ?_)
    refine lv_iconst (v := 1) hx hb dL_holds_247 (by decide) ?_
    refine lv_icmp_ne (tgt := 255) hx hb dL_holds_248 (by decide) (fun c27 => ?_) (fun c27 => ?_)
    · rw [if_neg c27] at hf
      refine lv_iconst (v := 0) hx hb dL_holds_255 (by decide) ?_
      exact b256 K nd ne ihK _ _ _ _ _ i2 i3 i4 i5 (si1 + si0) i8 (aPace g i8) (aDead g i8) 0 i10 (by omega) (by omega) hQ hS (hL.sub [3, 4, 5, 6, 7, 8, 2, 9, 1, 0] rfl) hf
    · rw [if_pos c27] at hf
      refine lv_iconst (v := 1) hx hb dL_holds_251 (by decide) ?_
      refine lv_goto (tgt := 256) hx hb dL_holds_252 (by decide) ?_
      exact b256 K nd ne ihK _ _ _ _ _ i2 i3 i4 i5 (si1 + si0) i8 (aPace g i8) (aDead g i8) 1 i10 (by omega) (by omega) hQ hS (hL.sub [3, 4, 5, 6, 7, 8, 2, 9, 1, 0] rfl) hf
  have b208 : ∀ (K : Int32 → Int32 → Int32 → Int32 → Int32 → Int32 → Int32 → Option (Int32)) (nd ne : Nat), (∀ (cells slots : Nat) (H : Heap) (locs : List Loc) (ls : Array Slot) (i2 : Int32) (i3 : Int32) (i4 : Int32) (i5 : Int32) (i6 : Int32) (i7 : Int32) (i8 : Int32), cells + (nd) ≤ 3087 → slots + (ne) ≤ 18522 → bk D x p_tt g s H → va_S p_no s.heap H locs → p_L ls 13 [(0, .ref x), (1, .ref y), (2, .int i2), (3, .int i3), (4, .int i4), (5, .int i5), (6, .int i6), (7, .int i7), (8, .int i8)] → K i2 i3 i4 i5 i6 i7 i8 = some r → W p l e rL_holds s m args below meth c H locs cells slots (MQ below (p_Ri r) args s 3087 18522 p_no) (F0 m 111 ls [])) → ∀ (cells slots : Nat) (H : Heap) (locs : List Loc) (ls : Array Slot) (i2 : Int32) (i3 : Int32) (i4 : Int32) (i5 : Int32) (i6 : Int32) (i8 : Int32) (i10 : Int32), cells + (9 + nd) ≤ 3087 → slots + (54 + ne) ≤ 18522 → bk D x p_tt g s H → va_S p_no s.heap H locs → p_L ls 13 [(0, .ref x), (1, .ref y), (2, .int i2), (3, .int i3), (4, .int i4), (5, .int i5), (6, .int i6), (8, .int i8), (10, .int i10)] → fL_holds_208 k g K  i2 i3 i4 i5 i6 i8 i10 = some r → W p l e rL_holds s m args below meth c H locs cells slots (MQ below (p_Ri r) args s 3087 18522 p_no) (F0 m 208 ls []) := by
    intro K nd ne ihK
    intro cells slots H locs ls i2 i3 i4 i5 i6 i8 i10 hcc hss hQ hS hL hf
    rw [fL_holds_208] at hf
    refine lv_iload hx hb dL_holds_208 (lv_at hL.1 6 rfl) ?_
    refine lv_iload hx hb dL_holds_210 (lv_at hL.1 8 rfl) ?_
    refine lv_if_eq (tgt := 219) hx hb dL_holds_212 (by decide) (fun c28 => ?_) (fun c28 => ?_)
    · rw [if_pos c28] at hf
      refine lv_iconst (v := 0) hx hb dL_holds_219 (by decide) ?_
      exact b220 K nd ne ihK _ _ _ _ _ i2 i3 i4 i5 i8 i10 0 i6 (by omega) (by omega) hQ hS (hL.sub [0, 1, 2, 3, 4, 5, 7, 8] rfl) hf
    · rw [if_neg c28] at hf
      refine lv_iconst (v := 1) hx hb dL_holds_215 (by decide) ?_
      refine lv_goto (tgt := 220) hx hb dL_holds_216 (by decide) ?_
      exact b220 K nd ne ihK _ _ _ _ _ i2 i3 i4 i5 i8 i10 1 i6 (by omega) (by omega) hQ hS (hL.sub [0, 1, 2, 3, 4, 5, 7, 8] rfl) hf
  have b200 : ∀ (K : Int32 → Int32 → Int32 → Int32 → Int32 → Int32 → Int32 → Int32 → Option (Int32)) (nd ne : Nat), (∀ (cells slots : Nat) (H : Heap) (locs : List Loc) (ls : Array Slot) (i2 : Int32) (i3 : Int32) (i4 : Int32) (i5 : Int32) (i6 : Int32) (i8 : Int32) (i10 : Int32) (i11 : Int32), cells + (nd) ≤ 3087 → slots + (ne) ≤ 18522 → bk D x p_tt g s H → va_S p_no s.heap H locs → p_L ls 13 [(0, .ref x), (1, .ref y), (2, .int i2), (3, .int i3), (4, .int i4), (5, .int i5), (6, .int i6), (8, .int i8), (10, .int i10), (11, .int i11)] → K i2 i3 i4 i5 i6 i8 i10 i11 = some r → W p l e rL_holds s m args below meth c H locs cells slots (MQ below (p_Ri r) args s 3087 18522 p_no) (F0 m 164 ls [])) → ∀ (cells slots : Nat) (H : Heap) (locs : List Loc) (ls : Array Slot) (i2 : Int32) (i3 : Int32) (i4 : Int32) (i5 : Int32) (i6 : Int32) (i8 : Int32) (i11 : Int32) (si0 : Int32), cells + (0 + nd) ≤ 3087 → slots + (0 + ne) ≤ 18522 → bk D x p_tt g s H → va_S p_no s.heap H locs → p_L ls 13 [(0, .ref x), (1, .ref y), (2, .int i2), (3, .int i3), (4, .int i4), (5, .int i5), (6, .int i6), (8, .int i8), (11, .int i11)] → fL_holds_200 k g K  i2 i3 i4 i5 i6 i8 i11 si0 = some r → W p l e rL_holds s m args below meth c H locs cells slots (MQ below (p_Ri r) args s 3087 18522 p_no) (F0 m 200 ls [.int si0]) := by
    intro K nd ne ihK
    intro cells slots H locs ls i2 i3 i4 i5 i6 i8 i11 si0 hcc hss hQ hS hL hf
    rw [fL_holds_200] at hf
    refine p_istore (lv' := [(10, .int si0), (0, .ref x), (1, .ref y), (2, .int i2), (3, .int i3), (4, .int i4), (5, .int i5), (6, .int i6), (8, .int i8), (11, .int i11)]) hx hb dL_holds_200 hL (by decide) rfl (fun ls hL => ?_)
    refine p_iinc (v := (i11 + 1)) (lv' := [(11, .int (i11 + 1)), (10, .int si0), (0, .ref x), (1, .ref y), (2, .int i2), (3, .int i3), (4, .int i4), (5, .int i5), (6, .int i6), (8, .int i8)]) hx hb dL_holds_202 hL (k := 9) rfl rfl (by decide) rfl (fun ls hL => ?_)
    refine lv_goto (tgt := 164) hx hb dL_holds_205 (by decide) ?_
    exact ihK _ _ _ _ _ i2 i3 i4 i5 i6 i8 si0 (i11 + 1) (by omega) (by omega) hQ hS (hL.sub [2, 3, 4, 5, 6, 7, 8, 9, 1, 0] rfl) hf
  have b164 : ∀ (K : Int32 → Int32 → Int32 → Int32 → Int32 → Int32 → Int32 → Option (Int32)) (nd ne : Nat), (∀ (cells slots : Nat) (H : Heap) (locs : List Loc) (ls : Array Slot) (i2 : Int32) (i3 : Int32) (i4 : Int32) (i5 : Int32) (i6 : Int32) (i7 : Int32) (i8 : Int32), cells + (nd) ≤ 3087 → slots + (ne) ≤ 18522 → bk D x p_tt g s H → va_S p_no s.heap H locs → p_L ls 13 [(0, .ref x), (1, .ref y), (2, .int i2), (3, .int i3), (4, .int i4), (5, .int i5), (6, .int i6), (7, .int i7), (8, .int i8)] → K i2 i3 i4 i5 i6 i7 i8 = some r → W p l e rL_holds s m args below meth c H locs cells slots (MQ below (p_Ri r) args s 3087 18522 p_no) (F0 m 111 ls [])) → ∀ n : Nat, ∀ (cells slots : Nat) (H : Heap) (locs : List Loc) (ls : Array Slot) (i2 : Int32) (i3 : Int32) (i4 : Int32) (i5 : Int32) (i6 : Int32) (i8 : Int32) (i10 : Int32) (i11 : Int32), cells + (n * 1 + (9 + nd)) ≤ 3087 → slots + (n * 6 + (54 + ne)) ≤ 18522 → bk D x p_tt g s H → va_S p_no s.heap H locs → p_L ls 13 [(0, .ref x), (1, .ref y), (2, .int i2), (3, .int i3), (4, .int i4), (5, .int i5), (6, .int i6), (8, .int i8), (10, .int i10), (11, .int i11)] → fL_holds_164 k g K n i2 i3 i4 i5 i6 i8 i10 i11 = some r → W p l e rL_holds s m args below meth c H locs cells slots (MQ below (p_Ri r) args s 3087 18522 p_no) (F0 m 164 ls []) := by
    intro K nd ne ihK
    intro n
    induction n with
    | zero =>
      intro cells slots H locs ls i2 i3 i4 i5 i6 i8 i10 i11 hcc hss hQ hS hL hf
      simp [fL_holds_164] at hf
    | succ n ih =>
      intro cells slots H locs ls i2 i3 i4 i5 i6 i8 i10 i11 hcc hss hQ hS hL hf
      rw [fL_holds_164] at hf
      refine lv_iload hx hb dL_holds_164 (lv_at hL.1 9 rfl) ?_
      refine lv_bipush (v := 48) hx hb dL_holds_166 (by decide) ?_
      refine lv_icmp_ge (tgt := 208) hx hb dL_holds_168 (by decide) (fun c29 => ?_) (fun c29 => ?_)
      · rw [if_pos c29] at hf
        exact b208 K nd ne ihK _ _ _ _ _ i2 i3 i4 i5 i6 i8 i10 (by omega) (by omega) hQ hS (hL.sub [0, 1, 2, 3, 4, 5, 6, 7, 8] rfl) hf
      · rw [if_neg c29] at hf
        refine lv_iload hx hb dL_holds_171 (lv_at hL.1 8 rfl) ?_
        refine lv_if_ne (tgt := 208) hx hb dL_holds_173 (by decide) (fun c30 => ?_) (fun c30 => ?_)
        · rw [if_neg c30] at hf
          exact b208 K nd ne ihK _ _ _ _ _ i2 i3 i4 i5 i6 i8 i10 (by omega) (by omega) hQ hS (hL.sub [0, 1, 2, 3, 4, 5, 6, 7, 8] rfl) hf
        · rw [if_pos c30] at hf
          refine lv_aload_n hx hb dL_holds_176 rfl (lv_at hL.1 0 rfl) ?_
          refine lv_iload hx hb dL_holds_177 (lv_at hL.1 9 rfl) ?_
          refine lv_bipush (v := 8) hx hb dL_holds_179 (by decide) ?_
          refine lv_irem hx hb dL_holds_181 (by decide) ?_
          refine lv_iload hx hb dL_holds_182 (lv_at hL.1 9 rfl) ?_
          refine lv_bipush (v := 8) hx hb dL_holds_184 (by decide) ?_
          refine lv_idiv hx hb dL_holds_186 (by decide) ?_
          refine b_rd (vx_runSW (As := [.ref x, .int (i11 - i11 / 8 * 8), .int (i11 / 8)]) (rest := []) hC (wL_at l hl D x H.size g (i11 - i11 / 8 * 8) (i11 / 8)) (vx_cwSW 3 hts gL_holds_L_at rfl rfl rfl (by decide +kernel) ⟨Nat.le_of_ble_eq_true rfl, Nat.le_of_ble_eq_true rfl⟩) (b_preS hK hQ.tt ((hE.kept hS.2.1).narrow fun _ h9 => h9.elim) hca) rfl rfl hL.1.1 rfl (lv_room (Nat.le_of_ble_eq_true rfl)) dL_holds_187 ⟨by show _ ≤ (3087 : Nat); omega, by show _ ≤ (18522 : Nat); omega⟩) hQ hS (fun H locs hQ hS => ?_)
          refine lv_iload hx hb dL_holds_190 (lv_at hL.1 7 rfl) ?_
          refine lv_icmp_ne (tgt := 199) hx hb dL_holds_192 (by decide) (fun c31 => ?_) (fun c31 => ?_)
          · rw [if_neg c31] at hf
            refine lv_iconst (v := 0) hx hb dL_holds_199 (by decide) ?_
            exact b200 (fL_holds_164 k g K n) (n * 1 + (9 + nd)) (n * 6 + (54 + ne)) ih _ _ _ _ _ i2 i3 i4 i5 i6 i8 i11 0 (by omega) (by omega) hQ hS (hL.sub [0, 1, 2, 3, 4, 5, 6, 7, 9] rfl) hf
          · rw [if_pos c31] at hf
            refine lv_iconst (v := 1) hx hb dL_holds_195 (by decide) ?_
            refine lv_goto (tgt := 200) hx hb dL_holds_196 (by decide) ?_
            exact b200 (fL_holds_164 k g K n) (n * 1 + (9 + nd)) (n * 6 + (54 + ne)) ih _ _ _ _ _ i2 i3 i4 i5 i6 i8 i11 1 (by omega) (by omega) hQ hS (hL.sub [0, 1, 2, 3, 4, 5, 6, 7, 9] rfl) hf
  have b111 : ∀ n : Nat, ∀ (cells slots : Nat) (H : Heap) (locs : List Loc) (ls : Array Slot) (i2 : Int32) (i3 : Int32) (i4 : Int32) (i5 : Int32) (i6 : Int32) (i7 : Int32) (i8 : Int32), cells + (n * 60 + (0)) ≤ 3087 → slots + (n * 360 + (0)) ≤ 18522 → bk D x p_tt g s H → va_S p_no s.heap H locs → p_L ls 13 [(0, .ref x), (1, .ref y), (2, .int i2), (3, .int i3), (4, .int i4), (5, .int i5), (6, .int i6), (7, .int i7), (8, .int i8)] → fL_holds_111 k g n i2 i3 i4 i5 i6 i7 i8 = some r → W p l e rL_holds s m args below meth c H locs cells slots (MQ below (p_Ri r) args s 3087 18522 p_no) (F0 m 111 ls []) := by
    intro n
    induction n with
    | zero =>
      intro cells slots H locs ls i2 i3 i4 i5 i6 i7 i8 hcc hss hQ hS hL hf
      simp [fL_holds_111] at hf
    | succ n ih =>
      intro cells slots H locs ls i2 i3 i4 i5 i6 i7 i8 hcc hss hQ hS hL hf
      rw [fL_holds_111] at hf
      refine lv_iload hx hb dL_holds_111 (lv_at hL.1 8 rfl) ?_
      refine lv_aload_n hx hb dL_holds_113 rfl (lv_at hL.1 1 rfl) ?_
      refine lv_iconst (v := 0) hx hb dL_holds_114 (by decide) ?_
      refine b_n0 hx hb hN hAy hS dL_holds_115 ?_
      refine lv_icmp_ge (tgt := 419) hx hb dL_holds_116 (by decide) (fun c32 => ?_) (fun c32 => ?_)
      · rw [if_pos c32] at hf
        exact b419 _ _ _ _ _ i2 i3 i4 i5 i6 i7 (by omega) (by omega) hQ hS (hL.sub [0, 2, 3, 4, 5, 6, 7] rfl) hf
      · rw [if_neg c32] at hf
        refine lv_iload hx hb dL_holds_119 (lv_at hL.1 7 rfl) ?_
        refine lv_if_eq (tgt := 419) hx hb dL_holds_121 (by decide) (fun c33 => ?_) (fun c33 => ?_)
        · rw [if_pos c33] at hf
          exact b419 _ _ _ _ _ i2 i3 i4 i5 i6 i7 (by omega) (by omega) hQ hS (hL.sub [0, 2, 3, 4, 5, 6, 7] rfl) hf
        · rw [if_neg c33] at hf
          refine lv_aload_n hx hb dL_holds_124 rfl (lv_at hL.1 0 rfl) ?_
          refine lv_iload hx hb dL_holds_125 (lv_at hL.1 8 rfl) ?_
          refine b_rd (vx_runSW (As := [.ref x, .int i8]) (rest := []) hC (wL_place l hl D x H.size g i8) (vx_cwSW 2 hts gL_holds_L_place rfl rfl rfl (by decide +kernel) ⟨Nat.le_of_ble_eq_true rfl, Nat.le_of_ble_eq_true rfl⟩) (b_preS hK hQ.tt ((hE.kept hS.2.1).narrow fun _ h9 => h9.elim) hca) rfl rfl hL.1.1 rfl (lv_room (Nat.le_of_ble_eq_true rfl)) dL_holds_127 ⟨by show _ ≤ (3087 : Nat); omega, by show _ ≤ (18522 : Nat); omega⟩) hQ hS (fun H locs hQ hS => ?_)
          refine p_istore (lv' := [(9, .int (aPlace g i8)), (0, .ref x), (1, .ref y), (2, .int i2), (3, .int i3), (4, .int i4), (5, .int i5), (6, .int i6), (7, .int i7), (8, .int i8)]) hx hb dL_holds_130 hL (by decide) rfl (fun ls hL => ?_)
          refine lv_iload hx hb dL_holds_132 (lv_at hL.1 0 rfl) ?_
          refine lv_if_lt (tgt := 377) hx hb dL_holds_134 (by decide) (fun c34 => ?_) (fun c34 => ?_)
          · rw [if_pos c34] at hf
            refine lv_iload hx hb dL_holds_377 (lv_at hL.1 0 rfl) ?_
            refine lv_ldc (v := kIX) hx hb hown (hts (.constant RL 25 kIX) (by decide +kernel)) dL_holds_379 ?_
            refine lv_icmp_ne (tgt := 410) hx hb dL_holds_381 (by decide) (fun c35 => ?_) (fun c35 => ?_)
            · rw [if_neg c35] at hf
              exact b410 (fL_holds_111 k g n) (n * 60 + (0)) (n * 360 + (0)) ih _ _ _ _ _ i2 i3 i4 i5 i6 i8 (by omega) (by omega) hQ hS (hL.sub [1, 2, 3, 4, 5, 6, 7, 9] rfl) hf
            · rw [if_pos c35] at hf
              refine lv_aload_n hx hb dL_holds_384 rfl (lv_at hL.1 1 rfl) ?_
              refine lv_iload hx hb dL_holds_385 (lv_at hL.1 9 rfl) ?_
              refine b_rd (vx_runSW (As := [.ref x, .int i8]) (rest := []) hC (wL_pages l hl D x H.size g i8) (vx_cwSW 2 hts gL_holds_L_pages rfl rfl rfl (by decide +kernel) ⟨Nat.le_of_ble_eq_true rfl, Nat.le_of_ble_eq_true rfl⟩) (b_preS hK hQ.tt ((hE.kept hS.2.1).narrow fun _ h9 => h9.elim) hca) rfl rfl hL.1.1 rfl (lv_room (Nat.le_of_ble_eq_true rfl)) dL_holds_387 ⟨by show _ ≤ (3087 : Nat); omega, by show _ ≤ (18522 : Nat); omega⟩) hQ hS (fun H locs hQ hS => ?_)
              refine lv_ldc (v := kIX) hx hb hown (hts (.constant RL 25 kIX) (by decide +kernel)) dL_holds_390 ?_
              refine lv_icmp_ne (tgt := 410) hx hb dL_holds_392 (by decide) (fun c36 => ?_) (fun c36 => ?_)
              · rw [if_neg c36] at hf
                exact b410 (fL_holds_111 k g n) (n * 60 + (0)) (n * 360 + (0)) ih _ _ _ _ _ i2 i3 i4 i5 i6 i8 (by omega) (by omega) hQ hS (hL.sub [1, 2, 3, 4, 5, 6, 7, 9] rfl) hf
              · rw [if_pos c36] at hf
                refine lv_aload_n hx hb dL_holds_395 rfl (lv_at hL.1 1 rfl) ?_
                refine lv_iload hx hb dL_holds_396 (lv_at hL.1 9 rfl) ?_
                refine b_rd (vx_runSW (As := [.ref x, .int i8]) (rest := []) hC (wL_deadline l hl D x H.size g i8) (vx_cwSW 2 hts gL_holds_L_deadline rfl rfl rfl (by decide +kernel) ⟨Nat.le_of_ble_eq_true rfl, Nat.le_of_ble_eq_true rfl⟩) (b_preS hK hQ.tt ((hE.kept hS.2.1).narrow fun _ h9 => h9.elim) hca) rfl rfl hL.1.1 rfl (lv_room (Nat.le_of_ble_eq_true rfl)) dL_holds_398 ⟨by show _ ≤ (3087 : Nat); omega, by show _ ≤ (18522 : Nat); omega⟩) hQ hS (fun H locs hQ hS => ?_)
                refine lv_ldc (v := kIX) hx hb hown (hts (.constant RL 25 kIX) (by decide +kernel)) dL_holds_401 ?_
                refine lv_icmp_ne (tgt := 410) hx hb dL_holds_403 (by decide) (fun c37 => ?_) (fun c37 => ?_)
                · rw [if_neg c37] at hf
                  exact b410 (fL_holds_111 k g n) (n * 60 + (0)) (n * 360 + (0)) ih _ _ _ _ _ i2 i3 i4 i5 i6 i8 (by omega) (by omega) hQ hS (hL.sub [1, 2, 3, 4, 5, 6, 7, 9] rfl) hf
                · rw [if_pos c37] at hf
                  refine lv_iconst (v := 1) hx hb dL_holds_406 (by decide) ?_
                  refine lv_goto (tgt := 411) hx hb dL_holds_407 (by decide) ?_
                  exact b411 (fL_holds_111 k g n) (n * 60 + (0)) (n * 360 + (0)) ih _ _ _ _ _ i2 i3 i4 i5 i6 i8 1 (by omega) (by omega) hQ hS (hL.sub [1, 2, 3, 4, 5, 6, 7, 9] rfl) hf
          · rw [if_neg c34] at hf
            refine p_iinc (v := (i3 + 1)) (lv' := [(3, .int (i3 + 1)), (9, .int (aPlace g i8)), (0, .ref x), (1, .ref y), (2, .int i2), (4, .int i4), (5, .int i5), (6, .int i6), (7, .int i7), (8, .int i8)]) hx hb dL_holds_137 hL (k := 4) rfl rfl (by decide) rfl (fun ls hL => ?_)
            refine lv_iload hx hb dL_holds_140 (lv_at hL.1 5 rfl) ?_
            refine lv_iconst (v := 1) hx hb dL_holds_142 (by decide) ?_
            refine lv_iload hx hb dL_holds_143 (lv_at hL.1 1 rfl) ?_
            refine lv_ishl hx hb dL_holds_145 ?_
            refine lv_ior hx hb dL_holds_146 ?_
            refine p_istore (lv' := [(4, .int (i4 ||| (1 <<< ((aPlace g i8) &&& 31)))), (3, .int (i3 + 1)), (9, .int (aPlace g i8)), (0, .ref x), (1, .ref y), (2, .int i2), (5, .int i5), (6, .int i6), (7, .int i7), (8, .int i8)]) hx hb dL_holds_147 hL (by decide) rfl (fun ls hL => ?_)
            refine lv_iload_n hx hb dL_holds_149 rfl (lv_at hL.1 5 rfl) ?_
            refine lv_aload_n hx hb dL_holds_150 rfl (lv_at hL.1 3 rfl) ?_
            refine lv_iload hx hb dL_holds_151 (lv_at hL.1 9 rfl) ?_
            refine b_rd (vx_runSW (As := [.ref x, .int i8]) (rest := [.int i2]) hC (wL_pages l hl D x H.size g i8) (vx_cwSW 2 hts gL_holds_L_pages rfl rfl rfl (by decide +kernel) ⟨Nat.le_of_ble_eq_true rfl, Nat.le_of_ble_eq_true rfl⟩) (b_preS hK hQ.tt ((hE.kept hS.2.1).narrow fun _ h9 => h9.elim) hca) rfl rfl hL.1.1 rfl (lv_room (Nat.le_of_ble_eq_true rfl)) dL_holds_153 ⟨by show _ ≤ (3087 : Nat); omega, by show _ ≤ (18522 : Nat); omega⟩) hQ hS (fun H locs hQ hS => ?_)
            refine lv_iadd hx hb dL_holds_156 ?_
            refine p_istore_n (lv' := [(2, .int (i2 + (aPages g i8))), (4, .int (i4 ||| (1 <<< ((aPlace g i8) &&& 31)))), (3, .int (i3 + 1)), (9, .int (aPlace g i8)), (0, .ref x), (1, .ref y), (5, .int i5), (6, .int i6), (7, .int i7), (8, .int i8)]) hx hb dL_holds_157 rfl hL (by decide) rfl (fun ls hL => ?_)
            refine lv_iconst (v := 0) hx hb dL_holds_158 (by decide) ?_
            refine p_istore (lv' := [(10, .int 0), (2, .int (i2 + (aPages g i8))), (4, .int (i4 ||| (1 <<< ((aPlace g i8) &&& 31)))), (3, .int (i3 + 1)), (9, .int (aPlace g i8)), (0, .ref x), (1, .ref y), (5, .int i5), (6, .int i6), (7, .int i7), (8, .int i8)]) hx hb dL_holds_159 hL (by decide) rfl (fun ls hL => ?_)
            refine lv_iconst (v := 0) hx hb dL_holds_161 (by decide) ?_
            refine p_istore (lv' := [(11, .int 0), (10, .int 0), (2, .int (i2 + (aPages g i8))), (4, .int (i4 ||| (1 <<< ((aPlace g i8) &&& 31)))), (3, .int (i3 + 1)), (9, .int (aPlace g i8)), (0, .ref x), (1, .ref y), (5, .int i5), (6, .int i6), (7, .int i7), (8, .int i8)]) hx hb dL_holds_162 hL (by decide) rfl (fun ls hL => ?_)
            exact b164 (fL_holds_111 k g n) (n * 60 + (0)) (n * 360 + (0)) ih 49 _ _ _ _ _ (i2 + (aPages g i8)) (i3 + 1) (i4 ||| (1 <<< ((aPlace g i8) &&& 31))) i5 i6 i8 0 0 (by omega) (by omega) hQ hS (hL.sub [6, 7, 2, 4, 3, 8, 9, 11, 1, 0] rfl) hf
  have b108 : ∀ (cells slots : Nat) (H : Heap) (locs : List Loc) (ls : Array Slot) (i2 : Int32) (i3 : Int32) (i4 : Int32) (i5 : Int32) (i6 : Int32) (i7 : Int32), cells + (2940) ≤ 3087 → slots + (17640) ≤ 18522 → bk D x p_tt g s H → va_S p_no s.heap H locs → p_L ls 13 [(0, .ref x), (1, .ref y), (2, .int i2), (3, .int i3), (4, .int i4), (5, .int i5), (6, .int i6), (7, .int i7)] → fL_holds_108 k g  i2 i3 i4 i5 i6 i7 = some r → W p l e rL_holds s m args below meth c H locs cells slots (MQ below (p_Ri r) args s 3087 18522 p_no) (F0 m 108 ls []) := by
    intro cells slots H locs ls i2 i3 i4 i5 i6 i7 hcc hss hQ hS hL hf
    rw [fL_holds_108] at hf
    refine lv_iconst (v := 0) hx hb dL_holds_108 (by decide) ?_
    refine p_istore (lv' := [(8, .int 0), (0, .ref x), (1, .ref y), (2, .int i2), (3, .int i3), (4, .int i4), (5, .int i5), (6, .int i6), (7, .int i7)]) hx hb dL_holds_109 hL (by decide) rfl (fun ls hL => ?_)
    exact b111 49 _ _ _ _ _ i2 i3 i4 i5 i6 i7 0 (by omega) (by omega) hQ hS (hL.sub [1, 2, 3, 4, 5, 6, 7, 8, 0] rfl) hf
  have b100 : ∀ (K : Int32 → Int32 → Int32 → Int32 → Int32 → Int32 → Int32 → Option (Int32)) (nd ne : Nat), (∀ (cells slots : Nat) (H : Heap) (locs : List Loc) (ls : Array Slot) (i2 : Int32) (i3 : Int32) (i4 : Int32) (i5 : Int32) (i6 : Int32) (i7 : Int32) (i8 : Int32), cells + (nd) ≤ 3087 → slots + (ne) ≤ 18522 → bk D x p_tt g s H → va_S p_no s.heap H locs → p_L ls 13 [(0, .ref x), (1, .ref y), (2, .int i2), (3, .int i3), (4, .int i4), (5, .int i5), (6, .int i6), (7, .int i7), (8, .int i8)] → K i2 i3 i4 i5 i6 i7 i8 = some r → W p l e rL_holds s m args below meth c H locs cells slots (MQ below (p_Ri r) args s 3087 18522 p_no) (F0 m 19 ls [])) → ∀ (cells slots : Nat) (H : Heap) (locs : List Loc) (ls : Array Slot) (i2 : Int32) (i3 : Int32) (i4 : Int32) (i5 : Int32) (i6 : Int32) (i8 : Int32) (si0 : Int32), cells + (0 + nd) ≤ 3087 → slots + (0 + ne) ≤ 18522 → bk D x p_tt g s H → va_S p_no s.heap H locs → p_L ls 13 [(0, .ref x), (1, .ref y), (2, .int i2), (3, .int i3), (4, .int i4), (5, .int i5), (6, .int i6), (8, .int i8)] → fL_holds_100 k g K  i2 i3 i4 i5 i6 i8 si0 = some r → W p l e rL_holds s m args below meth c H locs cells slots (MQ below (p_Ri r) args s 3087 18522 p_no) (F0 m 100 ls [.int si0]) := by
    intro K nd ne ihK
    intro cells slots H locs ls i2 i3 i4 i5 i6 i8 si0 hcc hss hQ hS hL hf
    rw [fL_holds_100] at hf
    refine p_istore (lv' := [(7, .int si0), (0, .ref x), (1, .ref y), (2, .int i2), (3, .int i3), (4, .int i4), (5, .int i5), (6, .int i6), (8, .int i8)]) hx hb dL_holds_100 hL (by decide) rfl (fun ls hL => ?_)
    refine p_iinc (v := (i8 + 1)) (lv' := [(8, .int (i8 + 1)), (7, .int si0), (0, .ref x), (1, .ref y), (2, .int i2), (3, .int i3), (4, .int i4), (5, .int i5), (6, .int i6)]) hx hb dL_holds_102 hL (k := 8) rfl rfl (by decide) rfl (fun ls hL => ?_)
    refine lv_goto (tgt := 19) hx hb dL_holds_105 (by decide) ?_
    exact ihK _ _ _ _ _ i2 i3 i4 i5 i6 si0 (i8 + 1) (by omega) (by omega) hQ hS (hL.sub [2, 3, 4, 5, 6, 7, 8, 1, 0] rfl) hf
  have b99 : ∀ (K : Int32 → Int32 → Int32 → Int32 → Int32 → Int32 → Int32 → Option (Int32)) (nd ne : Nat), (∀ (cells slots : Nat) (H : Heap) (locs : List Loc) (ls : Array Slot) (i2 : Int32) (i3 : Int32) (i4 : Int32) (i5 : Int32) (i6 : Int32) (i7 : Int32) (i8 : Int32), cells + (nd) ≤ 3087 → slots + (ne) ≤ 18522 → bk D x p_tt g s H → va_S p_no s.heap H locs → p_L ls 13 [(0, .ref x), (1, .ref y), (2, .int i2), (3, .int i3), (4, .int i4), (5, .int i5), (6, .int i6), (7, .int i7), (8, .int i8)] → K i2 i3 i4 i5 i6 i7 i8 = some r → W p l e rL_holds s m args below meth c H locs cells slots (MQ below (p_Ri r) args s 3087 18522 p_no) (F0 m 19 ls [])) → ∀ (cells slots : Nat) (H : Heap) (locs : List Loc) (ls : Array Slot) (i2 : Int32) (i3 : Int32) (i4 : Int32) (i5 : Int32) (i6 : Int32) (i8 : Int32), cells + (0 + nd) ≤ 3087 → slots + (0 + ne) ≤ 18522 → bk D x p_tt g s H → va_S p_no s.heap H locs → p_L ls 13 [(0, .ref x), (1, .ref y), (2, .int i2), (3, .int i3), (4, .int i4), (5, .int i5), (6, .int i6), (8, .int i8)] → fL_holds_99 k g K  i2 i3 i4 i5 i6 i8 = some r → W p l e rL_holds s m args below meth c H locs cells slots (MQ below (p_Ri r) args s 3087 18522 p_no) (F0 m 99 ls []) := by
    intro K nd ne ihK
    intro cells slots H locs ls i2 i3 i4 i5 i6 i8 hcc hss hQ hS hL hf
    rw [fL_holds_99] at hf
    refine lv_iconst (v := 0) hx hb dL_holds_99 (by decide) ?_
    exact b100 K nd ne ihK _ _ _ _ _ i2 i3 i4 i5 i6 i8 0 (by omega) (by omega) hQ hS (hL.sub [0, 1, 2, 3, 4, 5, 6, 7] rfl) hf
  have b95 : ∀ (K : Int32 → Int32 → Int32 → Int32 → Int32 → Int32 → Int32 → Option (Int32)) (nd ne : Nat), (∀ (cells slots : Nat) (H : Heap) (locs : List Loc) (ls : Array Slot) (i2 : Int32) (i3 : Int32) (i4 : Int32) (i5 : Int32) (i6 : Int32) (i7 : Int32) (i8 : Int32), cells + (nd) ≤ 3087 → slots + (ne) ≤ 18522 → bk D x p_tt g s H → va_S p_no s.heap H locs → p_L ls 13 [(0, .ref x), (1, .ref y), (2, .int i2), (3, .int i3), (4, .int i4), (5, .int i5), (6, .int i6), (7, .int i7), (8, .int i8)] → K i2 i3 i4 i5 i6 i7 i8 = some r → W p l e rL_holds s m args below meth c H locs cells slots (MQ below (p_Ri r) args s 3087 18522 p_no) (F0 m 19 ls [])) → ∀ (cells slots : Nat) (H : Heap) (locs : List Loc) (ls : Array Slot) (i2 : Int32) (i3 : Int32) (i4 : Int32) (i5 : Int32) (i6 : Int32) (i8 : Int32), cells + (0 + nd) ≤ 3087 → slots + (0 + ne) ≤ 18522 → bk D x p_tt g s H → va_S p_no s.heap H locs → p_L ls 13 [(0, .ref x), (1, .ref y), (2, .int i2), (3, .int i3), (4, .int i4), (5, .int i5), (6, .int i6), (8, .int i8)] → fL_holds_95 k g K  i2 i3 i4 i5 i6 i8 = some r → W p l e rL_holds s m args below meth c H locs cells slots (MQ below (p_Ri r) args s 3087 18522 p_no) (F0 m 95 ls []) := by
    intro K nd ne ihK
    intro cells slots H locs ls i2 i3 i4 i5 i6 i8 hcc hss hQ hS hL hf
    rw [fL_holds_95] at hf
    refine lv_iconst (v := 1) hx hb dL_holds_95 (by decide) ?_
    refine lv_goto (tgt := 100) hx hb dL_holds_96 (by decide) ?_
    exact b100 K nd ne ihK _ _ _ _ _ i2 i3 i4 i5 i6 i8 1 (by omega) (by omega) hQ hS (hL.sub [0, 1, 2, 3, 4, 5, 6, 7] rfl) hf
  have b59 : ∀ (K : Int32 → Int32 → Int32 → Int32 → Int32 → Int32 → Int32 → Option (Int32)) (nd ne : Nat), (∀ (cells slots : Nat) (H : Heap) (locs : List Loc) (ls : Array Slot) (i2 : Int32) (i3 : Int32) (i4 : Int32) (i5 : Int32) (i6 : Int32) (i7 : Int32) (i8 : Int32), cells + (nd) ≤ 3087 → slots + (ne) ≤ 18522 → bk D x p_tt g s H → va_S p_no s.heap H locs → p_L ls 13 [(0, .ref x), (1, .ref y), (2, .int i2), (3, .int i3), (4, .int i4), (5, .int i5), (6, .int i6), (7, .int i7), (8, .int i8)] → K i2 i3 i4 i5 i6 i7 i8 = some r → W p l e rL_holds s m args below meth c H locs cells slots (MQ below (p_Ri r) args s 3087 18522 p_no) (F0 m 19 ls [])) → ∀ (cells slots : Nat) (H : Heap) (locs : List Loc) (ls : Array Slot) (i2 : Int32) (i3 : Int32) (i4 : Int32) (i6 : Int32) (i8 : Int32) (i9 : Int32) (si0 : Int32) (si1 : Int32), cells + (2 + nd) ≤ 3087 → slots + (12 + ne) ≤ 18522 → bk D x p_tt g s H → va_S p_no s.heap H locs → p_L ls 13 [(0, .ref x), (1, .ref y), (2, .int i2), (3, .int i3), (4, .int i4), (6, .int i6), (8, .int i8), (9, .int i9)] → fL_holds_59 k g K  i2 i3 i4 i6 i8 i9 si0 si1 = some r → W p l e rL_holds s m args below meth c H locs cells slots (MQ below (p_Ri r) args s 3087 18522 p_no) (F0 m 59 ls [.int si0, .int si1]) := by
    intro K nd ne ihK
    intro cells slots H locs ls i2 i3 i4 i6 i8 i9 si0 si1 hcc hss hQ hS hL hf
    rw [fL_holds_59] at hf
    refine lv_iadd hx hb dL_holds_59 ?_
    refine p_istore (lv' := [(5, .int (si1 + si0)), (0, .ref x), (1, .ref y), (2, .int i2), (3, .int i3), (4, .int i4), (6, .int i6), (8, .int i8), (9, .int i9)]) hx hb dL_holds_60 hL (by decide) rfl (fun ls hL => ?_)
    refine lv_iload hx hb dL_holds_62 (lv_at hL.1 8 rfl) ?_
    refine lv_iconst (v := -1) hx hb dL_holds_64 (by decide) ?_
    refine lv_icmp_eq (tgt := 95) hx hb dL_holds_65 (by decide) (fun c38 => ?_) (fun c38 => ?_)
    · rw [if_pos c38] at hf
      exact b95 K nd ne ihK _ _ _ _ _ i2 i3 i4 (si1 + si0) i6 i8 (by omega) (by omega) hQ hS (hL.sub [1, 2, 3, 4, 5, 0, 6, 7] rfl) hf
    · rw [if_neg c38] at hf
      refine lv_iload hx hb dL_holds_68 (lv_at hL.1 8 rfl) ?_
      refine lv_aload_n hx hb dL_holds_70 rfl (lv_at hL.1 2 rfl) ?_
      refine lv_iconst (v := 0) hx hb dL_holds_71 (by decide) ?_
      refine b_n0 hx hb hN hAy hS dL_holds_72 ?_
      refine lv_icmp_ge (tgt := 99) hx hb dL_holds_73 (by decide) (fun c39 => ?_) (fun c39 => ?_)
      · rw [if_pos c39] at hf
        exact b99 K nd ne ihK _ _ _ _ _ i2 i3 i4 (si1 + si0) i6 i8 (by omega) (by omega) hQ hS (hL.sub [1, 2, 3, 4, 5, 0, 6, 7] rfl) hf
      · rw [if_neg c39] at hf
        refine lv_aload_n hx hb dL_holds_76 rfl (lv_at hL.1 1 rfl) ?_
        refine lv_iload hx hb dL_holds_77 (lv_at hL.1 8 rfl) ?_
        refine b_rd (vx_runSW (As := [.ref x, .int i9]) (rest := []) hC (wL_seen l hl D x H.size g i9) (vx_cwSW 2 hts gL_holds_L_seen rfl rfl rfl (by decide +kernel) ⟨Nat.le_of_ble_eq_true rfl, Nat.le_of_ble_eq_true rfl⟩) (b_preS hK hQ.tt ((hE.kept hS.2.1).narrow fun _ h9 => h9.elim) hca) rfl rfl hL.1.1 rfl (lv_room (Nat.le_of_ble_eq_true rfl)) dL_holds_79 ⟨by show _ ≤ (3087 : Nat); omega, by show _ ≤ (18522 : Nat); omega⟩) hQ hS (fun H locs hQ hS => ?_)
        refine lv_iconst (v := 1) hx hb dL_holds_82 (by decide) ?_
        refine lv_icmp_ne (tgt := 99) hx hb dL_holds_83 (by decide) (fun c40 => ?_) (fun c40 => ?_)
        · rw [if_neg c40] at hf
          exact b99 K nd ne ihK _ _ _ _ _ i2 i3 i4 (si1 + si0) i6 i8 (by omega) (by omega) hQ hS (hL.sub [1, 2, 3, 4, 5, 0, 6, 7] rfl) hf
        · rw [if_pos c40] at hf
          refine lv_aload_n hx hb dL_holds_86 rfl (lv_at hL.1 1 rfl) ?_
          refine lv_iload hx hb dL_holds_87 (lv_at hL.1 8 rfl) ?_
          refine b_rd (vx_runSW (As := [.ref x, .int i9]) (rest := []) hC (wL_place l hl D x H.size g i9) (vx_cwSW 2 hts gL_holds_L_place rfl rfl rfl (by decide +kernel) ⟨Nat.le_of_ble_eq_true rfl, Nat.le_of_ble_eq_true rfl⟩) (b_preS hK hQ.tt ((hE.kept hS.2.1).narrow fun _ h9 => h9.elim) hca) rfl rfl hL.1.1 rfl (lv_room (Nat.le_of_ble_eq_true rfl)) dL_holds_89 ⟨by show _ ≤ (3087 : Nat); omega, by show _ ≤ (18522 : Nat); omega⟩) hQ hS (fun H locs hQ hS => ?_)
          refine lv_if_lt (tgt := 99) hx hb dL_holds_92 (by decide) (fun c41 => ?_) (fun c41 => ?_)
          · rw [if_pos c41] at hf
            exact b99 K nd ne ihK _ _ _ _ _ i2 i3 i4 (si1 + si0) i6 i8 (by omega) (by omega) hQ hS (hL.sub [1, 2, 3, 4, 5, 0, 6, 7] rfl) hf
          · rw [if_neg c41] at hf
            exact b95 K nd ne ihK _ _ _ _ _ i2 i3 i4 (si1 + si0) i6 i8 (by omega) (by omega) hQ hS (hL.sub [1, 2, 3, 4, 5, 0, 6, 7] rfl) hf
  have b19 : ∀ n : Nat, ∀ (cells slots : Nat) (H : Heap) (locs : List Loc) (ls : Array Slot) (i2 : Int32) (i3 : Int32) (i4 : Int32) (i5 : Int32) (i6 : Int32) (i7 : Int32) (i8 : Int32), cells + (n * 3 + (2940)) ≤ 3087 → slots + (n * 18 + (17640)) ≤ 18522 → bk D x p_tt g s H → va_S p_no s.heap H locs → p_L ls 13 [(0, .ref x), (1, .ref y), (2, .int i2), (3, .int i3), (4, .int i4), (5, .int i5), (6, .int i6), (7, .int i7), (8, .int i8)] → fL_holds_19 k g n i2 i3 i4 i5 i6 i7 i8 = some r → W p l e rL_holds s m args below meth c H locs cells slots (MQ below (p_Ri r) args s 3087 18522 p_no) (F0 m 19 ls []) := by
    intro n
    induction n with
    | zero =>
      intro cells slots H locs ls i2 i3 i4 i5 i6 i7 i8 hcc hss hQ hS hL hf
      simp [fL_holds_19] at hf
    | succ n ih =>
      intro cells slots H locs ls i2 i3 i4 i5 i6 i7 i8 hcc hss hQ hS hL hf
      rw [fL_holds_19] at hf
      refine lv_iload hx hb dL_holds_19 (lv_at hL.1 8 rfl) ?_
      refine lv_bipush (v := 48) hx hb dL_holds_21 (by decide) ?_
      refine lv_icmp_ge (tgt := 108) hx hb dL_holds_23 (by decide) (fun c42 => ?_) (fun c42 => ?_)
      · rw [if_pos c42] at hf
        exact b108 _ _ _ _ _ i2 i3 i4 i5 i6 i7 (by omega) (by omega) hQ hS (hL.sub [0, 1, 2, 3, 4, 5, 6, 7] rfl) hf
      · rw [if_neg c42] at hf
        refine lv_iload hx hb dL_holds_26 (lv_at hL.1 7 rfl) ?_
        refine lv_if_eq (tgt := 108) hx hb dL_holds_28 (by decide) (fun c43 => ?_) (fun c43 => ?_)
        · rw [if_pos c43] at hf
          exact b108 _ _ _ _ _ i2 i3 i4 i5 i6 i7 (by omega) (by omega) hQ hS (hL.sub [0, 1, 2, 3, 4, 5, 6, 7] rfl) hf
        · rw [if_neg c43] at hf
          refine lv_aload_n hx hb dL_holds_31 rfl (lv_at hL.1 0 rfl) ?_
          refine lv_iload hx hb dL_holds_32 (lv_at hL.1 8 rfl) ?_
          refine lv_bipush (v := 8) hx hb dL_holds_34 (by decide) ?_
          refine lv_irem hx hb dL_holds_36 (by decide) ?_
          refine lv_iload hx hb dL_holds_37 (lv_at hL.1 8 rfl) ?_
          refine lv_bipush (v := 8) hx hb dL_holds_39 (by decide) ?_
          refine lv_idiv hx hb dL_holds_41 (by decide) ?_
          refine b_rd (vx_runSW (As := [.ref x, .int (i8 - i8 / 8 * 8), .int (i8 / 8)]) (rest := []) hC (wL_at l hl D x H.size g (i8 - i8 / 8 * 8) (i8 / 8)) (vx_cwSW 3 hts gL_holds_L_at rfl rfl rfl (by decide +kernel) ⟨Nat.le_of_ble_eq_true rfl, Nat.le_of_ble_eq_true rfl⟩) (b_preS hK hQ.tt ((hE.kept hS.2.1).narrow fun _ h9 => h9.elim) hca) rfl rfl hL.1.1 rfl (lv_room (Nat.le_of_ble_eq_true rfl)) dL_holds_42 ⟨by show _ ≤ (3087 : Nat); omega, by show _ ≤ (18522 : Nat); omega⟩) hQ hS (fun H locs hQ hS => ?_)
          refine p_istore (lv' := [(9, .int (aAt g (i8 - i8 / 8 * 8) (i8 / 8))), (0, .ref x), (1, .ref y), (2, .int i2), (3, .int i3), (4, .int i4), (5, .int i5), (6, .int i6), (7, .int i7), (8, .int i8)]) hx hb dL_holds_45 hL (by decide) rfl (fun ls hL => ?_)
          refine lv_iload hx hb dL_holds_47 (lv_at hL.1 6 rfl) ?_
          refine lv_iload hx hb dL_holds_49 (lv_at hL.1 0 rfl) ?_
          refine lv_if_ge (tgt := 58) hx hb dL_holds_51 (by decide) (fun c44 => ?_) (fun c44 => ?_)
          · rw [if_pos c44] at hf
            refine lv_iconst (v := 1) hx hb dL_holds_58 (by decide) ?_
            exact b59 (fL_holds_19 k g n) (n * 3 + (2940)) (n * 18 + (17640)) ih _ _ _ _ _ i2 i3 i4 i6 i8 (aAt g (i8 - i8 / 8 * 8) (i8 / 8)) 1 i5 (by omega) (by omega) hQ hS (hL.sub [1, 2, 3, 4, 5, 7, 9, 0] rfl) hf
          · rw [if_neg c44] at hf
            refine lv_iconst (v := 0) hx hb dL_holds_54 (by decide) ?_
            refine lv_goto (tgt := 59) hx hb dL_holds_55 (by decide) ?_
            exact b59 (fL_holds_19 k g n) (n * 3 + (2940)) (n * 18 + (17640)) ih _ _ _ _ _ i2 i3 i4 i6 i8 (aAt g (i8 - i8 / 8 * 8) (i8 / 8)) 0 i5 (by omega) (by omega) hQ hS (hL.sub [1, 2, 3, 4, 5, 7, 9, 0] rfl) hf
  obtain ⟨H, hH⟩ : ∃ z : Heap, z = s.heap := ⟨_, rfl⟩
  have hQ : bk D x p_tt g s H := by rw [hH]; exact hQ
  have hS : va_S p_no s.heap H [] := by rw [hH]; exact hS
  rw [← hH]
  rw [fL_holds] at hf
  obtain ⟨cells, hc0⟩ : ∃ z : Nat, z = 0 := ⟨_, rfl⟩
  obtain ⟨slots, hs0⟩ : ∃ z : Nat, z = 0 := ⟨_, rfl⟩
  have hcc : cells + 3087 ≤ 3087 := by omega
  have hss : slots + 18522 ≤ 18522 := by omega
  show W p l e rL_holds s m args below meth c H [] 0 0 (MQ below (p_Ri r) args s 3087 18522 p_no) (F0 m 0 ls [])
  refine W.widen (k := cells) (n := slots) (by omega) (by omega) ?_
  refine lv_iconst (v := 0) hx hb dL_holds_0 (by decide) ?_
  refine p_istore_n (lv' := [(2, .int 0), (0, .ref x), (1, .ref y)]) hx hb dL_holds_1 rfl hL (by decide) rfl (fun ls hL => ?_)
  refine lv_iconst (v := 0) hx hb dL_holds_2 (by decide) ?_
  refine p_istore_n (lv' := [(3, .int 0), (2, .int 0), (0, .ref x), (1, .ref y)]) hx hb dL_holds_3 rfl hL (by decide) rfl (fun ls hL => ?_)
  refine lv_iconst (v := 0) hx hb dL_holds_4 (by decide) ?_
  refine p_istore (lv' := [(4, .int 0), (3, .int 0), (2, .int 0), (0, .ref x), (1, .ref y)]) hx hb dL_holds_5 hL (by decide) rfl (fun ls hL => ?_)
  refine lv_iconst (v := 0) hx hb dL_holds_7 (by decide) ?_
  refine p_istore (lv' := [(5, .int 0), (4, .int 0), (3, .int 0), (2, .int 0), (0, .ref x), (1, .ref y)]) hx hb dL_holds_8 hL (by decide) rfl (fun ls hL => ?_)
  refine lv_iconst (v := 0) hx hb dL_holds_10 (by decide) ?_
  refine p_istore (lv' := [(6, .int 0), (5, .int 0), (4, .int 0), (3, .int 0), (2, .int 0), (0, .ref x), (1, .ref y)]) hx hb dL_holds_11 hL (by decide) rfl (fun ls hL => ?_)
  refine lv_iconst (v := 1) hx hb dL_holds_13 (by decide) ?_
  refine p_istore (lv' := [(7, .int 1), (6, .int 0), (5, .int 0), (4, .int 0), (3, .int 0), (2, .int 0), (0, .ref x), (1, .ref y)]) hx hb dL_holds_14 hL (by decide) rfl (fun ls hL => ?_)
  refine lv_iconst (v := 0) hx hb dL_holds_16 (by decide) ?_
  refine p_istore (lv' := [(8, .int 0), (7, .int 1), (6, .int 0), (5, .int 0), (4, .int 0), (3, .int 0), (2, .int 0), (0, .ref x), (1, .ref y)]) hx hb dL_holds_17 hL (by decide) rfl (fun ls hL => ?_)
  exact b19 49 _ _ _ _ _ 0 0 0 0 0 1 0 (by omega) (by omega) hQ hS (hL.sub [7, 8, 6, 5, 4, 3, 2, 1, 0] rfl) hf
abbrev rL_alike : Room := { frames := 9, cells := 784, slots := 4704, locals := 157 }
set_option maxHeartbeats 8000000 in
set_option maxRecDepth 100000 in
theorem kL_alike (l : Launch) (hl : l.stackTraces = false) (D : va_G) (x x2 y sz : Nat) (g : Sg) (k : Int32) (i3 : Int32) (r : Int32) (hf : fL_alike k g i3 = some r) : Met l yL_alike wsL_alike rL_alike (b_N2 D x x2 y sz g k [.ref x, .ref x2, .ref y, .int i3]) (p_Ri r) 784 4704 p_no := by
  refine Met.ofW (cc := cL_alike) (maxL := 6) (ret := some .boolean) (by decide) rfl ?_
  intro p e s m args below meth c s₁ B hml hv
  obtain ⟨hargs, hK, hQ1, hQ2, hE, hsz, hca, hN⟩ := hv
  have hQ : bk D x p_tt g s s.heap ∧ bk D x2 p_tt g s s.heap := ⟨hQ1, hQ2⟩
  have hAy : ¬ p_no y := fun h => h
  have hx := B.exec
  have hb := B.bytes
  have hr := B.returns
  have hts := atoms_spec (ws := wsL_alike) B.pre
  have hown : s.vm.findClass RL = some m.cls := findClass_of_methodNamed B.named
  have hlocks := B.notSynchronized
  have hC : CallFix p m c cL_alike 6 s args wsL_alike RL := ⟨hx, hb, hml, hown, hts⟩
  have hS : va_S p_no s.heap s.heap [] := va_S.rf
  obtain ⟨ls, hls, hL⟩ := p_start (n := 6) hargs (by simp [p_cat, p_ci, p_cr, p_cn]) (Nat.le_of_ble_eq_true rfl)
  show W p l e rL_alike s m args below meth c s.heap [] 0 0 (MQ below (p_Ri r) args s 784 4704 p_no) (entryFrame m args 6)
  rw [hls]
  clear hls
  have hL : p_L ls 6 [(0, .ref x), (1, .ref x2), (2, .ref y), (3, .int i3)] := hL
  have b246 : ∀ (cells slots : Nat) (H : Heap) (locs : List Loc) (ls : Array Slot) (i4 : Int32), cells + (0) ≤ 784 → slots + (0) ≤ 4704 → bk D x p_tt g s H ∧ bk D x2 p_tt g s H → va_S p_no s.heap H locs → p_L ls 6 [(4, .int i4)] → fL_alike_246 k g  i4 = some r → W p l e rL_alike s m args below meth c H locs cells slots (MQ below (p_Ri r) args s 784 4704 p_no) (F0 m 246 ls []) := by
    intro cells slots H locs ls i4 hcc hss hQ hS hL hf
    rw [fL_alike_246] at hf
    refine lv_iload hx hb dL_alike_246 (lv_at hL.1 0 rfl) ?_
    exact b_rR hC hr hlocks hS hf (by omega) (by omega) dL_alike_248
  have b238 : ∀ (K : Int32 → Int32 → Option (Int32)) (nd ne : Nat), (∀ (cells slots : Nat) (H : Heap) (locs : List Loc) (ls : Array Slot) (i4 : Int32) (i5 : Int32), cells + (nd) ≤ 784 → slots + (ne) ≤ 4704 → bk D x p_tt g s H ∧ bk D x2 p_tt g s H → va_S p_no s.heap H locs → p_L ls 6 [(0, .ref x), (1, .ref x2), (2, .ref y), (4, .int i4), (5, .int i5)] → K i4 i5 = some r → W p l e rL_alike s m args below meth c H locs cells slots (MQ below (p_Ri r) args s 784 4704 p_no) (F0 m 115 ls [])) → ∀ (cells slots : Nat) (H : Heap) (locs : List Loc) (ls : Array Slot) (i5 : Int32) (si0 : Int32), cells + (0 + nd) ≤ 784 → slots + (0 + ne) ≤ 4704 → bk D x p_tt g s H ∧ bk D x2 p_tt g s H → va_S p_no s.heap H locs → p_L ls 6 [(0, .ref x), (1, .ref x2), (2, .ref y), (5, .int i5)] → fL_alike_238 k g K  i5 si0 = some r → W p l e rL_alike s m args below meth c H locs cells slots (MQ below (p_Ri r) args s 784 4704 p_no) (F0 m 238 ls [.int si0]) := by
    intro K nd ne ihK
    intro cells slots H locs ls i5 si0 hcc hss hQ hS hL hf
    rw [fL_alike_238] at hf
    refine p_istore (lv' := [(4, .int si0), (0, .ref x), (1, .ref x2), (2, .ref y), (5, .int i5)]) hx hb dL_alike_238 hL (by decide) rfl (fun ls hL => ?_)
    refine p_iinc (v := (i5 + 1)) (lv' := [(5, .int (i5 + 1)), (4, .int si0), (0, .ref x), (1, .ref x2), (2, .ref y)]) hx hb dL_alike_240 hL (k := 4) rfl rfl (by decide) rfl (fun ls hL => ?_)
    refine lv_goto (tgt := 115) hx hb dL_alike_243 (by decide) ?_
    exact ihK _ _ _ _ _ si0 (i5 + 1) (by omega) (by omega) hQ hS (hL.sub [2, 3, 4, 1, 0] rfl) hf
  have b237 : ∀ (K : Int32 → Int32 → Option (Int32)) (nd ne : Nat), (∀ (cells slots : Nat) (H : Heap) (locs : List Loc) (ls : Array Slot) (i4 : Int32) (i5 : Int32), cells + (nd) ≤ 784 → slots + (ne) ≤ 4704 → bk D x p_tt g s H ∧ bk D x2 p_tt g s H → va_S p_no s.heap H locs → p_L ls 6 [(0, .ref x), (1, .ref x2), (2, .ref y), (4, .int i4), (5, .int i5)] → K i4 i5 = some r → W p l e rL_alike s m args below meth c H locs cells slots (MQ below (p_Ri r) args s 784 4704 p_no) (F0 m 115 ls [])) → ∀ (cells slots : Nat) (H : Heap) (locs : List Loc) (ls : Array Slot) (i5 : Int32), cells + (0 + nd) ≤ 784 → slots + (0 + ne) ≤ 4704 → bk D x p_tt g s H ∧ bk D x2 p_tt g s H → va_S p_no s.heap H locs → p_L ls 6 [(0, .ref x), (1, .ref x2), (2, .ref y), (5, .int i5)] → fL_alike_237 k g K  i5 = some r → W p l e rL_alike s m args below meth c H locs cells slots (MQ below (p_Ri r) args s 784 4704 p_no) (F0 m 237 ls []) := by
    intro K nd ne ihK
    intro cells slots H locs ls i5 hcc hss hQ hS hL hf
    rw [fL_alike_237] at hf
    refine lv_iconst (v := 0) hx hb dL_alike_237 (by decide) ?_
    exact b238 K nd ne ihK _ _ _ _ _ i5 0 (by omega) (by omega) hQ hS (hL.sub [0, 1, 2, 3] rfl) hf
  have b115 : ∀ n : Nat, ∀ (cells slots : Nat) (H : Heap) (locs : List Loc) (ls : Array Slot) (i4 : Int32) (i5 : Int32), cells + (n * 14 + (0)) ≤ 784 → slots + (n * 84 + (0)) ≤ 4704 → bk D x p_tt g s H ∧ bk D x2 p_tt g s H → va_S p_no s.heap H locs → p_L ls 6 [(0, .ref x), (1, .ref x2), (2, .ref y), (4, .int i4), (5, .int i5)] → fL_alike_115 k g n i4 i5 = some r → W p l e rL_alike s m args below meth c H locs cells slots (MQ below (p_Ri r) args s 784 4704 p_no) (F0 m 115 ls []) := by
    intro n
    induction n with
    | zero =>
      intro cells slots H locs ls i4 i5 hcc hss hQ hS hL hf
      simp [fL_alike_115] at hf
    | succ n ih =>
      intro cells slots H locs ls i4 i5 hcc hss hQ hS hL hf
      rw [fL_alike_115] at hf
      refine lv_iload hx hb dL_alike_115 (lv_at hL.1 4 rfl) ?_
      refine lv_aload_n hx hb dL_alike_117 rfl (lv_at hL.1 2 rfl) ?_
      refine lv_iconst (v := 0) hx hb dL_alike_118 (by decide) ?_
      refine b_n0 hx hb hN hAy hS dL_alike_119 ?_
      refine lv_icmp_ge (tgt := 246) hx hb dL_alike_120 (by decide) (fun c1 => ?_) (fun c1 => ?_)
      · rw [if_pos c1] at hf
        exact b246 _ _ _ _ _ i4 (by omega) (by omega) hQ hS (hL.sub [3] rfl) hf
      · rw [if_neg c1] at hf
        refine lv_iload hx hb dL_alike_123 (lv_at hL.1 3 rfl) ?_
        refine lv_if_eq (tgt := 246) hx hb dL_alike_125 (by decide) (fun c2 => ?_) (fun c2 => ?_)
        · rw [if_pos c2] at hf
          exact b246 _ _ _ _ _ i4 (by omega) (by omega) hQ hS (hL.sub [3] rfl) hf
        · rw [if_neg c2] at hf
          refine lv_aload_n hx hb dL_alike_128 rfl (lv_at hL.1 0 rfl) ?_
          refine lv_iload hx hb dL_alike_129 (lv_at hL.1 4 rfl) ?_
          refine b_rd2 (vx_runSW (As := [.ref x, .int i5]) (rest := []) hC (wL_place l hl D x H.size g i5) (vx_cwSW 2 hts gL_alike_L_place rfl rfl rfl (by decide +kernel) ⟨Nat.le_of_ble_eq_true rfl, Nat.le_of_ble_eq_true rfl⟩) (b_preS hK hQ.1.tt ((hE.kept hS.2.1).narrow fun _ h9 => h9.elim) hca) rfl rfl hL.1.1 rfl (lv_room (Nat.le_of_ble_eq_true rfl)) dL_alike_131 ⟨by show _ ≤ (784 : Nat); omega, by show _ ≤ (4704 : Nat); omega⟩) hQ hS (fun H locs hQ hS => ?_)
          refine lv_aload_n hx hb dL_alike_134 rfl (lv_at hL.1 1 rfl) ?_
          refine lv_iload hx hb dL_alike_135 (lv_at hL.1 4 rfl) ?_
          refine b_rd2 (vx_runSW (As := [.ref x2, .int i5]) (rest := [.int (aPlace g i5)]) hC (wL_place l hl D x2 H.size g i5) (vx_cwSW 2 hts gL_alike_L_place rfl rfl rfl (by decide +kernel) ⟨Nat.le_of_ble_eq_true rfl, Nat.le_of_ble_eq_true rfl⟩) (b_preS hK hQ.2.tt ((hE.kept hS.2.1).narrow fun _ h9 => h9.elim) hca) rfl rfl hL.1.1 rfl (lv_room (Nat.le_of_ble_eq_true rfl)) dL_alike_137 ⟨by show _ ≤ (784 : Nat); omega, by show _ ≤ (4704 : Nat); omega⟩) hQ hS (fun H locs hQ hS => ?_)
          refine lv_icmp_ne (tgt := 237) hx hb dL_alike_140 (by decide) (fun c3 => ?_) (fun c3 => ?_)
          · rw [if_neg c3] at hf
            exact b237 (fL_alike_115 k g n) (n * 14 + (0)) (n * 84 + (0)) ih _ _ _ _ _ i5 (by omega) (by omega) hQ hS (hL.sub [0, 1, 2, 4] rfl) hf
          · rw [if_pos c3] at hf
            refine lv_aload_n hx hb dL_alike_143 rfl (lv_at hL.1 0 rfl) ?_
            refine lv_iload hx hb dL_alike_144 (lv_at hL.1 4 rfl) ?_
            refine b_rd2 (vx_runSW (As := [.ref x, .int i5]) (rest := []) hC (wL_seen l hl D x H.size g i5) (vx_cwSW 2 hts gL_alike_L_seen rfl rfl rfl (by decide +kernel) ⟨Nat.le_of_ble_eq_true rfl, Nat.le_of_ble_eq_true rfl⟩) (b_preS hK hQ.1.tt ((hE.kept hS.2.1).narrow fun _ h9 => h9.elim) hca) rfl rfl hL.1.1 rfl (lv_room (Nat.le_of_ble_eq_true rfl)) dL_alike_146 ⟨by show _ ≤ (784 : Nat); omega, by show _ ≤ (4704 : Nat); omega⟩) hQ hS (fun H locs hQ hS => ?_)
            refine lv_aload_n hx hb dL_alike_149 rfl (lv_at hL.1 1 rfl) ?_
            refine lv_iload hx hb dL_alike_150 (lv_at hL.1 4 rfl) ?_
            refine b_rd2 (vx_runSW (As := [.ref x2, .int i5]) (rest := [.int (aSeen g i5)]) hC (wL_seen l hl D x2 H.size g i5) (vx_cwSW 2 hts gL_alike_L_seen rfl rfl rfl (by decide +kernel) ⟨Nat.le_of_ble_eq_true rfl, Nat.le_of_ble_eq_true rfl⟩) (b_preS hK hQ.2.tt ((hE.kept hS.2.1).narrow fun _ h9 => h9.elim) hca) rfl rfl hL.1.1 rfl (lv_room (Nat.le_of_ble_eq_true rfl)) dL_alike_152 ⟨by show _ ≤ (784 : Nat); omega, by show _ ≤ (4704 : Nat); omega⟩) hQ hS (fun H locs hQ hS => ?_)
            refine lv_icmp_ne (tgt := 237) hx hb dL_alike_155 (by decide) (fun c4 => ?_) (fun c4 => ?_)
            · rw [if_neg c4] at hf
              exact b237 (fL_alike_115 k g n) (n * 14 + (0)) (n * 84 + (0)) ih _ _ _ _ _ i5 (by omega) (by omega) hQ hS (hL.sub [0, 1, 2, 4] rfl) hf
            · rw [if_pos c4] at hf
              refine lv_aload_n hx hb dL_alike_158 rfl (lv_at hL.1 0 rfl) ?_
              refine lv_iload hx hb dL_alike_159 (lv_at hL.1 4 rfl) ?_
              refine b_rd2 (vx_runSW (As := [.ref x, .int i5]) (rest := []) hC (wL_pages l hl D x H.size g i5) (vx_cwSW 2 hts gL_alike_L_pages rfl rfl rfl (by decide +kernel) ⟨Nat.le_of_ble_eq_true rfl, Nat.le_of_ble_eq_true rfl⟩) (b_preS hK hQ.1.tt ((hE.kept hS.2.1).narrow fun _ h9 => h9.elim) hca) rfl rfl hL.1.1 rfl (lv_room (Nat.le_of_ble_eq_true rfl)) dL_alike_161 ⟨by show _ ≤ (784 : Nat); omega, by show _ ≤ (4704 : Nat); omega⟩) hQ hS (fun H locs hQ hS => ?_)
              refine lv_aload_n hx hb dL_alike_164 rfl (lv_at hL.1 1 rfl) ?_
              refine lv_iload hx hb dL_alike_165 (lv_at hL.1 4 rfl) ?_
              refine b_rd2 (vx_runSW (As := [.ref x2, .int i5]) (rest := [.int (aPages g i5)]) hC (wL_pages l hl D x2 H.size g i5) (vx_cwSW 2 hts gL_alike_L_pages rfl rfl rfl (by decide +kernel) ⟨Nat.le_of_ble_eq_true rfl, Nat.le_of_ble_eq_true rfl⟩) (b_preS hK hQ.2.tt ((hE.kept hS.2.1).narrow fun _ h9 => h9.elim) hca) rfl rfl hL.1.1 rfl (lv_room (Nat.le_of_ble_eq_true rfl)) dL_alike_167 ⟨by show _ ≤ (784 : Nat); omega, by show _ ≤ (4704 : Nat); omega⟩) hQ hS (fun H locs hQ hS => ?_)
              refine lv_icmp_ne (tgt := 237) hx hb dL_alike_170 (by decide) (fun c5 => ?_) (fun c5 => ?_)
              · rw [if_neg c5] at hf
                exact b237 (fL_alike_115 k g n) (n * 14 + (0)) (n * 84 + (0)) ih _ _ _ _ _ i5 (by omega) (by omega) hQ hS (hL.sub [0, 1, 2, 4] rfl) hf
              · rw [if_pos c5] at hf
                refine lv_aload_n hx hb dL_alike_173 rfl (lv_at hL.1 0 rfl) ?_
                refine lv_iload hx hb dL_alike_174 (lv_at hL.1 4 rfl) ?_
                refine b_rd2 (vx_runSW (As := [.ref x, .int i5]) (rest := []) hC (wL_picture l hl D x H.size g i5) (vx_cwSW 2 hts gL_alike_L_picture rfl rfl rfl (by decide +kernel) ⟨Nat.le_of_ble_eq_true rfl, Nat.le_of_ble_eq_true rfl⟩) (b_preS hK hQ.1.tt ((hE.kept hS.2.1).narrow fun _ h9 => h9.elim) hca) rfl rfl hL.1.1 rfl (lv_room (Nat.le_of_ble_eq_true rfl)) dL_alike_176 ⟨by show _ ≤ (784 : Nat); omega, by show _ ≤ (4704 : Nat); omega⟩) hQ hS (fun H locs hQ hS => ?_)
                refine lv_aload_n hx hb dL_alike_179 rfl (lv_at hL.1 1 rfl) ?_
                refine lv_iload hx hb dL_alike_180 (lv_at hL.1 4 rfl) ?_
                refine b_rd2 (vx_runSW (As := [.ref x2, .int i5]) (rest := [.int (aPic g i5)]) hC (wL_picture l hl D x2 H.size g i5) (vx_cwSW 2 hts gL_alike_L_picture rfl rfl rfl (by decide +kernel) ⟨Nat.le_of_ble_eq_true rfl, Nat.le_of_ble_eq_true rfl⟩) (b_preS hK hQ.2.tt ((hE.kept hS.2.1).narrow fun _ h9 => h9.elim) hca) rfl rfl hL.1.1 rfl (lv_room (Nat.le_of_ble_eq_true rfl)) dL_alike_182 ⟨by show _ ≤ (784 : Nat); omega, by show _ ≤ (4704 : Nat); omega⟩) hQ hS (fun H locs hQ hS => ?_)
                refine lv_icmp_ne (tgt := 237) hx hb dL_alike_185 (by decide) (fun c6 => ?_) (fun c6 => ?_)
                · rw [if_neg c6] at hf
                  exact b237 (fL_alike_115 k g n) (n * 14 + (0)) (n * 84 + (0)) ih _ _ _ _ _ i5 (by omega) (by omega) hQ hS (hL.sub [0, 1, 2, 4] rfl) hf
                · rw [if_pos c6] at hf
                  refine lv_aload_n hx hb dL_alike_188 rfl (lv_at hL.1 0 rfl) ?_
                  refine lv_iload hx hb dL_alike_189 (lv_at hL.1 4 rfl) ?_
                  refine b_rd2 (vx_runSW (As := [.ref x, .int i5]) (rest := []) hC (wL_pace l hl D x H.size g i5) (vx_cwSW 2 hts gL_alike_L_pace rfl rfl rfl (by decide +kernel) ⟨Nat.le_of_ble_eq_true rfl, Nat.le_of_ble_eq_true rfl⟩) (b_preS hK hQ.1.tt ((hE.kept hS.2.1).narrow fun _ h9 => h9.elim) hca) rfl rfl hL.1.1 rfl (lv_room (Nat.le_of_ble_eq_true rfl)) dL_alike_191 ⟨by show _ ≤ (784 : Nat); omega, by show _ ≤ (4704 : Nat); omega⟩) hQ hS (fun H locs hQ hS => ?_)
                  refine lv_aload_n hx hb dL_alike_194 rfl (lv_at hL.1 1 rfl) ?_
                  refine lv_iload hx hb dL_alike_195 (lv_at hL.1 4 rfl) ?_
                  refine b_rd2 (vx_runSW (As := [.ref x2, .int i5]) (rest := [.int (aPace g i5)]) hC (wL_pace l hl D x2 H.size g i5) (vx_cwSW 2 hts gL_alike_L_pace rfl rfl rfl (by decide +kernel) ⟨Nat.le_of_ble_eq_true rfl, Nat.le_of_ble_eq_true rfl⟩) (b_preS hK hQ.2.tt ((hE.kept hS.2.1).narrow fun _ h9 => h9.elim) hca) rfl rfl hL.1.1 rfl (lv_room (Nat.le_of_ble_eq_true rfl)) dL_alike_197 ⟨by show _ ≤ (784 : Nat); omega, by show _ ≤ (4704 : Nat); omega⟩) hQ hS (fun H locs hQ hS => ?_)
                  refine lv_icmp_ne (tgt := 237) hx hb dL_alike_200 (by decide) (fun c7 => ?_) (fun c7 => ?_)
                  · rw [if_neg c7] at hf
                    exact b237 (fL_alike_115 k g n) (n * 14 + (0)) (n * 84 + (0)) ih _ _ _ _ _ i5 (by omega) (by omega) hQ hS (hL.sub [0, 1, 2, 4] rfl) hf
                  · rw [if_pos c7] at hf
                    refine lv_aload_n hx hb dL_alike_203 rfl (lv_at hL.1 0 rfl) ?_
                    refine lv_iload hx hb dL_alike_204 (lv_at hL.1 4 rfl) ?_
                    refine b_rd2 (vx_runSW (As := [.ref x, .int i5]) (rest := []) hC (wL_misses l hl D x H.size g i5) (vx_cwSW 2 hts gL_alike_L_misses rfl rfl rfl (by decide +kernel) ⟨Nat.le_of_ble_eq_true rfl, Nat.le_of_ble_eq_true rfl⟩) (b_preS hK hQ.1.tt ((hE.kept hS.2.1).narrow fun _ h9 => h9.elim) hca) rfl rfl hL.1.1 rfl (lv_room (Nat.le_of_ble_eq_true rfl)) dL_alike_206 ⟨by show _ ≤ (784 : Nat); omega, by show _ ≤ (4704 : Nat); omega⟩) hQ hS (fun H locs hQ hS => ?_)
                    refine lv_aload_n hx hb dL_alike_209 rfl (lv_at hL.1 1 rfl) ?_
                    refine lv_iload hx hb dL_alike_210 (lv_at hL.1 4 rfl) ?_
                    refine b_rd2 (vx_runSW (As := [.ref x2, .int i5]) (rest := [.int (aMiss g i5)]) hC (wL_misses l hl D x2 H.size g i5) (vx_cwSW 2 hts gL_alike_L_misses rfl rfl rfl (by decide +kernel) ⟨Nat.le_of_ble_eq_true rfl, Nat.le_of_ble_eq_true rfl⟩) (b_preS hK hQ.2.tt ((hE.kept hS.2.1).narrow fun _ h9 => h9.elim) hca) rfl rfl hL.1.1 rfl (lv_room (Nat.le_of_ble_eq_true rfl)) dL_alike_212 ⟨by show _ ≤ (784 : Nat); omega, by show _ ≤ (4704 : Nat); omega⟩) hQ hS (fun H locs hQ hS => ?_)
                    refine lv_icmp_ne (tgt := 237) hx hb dL_alike_215 (by decide) (fun c8 => ?_) (fun c8 => ?_)
                    · rw [if_neg c8] at hf
                      exact b237 (fL_alike_115 k g n) (n * 14 + (0)) (n * 84 + (0)) ih _ _ _ _ _ i5 (by omega) (by omega) hQ hS (hL.sub [0, 1, 2, 4] rfl) hf
                    · rw [if_pos c8] at hf
                      refine lv_aload_n hx hb dL_alike_218 rfl (lv_at hL.1 0 rfl) ?_
                      refine lv_iload hx hb dL_alike_219 (lv_at hL.1 4 rfl) ?_
                      refine b_rd2 (vx_runSW (As := [.ref x, .int i5]) (rest := []) hC (wL_deadline l hl D x H.size g i5) (vx_cwSW 2 hts gL_alike_L_deadline rfl rfl rfl (by decide +kernel) ⟨Nat.le_of_ble_eq_true rfl, Nat.le_of_ble_eq_true rfl⟩) (b_preS hK hQ.1.tt ((hE.kept hS.2.1).narrow fun _ h9 => h9.elim) hca) rfl rfl hL.1.1 rfl (lv_room (Nat.le_of_ble_eq_true rfl)) dL_alike_221 ⟨by show _ ≤ (784 : Nat); omega, by show _ ≤ (4704 : Nat); omega⟩) hQ hS (fun H locs hQ hS => ?_)
                      refine lv_aload_n hx hb dL_alike_224 rfl (lv_at hL.1 1 rfl) ?_
                      refine lv_iload hx hb dL_alike_225 (lv_at hL.1 4 rfl) ?_
                      refine b_rd2 (vx_runSW (As := [.ref x2, .int i5]) (rest := [.int (aDead g i5)]) hC (wL_deadline l hl D x2 H.size g i5) (vx_cwSW 2 hts gL_alike_L_deadline rfl rfl rfl (by decide +kernel) ⟨Nat.le_of_ble_eq_true rfl, Nat.le_of_ble_eq_true rfl⟩) (b_preS hK hQ.2.tt ((hE.kept hS.2.1).narrow fun _ h9 => h9.elim) hca) rfl rfl hL.1.1 rfl (lv_room (Nat.le_of_ble_eq_true rfl)) dL_alike_227 ⟨by show _ ≤ (784 : Nat); omega, by show _ ≤ (4704 : Nat); omega⟩) hQ hS (fun H locs hQ hS => ?_)
                      refine lv_icmp_ne (tgt := 237) hx hb dL_alike_230 (by decide) (fun c9 => ?_) (fun c9 => ?_)
                      · rw [if_neg c9] at hf
                        exact b237 (fL_alike_115 k g n) (n * 14 + (0)) (n * 84 + (0)) ih _ _ _ _ _ i5 (by omega) (by omega) hQ hS (hL.sub [0, 1, 2, 4] rfl) hf
                      · rw [if_pos c9] at hf
                        refine lv_iconst (v := 1) hx hb dL_alike_233 (by decide) ?_
                        refine lv_goto (tgt := 238) hx hb dL_alike_234 (by decide) ?_
                        exact b238 (fL_alike_115 k g n) (n * 14 + (0)) (n * 84 + (0)) ih _ _ _ _ _ i5 1 (by omega) (by omega) hQ hS (hL.sub [0, 1, 2, 4] rfl) hf
  have b112 : ∀ (cells slots : Nat) (H : Heap) (locs : List Loc) (ls : Array Slot) (i4 : Int32), cells + (686) ≤ 784 → slots + (4116) ≤ 4704 → bk D x p_tt g s H ∧ bk D x2 p_tt g s H → va_S p_no s.heap H locs → p_L ls 6 [(0, .ref x), (1, .ref x2), (2, .ref y), (4, .int i4)] → fL_alike_112 k g  i4 = some r → W p l e rL_alike s m args below meth c H locs cells slots (MQ below (p_Ri r) args s 784 4704 p_no) (F0 m 112 ls []) := by
    intro cells slots H locs ls i4 hcc hss hQ hS hL hf
    rw [fL_alike_112] at hf
    refine lv_iconst (v := 0) hx hb dL_alike_112 (by decide) ?_
    refine p_istore (lv' := [(5, .int 0), (0, .ref x), (1, .ref x2), (2, .ref y), (4, .int i4)]) hx hb dL_alike_113 hL (by decide) rfl (fun ls hL => ?_)
    exact b115 49 _ _ _ _ _ i4 0 (by omega) (by omega) hQ hS (hL.sub [1, 2, 3, 4, 0] rfl) hf
  have b104 : ∀ (K : Int32 → Int32 → Option (Int32)) (nd ne : Nat), (∀ (cells slots : Nat) (H : Heap) (locs : List Loc) (ls : Array Slot) (i4 : Int32) (i5 : Int32), cells + (nd) ≤ 784 → slots + (ne) ≤ 4704 → bk D x p_tt g s H ∧ bk D x2 p_tt g s H → va_S p_no s.heap H locs → p_L ls 6 [(0, .ref x), (1, .ref x2), (2, .ref y), (4, .int i4), (5, .int i5)] → K i4 i5 = some r → W p l e rL_alike s m args below meth c H locs cells slots (MQ below (p_Ri r) args s 784 4704 p_no) (F0 m 56 ls [])) → ∀ (cells slots : Nat) (H : Heap) (locs : List Loc) (ls : Array Slot) (i5 : Int32) (si0 : Int32), cells + (0 + nd) ≤ 784 → slots + (0 + ne) ≤ 4704 → bk D x p_tt g s H ∧ bk D x2 p_tt g s H → va_S p_no s.heap H locs → p_L ls 6 [(0, .ref x), (1, .ref x2), (2, .ref y), (5, .int i5)] → fL_alike_104 k g K  i5 si0 = some r → W p l e rL_alike s m args below meth c H locs cells slots (MQ below (p_Ri r) args s 784 4704 p_no) (F0 m 104 ls [.int si0]) := by
    intro K nd ne ihK
    intro cells slots H locs ls i5 si0 hcc hss hQ hS hL hf
    rw [fL_alike_104] at hf
    refine p_istore (lv' := [(4, .int si0), (0, .ref x), (1, .ref x2), (2, .ref y), (5, .int i5)]) hx hb dL_alike_104 hL (by decide) rfl (fun ls hL => ?_)
    refine p_iinc (v := (i5 + 5)) (lv' := [(5, .int (i5 + 5)), (4, .int si0), (0, .ref x), (1, .ref x2), (2, .ref y)]) hx hb dL_alike_106 hL (k := 4) rfl rfl (by decide) rfl (fun ls hL => ?_)
    refine lv_goto (tgt := 56) hx hb dL_alike_109 (by decide) ?_
    exact ihK _ _ _ _ _ si0 (i5 + 5) (by omega) (by omega) hQ hS (hL.sub [2, 3, 4, 1, 0] rfl) hf
  have b56 : ∀ n : Nat, ∀ (cells slots : Nat) (H : Heap) (locs : List Loc) (ls : Array Slot) (i4 : Int32) (i5 : Int32), cells + (n * 2 + (686)) ≤ 784 → slots + (n * 12 + (4116)) ≤ 4704 → bk D x p_tt g s H ∧ bk D x2 p_tt g s H → va_S p_no s.heap H locs → p_L ls 6 [(0, .ref x), (1, .ref x2), (2, .ref y), (4, .int i4), (5, .int i5)] → fL_alike_56 k g n i4 i5 = some r → W p l e rL_alike s m args below meth c H locs cells slots (MQ below (p_Ri r) args s 784 4704 p_no) (F0 m 56 ls []) := by
    intro n
    induction n with
    | zero =>
      intro cells slots H locs ls i4 i5 hcc hss hQ hS hL hf
      simp [fL_alike_56] at hf
    | succ n ih =>
      intro cells slots H locs ls i4 i5 hcc hss hQ hS hL hf
      rw [fL_alike_56] at hf
      refine lv_iload hx hb dL_alike_56 (lv_at hL.1 4 rfl) ?_
      refine lv_bipush (v := 48) hx hb dL_alike_58 (by decide) ?_
      refine lv_icmp_ge (tgt := 112) hx hb dL_alike_60 (by decide) (fun c10 => ?_) (fun c10 => ?_)
      · rw [if_pos c10] at hf
        exact b112 _ _ _ _ _ i4 (by omega) (by omega) hQ hS (hL.sub [0, 1, 2, 3] rfl) hf
      · rw [if_neg c10] at hf
        refine lv_iload hx hb dL_alike_63 (lv_at hL.1 3 rfl) ?_
        refine lv_if_eq (tgt := 112) hx hb dL_alike_65 (by decide) (fun c11 => ?_) (fun c11 => ?_)
        · rw [if_pos c11] at hf
          exact b112 _ _ _ _ _ i4 (by omega) (by omega) hQ hS (hL.sub [0, 1, 2, 3] rfl) hf
        · rw [if_neg c11] at hf
          refine lv_aload_n hx hb dL_alike_68 rfl (lv_at hL.1 0 rfl) ?_
          refine lv_iload hx hb dL_alike_69 (lv_at hL.1 4 rfl) ?_
          refine lv_bipush (v := 8) hx hb dL_alike_71 (by decide) ?_
          refine lv_irem hx hb dL_alike_73 (by decide) ?_
          refine lv_iload hx hb dL_alike_74 (lv_at hL.1 4 rfl) ?_
          refine lv_bipush (v := 8) hx hb dL_alike_76 (by decide) ?_
          refine lv_idiv hx hb dL_alike_78 (by decide) ?_
          refine b_rd2 (vx_runSW (As := [.ref x, .int (i5 - i5 / 8 * 8), .int (i5 / 8)]) (rest := []) hC (wL_at l hl D x H.size g (i5 - i5 / 8 * 8) (i5 / 8)) (vx_cwSW 3 hts gL_alike_L_at rfl rfl rfl (by decide +kernel) ⟨Nat.le_of_ble_eq_true rfl, Nat.le_of_ble_eq_true rfl⟩) (b_preS hK hQ.1.tt ((hE.kept hS.2.1).narrow fun _ h9 => h9.elim) hca) rfl rfl hL.1.1 rfl (lv_room (Nat.le_of_ble_eq_true rfl)) dL_alike_79 ⟨by show _ ≤ (784 : Nat); omega, by show _ ≤ (4704 : Nat); omega⟩) hQ hS (fun H locs hQ hS => ?_)
          refine lv_aload_n hx hb dL_alike_82 rfl (lv_at hL.1 1 rfl) ?_
          refine lv_iload hx hb dL_alike_83 (lv_at hL.1 4 rfl) ?_
          refine lv_bipush (v := 8) hx hb dL_alike_85 (by decide) ?_
          refine lv_irem hx hb dL_alike_87 (by decide) ?_
          refine lv_iload hx hb dL_alike_88 (lv_at hL.1 4 rfl) ?_
          refine lv_bipush (v := 8) hx hb dL_alike_90 (by decide) ?_
          refine lv_idiv hx hb dL_alike_92 (by decide) ?_
          refine b_rd2 (vx_runSW (As := [.ref x2, .int (i5 - i5 / 8 * 8), .int (i5 / 8)]) (rest := [.int (aAt g (i5 - i5 / 8 * 8) (i5 / 8))]) hC (wL_at l hl D x2 H.size g (i5 - i5 / 8 * 8) (i5 / 8)) (vx_cwSW 3 hts gL_alike_L_at rfl rfl rfl (by decide +kernel) ⟨Nat.le_of_ble_eq_true rfl, Nat.le_of_ble_eq_true rfl⟩) (b_preS hK hQ.2.tt ((hE.kept hS.2.1).narrow fun _ h9 => h9.elim) hca) rfl rfl hL.1.1 rfl (lv_room (Nat.le_of_ble_eq_true rfl)) dL_alike_93 ⟨by show _ ≤ (784 : Nat); omega, by show _ ≤ (4704 : Nat); omega⟩) hQ hS (fun H locs hQ hS => ?_)
          refine lv_icmp_ne (tgt := 103) hx hb dL_alike_96 (by decide) (fun c12 => ?_) (fun c12 => ?_)
          · rw [if_neg c12] at hf
            refine lv_iconst (v := 0) hx hb dL_alike_103 (by decide) ?_
            exact b104 (fL_alike_56 k g n) (n * 2 + (686)) (n * 12 + (4116)) ih _ _ _ _ _ i5 0 (by omega) (by omega) hQ hS (hL.sub [0, 1, 2, 4] rfl) hf
          · rw [if_pos c12] at hf
            refine lv_iconst (v := 1) hx hb dL_alike_99 (by decide) ?_
            refine lv_goto (tgt := 104) hx hb dL_alike_100 (by decide) ?_
            exact b104 (fL_alike_56 k g n) (n * 2 + (686)) (n * 12 + (4116)) ih _ _ _ _ _ i5 1 (by omega) (by omega) hQ hS (hL.sub [0, 1, 2, 4] rfl) hf
  have b49 : ∀ (cells slots : Nat) (H : Heap) (locs : List Loc) (ls : Array Slot) (i3 : Int32) (si0 : Int32), cells + (784) ≤ 784 → slots + (4704) ≤ 4704 → bk D x p_tt g s H ∧ bk D x2 p_tt g s H → va_S p_no s.heap H locs → p_L ls 6 [(0, .ref x), (1, .ref x2), (2, .ref y), (3, .int i3)] → fL_alike_49 k g  i3 si0 = some r → W p l e rL_alike s m args below meth c H locs cells slots (MQ below (p_Ri r) args s 784 4704 p_no) (F0 m 49 ls [.int si0]) := by
    intro cells slots H locs ls i3 si0 hcc hss hQ hS hL hf
    rw [fL_alike_49] at hf
    refine p_istore (lv' := [(4, .int si0), (0, .ref x), (1, .ref x2), (2, .ref y), (3, .int i3)]) hx hb dL_alike_49 hL (by decide) rfl (fun ls hL => ?_)
    refine lv_iload_n hx hb dL_alike_51 rfl (lv_at hL.1 4 rfl) ?_
    refine lv_iconst (v := 5) hx hb dL_alike_52 (by decide) ?_
    refine lv_irem hx hb dL_alike_53 (by decide) ?_
    refine p_istore (lv' := [(5, .int (i3 - i3 / 5 * 5)), (4, .int si0), (0, .ref x), (1, .ref x2), (2, .ref y), (3, .int i3)]) hx hb dL_alike_54 hL (by decide) rfl (fun ls hL => ?_)
    exact b56 49 _ _ _ _ _ si0 (i3 - i3 / 5 * 5) (by omega) (by omega) hQ hS (hL.sub [2, 3, 4, 1, 0] rfl) hf
  have b48 : ∀ (cells slots : Nat) (H : Heap) (locs : List Loc) (ls : Array Slot) (i3 : Int32), cells + (784) ≤ 784 → slots + (4704) ≤ 4704 → bk D x p_tt g s H ∧ bk D x2 p_tt g s H → va_S p_no s.heap H locs → p_L ls 6 [(0, .ref x), (1, .ref x2), (2, .ref y), (3, .int i3)] → fL_alike_48 k g  i3 = some r → W p l e rL_alike s m args below meth c H locs cells slots (MQ below (p_Ri r) args s 784 4704 p_no) (F0 m 48 ls []) := by
    intro cells slots H locs ls i3 hcc hss hQ hS hL hf
    rw [fL_alike_48] at hf
    refine lv_iconst (v := 0) hx hb dL_alike_48 (by decide) ?_
    exact b49 _ _ _ _ _ i3 0 (by omega) (by omega) hQ hS (hL.sub [0, 1, 2, 3] rfl) hf
  obtain ⟨H, hH⟩ : ∃ z : Heap, z = s.heap := ⟨_, rfl⟩
  have hQ : bk D x p_tt g s H ∧ bk D x2 p_tt g s H := by rw [hH]; exact hQ
  have hS : va_S p_no s.heap H [] := by rw [hH]; exact hS
  rw [← hH]
  rw [fL_alike] at hf
  obtain ⟨cells, hc0⟩ : ∃ z : Nat, z = 0 := ⟨_, rfl⟩
  obtain ⟨slots, hs0⟩ : ∃ z : Nat, z = 0 := ⟨_, rfl⟩
  have hcc : cells + 784 ≤ 784 := by omega
  have hss : slots + 4704 ≤ 4704 := by omega
  show W p l e rL_alike s m args below meth c H [] 0 0 (MQ below (p_Ri r) args s 784 4704 p_no) (F0 m 0 ls [])
  refine W.widen (k := cells) (n := slots) (by omega) (by omega) ?_
  refine lv_aload_n hx hb dL_alike_0 rfl (lv_at hL.1 0 rfl) ?_
  refine b_rd2 (va_runV (As := []) (rest := []) hC (mX_tick l D x H.size g) (cwV 0 hts gL_alike_X3_tick rfl rfl rfl (by decide +kernel) ⟨Nat.le_of_ble_eq_true rfl, Nat.le_of_ble_eq_true rfl⟩) (b_preV hK hQ.1.tt ((hE.kept hS.2.1).narrow fun _ h9 => h9.elim) hca) rfl rfl hL.1.1 rfl (lv_room (Nat.le_of_ble_eq_true rfl)) dL_alike_1 ⟨by show _ ≤ (784 : Nat); omega, by show _ ≤ (4704 : Nat); omega⟩) hQ hS (fun H locs hQ hS => ?_)
  refine lv_aload_n hx hb dL_alike_4 rfl (lv_at hL.1 1 rfl) ?_
  refine b_rd2 (va_runV (As := []) (rest := [.int (aTick g)]) hC (mX_tick l D x2 H.size g) (cwV 0 hts gL_alike_X3_tick rfl rfl rfl (by decide +kernel) ⟨Nat.le_of_ble_eq_true rfl, Nat.le_of_ble_eq_true rfl⟩) (b_preV hK hQ.2.tt ((hE.kept hS.2.1).narrow fun _ h9 => h9.elim) hca) rfl rfl hL.1.1 rfl (lv_room (Nat.le_of_ble_eq_true rfl)) dL_alike_5 ⟨by show _ ≤ (784 : Nat); omega, by show _ ≤ (4704 : Nat); omega⟩) hQ hS (fun H locs hQ hS => ?_)
  refine lv_icmp_ne (tgt := 48) hx hb dL_alike_8 (by decide) (fun c13 => ?_) (fun c13 => ?_)
  · rw [if_neg c13] at hf
    exact b48 _ _ _ _ _ i3 (by omega) (by omega) hQ hS (hL.sub [0, 1, 2, 3] rfl) hf
  · rw [if_pos c13] at hf
    refine lv_aload_n hx hb dL_alike_11 rfl (lv_at hL.1 0 rfl) ?_
    refine b_rd2 (va_runV (As := []) (rest := []) hC (mX_windows l D x H.size g) (cwV 0 hts gL_alike_X3_windows rfl rfl rfl (by decide +kernel) ⟨Nat.le_of_ble_eq_true rfl, Nat.le_of_ble_eq_true rfl⟩) (b_preV hK hQ.1.tt ((hE.kept hS.2.1).narrow fun _ h9 => h9.elim) hca) rfl rfl hL.1.1 rfl (lv_room (Nat.le_of_ble_eq_true rfl)) dL_alike_12 ⟨by show _ ≤ (784 : Nat); omega, by show _ ≤ (4704 : Nat); omega⟩) hQ hS (fun H locs hQ hS => ?_)
    refine lv_aload_n hx hb dL_alike_15 rfl (lv_at hL.1 1 rfl) ?_
    refine b_rd2 (va_runV (As := []) (rest := [.int (aWins g)]) hC (mX_windows l D x2 H.size g) (cwV 0 hts gL_alike_X3_windows rfl rfl rfl (by decide +kernel) ⟨Nat.le_of_ble_eq_true rfl, Nat.le_of_ble_eq_true rfl⟩) (b_preV hK hQ.2.tt ((hE.kept hS.2.1).narrow fun _ h9 => h9.elim) hca) rfl rfl hL.1.1 rfl (lv_room (Nat.le_of_ble_eq_true rfl)) dL_alike_16 ⟨by show _ ≤ (784 : Nat); omega, by show _ ≤ (4704 : Nat); omega⟩) hQ hS (fun H locs hQ hS => ?_)
    refine lv_icmp_ne (tgt := 48) hx hb dL_alike_19 (by decide) (fun c14 => ?_) (fun c14 => ?_)
    · rw [if_neg c14] at hf
      exact b48 _ _ _ _ _ i3 (by omega) (by omega) hQ hS (hL.sub [0, 1, 2, 3] rfl) hf
    · rw [if_pos c14] at hf
      refine lv_aload_n hx hb dL_alike_22 rfl (lv_at hL.1 0 rfl) ?_
      refine b_rd2 (va_runV (As := []) (rest := []) hC (mX_free l D x H.size g) (cwV 0 hts gL_alike_X3_free rfl rfl rfl (by decide +kernel) ⟨Nat.le_of_ble_eq_true rfl, Nat.le_of_ble_eq_true rfl⟩) (b_preV hK hQ.1.tt ((hE.kept hS.2.1).narrow fun _ h9 => h9.elim) hca) rfl rfl hL.1.1 rfl (lv_room (Nat.le_of_ble_eq_true rfl)) dL_alike_23 ⟨by show _ ≤ (784 : Nat); omega, by show _ ≤ (4704 : Nat); omega⟩) hQ hS (fun H locs hQ hS => ?_)
      refine lv_aload_n hx hb dL_alike_26 rfl (lv_at hL.1 1 rfl) ?_
      refine b_rd2 (va_runV (As := []) (rest := [.int (aFree g)]) hC (mX_free l D x2 H.size g) (cwV 0 hts gL_alike_X3_free rfl rfl rfl (by decide +kernel) ⟨Nat.le_of_ble_eq_true rfl, Nat.le_of_ble_eq_true rfl⟩) (b_preV hK hQ.2.tt ((hE.kept hS.2.1).narrow fun _ h9 => h9.elim) hca) rfl rfl hL.1.1 rfl (lv_room (Nat.le_of_ble_eq_true rfl)) dL_alike_27 ⟨by show _ ≤ (784 : Nat); omega, by show _ ≤ (4704 : Nat); omega⟩) hQ hS (fun H locs hQ hS => ?_)
      refine lv_icmp_ne (tgt := 48) hx hb dL_alike_30 (by decide) (fun c15 => ?_) (fun c15 => ?_)
      · rw [if_neg c15] at hf
        exact b48 _ _ _ _ _ i3 (by omega) (by omega) hQ hS (hL.sub [0, 1, 2, 3] rfl) hf
      · rw [if_pos c15] at hf
        refine lv_aload_n hx hb dL_alike_33 rfl (lv_at hL.1 0 rfl) ?_
        refine b_rd2 (va_runV (As := []) (rest := []) hC (mX_damage l D x H.size g) (cwV 0 hts gL_alike_X3_damage rfl rfl rfl (by decide +kernel) ⟨Nat.le_of_ble_eq_true rfl, Nat.le_of_ble_eq_true rfl⟩) (b_preV hK hQ.1.tt ((hE.kept hS.2.1).narrow fun _ h9 => h9.elim) hca) rfl rfl hL.1.1 rfl (lv_room (Nat.le_of_ble_eq_true rfl)) dL_alike_34 ⟨by show _ ≤ (784 : Nat); omega, by show _ ≤ (4704 : Nat); omega⟩) hQ hS (fun H locs hQ hS => ?_)
        refine lv_aload_n hx hb dL_alike_37 rfl (lv_at hL.1 1 rfl) ?_
        refine b_rd2 (va_runV (As := []) (rest := [.int (aDmg g)]) hC (mX_damage l D x2 H.size g) (cwV 0 hts gL_alike_X3_damage rfl rfl rfl (by decide +kernel) ⟨Nat.le_of_ble_eq_true rfl, Nat.le_of_ble_eq_true rfl⟩) (b_preV hK hQ.2.tt ((hE.kept hS.2.1).narrow fun _ h9 => h9.elim) hca) rfl rfl hL.1.1 rfl (lv_room (Nat.le_of_ble_eq_true rfl)) dL_alike_38 ⟨by show _ ≤ (784 : Nat); omega, by show _ ≤ (4704 : Nat); omega⟩) hQ hS (fun H locs hQ hS => ?_)
        refine lv_icmp_ne (tgt := 48) hx hb dL_alike_41 (by decide) (fun c16 => ?_) (fun c16 => ?_)
        · rw [if_neg c16] at hf
          exact b48 _ _ _ _ _ i3 (by omega) (by omega) hQ hS (hL.sub [0, 1, 2, 3] rfl) hf
        · rw [if_pos c16] at hf
          refine lv_iconst (v := 1) hx hb dL_alike_44 (by decide) ?_
          refine lv_goto (tgt := 49) hx hb dL_alike_45 (by decide) ?_
          exact b49 _ _ _ _ _ i3 1 (by omega) (by omega) hQ hS (hL.sub [0, 1, 2, 3] rfl) hf
