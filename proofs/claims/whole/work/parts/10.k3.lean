-- X3_isCell
abbrev rX3_isCell : Room := { frames := 0, cells := 0, slots := 0, locals := 0 }
set_option maxHeartbeats 4000000 in
set_option maxRecDepth 100000 in
theorem kX3_isCell (l : Launch) (D : va_G) (ad : Nat → Nat) (h : PH) (x0 : Int32) (x1 : Int32) (r : Int32) (hf : fX3_isCell h x0 x1 = some r) : Met l yX3_isCell wsX3_isCell rX3_isCell (p_pre D ad p_tt h [.int x0, .int x1]) (p_Ri r) 0 0 p_no := by
  refine Met.ofW (cc := cX3_isCell) (maxL := 2) (ret := (some .boolean)) (by decide) rfl ?_
  intro p e s m args below meth c s₁ B hml hv
  obtain ⟨hargs, hK, hQ⟩ := hv
  have hx := B.exec
  have hb := B.bytes
  have hr := B.returns
  have hts := atoms_spec (ws := wsX3_isCell) B.pre
  have hown : s.vm.findClass RX3 = some m.cls := findClass_of_methodNamed B.named
  have hlocks := B.notSynchronized
  have hC : CallFix p m c cX3_isCell 2 s args wsX3_isCell RX3 := ⟨hx, hb, hml, hown, hts⟩
  have hS : va_S p_no s.heap s.heap [] := va_S.rf
  obtain ⟨ls, hls, hL⟩ := p_start (n := 2) hargs (by simp [p_cat, p_ci, p_cr, p_cn]) (Nat.le_of_ble_eq_true rfl)
  show W p l e rX3_isCell s m args below meth c s.heap [] 0 0 (MQ below (p_Ri r) args s 0 0 p_no) (entryFrame m args 2)
  rw [hls]
  clear hls
  have hL : p_L ls 2 [(0, .int x0), (1, .int x1)] := hL
  have b25 : ∀ (H : Heap) (locs : List Loc) (ls : Array Slot) (h1 : PH) (sx0 : Int32), p_Q D ad p_tt s h1 H → va_S p_no s.heap H locs → p_L ls 2 [] → fX3_isCell_25 h1 sx0 = some r → W p l e rX3_isCell s m args below meth c H locs 0 0 (MQ below (p_Ri r) args s 0 0 p_no) (F0 m 25 ls [.int sx0]) := by
    intro H locs ls h1 sx0 hQ hS hL hf
    rw [fX3_isCell_25] at hf
    exact p_rRz hC hr hlocks hS hf dX3_isCell_25
  have b24 : ∀ (H : Heap) (locs : List Loc) (ls : Array Slot) (h1 : PH) , p_Q D ad p_tt s h1 H → va_S p_no s.heap H locs → p_L ls 2 [] → fX3_isCell_24 h1  = some r → W p l e rX3_isCell s m args below meth c H locs 0 0 (MQ below (p_Ri r) args s 0 0 p_no) (F0 m 24 ls []) := by
    intro H locs ls h1  hQ hS hL hf
    rw [fX3_isCell_24] at hf
    refine lv_iconst (v := 0) hx hb dX3_isCell_24 (by decide) ?_
    exact b25 _ _ _ h1 0 hQ hS (hL.sub [] rfl) hf
  rw [fX3_isCell] at hf
  refine lv_iload_n hx hb dX3_isCell_0 rfl (lv_at hL.1 0 rfl) ?_
  refine lv_if_lt (tgt := 24) hx hb dX3_isCell_1 (by decide) (fun c1 => ?_) (fun c1 => ?_)
  · rw [if_pos c1] at hf
    exact b24 _ _ _ h  hQ hS (hL.sub [] rfl) hf
  · rw [if_neg c1] at hf
    refine lv_iload_n hx hb dX3_isCell_4 rfl (lv_at hL.1 0 rfl) ?_
    refine lv_bipush (v := 8) hx hb dX3_isCell_5 (by decide) ?_
    refine lv_icmp_ge (tgt := 24) hx hb dX3_isCell_7 (by decide) (fun c2 => ?_) (fun c2 => ?_)
    · rw [if_pos c2] at hf
      exact b24 _ _ _ h  hQ hS (hL.sub [] rfl) hf
    · rw [if_neg c2] at hf
      refine lv_iload_n hx hb dX3_isCell_10 rfl (lv_at hL.1 1 rfl) ?_
      refine lv_if_lt (tgt := 24) hx hb dX3_isCell_11 (by decide) (fun c3 => ?_) (fun c3 => ?_)
      · rw [if_pos c3] at hf
        exact b24 _ _ _ h  hQ hS (hL.sub [] rfl) hf
      · rw [if_neg c3] at hf
        refine lv_iload_n hx hb dX3_isCell_14 rfl (lv_at hL.1 1 rfl) ?_
        refine lv_bipush (v := 6) hx hb dX3_isCell_15 (by decide) ?_
        refine lv_icmp_ge (tgt := 24) hx hb dX3_isCell_17 (by decide) (fun c4 => ?_) (fun c4 => ?_)
        · rw [if_pos c4] at hf
          exact b24 _ _ _ h  hQ hS (hL.sub [] rfl) hf
        · rw [if_neg c4] at hf
          refine lv_iconst (v := 1) hx hb dX3_isCell_20 (by decide) ?_
          refine lv_goto (tgt := 25) hx hb dX3_isCell_21 (by decide) ?_
          exact b25 _ _ _ h 1 hQ hS (hL.sub [] rfl) hf
-- X3_fits
abbrev rX3_fits : Room := { frames := 0, cells := 0, slots := 0, locals := 0 }
set_option maxHeartbeats 4000000 in
set_option maxRecDepth 100000 in
theorem kX3_fits (l : Launch) (D : va_G) (ad : Nat → Nat) (h : PH) (x0 : Int32) (x1 : Int32) (x2 : Int32) (x3 : Int32) (r : Int32) (hf : fX3_fits h x0 x1 x2 x3 = some r) : Met l yX3_fits wsX3_fits rX3_fits (p_pre D ad p_tt h [.int x0, .int x1, .int x2, .int x3]) (p_Ri r) 0 0 p_no := by
  refine Met.ofW (cc := cX3_fits) (maxL := 4) (ret := (some .boolean)) (by decide) rfl ?_
  intro p e s m args below meth c s₁ B hml hv
  obtain ⟨hargs, hK, hQ⟩ := hv
  have hx := B.exec
  have hb := B.bytes
  have hr := B.returns
  have hts := atoms_spec (ws := wsX3_fits) B.pre
  have hown : s.vm.findClass RX3 = some m.cls := findClass_of_methodNamed B.named
  have hlocks := B.notSynchronized
  have hC : CallFix p m c cX3_fits 4 s args wsX3_fits RX3 := ⟨hx, hb, hml, hown, hts⟩
  have hS : va_S p_no s.heap s.heap [] := va_S.rf
  obtain ⟨ls, hls, hL⟩ := p_start (n := 4) hargs (by simp [p_cat, p_ci, p_cr, p_cn]) (Nat.le_of_ble_eq_true rfl)
  show W p l e rX3_fits s m args below meth c s.heap [] 0 0 (MQ below (p_Ri r) args s 0 0 p_no) (entryFrame m args 4)
  rw [hls]
  clear hls
  have hL : p_L ls 4 [(0, .int x0), (1, .int x1), (2, .int x2), (3, .int x3)] := hL
  have b21 : ∀ (H : Heap) (locs : List Loc) (ls : Array Slot) (h1 : PH) (sx0 : Int32), p_Q D ad p_tt s h1 H → va_S p_no s.heap H locs → p_L ls 4 [] → fX3_fits_21 h1 sx0 = some r → W p l e rX3_fits s m args below meth c H locs 0 0 (MQ below (p_Ri r) args s 0 0 p_no) (F0 m 21 ls [.int sx0]) := by
    intro H locs ls h1 sx0 hQ hS hL hf
    rw [fX3_fits_21] at hf
    exact p_rRz hC hr hlocks hS hf dX3_fits_21
  have b20 : ∀ (H : Heap) (locs : List Loc) (ls : Array Slot) (h1 : PH) , p_Q D ad p_tt s h1 H → va_S p_no s.heap H locs → p_L ls 4 [] → fX3_fits_20 h1  = some r → W p l e rX3_fits s m args below meth c H locs 0 0 (MQ below (p_Ri r) args s 0 0 p_no) (F0 m 20 ls []) := by
    intro H locs ls h1  hQ hS hL hf
    rw [fX3_fits_20] at hf
    refine lv_iconst (v := 0) hx hb dX3_fits_20 (by decide) ?_
    exact b21 _ _ _ h1 0 hQ hS (hL.sub [] rfl) hf
  rw [fX3_fits] at hf
  refine lv_iload_n hx hb dX3_fits_0 rfl (lv_at hL.1 2 rfl) ?_
  refine lv_bipush (v := 8) hx hb dX3_fits_1 (by decide) ?_
  refine lv_iload_n hx hb dX3_fits_3 rfl (lv_at hL.1 0 rfl) ?_
  refine lv_isub hx hb dX3_fits_4 ?_
  refine lv_icmp_gt (tgt := 20) hx hb dX3_fits_5 (by decide) (fun c1 => ?_) (fun c1 => ?_)
  · rw [if_pos c1] at hf
    exact b20 _ _ _ h  hQ hS (hL.sub [] rfl) hf
  · rw [if_neg c1] at hf
    refine lv_iload_n hx hb dX3_fits_8 rfl (lv_at hL.1 3 rfl) ?_
    refine lv_bipush (v := 6) hx hb dX3_fits_9 (by decide) ?_
    refine lv_iload_n hx hb dX3_fits_11 rfl (lv_at hL.1 1 rfl) ?_
    refine lv_isub hx hb dX3_fits_12 ?_
    refine lv_icmp_gt (tgt := 20) hx hb dX3_fits_13 (by decide) (fun c2 => ?_) (fun c2 => ?_)
    · rw [if_pos c2] at hf
      exact b20 _ _ _ h  hQ hS (hL.sub [] rfl) hf
    · rw [if_neg c2] at hf
      refine lv_iconst (v := 1) hx hb dX3_fits_16 (by decide) ?_
      refine lv_goto (tgt := 21) hx hb dX3_fits_17 (by decide) ?_
      exact b21 _ _ _ h 1 hQ hS (hL.sub [] rfl) hf
-- X3_lookAtScreen
abbrev rX3_lookAtScreen : Room := { frames := 2, cells := 0, slots := 0, locals := 46 }
set_option maxHeartbeats 4000000 in
set_option maxRecDepth 100000 in
theorem kX3_lookAtScreen (l : Launch) (D : va_G) (ad : Nat → Nat) (h : PH) (a0 : Nat) (r : PH) (hf : fX3_lookAtScreen h a0 = some r) : Met l yX3_lookAtScreen wsX3_lookAtScreen rX3_lookAtScreen (p_pre D ad (p_A ad h) h [.ref (ad a0)]) (p_Mv D ad (p_A ad h) r) 0 0 (p_A ad h) := by
  refine Met.ofW (cc := cX3_lookAtScreen) (maxL := 3) (ret := none) (by decide) rfl ?_
  intro p e s m args below meth c s₁ B hml hv
  obtain ⟨hargs, hK, hQ⟩ := hv
  have hx := B.exec
  have hb := B.bytes
  have hr := B.returns
  have hts := atoms_spec (ws := wsX3_lookAtScreen) B.pre
  have hown : s.vm.findClass RX3 = some m.cls := findClass_of_methodNamed B.named
  have hlocks := B.notSynchronized
  have hC : CallFix p m c cX3_lookAtScreen 3 s args wsX3_lookAtScreen RX3 := ⟨hx, hb, hml, hown, hts⟩
  have hS : va_S (p_A ad h) s.heap s.heap [] := va_S.rf
  have hi1 : ∀ w ∈ u_ws RX1 TX1 10, w ∈ wsX3_lookAtScreen := fun w hw => List.mem_cons_of_mem _ (List.mem_append_left _ (List.mem_append_right _ hw))
  have hi2 : ∀ w ∈ u_ws RX2 TX2 2, w ∈ wsX3_lookAtScreen := fun w hw => List.mem_cons_of_mem _ (List.mem_append_right _ hw)
  have hi3 : ∀ w ∈ u_ws RX3 TX3 8, w ∈ wsX3_lookAtScreen := fun w hw => List.mem_cons_of_mem _ (List.mem_append_left _ (List.mem_append_left _ (List.mem_append_right _ hw)))
  obtain ⟨ls, hls, hL⟩ := p_start (n := 3) hargs (by simp [p_cat, p_ci, p_cr, p_cn]) (Nat.le_of_ble_eq_true rfl)
  show W p l e rX3_lookAtScreen s m args below meth c s.heap [] 0 0 (MQ below (p_Mv D ad (p_A ad h) r) args s 0 0 (p_A ad h)) (entryFrame m args 3)
  rw [hls]
  clear hls
  have hL : p_L ls 3 [(0, .ref (ad a0))] := hL
  have b77 : ∀ K : PH → Nat → Int32 → Option (PH), (∀ (H : Heap) (locs : List Loc) (ls : Array Slot) (h1 : PH) (a0 : Nat) (x1 : Int32), p_Q D ad (p_A ad h) s h1 H → va_S (p_A ad h) s.heap H locs → p_L ls 3 [(0, .ref (ad a0)), (1, .int x1)] → K h1 a0 x1 = some r → W p l e rX3_lookAtScreen s m args below meth c H locs 0 0 (MQ below (p_Mv D ad (p_A ad h) r) args s 0 0 (p_A ad h)) (F0 m 39 ls [])) → ∀ (H : Heap) (locs : List Loc) (ls : Array Slot) (h1 : PH) (a0 : Nat) (x1 : Int32), p_Q D ad (p_A ad h) s h1 H → va_S (p_A ad h) s.heap H locs → p_L ls 3 [(0, .ref (ad a0)), (1, .int x1)] → fX3_lookAtScreen_77 K h1 a0 x1 = some r → W p l e rX3_lookAtScreen s m args below meth c H locs 0 0 (MQ below (p_Mv D ad (p_A ad h) r) args s 0 0 (p_A ad h)) (F0 m 77 ls []) := by
    intro K ih H locs ls h1 a0 x1 hQ hS hL hf
    rw [fX3_lookAtScreen_77] at hf
    refine p_iinc (v := (x1 + 1)) (lv' := [(1, .int (x1 + 1)), (0, .ref (ad a0))]) hx hb dX3_lookAtScreen_77 hL (k := 1) rfl rfl (by decide) rfl (fun ls hL => ?_)
    refine lv_goto (tgt := 39) hx hb dX3_lookAtScreen_80 (by decide) ?_
    exact ih _ _ _ h1 a0 (x1 + 1) hQ hS (hL.sub [1, 0] rfl) hf
  have b39 : ∀ n : Nat, ∀ (H : Heap) (locs : List Loc) (ls : Array Slot) (h1 : PH) (a0 : Nat) (x1 : Int32), p_Q D ad (p_A ad h) s h1 H → va_S (p_A ad h) s.heap H locs → p_L ls 3 [(0, .ref (ad a0)), (1, .int x1)] → fX3_lookAtScreen_39 n h1 a0 x1 = some r → W p l e rX3_lookAtScreen s m args below meth c H locs 0 0 (MQ below (p_Mv D ad (p_A ad h) r) args s 0 0 (p_A ad h)) (F0 m 39 ls []) := by
    intro n
    induction n with
    | zero =>
      intro H locs ls h1 a0 x1 hQ hS hL hf
      simp [fX3_lookAtScreen_39] at hf
    | succ n ih =>
      intro H locs ls h1 a0 x1 hQ hS hL hf
      rw [fX3_lookAtScreen_39] at hf
      refine lv_iload_n hx hb dX3_lookAtScreen_39 rfl (lv_at hL.1 1 rfl) ?_
      refine lv_bipush (v := 48) hx hb dX3_lookAtScreen_40 (by decide) ?_
      refine lv_icmp_ge (tgt := 83) hx hb dX3_lookAtScreen_42 (by decide) (fun c1 => ?_) (fun c1 => ?_)
      · rw [if_pos c1] at hf
        exact p_rMv hC hr hlocks hQ hS hf dX3_lookAtScreen_83
      · rw [if_neg c1] at hf
        refine lv_aload_n hx hb dX3_lookAtScreen_45 rfl (lv_at hL.1 0 rfl) ?_
        obtain ⟨a_2, e3, hf⟩ := p_b hf
        refine p_getR hC hi3 hK hQ e3 rfl (by decide) (by decide +kernel) dX3_lookAtScreen_46 ?_
        refine lv_iload_n hx hb dX3_lookAtScreen_49 rfl (lv_at hL.1 1 rfl) ?_
        refine lv_bipush (v := 8) hx hb dX3_lookAtScreen_50 (by decide) ?_
        refine lv_irem hx hb dX3_lookAtScreen_52 (by decide) ?_
        refine lv_iload_n hx hb dX3_lookAtScreen_53 rfl (lv_at hL.1 1 rfl) ?_
        refine lv_bipush (v := 8) hx hb dX3_lookAtScreen_54 (by decide) ?_
        refine lv_idiv hx hb dX3_lookAtScreen_56 (by decide) ?_
        obtain ⟨u4, e5, hf⟩ := p_b hf
        obtain ⟨o_6, e7, hf⟩ := p_b hf
        refine p_cRq (va_runV (As := [.int (x1 - x1 / 8 * 8), .int (x1 / 8)]) (rest := []) hC (kX2_topmostOver l D ad h1 a_2 (x1 - x1 / 8 * 8) (x1 / 8) o_6 e7) (cwV 2 hts gX3_lookAtScreen_X2_topmostOver rfl rfl rfl (by decide +kernel) ⟨Nat.le_of_ble_eq_true rfl, Nat.le_of_ble_eq_true rfl⟩) (p_preV hK hQ.tt e5 rfl) rfl rfl hL.1.1 rfl (lv_room (Nat.le_of_ble_eq_true rfl)) dX3_lookAtScreen_57 ⟨Nat.le_of_ble_eq_true rfl, Nat.le_of_ble_eq_true rfl⟩) hQ hS (fun H locs hQ hS => ?_)
        refine p_astore_n (o := Option.map ad o_6) (lv' := [(2, va_rf (Option.map ad o_6)), (0, .ref (ad a0)), (1, .int x1)]) hx hb dX3_lookAtScreen_60 rfl hL (by decide) rfl (fun ls hL => ?_)
        refine lv_aload_n hx hb dX3_lookAtScreen_61 rfl (lv_at hL.1 1 rfl) ?_
        obtain ⟨a_8, e9, hf⟩ := p_b hf
        refine p_getR hC hi3 hK hQ e9 rfl (by decide) (by decide +kernel) dX3_lookAtScreen_62 ?_
        refine lv_iload_n hx hb dX3_lookAtScreen_65 rfl (lv_at hL.1 2 rfl) ?_
        refine p_aload_n (o := Option.map ad o_6) hx hb dX3_lookAtScreen_66 rfl (lv_at hL.1 0 rfl) ?_
        obtain ⟨h_10, e11, hf⟩ := p_b hf
        refine p_aast (o := o_6) hC hK hQ hS e11 dX3_lookAtScreen_67 (fun H locs hQ hS => ?_)
        refine p_aload_n (o := Option.map ad o_6) hx hb dX3_lookAtScreen_68 rfl (lv_at hL.1 0 rfl) ?_
        cases o_6 with
        | none =>
          dsimp only at hf
          have hL : p_L ls 3 [(2, .null), (0, .ref (ad a0)), (1, .int x1)] := hL
          refine lv_ifnullN (tgt := 77) hx hb dX3_lookAtScreen_69 (by decide) ?_
          exact b77 (fX3_lookAtScreen_39 n) ih _ _ _ h_10 a0 x1 hQ hS (hL.sub [1, 2] rfl) hf
        | some a_12 =>
          dsimp only at hf
          have hL : p_L ls 3 [(2, .ref (ad a_12)), (0, .ref (ad a0)), (1, .int x1)] := hL
          refine lv_ifnull hx hb dX3_lookAtScreen_69 ?_
          refine lv_aload_n hx hb dX3_lookAtScreen_72 rfl (lv_at hL.1 0 rfl) ?_
          refine lv_iconst (v := 1) hx hb dX3_lookAtScreen_73 (by decide) ?_
          obtain ⟨h_13, e14, hf⟩ := p_b hf
          refine p_putZ hC hi1 tyX1_ok nmX1 hK hQ hS e14 rfl (by decide) rfl rfl (by decide +kernel) dX3_lookAtScreen_74 (fun H locs hQ hS => ?_)
          exact b77 (fX3_lookAtScreen_39 n) ih _ _ _ h_13 a0 x1 hQ hS (hL.sub [1, 2] rfl) hf
  have b31 : ∀ K : PH → Nat → Int32 → Option (PH), (∀ (H : Heap) (locs : List Loc) (ls : Array Slot) (h1 : PH) (a0 : Nat) (x1 : Int32), p_Q D ad (p_A ad h) s h1 H → va_S (p_A ad h) s.heap H locs → p_L ls 3 [(0, .ref (ad a0)), (1, .int x1)] → K h1 a0 x1 = some r → W p l e rX3_lookAtScreen s m args below meth c H locs 0 0 (MQ below (p_Mv D ad (p_A ad h) r) args s 0 0 (p_A ad h)) (F0 m 2 ls [])) → ∀ (H : Heap) (locs : List Loc) (ls : Array Slot) (h1 : PH) (a0 : Nat) (x1 : Int32), p_Q D ad (p_A ad h) s h1 H → va_S (p_A ad h) s.heap H locs → p_L ls 3 [(0, .ref (ad a0)), (1, .int x1)] → fX3_lookAtScreen_31 K h1 a0 x1 = some r → W p l e rX3_lookAtScreen s m args below meth c H locs 0 0 (MQ below (p_Mv D ad (p_A ad h) r) args s 0 0 (p_A ad h)) (F0 m 31 ls []) := by
    intro K ih H locs ls h1 a0 x1 hQ hS hL hf
    rw [fX3_lookAtScreen_31] at hf
    refine p_iinc (v := (x1 + 1)) (lv' := [(1, .int (x1 + 1)), (0, .ref (ad a0))]) hx hb dX3_lookAtScreen_31 hL (k := 1) rfl rfl (by decide) rfl (fun ls hL => ?_)
    refine lv_goto (tgt := 2) hx hb dX3_lookAtScreen_34 (by decide) ?_
    exact ih _ _ _ h1 a0 (x1 + 1) hQ hS (hL.sub [1, 0] rfl) hf
  have b2 : ∀ n : Nat, ∀ (H : Heap) (locs : List Loc) (ls : Array Slot) (h1 : PH) (a0 : Nat) (x1 : Int32), p_Q D ad (p_A ad h) s h1 H → va_S (p_A ad h) s.heap H locs → p_L ls 3 [(0, .ref (ad a0)), (1, .int x1)] → fX3_lookAtScreen_2 n h1 a0 x1 = some r → W p l e rX3_lookAtScreen s m args below meth c H locs 0 0 (MQ below (p_Mv D ad (p_A ad h) r) args s 0 0 (p_A ad h)) (F0 m 2 ls []) := by
    intro n
    induction n with
    | zero =>
      intro H locs ls h1 a0 x1 hQ hS hL hf
      simp [fX3_lookAtScreen_2] at hf
    | succ n ih =>
      intro H locs ls h1 a0 x1 hQ hS hL hf
      rw [fX3_lookAtScreen_2] at hf
      refine lv_iload_n hx hb dX3_lookAtScreen_2 rfl (lv_at hL.1 1 rfl) ?_
      refine lv_aload_n hx hb dX3_lookAtScreen_3 rfl (lv_at hL.1 0 rfl) ?_
      obtain ⟨a_15, e16, hf⟩ := p_b hf
      refine p_getR hC hi3 hK hQ e16 rfl (by decide) (by decide +kernel) dX3_lookAtScreen_4 ?_
      obtain ⟨u17, e18, hf⟩ := p_b hf
      obtain ⟨v19, e20, hf⟩ := p_b hf
      refine p_cRi (va_runV (As := []) (rest := [.int x1]) hC (kX2_count l D ad h1 a_15 v19 e20) (cwV 0 hts gX3_lookAtScreen_X2_count rfl rfl rfl (by decide +kernel) ⟨Nat.le_of_ble_eq_true rfl, Nat.le_of_ble_eq_true rfl⟩) (p_preV hK hQ.tt e18 rfl) rfl rfl hL.1.1 rfl (lv_room (Nat.le_of_ble_eq_true rfl)) dX3_lookAtScreen_7 ⟨Nat.le_of_ble_eq_true rfl, Nat.le_of_ble_eq_true rfl⟩) hQ hS (fun H locs hQ hS => ?_)
      refine lv_icmp_ge (tgt := 37) hx hb dX3_lookAtScreen_10 (by decide) (fun c21 => ?_) (fun c21 => ?_)
      · rw [if_pos c21] at hf
        refine lv_iconst (v := 0) hx hb dX3_lookAtScreen_37 (by decide) ?_
        refine p_istore_n (lv' := [(1, .int 0), (0, .ref (ad a0))]) hx hb dX3_lookAtScreen_38 rfl hL (by decide) rfl (fun ls hL => ?_)
        exact b39 64 _ _ _ h1 a0 0 hQ hS (hL.sub [1, 0] rfl) hf
      · rw [if_neg c21] at hf
        refine lv_aload_n hx hb dX3_lookAtScreen_13 rfl (lv_at hL.1 0 rfl) ?_
        obtain ⟨a_22, e23, hf⟩ := p_b hf
        refine p_getR hC hi3 hK hQ e23 rfl (by decide) (by decide +kernel) dX3_lookAtScreen_14 ?_
        refine lv_iload_n hx hb dX3_lookAtScreen_17 rfl (lv_at hL.1 1 rfl) ?_
        obtain ⟨u24, e25, hf⟩ := p_b hf
        obtain ⟨o_26, e27, hf⟩ := p_b hf
        refine p_cRq (va_runV (As := [.int x1]) (rest := []) hC (kX2_get l D ad h1 a_22 x1 o_26 e27) (cwV 1 hts gX3_lookAtScreen_X2_get rfl rfl rfl (by decide +kernel) ⟨Nat.le_of_ble_eq_true rfl, Nat.le_of_ble_eq_true rfl⟩) (p_preV hK hQ.tt e25 rfl) rfl rfl hL.1.1 rfl (lv_room (Nat.le_of_ble_eq_true rfl)) dX3_lookAtScreen_18 ⟨Nat.le_of_ble_eq_true rfl, Nat.le_of_ble_eq_true rfl⟩) hQ hS (fun H locs hQ hS => ?_)
        refine p_astore_n (o := Option.map ad o_26) (lv' := [(2, va_rf (Option.map ad o_26)), (0, .ref (ad a0)), (1, .int x1)]) hx hb dX3_lookAtScreen_21 rfl hL (by decide) rfl (fun ls hL => ?_)
        refine p_aload_n (o := Option.map ad o_26) hx hb dX3_lookAtScreen_22 rfl (lv_at hL.1 0 rfl) ?_
        cases o_26 with
        | none =>
          dsimp only at hf
          have hL : p_L ls 3 [(2, .null), (0, .ref (ad a0)), (1, .int x1)] := hL
          refine lv_ifnullN (tgt := 31) hx hb dX3_lookAtScreen_23 (by decide) ?_
          exact b31 (fX3_lookAtScreen_2 n) ih _ _ _ h1 a0 x1 hQ hS (hL.sub [1, 2] rfl) hf
        | some a_28 =>
          dsimp only at hf
          have hL : p_L ls 3 [(2, .ref (ad a_28)), (0, .ref (ad a0)), (1, .int x1)] := hL
          refine lv_ifnull hx hb dX3_lookAtScreen_23 ?_
          refine lv_aload_n hx hb dX3_lookAtScreen_26 rfl (lv_at hL.1 0 rfl) ?_
          refine lv_iconst (v := 0) hx hb dX3_lookAtScreen_27 (by decide) ?_
          obtain ⟨h_29, e30, hf⟩ := p_b hf
          refine p_putZ hC hi1 tyX1_ok nmX1 hK hQ hS e30 rfl (by decide) rfl rfl (by decide +kernel) dX3_lookAtScreen_28 (fun H locs hQ hS => ?_)
          exact b31 (fX3_lookAtScreen_2 n) ih _ _ _ h_29 a0 x1 hQ hS (hL.sub [1, 2] rfl) hf
  rw [fX3_lookAtScreen] at hf
  refine lv_iconst (v := 0) hx hb dX3_lookAtScreen_0 (by decide) ?_
  refine p_istore_n (lv' := [(1, .int 0), (0, .ref (ad a0))]) hx hb dX3_lookAtScreen_1 rfl hL (by decide) rfl (fun ls hL => ?_)
  exact b2 64 _ _ _ h a0 0 hQ hS (hL.sub [1, 0] rfl) hf
-- X3_pagesOfUnseen
abbrev rX3_pagesOfUnseen : Room := { frames := 1, cells := 0, slots := 0, locals := 21 }
set_option maxHeartbeats 4000000 in
set_option maxRecDepth 100000 in
theorem kX3_pagesOfUnseen (l : Launch) (D : va_G) (ad : Nat → Nat) (h : PH) (a0 : Nat) (r : Int32) (hf : fX3_pagesOfUnseen h a0 = some r) : Met l yX3_pagesOfUnseen wsX3_pagesOfUnseen rX3_pagesOfUnseen (p_pre D ad p_tt h [.ref (ad a0)]) (p_Ri r) 0 0 p_no := by
  refine Met.ofW (cc := cX3_pagesOfUnseen) (maxL := 4) (ret := (some .int)) (by decide) rfl ?_
  intro p e s m args below meth c s₁ B hml hv
  obtain ⟨hargs, hK, hQ⟩ := hv
  have hx := B.exec
  have hb := B.bytes
  have hr := B.returns
  have hts := atoms_spec (ws := wsX3_pagesOfUnseen) B.pre
  have hown : s.vm.findClass RX3 = some m.cls := findClass_of_methodNamed B.named
  have hlocks := B.notSynchronized
  have hC : CallFix p m c cX3_pagesOfUnseen 4 s args wsX3_pagesOfUnseen RX3 := ⟨hx, hb, hml, hown, hts⟩
  have hS : va_S p_no s.heap s.heap [] := va_S.rf
  have hi1 : ∀ w ∈ u_ws RX1 TX1 10, w ∈ wsX3_pagesOfUnseen := fun w hw => List.mem_cons_of_mem _ (List.mem_append_left _ (List.mem_append_right _ hw))
  have hi2 : ∀ w ∈ u_ws RX2 TX2 2, w ∈ wsX3_pagesOfUnseen := fun w hw => List.mem_cons_of_mem _ (List.mem_append_right _ hw)
  have hi3 : ∀ w ∈ u_ws RX3 TX3 8, w ∈ wsX3_pagesOfUnseen := fun w hw => List.mem_cons_of_mem _ (List.mem_append_left _ (List.mem_append_left _ (List.mem_append_right _ hw)))
  obtain ⟨ls, hls, hL⟩ := p_start (n := 4) hargs (by simp [p_cat, p_ci, p_cr, p_cn]) (Nat.le_of_ble_eq_true rfl)
  show W p l e rX3_pagesOfUnseen s m args below meth c s.heap [] 0 0 (MQ below (p_Ri r) args s 0 0 p_no) (entryFrame m args 4)
  rw [hls]
  clear hls
  have hL : p_L ls 4 [(0, .ref (ad a0))] := hL
  have b49 : ∀ K : PH → Nat → Int32 → Int32 → Option (Int32), (∀ (H : Heap) (locs : List Loc) (ls : Array Slot) (h1 : PH) (a0 : Nat) (x1 : Int32) (x2 : Int32), p_Q D ad p_tt s h1 H → va_S p_no s.heap H locs → p_L ls 4 [(0, .ref (ad a0)), (1, .int x1), (2, .int x2)] → K h1 a0 x1 x2 = some r → W p l e rX3_pagesOfUnseen s m args below meth c H locs 0 0 (MQ below (p_Ri r) args s 0 0 p_no) (F0 m 4 ls [])) → ∀ (H : Heap) (locs : List Loc) (ls : Array Slot) (h1 : PH) (a0 : Nat) (x1 : Int32) (x2 : Int32), p_Q D ad p_tt s h1 H → va_S p_no s.heap H locs → p_L ls 4 [(0, .ref (ad a0)), (1, .int x1), (2, .int x2)] → fX3_pagesOfUnseen_49 K h1 a0 x1 x2 = some r → W p l e rX3_pagesOfUnseen s m args below meth c H locs 0 0 (MQ below (p_Ri r) args s 0 0 p_no) (F0 m 49 ls []) := by
    intro K ih H locs ls h1 a0 x1 x2 hQ hS hL hf
    rw [fX3_pagesOfUnseen_49] at hf
    refine p_iinc (v := (x2 + 1)) (lv' := [(2, .int (x2 + 1)), (0, .ref (ad a0)), (1, .int x1)]) hx hb dX3_pagesOfUnseen_49 hL (k := 2) rfl rfl (by decide) rfl (fun ls hL => ?_)
    refine lv_goto (tgt := 4) hx hb dX3_pagesOfUnseen_52 (by decide) ?_
    exact ih _ _ _ h1 a0 x1 (x2 + 1) hQ hS (hL.sub [1, 2, 0] rfl) hf
  have b4 : ∀ n : Nat, ∀ (H : Heap) (locs : List Loc) (ls : Array Slot) (h1 : PH) (a0 : Nat) (x1 : Int32) (x2 : Int32), p_Q D ad p_tt s h1 H → va_S p_no s.heap H locs → p_L ls 4 [(0, .ref (ad a0)), (1, .int x1), (2, .int x2)] → fX3_pagesOfUnseen_4 n h1 a0 x1 x2 = some r → W p l e rX3_pagesOfUnseen s m args below meth c H locs 0 0 (MQ below (p_Ri r) args s 0 0 p_no) (F0 m 4 ls []) := by
    intro n
    induction n with
    | zero =>
      intro H locs ls h1 a0 x1 x2 hQ hS hL hf
      simp [fX3_pagesOfUnseen_4] at hf
    | succ n ih =>
      intro H locs ls h1 a0 x1 x2 hQ hS hL hf
      rw [fX3_pagesOfUnseen_4] at hf
      refine lv_iload_n hx hb dX3_pagesOfUnseen_4 rfl (lv_at hL.1 2 rfl) ?_
      refine lv_aload_n hx hb dX3_pagesOfUnseen_5 rfl (lv_at hL.1 0 rfl) ?_
      obtain ⟨a_1, e2, hf⟩ := p_b hf
      refine p_getR hC hi3 hK hQ e2 rfl (by decide) (by decide +kernel) dX3_pagesOfUnseen_6 ?_
      obtain ⟨u3, e4, hf⟩ := p_b hf
      obtain ⟨v5, e6, hf⟩ := p_b hf
      refine p_cRi (va_runV (As := []) (rest := [.int x2]) hC (kX2_count l D ad h1 a_1 v5 e6) (cwV 0 hts gX3_pagesOfUnseen_X2_count rfl rfl rfl (by decide +kernel) ⟨Nat.le_of_ble_eq_true rfl, Nat.le_of_ble_eq_true rfl⟩) (p_preV hK hQ.tt e4 rfl) rfl rfl hL.1.1 rfl (lv_room (Nat.le_of_ble_eq_true rfl)) dX3_pagesOfUnseen_9 ⟨Nat.le_of_ble_eq_true rfl, Nat.le_of_ble_eq_true rfl⟩) hQ hS (fun H locs hQ hS => ?_)
      refine lv_icmp_ge (tgt := 55) hx hb dX3_pagesOfUnseen_12 (by decide) (fun c7 => ?_) (fun c7 => ?_)
      · rw [if_pos c7] at hf
        refine lv_iload_n hx hb dX3_pagesOfUnseen_55 rfl (lv_at hL.1 1 rfl) ?_
        exact p_rRi hC hr hlocks hS hf dX3_pagesOfUnseen_56
      · rw [if_neg c7] at hf
        refine lv_aload_n hx hb dX3_pagesOfUnseen_15 rfl (lv_at hL.1 0 rfl) ?_
        obtain ⟨a_8, e9, hf⟩ := p_b hf
        refine p_getR hC hi3 hK hQ e9 rfl (by decide) (by decide +kernel) dX3_pagesOfUnseen_16 ?_
        refine lv_iload_n hx hb dX3_pagesOfUnseen_19 rfl (lv_at hL.1 2 rfl) ?_
        obtain ⟨u10, e11, hf⟩ := p_b hf
        obtain ⟨o_12, e13, hf⟩ := p_b hf
        refine p_cRq (va_runV (As := [.int x2]) (rest := []) hC (kX2_get l D ad h1 a_8 x2 o_12 e13) (cwV 1 hts gX3_pagesOfUnseen_X2_get rfl rfl rfl (by decide +kernel) ⟨Nat.le_of_ble_eq_true rfl, Nat.le_of_ble_eq_true rfl⟩) (p_preV hK hQ.tt e11 rfl) rfl rfl hL.1.1 rfl (lv_room (Nat.le_of_ble_eq_true rfl)) dX3_pagesOfUnseen_20 ⟨Nat.le_of_ble_eq_true rfl, Nat.le_of_ble_eq_true rfl⟩) hQ hS (fun H locs hQ hS => ?_)
        refine p_astore_n (o := Option.map ad o_12) (lv' := [(3, va_rf (Option.map ad o_12)), (0, .ref (ad a0)), (1, .int x1), (2, .int x2)]) hx hb dX3_pagesOfUnseen_23 rfl hL (by decide) rfl (fun ls hL => ?_)
        refine p_aload_n (o := Option.map ad o_12) hx hb dX3_pagesOfUnseen_24 rfl (lv_at hL.1 0 rfl) ?_
        cases o_12 with
        | none =>
          dsimp only at hf
          have hL : p_L ls 4 [(3, .null), (0, .ref (ad a0)), (1, .int x1), (2, .int x2)] := hL
          refine lv_ifnullN (tgt := 49) hx hb dX3_pagesOfUnseen_25 (by decide) ?_
          exact b49 (fX3_pagesOfUnseen_4 n) ih _ _ _ h1 a0 x1 x2 hQ hS (hL.sub [1, 2, 3] rfl) hf
        | some a_14 =>
          dsimp only at hf
          have hL : p_L ls 4 [(3, .ref (ad a_14)), (0, .ref (ad a0)), (1, .int x1), (2, .int x2)] := hL
          refine lv_ifnull hx hb dX3_pagesOfUnseen_25 ?_
          refine lv_aload_n hx hb dX3_pagesOfUnseen_28 rfl (lv_at hL.1 0 rfl) ?_
          obtain ⟨v15, e16, hf⟩ := p_b hf
          refine p_getI hC hi1 hK hQ e16 rfl (by decide) (by decide +kernel) dX3_pagesOfUnseen_29 ?_
          refine lv_if_eq (tgt := 49) hx hb dX3_pagesOfUnseen_32 (by decide) (fun c17 => ?_) (fun c17 => ?_)
          · rw [if_pos c17] at hf
            exact b49 (fX3_pagesOfUnseen_4 n) ih _ _ _ h1 a0 x1 x2 hQ hS (hL.sub [1, 2, 3] rfl) hf
          · rw [if_neg c17] at hf
            refine lv_aload_n hx hb dX3_pagesOfUnseen_35 rfl (lv_at hL.1 0 rfl) ?_
            obtain ⟨v18, e19, hf⟩ := p_b hf
            refine p_getI hC hi1 hK hQ e19 rfl (by decide) (by decide +kernel) dX3_pagesOfUnseen_36 ?_
            refine lv_if_ne (tgt := 49) hx hb dX3_pagesOfUnseen_39 (by decide) (fun c20 => ?_) (fun c20 => ?_)
            · rw [if_neg c20] at hf
              exact b49 (fX3_pagesOfUnseen_4 n) ih _ _ _ h1 a0 x1 x2 hQ hS (hL.sub [1, 2, 3] rfl) hf
            · rw [if_pos c20] at hf
              refine lv_iload_n hx hb dX3_pagesOfUnseen_42 rfl (lv_at hL.1 2 rfl) ?_
              refine lv_aload_n hx hb dX3_pagesOfUnseen_43 rfl (lv_at hL.1 0 rfl) ?_
              obtain ⟨u21, e22, hf⟩ := p_b hf
              obtain ⟨v23, e24, hf⟩ := p_b hf
              refine p_cRi (va_runV (As := []) (rest := [.int x1]) hC (kX1_pagesNeeded l D ad h1 a_14 v23 e24) (cwV 0 hts gX3_pagesOfUnseen_X1_pagesNeeded rfl rfl rfl (by decide +kernel) ⟨Nat.le_of_ble_eq_true rfl, Nat.le_of_ble_eq_true rfl⟩) (p_preV hK hQ.tt e22 rfl) rfl rfl hL.1.1 rfl (lv_room (Nat.le_of_ble_eq_true rfl)) dX3_pagesOfUnseen_44 ⟨Nat.le_of_ble_eq_true rfl, Nat.le_of_ble_eq_true rfl⟩) hQ hS (fun H locs hQ hS => ?_)
              refine lv_iadd hx hb dX3_pagesOfUnseen_47 ?_
              refine p_istore_n (lv' := [(1, .int (x1 + v23)), (3, .ref (ad a_14)), (0, .ref (ad a0)), (2, .int x2)]) hx hb dX3_pagesOfUnseen_48 rfl hL (by decide) rfl (fun ls hL => ?_)
              exact b49 (fX3_pagesOfUnseen_4 n) ih _ _ _ h1 a0 (x1 + v23) x2 hQ hS (hL.sub [2, 0, 3] rfl) hf
  rw [fX3_pagesOfUnseen] at hf
  refine lv_iconst (v := 0) hx hb dX3_pagesOfUnseen_0 (by decide) ?_
  refine p_istore_n (lv' := [(1, .int 0), (0, .ref (ad a0))]) hx hb dX3_pagesOfUnseen_1 rfl hL (by decide) rfl (fun ls hL => ?_)
  refine lv_iconst (v := 0) hx hb dX3_pagesOfUnseen_2 (by decide) ?_
  refine p_istore_n (lv' := [(2, .int 0), (1, .int 0), (0, .ref (ad a0))]) hx hb dX3_pagesOfUnseen_3 rfl hL (by decide) rfl (fun ls hL => ?_)
  exact b4 64 _ _ _ h a0 0 0 hQ hS (hL.sub [2, 1, 0] rfl) hf
-- X3_takeBackUntilFree
abbrev rX3_takeBackUntilFree : Room := { frames := 2, cells := 0, slots := 0, locals := 42 }
set_option maxHeartbeats 4000000 in
set_option maxRecDepth 100000 in
theorem kX3_takeBackUntilFree (l : Launch) (D : va_G) (ad : Nat → Nat) (h : PH) (a0 : Nat) (x1 : Int32) (r : PH) (hf : fX3_takeBackUntilFree h a0 x1 = some r) : Met l yX3_takeBackUntilFree wsX3_takeBackUntilFree rX3_takeBackUntilFree (p_pre D ad (p_A ad h) h [.ref (ad a0), .int x1]) (p_Mv D ad (p_A ad h) r) 0 0 (p_A ad h) := by
  refine Met.ofW (cc := cX3_takeBackUntilFree) (maxL := 4) (ret := none) (by decide) rfl ?_
  intro p e s m args below meth c s₁ B hml hv
  obtain ⟨hargs, hK, hQ⟩ := hv
  have hx := B.exec
  have hb := B.bytes
  have hr := B.returns
  have hts := atoms_spec (ws := wsX3_takeBackUntilFree) B.pre
  have hown : s.vm.findClass RX3 = some m.cls := findClass_of_methodNamed B.named
  have hlocks := B.notSynchronized
  have hC : CallFix p m c cX3_takeBackUntilFree 4 s args wsX3_takeBackUntilFree RX3 := ⟨hx, hb, hml, hown, hts⟩
  have hS : va_S (p_A ad h) s.heap s.heap [] := va_S.rf
  have hi1 : ∀ w ∈ u_ws RX1 TX1 10, w ∈ wsX3_takeBackUntilFree := fun w hw => List.mem_cons_of_mem _ (List.mem_append_left _ (List.mem_append_left _ (List.mem_append_right _ hw)))
  have hi2 : ∀ w ∈ u_ws RX2 TX2 2, w ∈ wsX3_takeBackUntilFree := fun w hw => List.mem_cons_of_mem _ (List.mem_append_left _ (List.mem_append_right _ hw))
  have hi3 : ∀ w ∈ u_ws RX3 TX3 8, w ∈ wsX3_takeBackUntilFree := fun w hw => List.mem_cons_of_mem _ (List.mem_append_left _ (List.mem_append_left _ (List.mem_append_left _ (List.mem_append_right _ hw))))
  obtain ⟨ls, hls, hL⟩ := p_start (n := 4) hargs (by simp [p_cat, p_ci, p_cr, p_cn]) (Nat.le_of_ble_eq_true rfl)
  show W p l e rX3_takeBackUntilFree s m args below meth c s.heap [] 0 0 (MQ below (p_Mv D ad (p_A ad h) r) args s 0 0 (p_A ad h)) (entryFrame m args 4)
  rw [hls]
  clear hls
  have hL : p_L ls 4 [(0, .ref (ad a0)), (1, .int x1)] := hL
  have b75 : ∀ (H : Heap) (locs : List Loc) (ls : Array Slot) (h1 : PH) , p_Q D ad (p_A ad h) s h1 H → va_S (p_A ad h) s.heap H locs → p_L ls 4 [] → fX3_takeBackUntilFree_75 h1  = some r → W p l e rX3_takeBackUntilFree s m args below meth c H locs 0 0 (MQ below (p_Mv D ad (p_A ad h) r) args s 0 0 (p_A ad h)) (F0 m 75 ls []) := by
    intro H locs ls h1  hQ hS hL hf
    rw [fX3_takeBackUntilFree_75] at hf
    exact p_rMv hC hr hlocks hQ hS hf dX3_takeBackUntilFree_75
  have b69 : ∀ K : PH → Nat → Int32 → Int32 → Option (PH), (∀ (H : Heap) (locs : List Loc) (ls : Array Slot) (h1 : PH) (a0 : Nat) (x1 : Int32) (x2 : Int32), p_Q D ad (p_A ad h) s h1 H → va_S (p_A ad h) s.heap H locs → p_L ls 4 [(0, .ref (ad a0)), (1, .int x1), (2, .int x2)] → K h1 a0 x1 x2 = some r → W p l e rX3_takeBackUntilFree s m args below meth c H locs 0 0 (MQ below (p_Mv D ad (p_A ad h) r) args s 0 0 (p_A ad h)) (F0 m 2 ls [])) → ∀ (H : Heap) (locs : List Loc) (ls : Array Slot) (h1 : PH) (a0 : Nat) (x1 : Int32) (x2 : Int32), p_Q D ad (p_A ad h) s h1 H → va_S (p_A ad h) s.heap H locs → p_L ls 4 [(0, .ref (ad a0)), (1, .int x1), (2, .int x2)] → fX3_takeBackUntilFree_69 K h1 a0 x1 x2 = some r → W p l e rX3_takeBackUntilFree s m args below meth c H locs 0 0 (MQ below (p_Mv D ad (p_A ad h) r) args s 0 0 (p_A ad h)) (F0 m 69 ls []) := by
    intro K ih H locs ls h1 a0 x1 x2 hQ hS hL hf
    rw [fX3_takeBackUntilFree_69] at hf
    refine p_iinc (v := (x2 + 1)) (lv' := [(2, .int (x2 + 1)), (0, .ref (ad a0)), (1, .int x1)]) hx hb dX3_takeBackUntilFree_69 hL (k := 2) rfl rfl (by decide) rfl (fun ls hL => ?_)
    refine lv_goto (tgt := 2) hx hb dX3_takeBackUntilFree_72 (by decide) ?_
    exact ih _ _ _ h1 a0 x1 (x2 + 1) hQ hS (hL.sub [1, 2, 0] rfl) hf
  have b2 : ∀ n : Nat, ∀ (H : Heap) (locs : List Loc) (ls : Array Slot) (h1 : PH) (a0 : Nat) (x1 : Int32) (x2 : Int32), p_Q D ad (p_A ad h) s h1 H → va_S (p_A ad h) s.heap H locs → p_L ls 4 [(0, .ref (ad a0)), (1, .int x1), (2, .int x2)] → fX3_takeBackUntilFree_2 n h1 a0 x1 x2 = some r → W p l e rX3_takeBackUntilFree s m args below meth c H locs 0 0 (MQ below (p_Mv D ad (p_A ad h) r) args s 0 0 (p_A ad h)) (F0 m 2 ls []) := by
    intro n
    induction n with
    | zero =>
      intro H locs ls h1 a0 x1 x2 hQ hS hL hf
      simp [fX3_takeBackUntilFree_2] at hf
    | succ n ih =>
      intro H locs ls h1 a0 x1 x2 hQ hS hL hf
      rw [fX3_takeBackUntilFree_2] at hf
      refine lv_iload_n hx hb dX3_takeBackUntilFree_2 rfl (lv_at hL.1 2 rfl) ?_
      refine lv_aload_n hx hb dX3_takeBackUntilFree_3 rfl (lv_at hL.1 0 rfl) ?_
      obtain ⟨a_1, e2, hf⟩ := p_b hf
      refine p_getR hC hi3 hK hQ e2 rfl (by decide) (by decide +kernel) dX3_takeBackUntilFree_4 ?_
      obtain ⟨u3, e4, hf⟩ := p_b hf
      obtain ⟨v5, e6, hf⟩ := p_b hf
      refine p_cRi (va_runV (As := []) (rest := [.int x2]) hC (kX2_count l D ad h1 a_1 v5 e6) (cwV 0 hts gX3_takeBackUntilFree_X2_count rfl rfl rfl (by decide +kernel) ⟨Nat.le_of_ble_eq_true rfl, Nat.le_of_ble_eq_true rfl⟩) (p_preV hK hQ.tt e4 rfl) rfl rfl hL.1.1 rfl (lv_room (Nat.le_of_ble_eq_true rfl)) dX3_takeBackUntilFree_7 ⟨Nat.le_of_ble_eq_true rfl, Nat.le_of_ble_eq_true rfl⟩) hQ hS (fun H locs hQ hS => ?_)
      refine lv_icmp_ge (tgt := 75) hx hb dX3_takeBackUntilFree_10 (by decide) (fun c7 => ?_) (fun c7 => ?_)
      · rw [if_pos c7] at hf
        exact b75 _ _ _ h1  hQ hS (hL.sub [] rfl) hf
      · rw [if_neg c7] at hf
        refine lv_aload_n hx hb dX3_takeBackUntilFree_13 rfl (lv_at hL.1 0 rfl) ?_
        obtain ⟨v8, e9, hf⟩ := p_b hf
        refine p_getI hC hi3 hK hQ e9 rfl (by decide) (by decide +kernel) dX3_takeBackUntilFree_14 ?_
        refine lv_iload_n hx hb dX3_takeBackUntilFree_17 rfl (lv_at hL.1 1 rfl) ?_
        refine lv_icmp_ge (tgt := 75) hx hb dX3_takeBackUntilFree_18 (by decide) (fun c10 => ?_) (fun c10 => ?_)
        · rw [if_pos c10] at hf
          exact b75 _ _ _ h1  hQ hS (hL.sub [] rfl) hf
        · rw [if_neg c10] at hf
          refine lv_aload_n hx hb dX3_takeBackUntilFree_21 rfl (lv_at hL.1 0 rfl) ?_
          obtain ⟨a_11, e12, hf⟩ := p_b hf
          refine p_getR hC hi3 hK hQ e12 rfl (by decide) (by decide +kernel) dX3_takeBackUntilFree_22 ?_
          refine lv_iload_n hx hb dX3_takeBackUntilFree_25 rfl (lv_at hL.1 2 rfl) ?_
          obtain ⟨u13, e14, hf⟩ := p_b hf
          obtain ⟨o_15, e16, hf⟩ := p_b hf
          refine p_cRq (va_runV (As := [.int x2]) (rest := []) hC (kX2_get l D ad h1 a_11 x2 o_15 e16) (cwV 1 hts gX3_takeBackUntilFree_X2_get rfl rfl rfl (by decide +kernel) ⟨Nat.le_of_ble_eq_true rfl, Nat.le_of_ble_eq_true rfl⟩) (p_preV hK hQ.tt e14 rfl) rfl rfl hL.1.1 rfl (lv_room (Nat.le_of_ble_eq_true rfl)) dX3_takeBackUntilFree_26 ⟨Nat.le_of_ble_eq_true rfl, Nat.le_of_ble_eq_true rfl⟩) hQ hS (fun H locs hQ hS => ?_)
          refine p_astore_n (o := Option.map ad o_15) (lv' := [(3, va_rf (Option.map ad o_15)), (0, .ref (ad a0)), (1, .int x1), (2, .int x2)]) hx hb dX3_takeBackUntilFree_29 rfl hL (by decide) rfl (fun ls hL => ?_)
          refine p_aload_n (o := Option.map ad o_15) hx hb dX3_takeBackUntilFree_30 rfl (lv_at hL.1 0 rfl) ?_
          cases o_15 with
          | none =>
            dsimp only at hf
            have hL : p_L ls 4 [(3, .null), (0, .ref (ad a0)), (1, .int x1), (2, .int x2)] := hL
            refine lv_ifnullN (tgt := 69) hx hb dX3_takeBackUntilFree_31 (by decide) ?_
            exact b69 (fX3_takeBackUntilFree_2 n) ih _ _ _ h1 a0 x1 x2 hQ hS (hL.sub [1, 2, 3] rfl) hf
          | some a_17 =>
            dsimp only at hf
            have hL : p_L ls 4 [(3, .ref (ad a_17)), (0, .ref (ad a0)), (1, .int x1), (2, .int x2)] := hL
            refine lv_ifnull hx hb dX3_takeBackUntilFree_31 ?_
            refine lv_aload_n hx hb dX3_takeBackUntilFree_34 rfl (lv_at hL.1 0 rfl) ?_
            obtain ⟨v18, e19, hf⟩ := p_b hf
            refine p_getI hC hi1 hK hQ e19 rfl (by decide) (by decide +kernel) dX3_takeBackUntilFree_35 ?_
            refine lv_if_eq (tgt := 69) hx hb dX3_takeBackUntilFree_38 (by decide) (fun c20 => ?_) (fun c20 => ?_)
            · rw [if_pos c20] at hf
              exact b69 (fX3_takeBackUntilFree_2 n) ih _ _ _ h1 a0 x1 x2 hQ hS (hL.sub [1, 2, 3] rfl) hf
            · rw [if_neg c20] at hf
              refine lv_aload_n hx hb dX3_takeBackUntilFree_41 rfl (lv_at hL.1 0 rfl) ?_
              obtain ⟨v21, e22, hf⟩ := p_b hf
              refine p_getI hC hi1 hK hQ e22 rfl (by decide) (by decide +kernel) dX3_takeBackUntilFree_42 ?_
              refine lv_if_ne (tgt := 69) hx hb dX3_takeBackUntilFree_45 (by decide) (fun c23 => ?_) (fun c23 => ?_)
              · rw [if_neg c23] at hf
                exact b69 (fX3_takeBackUntilFree_2 n) ih _ _ _ h1 a0 x1 x2 hQ hS (hL.sub [1, 2, 3] rfl) hf
              · rw [if_pos c23] at hf
                refine lv_aload_n hx hb dX3_takeBackUntilFree_48 rfl (lv_at hL.1 1 rfl) ?_
                refine lv_dup hx hb dX3_takeBackUntilFree_49 rfl ?_
                obtain ⟨v24, e25, hf⟩ := p_b hf
                refine p_getI hC hi3 hK hQ e25 rfl (by decide) (by decide +kernel) dX3_takeBackUntilFree_50 ?_
                refine lv_aload_n hx hb dX3_takeBackUntilFree_53 rfl (lv_at hL.1 0 rfl) ?_
                obtain ⟨u26, e27, hf⟩ := p_b hf
                obtain ⟨v28, e29, hf⟩ := p_b hf
                refine p_cRi (va_runV (As := []) (rest := [.int v24, .ref (ad a0)]) hC (kX1_pagesNeeded l D ad h1 a_17 v28 e29) (cwV 0 hts gX3_takeBackUntilFree_X1_pagesNeeded rfl rfl rfl (by decide +kernel) ⟨Nat.le_of_ble_eq_true rfl, Nat.le_of_ble_eq_true rfl⟩) (p_preV hK hQ.tt e27 rfl) rfl rfl hL.1.1 rfl (lv_room (Nat.le_of_ble_eq_true rfl)) dX3_takeBackUntilFree_54 ⟨Nat.le_of_ble_eq_true rfl, Nat.le_of_ble_eq_true rfl⟩) hQ hS (fun H locs hQ hS => ?_)
                refine lv_iadd hx hb dX3_takeBackUntilFree_57 ?_
                obtain ⟨h_30, e31, hf⟩ := p_b hf
                refine p_putI hC hi3 tyX3_ok nmX3 hK hQ hS e31 rfl (by decide) rfl rfl (by decide +kernel) dX3_takeBackUntilFree_58 (fun H locs hQ hS => ?_)
                refine lv_aload_n hx hb dX3_takeBackUntilFree_61 rfl (lv_at hL.1 0 rfl) ?_
                refine lv_aload_n hx hb dX3_takeBackUntilFree_62 rfl (lv_at hL.1 1 rfl) ?_
                obtain ⟨v32, e33, hf⟩ := p_b hf
                refine p_getI hC hi3 hK hQ e33 rfl (by decide) (by decide +kernel) dX3_takeBackUntilFree_63 ?_
                obtain ⟨u34, e35, hf⟩ := p_b hf
                obtain ⟨h_36, e37, hf⟩ := p_b hf
                refine p_cMv (va_runV (As := [.int v32]) (rest := []) hC (kX1_loseSurface l D ad h_30 a_17 v32 h_36 e37) (cwV 1 hts gX3_takeBackUntilFree_X1_loseSurface rfl rfl rfl (by decide +kernel) ⟨Nat.le_of_ble_eq_true rfl, Nat.le_of_ble_eq_true rfl⟩) (p_preV hK hQ.self e35 rfl) rfl rfl hL.1.1 rfl (lv_room (Nat.le_of_ble_eq_true rfl)) dX3_takeBackUntilFree_66 ⟨Nat.le_of_ble_eq_true rfl, Nat.le_of_ble_eq_true rfl⟩) hQ hS (fun H locs hQ hS => ?_)
                exact b69 (fX3_takeBackUntilFree_2 n) ih _ _ _ h_36 a0 x1 x2 hQ hS (hL.sub [1, 2, 3] rfl) hf
  rw [fX3_takeBackUntilFree] at hf
  refine lv_iconst (v := 0) hx hb dX3_takeBackUntilFree_0 (by decide) ?_
  refine p_istore_n (lv' := [(2, .int 0), (0, .ref (ad a0)), (1, .int x1)]) hx hb dX3_takeBackUntilFree_1 rfl hL (by decide) rfl (fun ls hL => ?_)
  exact b2 64 _ _ _ h a0 x1 0 hQ hS (hL.sub [1, 2, 0] rfl) hf
-- X3_lend
abbrev rX3_lend : Room := { frames := 3, cells := 0, slots := 0, locals := 65 }
set_option maxHeartbeats 4000000 in
set_option maxRecDepth 100000 in
theorem kX3_lend (l : Launch) (D : va_G) (ad : Nat → Nat) (h : PH) (a0 : Nat) (o1 : Option Nat) (r : Int32 × PH) (hf : fX3_lend h a0 o1 = some r) : Met l yX3_lend wsX3_lend rX3_lend (p_pre D ad (p_A ad h) h [.ref (ad a0), va_rf (Option.map ad o1)]) (p_Mi D ad (p_A ad h) r) 0 0 (p_A ad h) := by
  refine Met.ofW (cc := cX3_lend) (maxL := 3) (ret := (some .boolean)) (by decide) rfl ?_
  intro p e s m args below meth c s₁ B hml hv
  obtain ⟨hargs, hK, hQ⟩ := hv
  have hx := B.exec
  have hb := B.bytes
  have hr := B.returns
  have hts := atoms_spec (ws := wsX3_lend) B.pre
  have hown : s.vm.findClass RX3 = some m.cls := findClass_of_methodNamed B.named
  have hlocks := B.notSynchronized
  have hC : CallFix p m c cX3_lend 3 s args wsX3_lend RX3 := ⟨hx, hb, hml, hown, hts⟩
  have hS : va_S (p_A ad h) s.heap s.heap [] := va_S.rf
  have hi1 : ∀ w ∈ u_ws RX1 TX1 10, w ∈ wsX3_lend := fun w hw => List.mem_cons_of_mem _ (List.mem_append_left _ (List.mem_append_left _ (List.mem_append_right _ hw)))
  have hi3 : ∀ w ∈ u_ws RX3 TX3 8, w ∈ wsX3_lend := fun w hw => List.mem_cons_of_mem _ (List.mem_append_left _ (List.mem_append_left _ (List.mem_append_left _ (List.mem_append_right _ hw))))
  obtain ⟨ls, hls, hL⟩ := p_start (n := 3) hargs (by simp [p_cat, p_ci, p_cr, p_cn]) (Nat.le_of_ble_eq_true rfl)
  show W p l e rX3_lend s m args below meth c s.heap [] 0 0 (MQ below (p_Mi D ad (p_A ad h) r) args s 0 0 (p_A ad h)) (entryFrame m args 3)
  rw [hls]
  clear hls
  have hL : p_L ls 3 [(0, .ref (ad a0)), (1, va_rf (Option.map ad o1))] := hL
  rw [fX3_lend] at hf
  refine p_aload_n (o := Option.map ad o1) hx hb dX3_lend_0 rfl (lv_at hL.1 1 rfl) ?_
  obtain ⟨a_1, ea, hf2⟩ := p_b hf
  clear hf
  subst ea
  have hf := hf2
  clear hf2
  obtain ⟨u2, e3, hf⟩ := p_b hf
  obtain ⟨v4, e5, hf⟩ := p_b hf
  refine p_cRi (va_runV (As := []) (rest := []) hC (kX1_pagesNeeded l D ad h a_1 v4 e5) (cwV 0 hts gX3_lend_X1_pagesNeeded rfl rfl rfl (by decide +kernel) ⟨Nat.le_of_ble_eq_true rfl, Nat.le_of_ble_eq_true rfl⟩) (p_preV hK hQ.tt e3 rfl) rfl rfl hL.1.1 rfl (lv_room (Nat.le_of_ble_eq_true rfl)) dX3_lend_1 ⟨Nat.le_of_ble_eq_true rfl, Nat.le_of_ble_eq_true rfl⟩) hQ hS (fun H locs hQ hS => ?_)
  refine p_istore_n (lv' := [(2, .int v4), (0, .ref (ad a0)), (1, .ref (ad a_1))]) hx hb dX3_lend_4 rfl hL (by decide) rfl (fun ls hL => ?_)
  refine lv_aload_n hx hb dX3_lend_5 rfl (lv_at hL.1 1 rfl) ?_
  obtain ⟨v6, e7, hf⟩ := p_b hf
  refine p_getI hC hi3 hK hQ e7 rfl (by decide) (by decide +kernel) dX3_lend_6 ?_
  refine lv_aload_n hx hb dX3_lend_9 rfl (lv_at hL.1 1 rfl) ?_
  obtain ⟨u8, e9, hf⟩ := p_b hf
  obtain ⟨v10, e11, hf⟩ := p_b hf
  refine p_cRi (va_runV (As := []) (rest := [.int v6]) hC (kX3_pagesOfUnseen l D ad h a0 v10 e11) (cwV 0 hts gX3_lend_X3_pagesOfUnseen rfl rfl rfl (by decide +kernel) ⟨Nat.le_of_ble_eq_true rfl, Nat.le_of_ble_eq_true rfl⟩) (p_preV hK hQ.tt e9 rfl) rfl rfl hL.1.1 rfl (lv_room (Nat.le_of_ble_eq_true rfl)) dX3_lend_10 ⟨Nat.le_of_ble_eq_true rfl, Nat.le_of_ble_eq_true rfl⟩) hQ hS (fun H locs hQ hS => ?_)
  refine lv_iadd hx hb dX3_lend_13 ?_
  refine lv_iload_n hx hb dX3_lend_14 rfl (lv_at hL.1 0 rfl) ?_
  refine lv_icmp_ge (tgt := 20) hx hb dX3_lend_15 (by decide) (fun c12 => ?_) (fun c12 => ?_)
  · rw [if_pos c12] at hf
    refine lv_aload_n hx hb dX3_lend_20 rfl (lv_at hL.1 1 rfl) ?_
    refine lv_iload_n hx hb dX3_lend_21 rfl (lv_at hL.1 0 rfl) ?_
    obtain ⟨u13, e14, hf⟩ := p_b hf
    obtain ⟨h_15, e16, hf⟩ := p_b hf
    refine p_cMv (va_runV (As := [.int v4]) (rest := []) hC (kX3_takeBackUntilFree l D ad h a0 v4 h_15 e16) (cwV 1 hts gX3_lend_X3_takeBackUntilFree rfl rfl rfl (by decide +kernel) ⟨Nat.le_of_ble_eq_true rfl, Nat.le_of_ble_eq_true rfl⟩) (p_preV hK hQ.self e14 rfl) rfl rfl hL.1.1 rfl (lv_room (Nat.le_of_ble_eq_true rfl)) dX3_lend_22 ⟨Nat.le_of_ble_eq_true rfl, Nat.le_of_ble_eq_true rfl⟩) hQ hS (fun H locs hQ hS => ?_)
    refine lv_aload_n hx hb dX3_lend_25 rfl (lv_at hL.1 1 rfl) ?_
    refine lv_dup hx hb dX3_lend_26 rfl ?_
    obtain ⟨v17, e18, hf⟩ := p_b hf
    refine p_getI hC hi3 hK hQ e18 rfl (by decide) (by decide +kernel) dX3_lend_27 ?_
    refine lv_iload_n hx hb dX3_lend_30 rfl (lv_at hL.1 0 rfl) ?_
    refine lv_isub hx hb dX3_lend_31 ?_
    obtain ⟨h_19, e20, hf⟩ := p_b hf
    refine p_putI hC hi3 tyX3_ok nmX3 hK hQ hS e20 rfl (by decide) rfl rfl (by decide +kernel) dX3_lend_32 (fun H locs hQ hS => ?_)
    refine lv_aload_n hx hb dX3_lend_35 rfl (lv_at hL.1 2 rfl) ?_
    refine lv_iconst (v := 1) hx hb dX3_lend_36 (by decide) ?_
    obtain ⟨h_21, e22, hf⟩ := p_b hf
    refine p_putZ hC hi1 tyX1_ok nmX1 hK hQ hS e22 rfl (by decide) rfl rfl (by decide +kernel) dX3_lend_37 (fun H locs hQ hS => ?_)
    refine lv_iconst (v := 1) hx hb dX3_lend_40 (by decide) ?_
    exact p_rMz hC hr hlocks hQ hS hf dX3_lend_41
  · rw [if_neg c12] at hf
    refine lv_iconst (v := 0) hx hb dX3_lend_18 (by decide) ?_
    exact p_rMz hC hr hlocks hQ hS hf dX3_lend_19
-- X3_putOnTop
abbrev rX3_putOnTop : Room := { frames := 4, cells := 0, slots := 0, locals := 87 }
set_option maxHeartbeats 4000000 in
set_option maxRecDepth 100000 in
theorem kX3_putOnTop (l : Launch) (D : va_G) (ad : Nat → Nat) (h : PH) (a0 : Nat) (o1 : Option Nat) (r : Int32 × PH) (hf : fX3_putOnTop h a0 o1 = some r) : Met l yX3_putOnTop wsX3_putOnTop rX3_putOnTop (p_pre D ad (p_A ad h) h [.ref (ad a0), va_rf (Option.map ad o1)]) (p_Mi D ad (p_A ad h) r) 0 0 (p_A ad h) := by
  refine Met.ofW (cc := cX3_putOnTop) (maxL := 2) (ret := (some .boolean)) (by decide) rfl ?_
  intro p e s m args below meth c s₁ B hml hv
  obtain ⟨hargs, hK, hQ⟩ := hv
  have hx := B.exec
  have hb := B.bytes
  have hr := B.returns
  have hts := atoms_spec (ws := wsX3_putOnTop) B.pre
  have hown : s.vm.findClass RX3 = some m.cls := findClass_of_methodNamed B.named
  have hlocks := B.notSynchronized
  have hC : CallFix p m c cX3_putOnTop 2 s args wsX3_putOnTop RX3 := ⟨hx, hb, hml, hown, hts⟩
  have hS : va_S (p_A ad h) s.heap s.heap [] := va_S.rf
  have hi1 : ∀ w ∈ u_ws RX1 TX1 10, w ∈ wsX3_putOnTop := fun w hw => List.mem_cons_of_mem _ (List.mem_append_left _ (List.mem_append_left _ (List.mem_append_right _ hw)))
  have hi2 : ∀ w ∈ u_ws RX2 TX2 2, w ∈ wsX3_putOnTop := fun w hw => List.mem_cons_of_mem _ (List.mem_append_left _ (List.mem_append_right _ hw))
  have hi3 : ∀ w ∈ u_ws RX3 TX3 8, w ∈ wsX3_putOnTop := fun w hw => List.mem_cons_of_mem _ (List.mem_append_left _ (List.mem_append_left _ (List.mem_append_left _ (List.mem_append_right _ hw))))
  obtain ⟨ls, hls, hL⟩ := p_start (n := 2) hargs (by simp [p_cat, p_ci, p_cr, p_cn]) (Nat.le_of_ble_eq_true rfl)
  show W p l e rX3_putOnTop s m args below meth c s.heap [] 0 0 (MQ below (p_Mi D ad (p_A ad h) r) args s 0 0 (p_A ad h)) (entryFrame m args 2)
  rw [hls]
  clear hls
  have hL : p_L ls 2 [(0, .ref (ad a0)), (1, va_rf (Option.map ad o1))] := hL
  rw [fX3_putOnTop] at hf
  refine lv_aload_n hx hb dX3_putOnTop_0 rfl (lv_at hL.1 0 rfl) ?_
  obtain ⟨a_1, e2, hf⟩ := p_b hf
  refine p_getR hC hi3 hK hQ e2 rfl (by decide) (by decide +kernel) dX3_putOnTop_1 ?_
  refine p_aload_n (o := Option.map ad o1) hx hb dX3_putOnTop_4 rfl (lv_at hL.1 1 rfl) ?_
  obtain ⟨u3, e4, hf⟩ := p_b hf
  obtain ⟨h_5, e6, hf⟩ := p_b hf
  refine p_cMv (va_runV (As := [va_rf (Option.map ad o1)]) (rest := []) hC (kX2_addLast l D ad h a_1 o1 h_5 e6) (cwV 1 hts gX3_putOnTop_X2_addLast rfl rfl rfl (by decide +kernel) ⟨Nat.le_of_ble_eq_true rfl, Nat.le_of_ble_eq_true rfl⟩) (p_preV hK hQ.self e4 rfl) rfl rfl hL.1.1 rfl (lv_room (Nat.le_of_ble_eq_true rfl)) dX3_putOnTop_5 ⟨Nat.le_of_ble_eq_true rfl, Nat.le_of_ble_eq_true rfl⟩) hQ hS (fun H locs hQ hS => ?_)
  refine lv_aload_n hx hb dX3_putOnTop_8 rfl (lv_at hL.1 0 rfl) ?_
  obtain ⟨u7, e8, hf⟩ := p_b hf
  obtain ⟨h_9, e10, hf⟩ := p_b hf
  refine p_cMv (va_runV (As := []) (rest := []) hC (kX3_lookAtScreen l D ad h_5 a0 h_9 e10) (cwV 0 hts gX3_putOnTop_X3_lookAtScreen rfl rfl rfl (by decide +kernel) ⟨Nat.le_of_ble_eq_true rfl, Nat.le_of_ble_eq_true rfl⟩) (p_preV hK hQ.self e8 rfl) rfl rfl hL.1.1 rfl (lv_room (Nat.le_of_ble_eq_true rfl)) dX3_putOnTop_9 ⟨Nat.le_of_ble_eq_true rfl, Nat.le_of_ble_eq_true rfl⟩) hQ hS (fun H locs hQ hS => ?_)
  refine lv_aload_n hx hb dX3_putOnTop_12 rfl (lv_at hL.1 0 rfl) ?_
  refine p_aload_n (o := Option.map ad o1) hx hb dX3_putOnTop_13 rfl (lv_at hL.1 1 rfl) ?_
  obtain ⟨u11, e12, hf⟩ := p_b hf
  obtain ⟨y13, e14, hf⟩ := p_b hf
  refine p_cMi (va_runV (As := [va_rf (Option.map ad o1)]) (rest := []) hC (kX3_lend l D ad h_9 a0 o1 y13 e14) (cwV 1 hts gX3_putOnTop_X3_lend rfl rfl rfl (by decide +kernel) ⟨Nat.le_of_ble_eq_true rfl, Nat.le_of_ble_eq_true rfl⟩) (p_preV hK hQ.self e12 rfl) rfl rfl hL.1.1 rfl (lv_room (Nat.le_of_ble_eq_true rfl)) dX3_putOnTop_14 ⟨Nat.le_of_ble_eq_true rfl, Nat.le_of_ble_eq_true rfl⟩) hQ hS (fun H locs hQ hS => ?_)
  refine lv_if_eq (tgt := 22) hx hb dX3_putOnTop_17 (by decide) (fun c15 => ?_) (fun c15 => ?_)
  · rw [if_pos c15] at hf
    refine lv_aload_n hx hb dX3_putOnTop_22 rfl (lv_at hL.1 0 rfl) ?_
    obtain ⟨a_16, e17, hf⟩ := p_b hf
    refine p_getR hC hi3 hK hQ e17 rfl (by decide) (by decide +kernel) dX3_putOnTop_23 ?_
    refine p_aload_n (o := Option.map ad o1) hx hb dX3_putOnTop_26 rfl (lv_at hL.1 1 rfl) ?_
    obtain ⟨a_18, ea, hf2⟩ := p_b hf
    clear hf
    subst ea
    have hf := hf2
    clear hf2
    obtain ⟨v19, e20, hf⟩ := p_b hf
    refine p_getI hC hi1 hK hQ e20 rfl (by decide) (by decide +kernel) dX3_putOnTop_27 ?_
    obtain ⟨u21, e22, hf⟩ := p_b hf
    obtain ⟨h_23, e24, hf⟩ := p_b hf
    refine p_cMv (va_runV (As := [.int v19]) (rest := []) hC (kX2_remove l D ad y13.2 a_16 v19 h_23 e24) (cwV 1 hts gX3_putOnTop_X2_remove rfl rfl rfl (by decide +kernel) ⟨Nat.le_of_ble_eq_true rfl, Nat.le_of_ble_eq_true rfl⟩) (p_preV hK hQ.self e22 rfl) rfl rfl hL.1.1 rfl (lv_room (Nat.le_of_ble_eq_true rfl)) dX3_putOnTop_30 ⟨Nat.le_of_ble_eq_true rfl, Nat.le_of_ble_eq_true rfl⟩) hQ hS (fun H locs hQ hS => ?_)
    refine lv_aload_n hx hb dX3_putOnTop_33 rfl (lv_at hL.1 0 rfl) ?_
    obtain ⟨u25, e26, hf⟩ := p_b hf
    obtain ⟨h_27, e28, hf⟩ := p_b hf
    refine p_cMv (va_runV (As := []) (rest := []) hC (kX3_lookAtScreen l D ad h_23 a0 h_27 e28) (cwV 0 hts gX3_putOnTop_X3_lookAtScreen rfl rfl rfl (by decide +kernel) ⟨Nat.le_of_ble_eq_true rfl, Nat.le_of_ble_eq_true rfl⟩) (p_preV hK hQ.self e26 rfl) rfl rfl hL.1.1 rfl (lv_room (Nat.le_of_ble_eq_true rfl)) dX3_putOnTop_34 ⟨Nat.le_of_ble_eq_true rfl, Nat.le_of_ble_eq_true rfl⟩) hQ hS (fun H locs hQ hS => ?_)
    refine lv_iconst (v := 0) hx hb dX3_putOnTop_37 (by decide) ?_
    exact p_rMz hC hr hlocks hQ hS hf dX3_putOnTop_38
  · rw [if_neg c15] at hf
    refine lv_iconst (v := 1) hx hb dX3_putOnTop_20 (by decide) ?_
    exact p_rMz hC hr hlocks hQ hS hf dX3_putOnTop_21
-- X3_lendToSeen
abbrev rX3_lendToSeen : Room := { frames := 4, cells := 0, slots := 0, locals := 87 }
set_option maxHeartbeats 4000000 in
set_option maxRecDepth 100000 in
theorem kX3_lendToSeen (l : Launch) (D : va_G) (ad : Nat → Nat) (h : PH) (a0 : Nat) (r : PH) (hf : fX3_lendToSeen h a0 = some r) : Met l yX3_lendToSeen wsX3_lendToSeen rX3_lendToSeen (p_pre D ad (p_A ad h) h [.ref (ad a0)]) (p_Mv D ad (p_A ad h) r) 0 0 (p_A ad h) := by
  refine Met.ofW (cc := cX3_lendToSeen) (maxL := 3) (ret := none) (by decide) rfl ?_
  intro p e s m args below meth c s₁ B hml hv
  obtain ⟨hargs, hK, hQ⟩ := hv
  have hx := B.exec
  have hb := B.bytes
  have hr := B.returns
  have hts := atoms_spec (ws := wsX3_lendToSeen) B.pre
  have hown : s.vm.findClass RX3 = some m.cls := findClass_of_methodNamed B.named
  have hlocks := B.notSynchronized
  have hC : CallFix p m c cX3_lendToSeen 3 s args wsX3_lendToSeen RX3 := ⟨hx, hb, hml, hown, hts⟩
  have hS : va_S (p_A ad h) s.heap s.heap [] := va_S.rf
  have hi1 : ∀ w ∈ u_ws RX1 TX1 10, w ∈ wsX3_lendToSeen := fun w hw => List.mem_cons_of_mem _ (List.mem_append_left _ (List.mem_append_left _ (List.mem_append_right _ hw)))
  have hi2 : ∀ w ∈ u_ws RX2 TX2 2, w ∈ wsX3_lendToSeen := fun w hw => List.mem_cons_of_mem _ (List.mem_append_left _ (List.mem_append_right _ hw))
  have hi3 : ∀ w ∈ u_ws RX3 TX3 8, w ∈ wsX3_lendToSeen := fun w hw => List.mem_cons_of_mem _ (List.mem_append_left _ (List.mem_append_left _ (List.mem_append_left _ (List.mem_append_right _ hw))))
  obtain ⟨ls, hls, hL⟩ := p_start (n := 3) hargs (by simp [p_cat, p_ci, p_cr, p_cn]) (Nat.le_of_ble_eq_true rfl)
  show W p l e rX3_lendToSeen s m args below meth c s.heap [] 0 0 (MQ below (p_Mv D ad (p_A ad h) r) args s 0 0 (p_A ad h)) (entryFrame m args 3)
  rw [hls]
  clear hls
  have hL : p_L ls 3 [(0, .ref (ad a0))] := hL
  have b47 : ∀ K : PH → Nat → Int32 → Option (PH), (∀ (H : Heap) (locs : List Loc) (ls : Array Slot) (h1 : PH) (a0 : Nat) (x1 : Int32), p_Q D ad (p_A ad h) s h1 H → va_S (p_A ad h) s.heap H locs → p_L ls 3 [(0, .ref (ad a0)), (1, .int x1)] → K h1 a0 x1 = some r → W p l e rX3_lendToSeen s m args below meth c H locs 0 0 (MQ below (p_Mv D ad (p_A ad h) r) args s 0 0 (p_A ad h)) (F0 m 10 ls [])) → ∀ (H : Heap) (locs : List Loc) (ls : Array Slot) (h1 : PH) (a0 : Nat) (x1 : Int32), p_Q D ad (p_A ad h) s h1 H → va_S (p_A ad h) s.heap H locs → p_L ls 3 [(0, .ref (ad a0)), (1, .int x1)] → fX3_lendToSeen_47 K h1 a0 x1 = some r → W p l e rX3_lendToSeen s m args below meth c H locs 0 0 (MQ below (p_Mv D ad (p_A ad h) r) args s 0 0 (p_A ad h)) (F0 m 47 ls []) := by
    intro K ih H locs ls h1 a0 x1 hQ hS hL hf
    rw [fX3_lendToSeen_47] at hf
    refine p_iinc (v := (x1 + (-1))) (lv' := [(1, .int (x1 + (-1))), (0, .ref (ad a0))]) hx hb dX3_lendToSeen_47 hL (k := 1) rfl rfl (by decide) rfl (fun ls hL => ?_)
    refine lv_goto (tgt := 10) hx hb dX3_lendToSeen_50 (by decide) ?_
    exact ih _ _ _ h1 a0 (x1 + (-1)) hQ hS (hL.sub [1, 0] rfl) hf
  have b10 : ∀ n : Nat, ∀ (H : Heap) (locs : List Loc) (ls : Array Slot) (h1 : PH) (a0 : Nat) (x1 : Int32), p_Q D ad (p_A ad h) s h1 H → va_S (p_A ad h) s.heap H locs → p_L ls 3 [(0, .ref (ad a0)), (1, .int x1)] → fX3_lendToSeen_10 n h1 a0 x1 = some r → W p l e rX3_lendToSeen s m args below meth c H locs 0 0 (MQ below (p_Mv D ad (p_A ad h) r) args s 0 0 (p_A ad h)) (F0 m 10 ls []) := by
    intro n
    induction n with
    | zero =>
      intro H locs ls h1 a0 x1 hQ hS hL hf
      simp [fX3_lendToSeen_10] at hf
    | succ n ih =>
      intro H locs ls h1 a0 x1 hQ hS hL hf
      rw [fX3_lendToSeen_10] at hf
      refine lv_iload_n hx hb dX3_lendToSeen_10 rfl (lv_at hL.1 1 rfl) ?_
      refine lv_if_lt (tgt := 53) hx hb dX3_lendToSeen_11 (by decide) (fun c1 => ?_) (fun c1 => ?_)
      · rw [if_pos c1] at hf
        exact p_rMv hC hr hlocks hQ hS hf dX3_lendToSeen_53
      · rw [if_neg c1] at hf
        refine lv_aload_n hx hb dX3_lendToSeen_14 rfl (lv_at hL.1 0 rfl) ?_
        obtain ⟨a_2, e3, hf⟩ := p_b hf
        refine p_getR hC hi3 hK hQ e3 rfl (by decide) (by decide +kernel) dX3_lendToSeen_15 ?_
        refine lv_iload_n hx hb dX3_lendToSeen_18 rfl (lv_at hL.1 1 rfl) ?_
        obtain ⟨u4, e5, hf⟩ := p_b hf
        obtain ⟨o_6, e7, hf⟩ := p_b hf
        refine p_cRq (va_runV (As := [.int x1]) (rest := []) hC (kX2_get l D ad h1 a_2 x1 o_6 e7) (cwV 1 hts gX3_lendToSeen_X2_get rfl rfl rfl (by decide +kernel) ⟨Nat.le_of_ble_eq_true rfl, Nat.le_of_ble_eq_true rfl⟩) (p_preV hK hQ.tt e5 rfl) rfl rfl hL.1.1 rfl (lv_room (Nat.le_of_ble_eq_true rfl)) dX3_lendToSeen_19 ⟨Nat.le_of_ble_eq_true rfl, Nat.le_of_ble_eq_true rfl⟩) hQ hS (fun H locs hQ hS => ?_)
        refine p_astore_n (o := Option.map ad o_6) (lv' := [(2, va_rf (Option.map ad o_6)), (0, .ref (ad a0)), (1, .int x1)]) hx hb dX3_lendToSeen_22 rfl hL (by decide) rfl (fun ls hL => ?_)
        refine p_aload_n (o := Option.map ad o_6) hx hb dX3_lendToSeen_23 rfl (lv_at hL.1 0 rfl) ?_
        cases o_6 with
        | none =>
          dsimp only at hf
          have hL : p_L ls 3 [(2, .null), (0, .ref (ad a0)), (1, .int x1)] := hL
          refine lv_ifnullN (tgt := 47) hx hb dX3_lendToSeen_24 (by decide) ?_
          exact b47 (fX3_lendToSeen_10 n) ih _ _ _ h1 a0 x1 hQ hS (hL.sub [1, 2] rfl) hf
        | some a_8 =>
          dsimp only at hf
          have hL : p_L ls 3 [(2, .ref (ad a_8)), (0, .ref (ad a0)), (1, .int x1)] := hL
          refine lv_ifnull hx hb dX3_lendToSeen_24 ?_
          refine lv_aload_n hx hb dX3_lendToSeen_27 rfl (lv_at hL.1 0 rfl) ?_
          obtain ⟨v9, e10, hf⟩ := p_b hf
          refine p_getI hC hi1 hK hQ e10 rfl (by decide) (by decide +kernel) dX3_lendToSeen_28 ?_
          refine lv_if_eq (tgt := 47) hx hb dX3_lendToSeen_31 (by decide) (fun c11 => ?_) (fun c11 => ?_)
          · rw [if_pos c11] at hf
            exact b47 (fX3_lendToSeen_10 n) ih _ _ _ h1 a0 x1 hQ hS (hL.sub [1, 2] rfl) hf
          · rw [if_neg c11] at hf
            refine lv_aload_n hx hb dX3_lendToSeen_34 rfl (lv_at hL.1 0 rfl) ?_
            obtain ⟨v12, e13, hf⟩ := p_b hf
            refine p_getI hC hi1 hK hQ e13 rfl (by decide) (by decide +kernel) dX3_lendToSeen_35 ?_
            refine lv_if_ne (tgt := 47) hx hb dX3_lendToSeen_38 (by decide) (fun c14 => ?_) (fun c14 => ?_)
            · rw [if_neg c14] at hf
              exact b47 (fX3_lendToSeen_10 n) ih _ _ _ h1 a0 x1 hQ hS (hL.sub [1, 2] rfl) hf
            · rw [if_pos c14] at hf
              refine lv_aload_n hx hb dX3_lendToSeen_41 rfl (lv_at hL.1 1 rfl) ?_
              refine lv_aload_n hx hb dX3_lendToSeen_42 rfl (lv_at hL.1 0 rfl) ?_
              obtain ⟨u15, e16, hf⟩ := p_b hf
              obtain ⟨y17, e18, hf⟩ := p_b hf
              refine p_cMi (va_runV (As := [.ref (ad a_8)]) (rest := []) hC (kX3_lend l D ad h1 a0 (some a_8) y17 e18) (cwV 1 hts gX3_lendToSeen_X3_lend rfl rfl rfl (by decide +kernel) ⟨Nat.le_of_ble_eq_true rfl, Nat.le_of_ble_eq_true rfl⟩) (p_preV hK hQ.self e16 rfl) rfl rfl hL.1.1 rfl (lv_room (Nat.le_of_ble_eq_true rfl)) dX3_lendToSeen_43 ⟨Nat.le_of_ble_eq_true rfl, Nat.le_of_ble_eq_true rfl⟩) hQ hS (fun H locs hQ hS => ?_)
              refine lv_pop hx hb dX3_lendToSeen_46 rfl ?_
              exact b47 (fX3_lendToSeen_10 n) ih _ _ _ y17.2 a0 x1 hQ hS (hL.sub [1, 2] rfl) hf
  rw [fX3_lendToSeen] at hf
  refine lv_aload_n hx hb dX3_lendToSeen_0 rfl (lv_at hL.1 0 rfl) ?_
  obtain ⟨a_19, e20, hf⟩ := p_b hf
  refine p_getR hC hi3 hK hQ e20 rfl (by decide) (by decide +kernel) dX3_lendToSeen_1 ?_
  obtain ⟨u21, e22, hf⟩ := p_b hf
  obtain ⟨v23, e24, hf⟩ := p_b hf
  refine p_cRi (va_runV (As := []) (rest := []) hC (kX2_count l D ad h a_19 v23 e24) (cwV 0 hts gX3_lendToSeen_X2_count rfl rfl rfl (by decide +kernel) ⟨Nat.le_of_ble_eq_true rfl, Nat.le_of_ble_eq_true rfl⟩) (p_preV hK hQ.tt e22 rfl) rfl rfl hL.1.1 rfl (lv_room (Nat.le_of_ble_eq_true rfl)) dX3_lendToSeen_4 ⟨Nat.le_of_ble_eq_true rfl, Nat.le_of_ble_eq_true rfl⟩) hQ hS (fun H locs hQ hS => ?_)
  refine lv_iconst (v := 1) hx hb dX3_lendToSeen_7 (by decide) ?_
  refine lv_isub hx hb dX3_lendToSeen_8 ?_
  refine p_istore_n (lv' := [(1, .int (v23 - 1)), (0, .ref (ad a0))]) hx hb dX3_lendToSeen_9 rfl hL (by decide) rfl (fun ls hL => ?_)
  exact b10 64 _ _ _ h a0 (v23 - 1) hQ hS (hL.sub [1, 0] rfl) hf
-- X3_rearrange
abbrev rX3_rearrange : Room := { frames := 5, cells := 0, slots := 0, locals := 109 }
set_option maxHeartbeats 4000000 in
set_option maxRecDepth 100000 in
theorem kX3_rearrange (l : Launch) (D : va_G) (ad : Nat → Nat) (h : PH) (a0 : Nat) (r : PH) (hf : fX3_rearrange h a0 = some r) : Met l yX3_rearrange wsX3_rearrange rX3_rearrange (p_pre D ad (p_A ad h) h [.ref (ad a0)]) (p_Mv D ad (p_A ad h) r) 0 0 (p_A ad h) := by
  refine Met.ofW (cc := cX3_rearrange) (maxL := 1) (ret := none) (by decide) rfl ?_
  intro p e s m args below meth c s₁ B hml hv
  obtain ⟨hargs, hK, hQ⟩ := hv
  have hx := B.exec
  have hb := B.bytes
  have hr := B.returns
  have hts := atoms_spec (ws := wsX3_rearrange) B.pre
  have hown : s.vm.findClass RX3 = some m.cls := findClass_of_methodNamed B.named
  have hlocks := B.notSynchronized
  have hC : CallFix p m c cX3_rearrange 1 s args wsX3_rearrange RX3 := ⟨hx, hb, hml, hown, hts⟩
  have hS : va_S (p_A ad h) s.heap s.heap [] := va_S.rf
  have hi3 : ∀ w ∈ u_ws RX3 TX3 8, w ∈ wsX3_rearrange := fun w hw => List.mem_cons_of_mem _ (List.mem_append_left _ (List.mem_append_left _ (List.mem_append_left _ (List.mem_append_right _ hw))))
  obtain ⟨ls, hls, hL⟩ := p_start (n := 1) hargs (by simp [p_cat, p_ci, p_cr, p_cn]) (Nat.le_of_ble_eq_true rfl)
  show W p l e rX3_rearrange s m args below meth c s.heap [] 0 0 (MQ below (p_Mv D ad (p_A ad h) r) args s 0 0 (p_A ad h)) (entryFrame m args 1)
  rw [hls]
  clear hls
  have hL : p_L ls 1 [(0, .ref (ad a0))] := hL
  rw [fX3_rearrange] at hf
  refine lv_aload_n hx hb dX3_rearrange_0 rfl (lv_at hL.1 0 rfl) ?_
  obtain ⟨u1, e2, hf⟩ := p_b hf
  obtain ⟨h_3, e4, hf⟩ := p_b hf
  refine p_cMv (va_runV (As := []) (rest := []) hC (kX3_lookAtScreen l D ad h a0 h_3 e4) (cwV 0 hts gX3_rearrange_X3_lookAtScreen rfl rfl rfl (by decide +kernel) ⟨Nat.le_of_ble_eq_true rfl, Nat.le_of_ble_eq_true rfl⟩) (p_preV hK hQ.self e2 rfl) rfl rfl hL.1.1 rfl (lv_room (Nat.le_of_ble_eq_true rfl)) dX3_rearrange_1 ⟨Nat.le_of_ble_eq_true rfl, Nat.le_of_ble_eq_true rfl⟩) hQ hS (fun H locs hQ hS => ?_)
  refine lv_aload_n hx hb dX3_rearrange_4 rfl (lv_at hL.1 0 rfl) ?_
  obtain ⟨u5, e6, hf⟩ := p_b hf
  obtain ⟨h_7, e8, hf⟩ := p_b hf
  refine p_cMv (va_runV (As := []) (rest := []) hC (kX3_lendToSeen l D ad h_3 a0 h_7 e8) (cwV 0 hts gX3_rearrange_X3_lendToSeen rfl rfl rfl (by decide +kernel) ⟨Nat.le_of_ble_eq_true rfl, Nat.le_of_ble_eq_true rfl⟩) (p_preV hK hQ.self e6 rfl) rfl rfl hL.1.1 rfl (lv_room (Nat.le_of_ble_eq_true rfl)) dX3_rearrange_5 ⟨Nat.le_of_ble_eq_true rfl, Nat.le_of_ble_eq_true rfl⟩) hQ hS (fun H locs hQ hS => ?_)
  exact p_rMv hC hr hlocks hQ hS hf dX3_rearrange_8
-- X3_beginFrames
abbrev rX3_beginFrames : Room := { frames := 2, cells := 0, slots := 0, locals := 42 }
set_option maxHeartbeats 4000000 in
set_option maxRecDepth 100000 in
theorem kX3_beginFrames (l : Launch) (D : va_G) (ad : Nat → Nat) (h : PH) (a0 : Nat) (r : PH) (hf : fX3_beginFrames h a0 = some r) : Met l yX3_beginFrames wsX3_beginFrames rX3_beginFrames (p_pre D ad (p_A ad h) h [.ref (ad a0)]) (p_Mv D ad (p_A ad h) r) 0 0 (p_A ad h) := by
  refine Met.ofW (cc := cX3_beginFrames) (maxL := 3) (ret := none) (by decide) rfl ?_
  intro p e s m args below meth c s₁ B hml hv
  obtain ⟨hargs, hK, hQ⟩ := hv
  have hx := B.exec
  have hb := B.bytes
  have hr := B.returns
  have hts := atoms_spec (ws := wsX3_beginFrames) B.pre
  have hown : s.vm.findClass RX3 = some m.cls := findClass_of_methodNamed B.named
  have hlocks := B.notSynchronized
  have hC : CallFix p m c cX3_beginFrames 3 s args wsX3_beginFrames RX3 := ⟨hx, hb, hml, hown, hts⟩
  have hS : va_S (p_A ad h) s.heap s.heap [] := va_S.rf
  have hi0 : ∀ w ∈ u_ws RX0 TX0 9, w ∈ wsX3_beginFrames := fun w hw => List.mem_cons_of_mem _ (List.mem_append_right _ hw)
  have hi1 : ∀ w ∈ u_ws RX1 TX1 10, w ∈ wsX3_beginFrames := fun w hw => List.mem_cons_of_mem _ (List.mem_append_left _ (List.mem_append_left _ (List.mem_append_right _ hw)))
  have hi2 : ∀ w ∈ u_ws RX2 TX2 2, w ∈ wsX3_beginFrames := fun w hw => List.mem_cons_of_mem _ (List.mem_append_left _ (List.mem_append_right _ hw))
  have hi3 : ∀ w ∈ u_ws RX3 TX3 8, w ∈ wsX3_beginFrames := fun w hw => List.mem_cons_of_mem _ (List.mem_append_left _ (List.mem_append_left _ (List.mem_append_left _ (List.mem_append_right _ hw))))
  obtain ⟨ls, hls, hL⟩ := p_start (n := 3) hargs (by simp [p_cat, p_ci, p_cr, p_cn]) (Nat.le_of_ble_eq_true rfl)
  show W p l e rX3_beginFrames s m args below meth c s.heap [] 0 0 (MQ below (p_Mv D ad (p_A ad h) r) args s 0 0 (p_A ad h)) (entryFrame m args 3)
  rw [hls]
  clear hls
  have hL : p_L ls 3 [(0, .ref (ad a0))] := hL
  have b68 : ∀ K : PH → Nat → Int32 → Option (PH), (∀ (H : Heap) (locs : List Loc) (ls : Array Slot) (h1 : PH) (a0 : Nat) (x1 : Int32), p_Q D ad (p_A ad h) s h1 H → va_S (p_A ad h) s.heap H locs → p_L ls 3 [(0, .ref (ad a0)), (1, .int x1)] → K h1 a0 x1 = some r → W p l e rX3_beginFrames s m args below meth c H locs 0 0 (MQ below (p_Mv D ad (p_A ad h) r) args s 0 0 (p_A ad h)) (F0 m 2 ls [])) → ∀ (H : Heap) (locs : List Loc) (ls : Array Slot) (h1 : PH) (a0 : Nat) (x1 : Int32), p_Q D ad (p_A ad h) s h1 H → va_S (p_A ad h) s.heap H locs → p_L ls 3 [(0, .ref (ad a0)), (1, .int x1)] → fX3_beginFrames_68 K h1 a0 x1 = some r → W p l e rX3_beginFrames s m args below meth c H locs 0 0 (MQ below (p_Mv D ad (p_A ad h) r) args s 0 0 (p_A ad h)) (F0 m 68 ls []) := by
    intro K ih H locs ls h1 a0 x1 hQ hS hL hf
    rw [fX3_beginFrames_68] at hf
    refine p_iinc (v := (x1 + 1)) (lv' := [(1, .int (x1 + 1)), (0, .ref (ad a0))]) hx hb dX3_beginFrames_68 hL (k := 1) rfl rfl (by decide) rfl (fun ls hL => ?_)
    refine lv_goto (tgt := 2) hx hb dX3_beginFrames_71 (by decide) ?_
    exact ih _ _ _ h1 a0 (x1 + 1) hQ hS (hL.sub [1, 0] rfl) hf
  have b57 : ∀ K : PH → Nat → Int32 → Option (PH), (∀ (H : Heap) (locs : List Loc) (ls : Array Slot) (h1 : PH) (a0 : Nat) (x1 : Int32), p_Q D ad (p_A ad h) s h1 H → va_S (p_A ad h) s.heap H locs → p_L ls 3 [(0, .ref (ad a0)), (1, .int x1)] → K h1 a0 x1 = some r → W p l e rX3_beginFrames s m args below meth c H locs 0 0 (MQ below (p_Mv D ad (p_A ad h) r) args s 0 0 (p_A ad h)) (F0 m 2 ls [])) → ∀ (H : Heap) (locs : List Loc) (ls : Array Slot) (h1 : PH) (a0 : Nat) (x1 : Int32) (o2 : Option Nat), p_Q D ad (p_A ad h) s h1 H → va_S (p_A ad h) s.heap H locs → p_L ls 3 [(0, .ref (ad a0)), (1, .int x1), (2, va_rf (Option.map ad o2))] → fX3_beginFrames_57 K h1 a0 x1 o2 = some r → W p l e rX3_beginFrames s m args below meth c H locs 0 0 (MQ below (p_Mv D ad (p_A ad h) r) args s 0 0 (p_A ad h)) (F0 m 57 ls []) := by
    intro K ih H locs ls h1 a0 x1 o2 hQ hS hL hf
    rw [fX3_beginFrames_57] at hf
    refine p_aload_n (o := Option.map ad o2) hx hb dX3_beginFrames_57 rfl (lv_at hL.1 2 rfl) ?_
    obtain ⟨a_1, ea, hf2⟩ := p_b hf
    clear hf
    subst ea
    have hf := hf2
    clear hf2
    obtain ⟨a_2, e3, hf⟩ := p_b hf
    refine p_getR hC hi1 hK hQ e3 rfl (by decide) (by decide +kernel) dX3_beginFrames_58 ?_
    refine lv_aload_n hx hb dX3_beginFrames_61 rfl (lv_at hL.1 0 rfl) ?_
    obtain ⟨v4, e5, hf⟩ := p_b hf
    refine p_getI hC hi3 hK hQ e5 rfl (by decide) (by decide +kernel) dX3_beginFrames_62 ?_
    obtain ⟨u6, e7, hf⟩ := p_b hf
    obtain ⟨h_8, e9, hf⟩ := p_b hf
    refine p_cMv (va_runV (As := [.int v4]) (rest := []) hC (kX0_drop l D ad h1 a_2 v4 h_8 e9) (cwV 1 hts gX3_beginFrames_X0_drop rfl rfl rfl (by decide +kernel) ⟨Nat.le_of_ble_eq_true rfl, Nat.le_of_ble_eq_true rfl⟩) (p_preV hK hQ.self e7 rfl) rfl rfl hL.1.1 rfl (lv_room (Nat.le_of_ble_eq_true rfl)) dX3_beginFrames_65 ⟨Nat.le_of_ble_eq_true rfl, Nat.le_of_ble_eq_true rfl⟩) hQ hS (fun H locs hQ hS => ?_)
    exact b68 K ih _ _ _ h_8 a0 x1 hQ hS (hL.sub [0, 1] rfl) hf
  have b2 : ∀ n : Nat, ∀ (H : Heap) (locs : List Loc) (ls : Array Slot) (h1 : PH) (a0 : Nat) (x1 : Int32), p_Q D ad (p_A ad h) s h1 H → va_S (p_A ad h) s.heap H locs → p_L ls 3 [(0, .ref (ad a0)), (1, .int x1)] → fX3_beginFrames_2 n h1 a0 x1 = some r → W p l e rX3_beginFrames s m args below meth c H locs 0 0 (MQ below (p_Mv D ad (p_A ad h) r) args s 0 0 (p_A ad h)) (F0 m 2 ls []) := by
    intro n
    induction n with
    | zero =>
      intro H locs ls h1 a0 x1 hQ hS hL hf
      simp [fX3_beginFrames_2] at hf
    | succ n ih =>
      intro H locs ls h1 a0 x1 hQ hS hL hf
      rw [fX3_beginFrames_2] at hf
      refine lv_iload_n hx hb dX3_beginFrames_2 rfl (lv_at hL.1 1 rfl) ?_
      refine lv_aload_n hx hb dX3_beginFrames_3 rfl (lv_at hL.1 0 rfl) ?_
      obtain ⟨a_10, e11, hf⟩ := p_b hf
      refine p_getR hC hi3 hK hQ e11 rfl (by decide) (by decide +kernel) dX3_beginFrames_4 ?_
      obtain ⟨u12, e13, hf⟩ := p_b hf
      obtain ⟨v14, e15, hf⟩ := p_b hf
      refine p_cRi (va_runV (As := []) (rest := [.int x1]) hC (kX2_count l D ad h1 a_10 v14 e15) (cwV 0 hts gX3_beginFrames_X2_count rfl rfl rfl (by decide +kernel) ⟨Nat.le_of_ble_eq_true rfl, Nat.le_of_ble_eq_true rfl⟩) (p_preV hK hQ.tt e13 rfl) rfl rfl hL.1.1 rfl (lv_room (Nat.le_of_ble_eq_true rfl)) dX3_beginFrames_7 ⟨Nat.le_of_ble_eq_true rfl, Nat.le_of_ble_eq_true rfl⟩) hQ hS (fun H locs hQ hS => ?_)
      refine lv_icmp_ge (tgt := 74) hx hb dX3_beginFrames_10 (by decide) (fun c16 => ?_) (fun c16 => ?_)
      · rw [if_pos c16] at hf
        exact p_rMv hC hr hlocks hQ hS hf dX3_beginFrames_74
      · rw [if_neg c16] at hf
        refine lv_aload_n hx hb dX3_beginFrames_13 rfl (lv_at hL.1 0 rfl) ?_
        obtain ⟨a_17, e18, hf⟩ := p_b hf
        refine p_getR hC hi3 hK hQ e18 rfl (by decide) (by decide +kernel) dX3_beginFrames_14 ?_
        refine lv_iload_n hx hb dX3_beginFrames_17 rfl (lv_at hL.1 1 rfl) ?_
        obtain ⟨u19, e20, hf⟩ := p_b hf
        obtain ⟨o_21, e22, hf⟩ := p_b hf
        refine p_cRq (va_runV (As := [.int x1]) (rest := []) hC (kX2_get l D ad h1 a_17 x1 o_21 e22) (cwV 1 hts gX3_beginFrames_X2_get rfl rfl rfl (by decide +kernel) ⟨Nat.le_of_ble_eq_true rfl, Nat.le_of_ble_eq_true rfl⟩) (p_preV hK hQ.tt e20 rfl) rfl rfl hL.1.1 rfl (lv_room (Nat.le_of_ble_eq_true rfl)) dX3_beginFrames_18 ⟨Nat.le_of_ble_eq_true rfl, Nat.le_of_ble_eq_true rfl⟩) hQ hS (fun H locs hQ hS => ?_)
        refine p_astore_n (o := Option.map ad o_21) (lv' := [(2, va_rf (Option.map ad o_21)), (0, .ref (ad a0)), (1, .int x1)]) hx hb dX3_beginFrames_21 rfl hL (by decide) rfl (fun ls hL => ?_)
        refine p_aload_n (o := Option.map ad o_21) hx hb dX3_beginFrames_22 rfl (lv_at hL.1 0 rfl) ?_
        cases o_21 with
        | none =>
          dsimp only at hf
          have hL : p_L ls 3 [(2, .null), (0, .ref (ad a0)), (1, .int x1)] := hL
          refine lv_ifnonnullN hx hb dX3_beginFrames_23 ?_
          refine lv_goto (tgt := 68) hx hb dX3_beginFrames_26 (by decide) ?_
          exact b68 (fX3_beginFrames_2 n) ih _ _ _ h1 a0 x1 hQ hS (hL.sub [1, 2] rfl) hf
        | some a_23 =>
          dsimp only at hf
          have hL : p_L ls 3 [(2, .ref (ad a_23)), (0, .ref (ad a0)), (1, .int x1)] := hL
          refine lv_ifnonnull (tgt := 29) hx hb dX3_beginFrames_23 (by decide) ?_
          refine lv_aload_n hx hb dX3_beginFrames_29 rfl (lv_at hL.1 0 rfl) ?_
          obtain ⟨v24, e25, hf⟩ := p_b hf
          refine p_getI hC hi1 hK hQ e25 rfl (by decide) (by decide +kernel) dX3_beginFrames_30 ?_
          refine lv_if_eq (tgt := 57) hx hb dX3_beginFrames_33 (by decide) (fun c26 => ?_) (fun c26 => ?_)
          · rw [if_pos c26] at hf
            exact b57 (fX3_beginFrames_2 n) ih _ _ _ h1 a0 x1 (some a_23) hQ hS (hL.sub [1, 2, 0] rfl) hf
          · rw [if_neg c26] at hf
            refine lv_aload_n hx hb dX3_beginFrames_36 rfl (lv_at hL.1 0 rfl) ?_
            obtain ⟨v27, e28, hf⟩ := p_b hf
            refine p_getI hC hi1 hK hQ e28 rfl (by decide) (by decide +kernel) dX3_beginFrames_37 ?_
            refine lv_if_eq (tgt := 57) hx hb dX3_beginFrames_40 (by decide) (fun c29 => ?_) (fun c29 => ?_)
            · rw [if_pos c29] at hf
              exact b57 (fX3_beginFrames_2 n) ih _ _ _ h1 a0 x1 (some a_23) hQ hS (hL.sub [1, 2, 0] rfl) hf
            · rw [if_neg c29] at hf
              refine lv_aload_n hx hb dX3_beginFrames_43 rfl (lv_at hL.1 0 rfl) ?_
              obtain ⟨a_30, e31, hf⟩ := p_b hf
              refine p_getR hC hi1 hK hQ e31 rfl (by decide) (by decide +kernel) dX3_beginFrames_44 ?_
              refine lv_aload_n hx hb dX3_beginFrames_47 rfl (lv_at hL.1 1 rfl) ?_
              obtain ⟨v32, e33, hf⟩ := p_b hf
              refine p_getI hC hi3 hK hQ e33 rfl (by decide) (by decide +kernel) dX3_beginFrames_48 ?_
              obtain ⟨u34, e35, hf⟩ := p_b hf
              obtain ⟨h_36, e37, hf⟩ := p_b hf
              refine p_cMv (va_runV (As := [.int v32]) (rest := []) hC (kX0_beginIfDue l D ad h1 a_30 v32 h_36 e37) (cwV 1 hts gX3_beginFrames_X0_beginIfDue rfl rfl rfl (by decide +kernel) ⟨Nat.le_of_ble_eq_true rfl, Nat.le_of_ble_eq_true rfl⟩) (p_preV hK hQ.self e35 rfl) rfl rfl hL.1.1 rfl (lv_room (Nat.le_of_ble_eq_true rfl)) dX3_beginFrames_51 ⟨Nat.le_of_ble_eq_true rfl, Nat.le_of_ble_eq_true rfl⟩) hQ hS (fun H locs hQ hS => ?_)
              refine lv_goto (tgt := 68) hx hb dX3_beginFrames_54 (by decide) ?_
              exact b68 (fX3_beginFrames_2 n) ih _ _ _ h_36 a0 x1 hQ hS (hL.sub [1, 2] rfl) hf
  rw [fX3_beginFrames] at hf
  refine lv_iconst (v := 0) hx hb dX3_beginFrames_0 (by decide) ?_
  refine p_istore_n (lv' := [(1, .int 0), (0, .ref (ad a0))]) hx hb dX3_beginFrames_1 rfl hL (by decide) rfl (fun ls hL => ?_)
  exact b2 64 _ _ _ h a0 0 hQ hS (hL.sub [1, 0] rfl) hf
-- X3_mostUrgent
abbrev rX3_mostUrgent : Room := { frames := 1, cells := 0, slots := 0, locals := 21 }
set_option maxHeartbeats 4000000 in
set_option maxRecDepth 100000 in
theorem kX3_mostUrgent (l : Launch) (D : va_G) (ad : Nat → Nat) (h : PH) (a0 : Nat) (r : Option Nat) (hf : fX3_mostUrgent h a0 = some r) : Met l yX3_mostUrgent wsX3_mostUrgent rX3_mostUrgent (p_pre D ad p_tt h [.ref (ad a0)]) (p_Rq ad r) 0 0 p_no := by
  refine Met.ofW (cc := cX3_mostUrgent) (maxL := 4) (ret := (some (.object "FrameBroker$Window"))) (by decide) rfl ?_
  intro p e s m args below meth c s₁ B hml hv
  obtain ⟨hargs, hK, hQ⟩ := hv
  have hx := B.exec
  have hb := B.bytes
  have hr := B.returns
  have hts := atoms_spec (ws := wsX3_mostUrgent) B.pre
  have hown : s.vm.findClass RX3 = some m.cls := findClass_of_methodNamed B.named
  have hlocks := B.notSynchronized
  have hC : CallFix p m c cX3_mostUrgent 4 s args wsX3_mostUrgent RX3 := ⟨hx, hb, hml, hown, hts⟩
  have hS : va_S p_no s.heap s.heap [] := va_S.rf
  have hi0 : ∀ w ∈ u_ws RX0 TX0 9, w ∈ wsX3_mostUrgent := fun w hw => List.mem_cons_of_mem _ (List.mem_append_left _ (List.mem_append_right _ hw))
  have hi1 : ∀ w ∈ u_ws RX1 TX1 10, w ∈ wsX3_mostUrgent := fun w hw => List.mem_cons_of_mem _ (List.mem_append_left _ (List.mem_append_left _ (List.mem_append_right _ hw)))
  have hi2 : ∀ w ∈ u_ws RX2 TX2 2, w ∈ wsX3_mostUrgent := fun w hw => List.mem_cons_of_mem _ (List.mem_append_right _ hw)
  have hi3 : ∀ w ∈ u_ws RX3 TX3 8, w ∈ wsX3_mostUrgent := fun w hw => List.mem_cons_of_mem _ (List.mem_append_left _ (List.mem_append_left _ (List.mem_append_left _ (List.mem_append_right _ hw))))
  obtain ⟨ls, hls, hL⟩ := p_start (n := 4) hargs (by simp [p_cat, p_ci, p_cr, p_cn]) (Nat.le_of_ble_eq_true rfl)
  show W p l e rX3_mostUrgent s m args below meth c s.heap [] 0 0 (MQ below (p_Rq ad r) args s 0 0 p_no) (entryFrame m args 4)
  rw [hls]
  clear hls
  have hL : p_L ls 4 [(0, .ref (ad a0))] := hL
  have b61 : ∀ K : PH → Nat → Option Nat → Int32 → Option (Option Nat), (∀ (H : Heap) (locs : List Loc) (ls : Array Slot) (h1 : PH) (a0 : Nat) (o1 : Option Nat) (x2 : Int32), p_Q D ad p_tt s h1 H → va_S p_no s.heap H locs → p_L ls 4 [(0, .ref (ad a0)), (1, va_rf (Option.map ad o1)), (2, .int x2)] → K h1 a0 o1 x2 = some r → W p l e rX3_mostUrgent s m args below meth c H locs 0 0 (MQ below (p_Rq ad r) args s 0 0 p_no) (F0 m 4 ls [])) → ∀ (H : Heap) (locs : List Loc) (ls : Array Slot) (h1 : PH) (a0 : Nat) (o1 : Option Nat) (x2 : Int32), p_Q D ad p_tt s h1 H → va_S p_no s.heap H locs → p_L ls 4 [(0, .ref (ad a0)), (1, va_rf (Option.map ad o1)), (2, .int x2)] → fX3_mostUrgent_61 K h1 a0 o1 x2 = some r → W p l e rX3_mostUrgent s m args below meth c H locs 0 0 (MQ below (p_Rq ad r) args s 0 0 p_no) (F0 m 61 ls []) := by
    intro K ih H locs ls h1 a0 o1 x2 hQ hS hL hf
    rw [fX3_mostUrgent_61] at hf
    refine p_iinc (v := (x2 + 1)) (lv' := [(2, .int (x2 + 1)), (0, .ref (ad a0)), (1, va_rf (Option.map ad o1))]) hx hb dX3_mostUrgent_61 hL (k := 2) rfl rfl (by decide) rfl (fun ls hL => ?_)
    refine lv_goto (tgt := 4) hx hb dX3_mostUrgent_64 (by decide) ?_
    exact ih _ _ _ h1 a0 o1 (x2 + 1) hQ hS (hL.sub [1, 2, 0] rfl) hf
  have b59 : ∀ K : PH → Nat → Option Nat → Int32 → Option (Option Nat), (∀ (H : Heap) (locs : List Loc) (ls : Array Slot) (h1 : PH) (a0 : Nat) (o1 : Option Nat) (x2 : Int32), p_Q D ad p_tt s h1 H → va_S p_no s.heap H locs → p_L ls 4 [(0, .ref (ad a0)), (1, va_rf (Option.map ad o1)), (2, .int x2)] → K h1 a0 o1 x2 = some r → W p l e rX3_mostUrgent s m args below meth c H locs 0 0 (MQ below (p_Rq ad r) args s 0 0 p_no) (F0 m 4 ls [])) → ∀ (H : Heap) (locs : List Loc) (ls : Array Slot) (h1 : PH) (a0 : Nat) (x2 : Int32) (o3 : Option Nat), p_Q D ad p_tt s h1 H → va_S p_no s.heap H locs → p_L ls 4 [(0, .ref (ad a0)), (2, .int x2), (3, va_rf (Option.map ad o3))] → fX3_mostUrgent_59 K h1 a0 x2 o3 = some r → W p l e rX3_mostUrgent s m args below meth c H locs 0 0 (MQ below (p_Rq ad r) args s 0 0 p_no) (F0 m 59 ls []) := by
    intro K ih H locs ls h1 a0 x2 o3 hQ hS hL hf
    rw [fX3_mostUrgent_59] at hf
    refine p_aload_n (o := Option.map ad o3) hx hb dX3_mostUrgent_59 rfl (lv_at hL.1 2 rfl) ?_
    refine p_astore_n (o := Option.map ad o3) (lv' := [(1, va_rf (Option.map ad o3)), (0, .ref (ad a0)), (2, .int x2), (3, va_rf (Option.map ad o3))]) hx hb dX3_mostUrgent_60 rfl hL (by decide) rfl (fun ls hL => ?_)
    exact b61 K ih _ _ _ h1 a0 o3 x2 hQ hS (hL.sub [1, 0, 2] rfl) hf
  have b4 : ∀ n : Nat, ∀ (H : Heap) (locs : List Loc) (ls : Array Slot) (h1 : PH) (a0 : Nat) (o1 : Option Nat) (x2 : Int32), p_Q D ad p_tt s h1 H → va_S p_no s.heap H locs → p_L ls 4 [(0, .ref (ad a0)), (1, va_rf (Option.map ad o1)), (2, .int x2)] → fX3_mostUrgent_4 n h1 a0 o1 x2 = some r → W p l e rX3_mostUrgent s m args below meth c H locs 0 0 (MQ below (p_Rq ad r) args s 0 0 p_no) (F0 m 4 ls []) := by
    intro n
    induction n with
    | zero =>
      intro H locs ls h1 a0 o1 x2 hQ hS hL hf
      simp [fX3_mostUrgent_4] at hf
    | succ n ih =>
      intro H locs ls h1 a0 o1 x2 hQ hS hL hf
      rw [fX3_mostUrgent_4] at hf
      refine lv_iload_n hx hb dX3_mostUrgent_4 rfl (lv_at hL.1 2 rfl) ?_
      refine lv_aload_n hx hb dX3_mostUrgent_5 rfl (lv_at hL.1 0 rfl) ?_
      obtain ⟨a_1, e2, hf⟩ := p_b hf
      refine p_getR hC hi3 hK hQ e2 rfl (by decide) (by decide +kernel) dX3_mostUrgent_6 ?_
      obtain ⟨u3, e4, hf⟩ := p_b hf
      obtain ⟨v5, e6, hf⟩ := p_b hf
      refine p_cRi (va_runV (As := []) (rest := [.int x2]) hC (kX2_count l D ad h1 a_1 v5 e6) (cwV 0 hts gX3_mostUrgent_X2_count rfl rfl rfl (by decide +kernel) ⟨Nat.le_of_ble_eq_true rfl, Nat.le_of_ble_eq_true rfl⟩) (p_preV hK hQ.tt e4 rfl) rfl rfl hL.1.1 rfl (lv_room (Nat.le_of_ble_eq_true rfl)) dX3_mostUrgent_9 ⟨Nat.le_of_ble_eq_true rfl, Nat.le_of_ble_eq_true rfl⟩) hQ hS (fun H locs hQ hS => ?_)
      refine lv_icmp_ge (tgt := 67) hx hb dX3_mostUrgent_12 (by decide) (fun c7 => ?_) (fun c7 => ?_)
      · rw [if_pos c7] at hf
        refine p_aload_n (o := Option.map ad o1) hx hb dX3_mostUrgent_67 rfl (lv_at hL.1 1 rfl) ?_
        exact p_rRq (v := o1) hC hr hlocks hS hf dX3_mostUrgent_68
      · rw [if_neg c7] at hf
        refine lv_aload_n hx hb dX3_mostUrgent_15 rfl (lv_at hL.1 0 rfl) ?_
        obtain ⟨a_8, e9, hf⟩ := p_b hf
        refine p_getR hC hi3 hK hQ e9 rfl (by decide) (by decide +kernel) dX3_mostUrgent_16 ?_
        refine lv_iload_n hx hb dX3_mostUrgent_19 rfl (lv_at hL.1 2 rfl) ?_
        obtain ⟨u10, e11, hf⟩ := p_b hf
        obtain ⟨o_12, e13, hf⟩ := p_b hf
        refine p_cRq (va_runV (As := [.int x2]) (rest := []) hC (kX2_get l D ad h1 a_8 x2 o_12 e13) (cwV 1 hts gX3_mostUrgent_X2_get rfl rfl rfl (by decide +kernel) ⟨Nat.le_of_ble_eq_true rfl, Nat.le_of_ble_eq_true rfl⟩) (p_preV hK hQ.tt e11 rfl) rfl rfl hL.1.1 rfl (lv_room (Nat.le_of_ble_eq_true rfl)) dX3_mostUrgent_20 ⟨Nat.le_of_ble_eq_true rfl, Nat.le_of_ble_eq_true rfl⟩) hQ hS (fun H locs hQ hS => ?_)
        refine p_astore_n (o := Option.map ad o_12) (lv' := [(3, va_rf (Option.map ad o_12)), (0, .ref (ad a0)), (1, va_rf (Option.map ad o1)), (2, .int x2)]) hx hb dX3_mostUrgent_23 rfl hL (by decide) rfl (fun ls hL => ?_)
        refine p_aload_n (o := Option.map ad o_12) hx hb dX3_mostUrgent_24 rfl (lv_at hL.1 0 rfl) ?_
        cases o_12 with
        | none =>
          dsimp only at hf
          have hL : p_L ls 4 [(3, .null), (0, .ref (ad a0)), (1, va_rf (Option.map ad o1)), (2, .int x2)] := hL
          refine lv_ifnullN (tgt := 61) hx hb dX3_mostUrgent_25 (by decide) ?_
          exact b61 (fX3_mostUrgent_4 n) ih _ _ _ h1 a0 o1 x2 hQ hS (hL.sub [1, 2, 3] rfl) hf
        | some a_14 =>
          dsimp only at hf
          have hL : p_L ls 4 [(3, .ref (ad a_14)), (0, .ref (ad a0)), (1, va_rf (Option.map ad o1)), (2, .int x2)] := hL
          refine lv_ifnull hx hb dX3_mostUrgent_25 ?_
          refine lv_aload_n hx hb dX3_mostUrgent_28 rfl (lv_at hL.1 0 rfl) ?_
          obtain ⟨a_15, e16, hf⟩ := p_b hf
          refine p_getR hC hi1 hK hQ e16 rfl (by decide) (by decide +kernel) dX3_mostUrgent_29 ?_
          obtain ⟨v17, e18, hf⟩ := p_b hf
          refine p_getI hC hi0 hK hQ e18 rfl (by decide) (by decide +kernel) dX3_mostUrgent_32 ?_
          refine lv_if_eq (tgt := 61) hx hb dX3_mostUrgent_35 (by decide) (fun c19 => ?_) (fun c19 => ?_)
          · rw [if_pos c19] at hf
            exact b61 (fX3_mostUrgent_4 n) ih _ _ _ h1 a0 o1 x2 hQ hS (hL.sub [1, 2, 3] rfl) hf
          · rw [if_neg c19] at hf
            refine p_aload_n (o := Option.map ad o1) hx hb dX3_mostUrgent_38 rfl (lv_at hL.1 2 rfl) ?_
            cases o1 with
            | none =>
              dsimp only at hf
              have hL : p_L ls 4 [(3, .ref (ad a_14)), (0, .ref (ad a0)), (1, .null), (2, .int x2)] := hL
              refine lv_ifnullN (tgt := 59) hx hb dX3_mostUrgent_39 (by decide) ?_
              exact b59 (fX3_mostUrgent_4 n) ih _ _ _ h1 a0 x2 (some a_14) hQ hS (hL.sub [1, 3, 0] rfl) hf
            | some a_20 =>
              dsimp only at hf
              have hL : p_L ls 4 [(3, .ref (ad a_14)), (0, .ref (ad a0)), (1, .ref (ad a_20)), (2, .int x2)] := hL
              refine lv_ifnull hx hb dX3_mostUrgent_39 ?_
              refine lv_aload_n hx hb dX3_mostUrgent_42 rfl (lv_at hL.1 0 rfl) ?_
              obtain ⟨a_21, e22, hf⟩ := p_b hf
              refine p_getR hC hi1 hK hQ e22 rfl (by decide) (by decide +kernel) dX3_mostUrgent_43 ?_
              obtain ⟨v23, e24, hf⟩ := p_b hf
              refine p_getI hC hi0 hK hQ e24 rfl (by decide) (by decide +kernel) dX3_mostUrgent_46 ?_
              refine lv_aload_n hx hb dX3_mostUrgent_49 rfl (lv_at hL.1 2 rfl) ?_
              obtain ⟨a_25, e26, hf⟩ := p_b hf
              refine p_getR hC hi1 hK hQ e26 rfl (by decide) (by decide +kernel) dX3_mostUrgent_50 ?_
              obtain ⟨v27, e28, hf⟩ := p_b hf
              refine p_getI hC hi0 hK hQ e28 rfl (by decide) (by decide +kernel) dX3_mostUrgent_53 ?_
              refine lv_icmp_ge (tgt := 61) hx hb dX3_mostUrgent_56 (by decide) (fun c29 => ?_) (fun c29 => ?_)
              · rw [if_pos c29] at hf
                exact b61 (fX3_mostUrgent_4 n) ih _ _ _ h1 a0 (some a_20) x2 hQ hS (hL.sub [1, 2, 3] rfl) hf
              · rw [if_neg c29] at hf
                exact b59 (fX3_mostUrgent_4 n) ih _ _ _ h1 a0 x2 (some a_14) hQ hS (hL.sub [1, 3, 0] rfl) hf
  rw [fX3_mostUrgent] at hf
  refine lv_null hx hb dX3_mostUrgent_0 ?_
  refine p_astore_n (o := none) (lv' := [(1, .null), (0, .ref (ad a0))]) hx hb dX3_mostUrgent_1 rfl hL (by decide) rfl (fun ls hL => ?_)
  refine lv_iconst (v := 0) hx hb dX3_mostUrgent_2 (by decide) ?_
  refine p_istore_n (lv' := [(2, .int 0), (1, .null), (0, .ref (ad a0))]) hx hb dX3_mostUrgent_3 rfl hL (by decide) rfl (fun ls hL => ?_)
  exact b4 64 _ _ _ h a0 (none : Option Nat) 0 hQ hS (hL.sub [2, 1, 0] rfl) hf
-- X3_countMisses
abbrev rX3_countMisses : Room := { frames := 1, cells := 0, slots := 0, locals := 21 }
set_option maxHeartbeats 4000000 in
set_option maxRecDepth 100000 in
theorem kX3_countMisses (l : Launch) (D : va_G) (ad : Nat → Nat) (h : PH) (a0 : Nat) (r : PH) (hf : fX3_countMisses h a0 = some r) : Met l yX3_countMisses wsX3_countMisses rX3_countMisses (p_pre D ad (p_A ad h) h [.ref (ad a0)]) (p_Mv D ad (p_A ad h) r) 0 0 (p_A ad h) := by
  refine Met.ofW (cc := cX3_countMisses) (maxL := 3) (ret := none) (by decide) rfl ?_
  intro p e s m args below meth c s₁ B hml hv
  obtain ⟨hargs, hK, hQ⟩ := hv
  have hx := B.exec
  have hb := B.bytes
  have hr := B.returns
  have hts := atoms_spec (ws := wsX3_countMisses) B.pre
  have hown : s.vm.findClass RX3 = some m.cls := findClass_of_methodNamed B.named
  have hlocks := B.notSynchronized
  have hC : CallFix p m c cX3_countMisses 3 s args wsX3_countMisses RX3 := ⟨hx, hb, hml, hown, hts⟩
  have hS : va_S (p_A ad h) s.heap s.heap [] := va_S.rf
  have hi0 : ∀ w ∈ u_ws RX0 TX0 9, w ∈ wsX3_countMisses := fun w hw => List.mem_cons_of_mem _ (List.mem_append_left _ (List.mem_append_right _ hw))
  have hi1 : ∀ w ∈ u_ws RX1 TX1 10, w ∈ wsX3_countMisses := fun w hw => List.mem_cons_of_mem _ (List.mem_append_left _ (List.mem_append_left _ (List.mem_append_right _ hw)))
  have hi2 : ∀ w ∈ u_ws RX2 TX2 2, w ∈ wsX3_countMisses := fun w hw => List.mem_cons_of_mem _ (List.mem_append_right _ hw)
  have hi3 : ∀ w ∈ u_ws RX3 TX3 8, w ∈ wsX3_countMisses := fun w hw => List.mem_cons_of_mem _ (List.mem_append_left _ (List.mem_append_left _ (List.mem_append_left _ (List.mem_append_right _ hw))))
  obtain ⟨ls, hls, hL⟩ := p_start (n := 3) hargs (by simp [p_cat, p_ci, p_cr, p_cn]) (Nat.le_of_ble_eq_true rfl)
  show W p l e rX3_countMisses s m args below meth c s.heap [] 0 0 (MQ below (p_Mv D ad (p_A ad h) r) args s 0 0 (p_A ad h)) (entryFrame m args 3)
  rw [hls]
  clear hls
  have hL : p_L ls 3 [(0, .ref (ad a0))] := hL
  have b57 : ∀ K : PH → Nat → Int32 → Option (PH), (∀ (H : Heap) (locs : List Loc) (ls : Array Slot) (h1 : PH) (a0 : Nat) (x1 : Int32), p_Q D ad (p_A ad h) s h1 H → va_S (p_A ad h) s.heap H locs → p_L ls 3 [(0, .ref (ad a0)), (1, .int x1)] → K h1 a0 x1 = some r → W p l e rX3_countMisses s m args below meth c H locs 0 0 (MQ below (p_Mv D ad (p_A ad h) r) args s 0 0 (p_A ad h)) (F0 m 2 ls [])) → ∀ (H : Heap) (locs : List Loc) (ls : Array Slot) (h1 : PH) (a0 : Nat) (x1 : Int32), p_Q D ad (p_A ad h) s h1 H → va_S (p_A ad h) s.heap H locs → p_L ls 3 [(0, .ref (ad a0)), (1, .int x1)] → fX3_countMisses_57 K h1 a0 x1 = some r → W p l e rX3_countMisses s m args below meth c H locs 0 0 (MQ below (p_Mv D ad (p_A ad h) r) args s 0 0 (p_A ad h)) (F0 m 57 ls []) := by
    intro K ih H locs ls h1 a0 x1 hQ hS hL hf
    rw [fX3_countMisses_57] at hf
    refine p_iinc (v := (x1 + 1)) (lv' := [(1, .int (x1 + 1)), (0, .ref (ad a0))]) hx hb dX3_countMisses_57 hL (k := 1) rfl rfl (by decide) rfl (fun ls hL => ?_)
    refine lv_goto (tgt := 2) hx hb dX3_countMisses_60 (by decide) ?_
    exact ih _ _ _ h1 a0 (x1 + 1) hQ hS (hL.sub [1, 0] rfl) hf
  have b2 : ∀ n : Nat, ∀ (H : Heap) (locs : List Loc) (ls : Array Slot) (h1 : PH) (a0 : Nat) (x1 : Int32), p_Q D ad (p_A ad h) s h1 H → va_S (p_A ad h) s.heap H locs → p_L ls 3 [(0, .ref (ad a0)), (1, .int x1)] → fX3_countMisses_2 n h1 a0 x1 = some r → W p l e rX3_countMisses s m args below meth c H locs 0 0 (MQ below (p_Mv D ad (p_A ad h) r) args s 0 0 (p_A ad h)) (F0 m 2 ls []) := by
    intro n
    induction n with
    | zero =>
      intro H locs ls h1 a0 x1 hQ hS hL hf
      simp [fX3_countMisses_2] at hf
    | succ n ih =>
      intro H locs ls h1 a0 x1 hQ hS hL hf
      rw [fX3_countMisses_2] at hf
      refine lv_iload_n hx hb dX3_countMisses_2 rfl (lv_at hL.1 1 rfl) ?_
      refine lv_aload_n hx hb dX3_countMisses_3 rfl (lv_at hL.1 0 rfl) ?_
      obtain ⟨a_1, e2, hf⟩ := p_b hf
      refine p_getR hC hi3 hK hQ e2 rfl (by decide) (by decide +kernel) dX3_countMisses_4 ?_
      obtain ⟨u3, e4, hf⟩ := p_b hf
      obtain ⟨v5, e6, hf⟩ := p_b hf
      refine p_cRi (va_runV (As := []) (rest := [.int x1]) hC (kX2_count l D ad h1 a_1 v5 e6) (cwV 0 hts gX3_countMisses_X2_count rfl rfl rfl (by decide +kernel) ⟨Nat.le_of_ble_eq_true rfl, Nat.le_of_ble_eq_true rfl⟩) (p_preV hK hQ.tt e4 rfl) rfl rfl hL.1.1 rfl (lv_room (Nat.le_of_ble_eq_true rfl)) dX3_countMisses_7 ⟨Nat.le_of_ble_eq_true rfl, Nat.le_of_ble_eq_true rfl⟩) hQ hS (fun H locs hQ hS => ?_)
      refine lv_icmp_ge (tgt := 63) hx hb dX3_countMisses_10 (by decide) (fun c7 => ?_) (fun c7 => ?_)
      · rw [if_pos c7] at hf
        exact p_rMv hC hr hlocks hQ hS hf dX3_countMisses_63
      · rw [if_neg c7] at hf
        refine lv_aload_n hx hb dX3_countMisses_13 rfl (lv_at hL.1 0 rfl) ?_
        obtain ⟨a_8, e9, hf⟩ := p_b hf
        refine p_getR hC hi3 hK hQ e9 rfl (by decide) (by decide +kernel) dX3_countMisses_14 ?_
        refine lv_iload_n hx hb dX3_countMisses_17 rfl (lv_at hL.1 1 rfl) ?_
        obtain ⟨u10, e11, hf⟩ := p_b hf
        obtain ⟨o_12, e13, hf⟩ := p_b hf
        refine p_cRq (va_runV (As := [.int x1]) (rest := []) hC (kX2_get l D ad h1 a_8 x1 o_12 e13) (cwV 1 hts gX3_countMisses_X2_get rfl rfl rfl (by decide +kernel) ⟨Nat.le_of_ble_eq_true rfl, Nat.le_of_ble_eq_true rfl⟩) (p_preV hK hQ.tt e11 rfl) rfl rfl hL.1.1 rfl (lv_room (Nat.le_of_ble_eq_true rfl)) dX3_countMisses_18 ⟨Nat.le_of_ble_eq_true rfl, Nat.le_of_ble_eq_true rfl⟩) hQ hS (fun H locs hQ hS => ?_)
        refine p_astore_n (o := Option.map ad o_12) (lv' := [(2, va_rf (Option.map ad o_12)), (0, .ref (ad a0)), (1, .int x1)]) hx hb dX3_countMisses_21 rfl hL (by decide) rfl (fun ls hL => ?_)
        refine p_aload_n (o := Option.map ad o_12) hx hb dX3_countMisses_22 rfl (lv_at hL.1 0 rfl) ?_
        cases o_12 with
        | none =>
          dsimp only at hf
          have hL : p_L ls 3 [(2, .null), (0, .ref (ad a0)), (1, .int x1)] := hL
          refine lv_ifnullN (tgt := 57) hx hb dX3_countMisses_23 (by decide) ?_
          exact b57 (fX3_countMisses_2 n) ih _ _ _ h1 a0 x1 hQ hS (hL.sub [1, 2] rfl) hf
        | some a_14 =>
          dsimp only at hf
          have hL : p_L ls 3 [(2, .ref (ad a_14)), (0, .ref (ad a0)), (1, .int x1)] := hL
          refine lv_ifnull hx hb dX3_countMisses_23 ?_
          refine lv_aload_n hx hb dX3_countMisses_26 rfl (lv_at hL.1 0 rfl) ?_
          obtain ⟨a_15, e16, hf⟩ := p_b hf
          refine p_getR hC hi1 hK hQ e16 rfl (by decide) (by decide +kernel) dX3_countMisses_27 ?_
          obtain ⟨v17, e18, hf⟩ := p_b hf
          refine p_getI hC hi0 hK hQ e18 rfl (by decide) (by decide +kernel) dX3_countMisses_30 ?_
          refine lv_if_eq (tgt := 57) hx hb dX3_countMisses_33 (by decide) (fun c19 => ?_) (fun c19 => ?_)
          · rw [if_pos c19] at hf
            exact b57 (fX3_countMisses_2 n) ih _ _ _ h1 a0 x1 hQ hS (hL.sub [1, 2] rfl) hf
          · rw [if_neg c19] at hf
            refine lv_aload_n hx hb dX3_countMisses_36 rfl (lv_at hL.1 0 rfl) ?_
            obtain ⟨a_20, e21, hf⟩ := p_b hf
            refine p_getR hC hi1 hK hQ e21 rfl (by decide) (by decide +kernel) dX3_countMisses_37 ?_
            obtain ⟨v22, e23, hf⟩ := p_b hf
            refine p_getI hC hi0 hK hQ e23 rfl (by decide) (by decide +kernel) dX3_countMisses_40 ?_
            refine lv_aload_n hx hb dX3_countMisses_43 rfl (lv_at hL.1 1 rfl) ?_
            obtain ⟨v24, e25, hf⟩ := p_b hf
            refine p_getI hC hi3 hK hQ e25 rfl (by decide) (by decide +kernel) dX3_countMisses_44 ?_
            refine lv_icmp_ne (tgt := 57) hx hb dX3_countMisses_47 (by decide) (fun c26 => ?_) (fun c26 => ?_)
            · rw [if_neg c26] at hf
              exact b57 (fX3_countMisses_2 n) ih _ _ _ h1 a0 x1 hQ hS (hL.sub [1, 2] rfl) hf
            · rw [if_pos c26] at hf
              refine lv_aload_n hx hb dX3_countMisses_50 rfl (lv_at hL.1 0 rfl) ?_
              obtain ⟨a_27, e28, hf⟩ := p_b hf
              refine p_getR hC hi1 hK hQ e28 rfl (by decide) (by decide +kernel) dX3_countMisses_51 ?_
              obtain ⟨u29, e30, hf⟩ := p_b hf
              obtain ⟨h_31, e32, hf⟩ := p_b hf
              refine p_cMv (va_runV (As := []) (rest := []) hC (kX0_miss l D ad h1 a_27 h_31 e32) (cwV 0 hts gX3_countMisses_X0_miss rfl rfl rfl (by decide +kernel) ⟨Nat.le_of_ble_eq_true rfl, Nat.le_of_ble_eq_true rfl⟩) (p_preV hK hQ.self e30 rfl) rfl rfl hL.1.1 rfl (lv_room (Nat.le_of_ble_eq_true rfl)) dX3_countMisses_54 ⟨Nat.le_of_ble_eq_true rfl, Nat.le_of_ble_eq_true rfl⟩) hQ hS (fun H locs hQ hS => ?_)
              exact b57 (fX3_countMisses_2 n) ih _ _ _ h_31 a0 x1 hQ hS (hL.sub [1, 2] rfl) hf
  rw [fX3_countMisses] at hf
  refine lv_iconst (v := 0) hx hb dX3_countMisses_0 (by decide) ?_
  refine p_istore_n (lv' := [(1, .int 0), (0, .ref (ad a0))]) hx hb dX3_countMisses_1 rfl hL (by decide) rfl (fun ls hL => ?_)
  exact b2 64 _ _ _ h a0 0 hQ hS (hL.sub [1, 0] rfl) hf
-- X3_passTick
abbrev rX3_passTick : Room := { frames := 3, cells := 0, slots := 0, locals := 64 }
set_option maxHeartbeats 4000000 in
set_option maxRecDepth 100000 in
theorem kX3_passTick (l : Launch) (D : va_G) (ad : Nat → Nat) (h : PH) (a0 : Nat) (r : PH) (hf : fX3_passTick h a0 = some r) : Met l yX3_passTick wsX3_passTick rX3_passTick (p_pre D ad (p_A ad h) h [.ref (ad a0)]) (p_Mv D ad (p_A ad h) r) 0 0 (p_A ad h) := by
  refine Met.ofW (cc := cX3_passTick) (maxL := 2) (ret := none) (by decide) rfl ?_
  intro p e s m args below meth c s₁ B hml hv
  obtain ⟨hargs, hK, hQ⟩ := hv
  have hx := B.exec
  have hb := B.bytes
  have hr := B.returns
  have hts := atoms_spec (ws := wsX3_passTick) B.pre
  have hown : s.vm.findClass RX3 = some m.cls := findClass_of_methodNamed B.named
  have hlocks := B.notSynchronized
  have hC : CallFix p m c cX3_passTick 2 s args wsX3_passTick RX3 := ⟨hx, hb, hml, hown, hts⟩
  have hS : va_S (p_A ad h) s.heap s.heap [] := va_S.rf
  have hi0 : ∀ w ∈ u_ws RX0 TX0 9, w ∈ wsX3_passTick := fun w hw => List.mem_cons_of_mem _ (List.mem_append_left _ (List.mem_append_left _ (List.mem_append_right _ hw)))
  have hi1 : ∀ w ∈ u_ws RX1 TX1 10, w ∈ wsX3_passTick := fun w hw => List.mem_cons_of_mem _ (List.mem_append_left _ (List.mem_append_left _ (List.mem_append_left _ (List.mem_append_right _ hw))))
  have hi3 : ∀ w ∈ u_ws RX3 TX3 8, w ∈ wsX3_passTick := fun w hw => List.mem_cons_of_mem _ (List.mem_append_left _ (List.mem_append_right _ hw))
  obtain ⟨ls, hls, hL⟩ := p_start (n := 2) hargs (by simp [p_cat, p_ci, p_cr, p_cn]) (Nat.le_of_ble_eq_true rfl)
  show W p l e rX3_passTick s m args below meth c s.heap [] 0 0 (MQ below (p_Mv D ad (p_A ad h) r) args s 0 0 (p_A ad h)) (entryFrame m args 2)
  rw [hls]
  clear hls
  have hL : p_L ls 2 [(0, .ref (ad a0))] := hL
  have b74 : ∀ (H : Heap) (locs : List Loc) (ls : Array Slot) (h1 : PH) (a0 : Nat), p_Q D ad (p_A ad h) s h1 H → va_S (p_A ad h) s.heap H locs → p_L ls 2 [(0, .ref (ad a0))] → fX3_passTick_74 h1 a0 = some r → W p l e rX3_passTick s m args below meth c H locs 0 0 (MQ below (p_Mv D ad (p_A ad h) r) args s 0 0 (p_A ad h)) (F0 m 74 ls []) := by
    intro H locs ls h1 a0 hQ hS hL hf
    rw [fX3_passTick_74] at hf
    refine lv_aload_n hx hb dX3_passTick_74 rfl (lv_at hL.1 0 rfl) ?_
    obtain ⟨u1, e2, hf⟩ := p_b hf
    obtain ⟨h_3, e4, hf⟩ := p_b hf
    refine p_cMv (va_runV (As := []) (rest := []) hC (kX3_countMisses l D ad h1 a0 h_3 e4) (cwV 0 hts gX3_passTick_X3_countMisses rfl rfl rfl (by decide +kernel) ⟨Nat.le_of_ble_eq_true rfl, Nat.le_of_ble_eq_true rfl⟩) (p_preV hK hQ.self e2 rfl) rfl rfl hL.1.1 rfl (lv_room (Nat.le_of_ble_eq_true rfl)) dX3_passTick_75 ⟨Nat.le_of_ble_eq_true rfl, Nat.le_of_ble_eq_true rfl⟩) hQ hS (fun H locs hQ hS => ?_)
    exact p_rMv hC hr hlocks hQ hS hf dX3_passTick_78
  have b26 : ∀ (H : Heap) (locs : List Loc) (ls : Array Slot) (h1 : PH) (a0 : Nat) (o1 : Option Nat), p_Q D ad (p_A ad h) s h1 H → va_S (p_A ad h) s.heap H locs → p_L ls 2 [(0, .ref (ad a0)), (1, va_rf (Option.map ad o1))] → fX3_passTick_26 h1 a0 o1 = some r → W p l e rX3_passTick s m args below meth c H locs 0 0 (MQ below (p_Mv D ad (p_A ad h) r) args s 0 0 (p_A ad h)) (F0 m 26 ls []) := by
    intro H locs ls h1 a0 o1 hQ hS hL hf
    rw [fX3_passTick_26] at hf
    refine lv_aload_n hx hb dX3_passTick_26 rfl (lv_at hL.1 0 rfl) ?_
    refine lv_dup hx hb dX3_passTick_27 rfl ?_
    obtain ⟨v5, e6, hf⟩ := p_b hf
    refine p_getI hC hi3 hK hQ e6 rfl (by decide) (by decide +kernel) dX3_passTick_28 ?_
    refine lv_iconst (v := 1) hx hb dX3_passTick_31 (by decide) ?_
    refine lv_iadd hx hb dX3_passTick_32 ?_
    obtain ⟨h_7, e8, hf⟩ := p_b hf
    refine p_putI hC hi3 tyX3_ok nmX3 hK hQ hS e8 rfl (by decide) rfl rfl (by decide +kernel) dX3_passTick_33 (fun H locs hQ hS => ?_)
    refine p_aload_n (o := Option.map ad o1) hx hb dX3_passTick_36 rfl (lv_at hL.1 1 rfl) ?_
    cases o1 with
    | none =>
      dsimp only at hf
      have hL : p_L ls 2 [(0, .ref (ad a0)), (1, .null)] := hL
      refine lv_ifnullN (tgt := 74) hx hb dX3_passTick_37 (by decide) ?_
      exact b74 _ _ _ h_7 a0 hQ hS (hL.sub [0] rfl) hf
    | some a_9 =>
      dsimp only at hf
      have hL : p_L ls 2 [(0, .ref (ad a0)), (1, .ref (ad a_9))] := hL
      refine lv_ifnull hx hb dX3_passTick_37 ?_
      refine lv_aload_n hx hb dX3_passTick_40 rfl (lv_at hL.1 1 rfl) ?_
      obtain ⟨a_10, e11, hf⟩ := p_b hf
      refine p_getR hC hi1 hK hQ e11 rfl (by decide) (by decide +kernel) dX3_passTick_41 ?_
      obtain ⟨v12, e13, hf⟩ := p_b hf
      refine p_getI hC hi0 hK hQ e13 rfl (by decide) (by decide +kernel) dX3_passTick_44 ?_
      refine lv_aload_n hx hb dX3_passTick_47 rfl (lv_at hL.1 1 rfl) ?_
      obtain ⟨a_14, e15, hf⟩ := p_b hf
      refine p_getR hC hi1 hK hQ e15 rfl (by decide) (by decide +kernel) dX3_passTick_48 ?_
      obtain ⟨v16, e17, hf⟩ := p_b hf
      refine p_getI hC hi0 hK hQ e17 rfl (by decide) (by decide +kernel) dX3_passTick_51 ?_
      refine lv_icmp_lt (tgt := 74) hx hb dX3_passTick_54 (by decide) (fun c18 => ?_) (fun c18 => ?_)
      · rw [if_pos c18] at hf
        exact b74 _ _ _ h_7 a0 hQ hS (hL.sub [0] rfl) hf
      · rw [if_neg c18] at hf
        refine lv_aload_n hx hb dX3_passTick_57 rfl (lv_at hL.1 1 rfl) ?_
        refine lv_dup hx hb dX3_passTick_58 rfl ?_
        obtain ⟨v19, e20, hf⟩ := p_b hf
        refine p_getI hC hi1 hK hQ e20 rfl (by decide) (by decide +kernel) dX3_passTick_59 ?_
        refine lv_iconst (v := 1) hx hb dX3_passTick_62 (by decide) ?_
        refine lv_iadd hx hb dX3_passTick_63 ?_
        obtain ⟨h_21, e22, hf⟩ := p_b hf
        refine p_putI hC hi1 tyX1_ok nmX1 hK hQ hS e22 rfl (by decide) rfl rfl (by decide +kernel) dX3_passTick_64 (fun H locs hQ hS => ?_)
        refine lv_aload_n hx hb dX3_passTick_67 rfl (lv_at hL.1 1 rfl) ?_
        obtain ⟨a_23, e24, hf⟩ := p_b hf
        refine p_getR hC hi1 hK hQ e24 rfl (by decide) (by decide +kernel) dX3_passTick_68 ?_
        obtain ⟨u25, e26, hf⟩ := p_b hf
        obtain ⟨h_27, e28, hf⟩ := p_b hf
        refine p_cMv (va_runV (As := []) (rest := []) hC (kX0_finish l D ad h_21 a_23 h_27 e28) (cwV 0 hts gX3_passTick_X0_finish rfl rfl rfl (by decide +kernel) ⟨Nat.le_of_ble_eq_true rfl, Nat.le_of_ble_eq_true rfl⟩) (p_preV hK hQ.self e26 rfl) rfl rfl hL.1.1 rfl (lv_room (Nat.le_of_ble_eq_true rfl)) dX3_passTick_71 ⟨Nat.le_of_ble_eq_true rfl, Nat.le_of_ble_eq_true rfl⟩) hQ hS (fun H locs hQ hS => ?_)
        exact b74 _ _ _ h_27 a0 hQ hS (hL.sub [0] rfl) hf
  rw [fX3_passTick] at hf
  refine lv_aload_n hx hb dX3_passTick_0 rfl (lv_at hL.1 0 rfl) ?_
  obtain ⟨u29, e30, hf⟩ := p_b hf
  obtain ⟨h_31, e32, hf⟩ := p_b hf
  refine p_cMv (va_runV (As := []) (rest := []) hC (kX3_beginFrames l D ad h a0 h_31 e32) (cwV 0 hts gX3_passTick_X3_beginFrames rfl rfl rfl (by decide +kernel) ⟨Nat.le_of_ble_eq_true rfl, Nat.le_of_ble_eq_true rfl⟩) (p_preV hK hQ.self e30 rfl) rfl rfl hL.1.1 rfl (lv_room (Nat.le_of_ble_eq_true rfl)) dX3_passTick_1 ⟨Nat.le_of_ble_eq_true rfl, Nat.le_of_ble_eq_true rfl⟩) hQ hS (fun H locs hQ hS => ?_)
  refine lv_aload_n hx hb dX3_passTick_4 rfl (lv_at hL.1 0 rfl) ?_
  obtain ⟨u33, e34, hf⟩ := p_b hf
  obtain ⟨o_35, e36, hf⟩ := p_b hf
  refine p_cRq (va_runV (As := []) (rest := []) hC (kX3_mostUrgent l D ad h_31 a0 o_35 e36) (cwV 0 hts gX3_passTick_X3_mostUrgent rfl rfl rfl (by decide +kernel) ⟨Nat.le_of_ble_eq_true rfl, Nat.le_of_ble_eq_true rfl⟩) (p_preV hK hQ.tt e34 rfl) rfl rfl hL.1.1 rfl (lv_room (Nat.le_of_ble_eq_true rfl)) dX3_passTick_5 ⟨Nat.le_of_ble_eq_true rfl, Nat.le_of_ble_eq_true rfl⟩) hQ hS (fun H locs hQ hS => ?_)
  refine p_astore_n (o := Option.map ad o_35) (lv' := [(1, va_rf (Option.map ad o_35)), (0, .ref (ad a0))]) hx hb dX3_passTick_8 rfl hL (by decide) rfl (fun ls hL => ?_)
  refine p_aload_n (o := Option.map ad o_35) hx hb dX3_passTick_9 rfl (lv_at hL.1 0 rfl) ?_
  cases o_35 with
  | none =>
    dsimp only at hf
    have hL : p_L ls 2 [(1, .null), (0, .ref (ad a0))] := hL
    refine lv_ifnullN (tgt := 26) hx hb dX3_passTick_10 (by decide) ?_
    exact b26 _ _ _ h_31 a0 (none : Option Nat) hQ hS (hL.sub [1, 0] rfl) hf
  | some a_37 =>
    dsimp only at hf
    have hL : p_L ls 2 [(1, .ref (ad a_37)), (0, .ref (ad a0))] := hL
    refine lv_ifnull hx hb dX3_passTick_10 ?_
    refine lv_aload_n hx hb dX3_passTick_13 rfl (lv_at hL.1 0 rfl) ?_
    obtain ⟨a_38, e39, hf⟩ := p_b hf
    refine p_getR hC hi1 hK hQ e39 rfl (by decide) (by decide +kernel) dX3_passTick_14 ?_
    refine lv_dup hx hb dX3_passTick_17 rfl ?_
    obtain ⟨v40, e41, hf⟩ := p_b hf
    refine p_getI hC hi0 hK hQ e41 rfl (by decide) (by decide +kernel) dX3_passTick_18 ?_
    refine lv_iconst (v := 1) hx hb dX3_passTick_21 (by decide) ?_
    refine lv_iadd hx hb dX3_passTick_22 ?_
    obtain ⟨h_42, e43, hf⟩ := p_b hf
    refine p_putI hC hi0 tyX0_ok nmX0 hK hQ hS e43 rfl (by decide) rfl rfl (by decide +kernel) dX3_passTick_23 (fun H locs hQ hS => ?_)
    exact b26 _ _ _ h_42 a0 (some a_37) hQ hS (hL.sub [1, 0] rfl) hf
-- X3_numberOf
abbrev rX3_numberOf : Room := { frames := 0, cells := 0, slots := 0, locals := 0 }
set_option maxHeartbeats 4000000 in
set_option maxRecDepth 100000 in
theorem kX3_numberOf (l : Launch) (D : va_G) (ad : Nat → Nat) (h : PH) (o0 : Option Nat) (r : Int32) (hf : fX3_numberOf h o0 = some r) : Met l yX3_numberOf wsX3_numberOf rX3_numberOf (p_pre D ad p_tt h [va_rf (Option.map ad o0)]) (p_Ri r) 0 0 p_no := by
  refine Met.ofW (cc := cX3_numberOf) (maxL := 1) (ret := (some .int)) (by decide) rfl ?_
  intro p e s m args below meth c s₁ B hml hv
  obtain ⟨hargs, hK, hQ⟩ := hv
  have hx := B.exec
  have hb := B.bytes
  have hr := B.returns
  have hts := atoms_spec (ws := wsX3_numberOf) B.pre
  have hown : s.vm.findClass RX3 = some m.cls := findClass_of_methodNamed B.named
  have hlocks := B.notSynchronized
  have hC : CallFix p m c cX3_numberOf 1 s args wsX3_numberOf RX3 := ⟨hx, hb, hml, hown, hts⟩
  have hS : va_S p_no s.heap s.heap [] := va_S.rf
  have hi1 : ∀ w ∈ u_ws RX1 TX1 10, w ∈ wsX3_numberOf := fun w hw => List.mem_cons_of_mem _ (List.mem_append_right _ hw)
  obtain ⟨ls, hls, hL⟩ := p_start (n := 1) hargs (by simp [p_cat, p_ci, p_cr, p_cn]) (Nat.le_of_ble_eq_true rfl)
  show W p l e rX3_numberOf s m args below meth c s.heap [] 0 0 (MQ below (p_Ri r) args s 0 0 p_no) (entryFrame m args 1)
  rw [hls]
  clear hls
  have hL : p_L ls 1 [(0, va_rf (Option.map ad o0))] := hL
  have b12 : ∀ (H : Heap) (locs : List Loc) (ls : Array Slot) (h1 : PH) (sx0 : Int32), p_Q D ad p_tt s h1 H → va_S p_no s.heap H locs → p_L ls 1 [] → fX3_numberOf_12 h1 sx0 = some r → W p l e rX3_numberOf s m args below meth c H locs 0 0 (MQ below (p_Ri r) args s 0 0 p_no) (F0 m 12 ls [.int sx0]) := by
    intro H locs ls h1 sx0 hQ hS hL hf
    rw [fX3_numberOf_12] at hf
    exact p_rRi hC hr hlocks hS hf dX3_numberOf_12
  unfold fX3_numberOf at hf
  refine p_aload_n (o := Option.map ad o0) hx hb dX3_numberOf_0 rfl (lv_at hL.1 0 rfl) ?_
  cases o0 with
  | none =>
    dsimp only at hf
    have hL : p_L ls 1 [(0, .null)] := hL
    refine lv_ifnonnullN hx hb dX3_numberOf_1 ?_
    refine lv_iconst (v := -1) hx hb dX3_numberOf_4 (by decide) ?_
    refine lv_goto (tgt := 12) hx hb dX3_numberOf_5 (by decide) ?_
    exact b12 _ _ _ h (-1) hQ hS (hL.sub [] rfl) hf
  | some a_1 =>
    dsimp only at hf
    have hL : p_L ls 1 [(0, .ref (ad a_1))] := hL
    refine lv_ifnonnull (tgt := 8) hx hb dX3_numberOf_1 (by decide) ?_
    refine lv_aload_n hx hb dX3_numberOf_8 rfl (lv_at hL.1 0 rfl) ?_
    obtain ⟨v2, e3, hf⟩ := p_b hf
    refine p_getI hC hi1 hK hQ e3 rfl (by decide) (by decide +kernel) dX3_numberOf_9 ?_
    exact b12 _ _ _ h v2 hQ hS (hL.sub [] rfl) hf
-- X3_pictureOf
abbrev rX3_pictureOf : Room := { frames := 0, cells := 0, slots := 0, locals := 0 }
set_option maxHeartbeats 4000000 in
set_option maxRecDepth 100000 in
theorem kX3_pictureOf (l : Launch) (D : va_G) (ad : Nat → Nat) (h : PH) (o0 : Option Nat) (r : Int32) (hf : fX3_pictureOf h o0 = some r) : Met l yX3_pictureOf wsX3_pictureOf rX3_pictureOf (p_pre D ad p_tt h [va_rf (Option.map ad o0)]) (p_Ri r) 0 0 p_no := by
  refine Met.ofW (cc := cX3_pictureOf) (maxL := 1) (ret := (some .int)) (by decide) rfl ?_
  intro p e s m args below meth c s₁ B hml hv
  obtain ⟨hargs, hK, hQ⟩ := hv
  have hx := B.exec
  have hb := B.bytes
  have hr := B.returns
  have hts := atoms_spec (ws := wsX3_pictureOf) B.pre
  have hown : s.vm.findClass RX3 = some m.cls := findClass_of_methodNamed B.named
  have hlocks := B.notSynchronized
  have hC : CallFix p m c cX3_pictureOf 1 s args wsX3_pictureOf RX3 := ⟨hx, hb, hml, hown, hts⟩
  have hS : va_S p_no s.heap s.heap [] := va_S.rf
  have hi1 : ∀ w ∈ u_ws RX1 TX1 10, w ∈ wsX3_pictureOf := fun w hw => List.mem_cons_of_mem _ (List.mem_append_right _ hw)
  obtain ⟨ls, hls, hL⟩ := p_start (n := 1) hargs (by simp [p_cat, p_ci, p_cr, p_cn]) (Nat.le_of_ble_eq_true rfl)
  show W p l e rX3_pictureOf s m args below meth c s.heap [] 0 0 (MQ below (p_Ri r) args s 0 0 p_no) (entryFrame m args 1)
  rw [hls]
  clear hls
  have hL : p_L ls 1 [(0, va_rf (Option.map ad o0))] := hL
  have b12 : ∀ (H : Heap) (locs : List Loc) (ls : Array Slot) (h1 : PH) (sx0 : Int32), p_Q D ad p_tt s h1 H → va_S p_no s.heap H locs → p_L ls 1 [] → fX3_pictureOf_12 h1 sx0 = some r → W p l e rX3_pictureOf s m args below meth c H locs 0 0 (MQ below (p_Ri r) args s 0 0 p_no) (F0 m 12 ls [.int sx0]) := by
    intro H locs ls h1 sx0 hQ hS hL hf
    rw [fX3_pictureOf_12] at hf
    exact p_rRi hC hr hlocks hS hf dX3_pictureOf_12
  unfold fX3_pictureOf at hf
  refine p_aload_n (o := Option.map ad o0) hx hb dX3_pictureOf_0 rfl (lv_at hL.1 0 rfl) ?_
  cases o0 with
  | none =>
    dsimp only at hf
    have hL : p_L ls 1 [(0, .null)] := hL
    refine lv_ifnonnullN hx hb dX3_pictureOf_1 ?_
    refine lv_iconst (v := 0) hx hb dX3_pictureOf_4 (by decide) ?_
    refine lv_goto (tgt := 12) hx hb dX3_pictureOf_5 (by decide) ?_
    exact b12 _ _ _ h 0 hQ hS (hL.sub [] rfl) hf
  | some a_1 =>
    dsimp only at hf
    have hL : p_L ls 1 [(0, .ref (ad a_1))] := hL
    refine lv_ifnonnull (tgt := 8) hx hb dX3_pictureOf_1 (by decide) ?_
    refine lv_aload_n hx hb dX3_pictureOf_8 rfl (lv_at hL.1 0 rfl) ?_
    obtain ⟨v2, e3, hf⟩ := p_b hf
    refine p_getI hC hi1 hK hQ e3 rfl (by decide) (by decide +kernel) dX3_pictureOf_9 ?_
    exact b12 _ _ _ h v2 hQ hS (hL.sub [] rfl) hf
-- X3_countDamage
abbrev rX3_countDamage : Room := { frames := 1, cells := 0, slots := 0, locals := 20 }
set_option maxHeartbeats 4000000 in
set_option maxRecDepth 100000 in
theorem kX3_countDamage (l : Launch) (D : va_G) (ad : Nat → Nat) (h : PH) (a0 : Nat) (r : Int32) (hf : fX3_countDamage h a0 = some r) : Met l yX3_countDamage wsX3_countDamage rX3_countDamage (p_pre D ad p_tt h [.ref (ad a0)]) (p_Ri r) 0 0 p_no := by
  refine Met.ofW (cc := cX3_countDamage) (maxL := 4) (ret := (some .int)) (by decide) rfl ?_
  intro p e s m args below meth c s₁ B hml hv
  obtain ⟨hargs, hK, hQ⟩ := hv
  have hx := B.exec
  have hb := B.bytes
  have hr := B.returns
  have hts := atoms_spec (ws := wsX3_countDamage) B.pre
  have hown : s.vm.findClass RX3 = some m.cls := findClass_of_methodNamed B.named
  have hlocks := B.notSynchronized
  have hC : CallFix p m c cX3_countDamage 4 s args wsX3_countDamage RX3 := ⟨hx, hb, hml, hown, hts⟩
  have hS : va_S p_no s.heap s.heap [] := va_S.rf
  have hi3 : ∀ w ∈ u_ws RX3 TX3 8, w ∈ wsX3_countDamage := fun w hw => List.mem_cons_of_mem _ (List.mem_append_left _ (List.mem_append_right _ hw))
  obtain ⟨ls, hls, hL⟩ := p_start (n := 4) hargs (by simp [p_cat, p_ci, p_cr, p_cn]) (Nat.le_of_ble_eq_true rfl)
  show W p l e rX3_countDamage s m args below meth c s.heap [] 0 0 (MQ below (p_Ri r) args s 0 0 p_no) (entryFrame m args 4)
  rw [hls]
  clear hls
  have hL : p_L ls 4 [(0, .ref (ad a0))] := hL
  have b46 : ∀ K : PH → Nat → Int32 → Int32 → Option (Int32), (∀ (H : Heap) (locs : List Loc) (ls : Array Slot) (h1 : PH) (a0 : Nat) (x1 : Int32) (x2 : Int32), p_Q D ad p_tt s h1 H → va_S p_no s.heap H locs → p_L ls 4 [(0, .ref (ad a0)), (1, .int x1), (2, .int x2)] → K h1 a0 x1 x2 = some r → W p l e rX3_countDamage s m args below meth c H locs 0 0 (MQ below (p_Ri r) args s 0 0 p_no) (F0 m 4 ls [])) → ∀ (H : Heap) (locs : List Loc) (ls : Array Slot) (h1 : PH) (a0 : Nat) (x1 : Int32) (x2 : Int32), p_Q D ad p_tt s h1 H → va_S p_no s.heap H locs → p_L ls 4 [(0, .ref (ad a0)), (1, .int x1), (2, .int x2)] → fX3_countDamage_46 K h1 a0 x1 x2 = some r → W p l e rX3_countDamage s m args below meth c H locs 0 0 (MQ below (p_Ri r) args s 0 0 p_no) (F0 m 46 ls []) := by
    intro K ih H locs ls h1 a0 x1 x2 hQ hS hL hf
    rw [fX3_countDamage_46] at hf
    refine p_iinc (v := (x2 + 1)) (lv' := [(2, .int (x2 + 1)), (0, .ref (ad a0)), (1, .int x1)]) hx hb dX3_countDamage_46 hL (k := 2) rfl rfl (by decide) rfl (fun ls hL => ?_)
    refine lv_goto (tgt := 4) hx hb dX3_countDamage_49 (by decide) ?_
    exact ih _ _ _ h1 a0 x1 (x2 + 1) hQ hS (hL.sub [1, 2, 0] rfl) hf
  have b43 : ∀ K : PH → Nat → Int32 → Int32 → Option (Int32), (∀ (H : Heap) (locs : List Loc) (ls : Array Slot) (h1 : PH) (a0 : Nat) (x1 : Int32) (x2 : Int32), p_Q D ad p_tt s h1 H → va_S p_no s.heap H locs → p_L ls 4 [(0, .ref (ad a0)), (1, .int x1), (2, .int x2)] → K h1 a0 x1 x2 = some r → W p l e rX3_countDamage s m args below meth c H locs 0 0 (MQ below (p_Ri r) args s 0 0 p_no) (F0 m 4 ls [])) → ∀ (H : Heap) (locs : List Loc) (ls : Array Slot) (h1 : PH) (a0 : Nat) (x1 : Int32) (x2 : Int32), p_Q D ad p_tt s h1 H → va_S p_no s.heap H locs → p_L ls 4 [(0, .ref (ad a0)), (1, .int x1), (2, .int x2)] → fX3_countDamage_43 K h1 a0 x1 x2 = some r → W p l e rX3_countDamage s m args below meth c H locs 0 0 (MQ below (p_Ri r) args s 0 0 p_no) (F0 m 43 ls []) := by
    intro K ih H locs ls h1 a0 x1 x2 hQ hS hL hf
    rw [fX3_countDamage_43] at hf
    refine p_iinc (v := (x1 + 1)) (lv' := [(1, .int (x1 + 1)), (0, .ref (ad a0)), (2, .int x2)]) hx hb dX3_countDamage_43 hL (k := 1) rfl rfl (by decide) rfl (fun ls hL => ?_)
    exact b46 K ih _ _ _ h1 a0 (x1 + 1) x2 hQ hS (hL.sub [1, 0, 2] rfl) hf
  have b4 : ∀ n : Nat, ∀ (H : Heap) (locs : List Loc) (ls : Array Slot) (h1 : PH) (a0 : Nat) (x1 : Int32) (x2 : Int32), p_Q D ad p_tt s h1 H → va_S p_no s.heap H locs → p_L ls 4 [(0, .ref (ad a0)), (1, .int x1), (2, .int x2)] → fX3_countDamage_4 n h1 a0 x1 x2 = some r → W p l e rX3_countDamage s m args below meth c H locs 0 0 (MQ below (p_Ri r) args s 0 0 p_no) (F0 m 4 ls []) := by
    intro n
    induction n with
    | zero =>
      intro H locs ls h1 a0 x1 x2 hQ hS hL hf
      simp [fX3_countDamage_4] at hf
    | succ n ih =>
      intro H locs ls h1 a0 x1 x2 hQ hS hL hf
      rw [fX3_countDamage_4] at hf
      refine lv_iload_n hx hb dX3_countDamage_4 rfl (lv_at hL.1 2 rfl) ?_
      refine lv_bipush (v := 48) hx hb dX3_countDamage_5 (by decide) ?_
      refine lv_icmp_ge (tgt := 52) hx hb dX3_countDamage_7 (by decide) (fun c1 => ?_) (fun c1 => ?_)
      · rw [if_pos c1] at hf
        refine lv_iload_n hx hb dX3_countDamage_52 rfl (lv_at hL.1 1 rfl) ?_
        exact p_rRi hC hr hlocks hS hf dX3_countDamage_53
      · rw [if_neg c1] at hf
        refine lv_aload_n hx hb dX3_countDamage_10 rfl (lv_at hL.1 0 rfl) ?_
        obtain ⟨a_2, e3, hf⟩ := p_b hf
        refine p_getR hC hi3 hK hQ e3 rfl (by decide) (by decide +kernel) dX3_countDamage_11 ?_
        refine lv_iload_n hx hb dX3_countDamage_14 rfl (lv_at hL.1 2 rfl) ?_
        obtain ⟨o_5, e4, hf⟩ := p_b hf
        refine p_aald hC hQ e4 dX3_countDamage_15 ?_
        refine p_astore_n (o := Option.map ad o_5) (lv' := [(3, va_rf (Option.map ad o_5)), (0, .ref (ad a0)), (1, .int x1), (2, .int x2)]) hx hb dX3_countDamage_16 rfl hL (by decide) rfl (fun ls hL => ?_)
        refine p_aload_n (o := Option.map ad o_5) hx hb dX3_countDamage_17 rfl (lv_at hL.1 0 rfl) ?_
        obtain ⟨v6, e7, hf⟩ := p_b hf
        refine p_cRi (va_runS (As := [va_rf (Option.map ad o_5)]) (rest := []) hC (kX3_numberOf l D ad h1 o_5 v6 e7) (cwS 1 hts gX3_countDamage_X3_numberOf rfl rfl rfl (by decide +kernel) ⟨Nat.le_of_ble_eq_true rfl, Nat.le_of_ble_eq_true rfl⟩) (p_preS hK hQ.tt) rfl rfl hL.1.1 rfl (lv_room (Nat.le_of_ble_eq_true rfl)) dX3_countDamage_18 ⟨Nat.le_of_ble_eq_true rfl, Nat.le_of_ble_eq_true rfl⟩) hQ hS (fun H locs hQ hS => ?_)
        refine lv_aload_n hx hb dX3_countDamage_21 rfl (lv_at hL.1 1 rfl) ?_
        obtain ⟨a_8, e9, hf⟩ := p_b hf
        refine p_getR hC hi3 hK hQ e9 rfl (by decide) (by decide +kernel) dX3_countDamage_22 ?_
        refine lv_iload_n hx hb dX3_countDamage_25 rfl (lv_at hL.1 3 rfl) ?_
        obtain ⟨v11, e10, hf⟩ := p_b hf
        refine p_iald hC hQ e10 dX3_countDamage_26 ?_
        refine lv_icmp_ne (tgt := 43) hx hb dX3_countDamage_27 (by decide) (fun c12 => ?_) (fun c12 => ?_)
        · rw [if_neg c12] at hf
          exact b43 (fX3_countDamage_4 n) ih _ _ _ h1 a0 x1 x2 hQ hS (hL.sub [1, 2, 3] rfl) hf
        · rw [if_pos c12] at hf
          refine p_aload_n (o := Option.map ad o_5) hx hb dX3_countDamage_30 rfl (lv_at hL.1 0 rfl) ?_
          obtain ⟨v13, e14, hf⟩ := p_b hf
          refine p_cRi (va_runS (As := [va_rf (Option.map ad o_5)]) (rest := []) hC (kX3_pictureOf l D ad h1 o_5 v13 e14) (cwS 1 hts gX3_countDamage_X3_pictureOf rfl rfl rfl (by decide +kernel) ⟨Nat.le_of_ble_eq_true rfl, Nat.le_of_ble_eq_true rfl⟩) (p_preS hK hQ.tt) rfl rfl hL.1.1 rfl (lv_room (Nat.le_of_ble_eq_true rfl)) dX3_countDamage_31 ⟨Nat.le_of_ble_eq_true rfl, Nat.le_of_ble_eq_true rfl⟩) hQ hS (fun H locs hQ hS => ?_)
          refine lv_aload_n hx hb dX3_countDamage_34 rfl (lv_at hL.1 1 rfl) ?_
          obtain ⟨a_15, e16, hf⟩ := p_b hf
          refine p_getR hC hi3 hK hQ e16 rfl (by decide) (by decide +kernel) dX3_countDamage_35 ?_
          refine lv_iload_n hx hb dX3_countDamage_38 rfl (lv_at hL.1 3 rfl) ?_
          obtain ⟨v18, e17, hf⟩ := p_b hf
          refine p_iald hC hQ e17 dX3_countDamage_39 ?_
          refine lv_icmp_eq (tgt := 46) hx hb dX3_countDamage_40 (by decide) (fun c19 => ?_) (fun c19 => ?_)
          · rw [if_pos c19] at hf
            exact b46 (fX3_countDamage_4 n) ih _ _ _ h1 a0 x1 x2 hQ hS (hL.sub [1, 2, 3] rfl) hf
          · rw [if_neg c19] at hf
            exact b43 (fX3_countDamage_4 n) ih _ _ _ h1 a0 x1 x2 hQ hS (hL.sub [1, 2, 3] rfl) hf
  rw [fX3_countDamage] at hf
  refine lv_iconst (v := 0) hx hb dX3_countDamage_0 (by decide) ?_
  refine p_istore_n (lv' := [(1, .int 0), (0, .ref (ad a0))]) hx hb dX3_countDamage_1 rfl hL (by decide) rfl (fun ls hL => ?_)
  refine lv_iconst (v := 0) hx hb dX3_countDamage_2 (by decide) ?_
  refine p_istore_n (lv' := [(2, .int 0), (1, .int 0), (0, .ref (ad a0))]) hx hb dX3_countDamage_3 rfl hL (by decide) rfl (fun ls hL => ?_)
  exact b4 64 _ _ _ h a0 0 0 hQ hS (hL.sub [2, 1, 0] rfl) hf
-- X3_rememberScreen
abbrev rX3_rememberScreen : Room := { frames := 1, cells := 0, slots := 0, locals := 20 }
set_option maxHeartbeats 4000000 in
set_option maxRecDepth 100000 in
theorem kX3_rememberScreen (l : Launch) (D : va_G) (ad : Nat → Nat) (h : PH) (a0 : Nat) (r : PH) (hf : fX3_rememberScreen h a0 = some r) : Met l yX3_rememberScreen wsX3_rememberScreen rX3_rememberScreen (p_pre D ad (p_A ad h) h [.ref (ad a0)]) (p_Mv D ad (p_A ad h) r) 0 0 (p_A ad h) := by
  refine Met.ofW (cc := cX3_rememberScreen) (maxL := 3) (ret := none) (by decide) rfl ?_
  intro p e s m args below meth c s₁ B hml hv
  obtain ⟨hargs, hK, hQ⟩ := hv
  have hx := B.exec
  have hb := B.bytes
  have hr := B.returns
  have hts := atoms_spec (ws := wsX3_rememberScreen) B.pre
  have hown : s.vm.findClass RX3 = some m.cls := findClass_of_methodNamed B.named
  have hlocks := B.notSynchronized
  have hC : CallFix p m c cX3_rememberScreen 3 s args wsX3_rememberScreen RX3 := ⟨hx, hb, hml, hown, hts⟩
  have hS : va_S (p_A ad h) s.heap s.heap [] := va_S.rf
  have hi3 : ∀ w ∈ u_ws RX3 TX3 8, w ∈ wsX3_rememberScreen := fun w hw => List.mem_cons_of_mem _ (List.mem_append_left _ (List.mem_append_right _ hw))
  obtain ⟨ls, hls, hL⟩ := p_start (n := 3) hargs (by simp [p_cat, p_ci, p_cr, p_cn]) (Nat.le_of_ble_eq_true rfl)
  show W p l e rX3_rememberScreen s m args below meth c s.heap [] 0 0 (MQ below (p_Mv D ad (p_A ad h) r) args s 0 0 (p_A ad h)) (entryFrame m args 3)
  rw [hls]
  clear hls
  have hL : p_L ls 3 [(0, .ref (ad a0))] := hL
  have b2 : ∀ n : Nat, ∀ (H : Heap) (locs : List Loc) (ls : Array Slot) (h1 : PH) (a0 : Nat) (x1 : Int32), p_Q D ad (p_A ad h) s h1 H → va_S (p_A ad h) s.heap H locs → p_L ls 3 [(0, .ref (ad a0)), (1, .int x1)] → fX3_rememberScreen_2 n h1 a0 x1 = some r → W p l e rX3_rememberScreen s m args below meth c H locs 0 0 (MQ below (p_Mv D ad (p_A ad h) r) args s 0 0 (p_A ad h)) (F0 m 2 ls []) := by
    intro n
    induction n with
    | zero =>
      intro H locs ls h1 a0 x1 hQ hS hL hf
      simp [fX3_rememberScreen_2] at hf
    | succ n ih =>
      intro H locs ls h1 a0 x1 hQ hS hL hf
      rw [fX3_rememberScreen_2] at hf
      refine lv_iload_n hx hb dX3_rememberScreen_2 rfl (lv_at hL.1 1 rfl) ?_
      refine lv_bipush (v := 48) hx hb dX3_rememberScreen_3 (by decide) ?_
      refine lv_icmp_ge (tgt := 41) hx hb dX3_rememberScreen_5 (by decide) (fun c1 => ?_) (fun c1 => ?_)
      · rw [if_pos c1] at hf
        exact p_rMv hC hr hlocks hQ hS hf dX3_rememberScreen_41
      · rw [if_neg c1] at hf
        refine lv_aload_n hx hb dX3_rememberScreen_8 rfl (lv_at hL.1 0 rfl) ?_
        obtain ⟨a_2, e3, hf⟩ := p_b hf
        refine p_getR hC hi3 hK hQ e3 rfl (by decide) (by decide +kernel) dX3_rememberScreen_9 ?_
        refine lv_iload_n hx hb dX3_rememberScreen_12 rfl (lv_at hL.1 1 rfl) ?_
        obtain ⟨o_5, e4, hf⟩ := p_b hf
        refine p_aald hC hQ e4 dX3_rememberScreen_13 ?_
        refine p_astore_n (o := Option.map ad o_5) (lv' := [(2, va_rf (Option.map ad o_5)), (0, .ref (ad a0)), (1, .int x1)]) hx hb dX3_rememberScreen_14 rfl hL (by decide) rfl (fun ls hL => ?_)
        refine lv_aload_n hx hb dX3_rememberScreen_15 rfl (lv_at hL.1 1 rfl) ?_
        obtain ⟨a_6, e7, hf⟩ := p_b hf
        refine p_getR hC hi3 hK hQ e7 rfl (by decide) (by decide +kernel) dX3_rememberScreen_16 ?_
        refine lv_iload_n hx hb dX3_rememberScreen_19 rfl (lv_at hL.1 2 rfl) ?_
        refine p_aload_n (o := Option.map ad o_5) hx hb dX3_rememberScreen_20 rfl (lv_at hL.1 0 rfl) ?_
        obtain ⟨v8, e9, hf⟩ := p_b hf
        refine p_cRi (va_runS (As := [va_rf (Option.map ad o_5)]) (rest := [.int x1, .ref (ad a_6)]) hC (kX3_numberOf l D ad h1 o_5 v8 e9) (cwS 1 hts gX3_rememberScreen_X3_numberOf rfl rfl rfl (by decide +kernel) ⟨Nat.le_of_ble_eq_true rfl, Nat.le_of_ble_eq_true rfl⟩) (p_preS hK hQ.tt) rfl rfl hL.1.1 rfl (lv_room (Nat.le_of_ble_eq_true rfl)) dX3_rememberScreen_21 ⟨Nat.le_of_ble_eq_true rfl, Nat.le_of_ble_eq_true rfl⟩) hQ hS (fun H locs hQ hS => ?_)
        obtain ⟨h_10, e11, hf⟩ := p_b hf
        refine p_iast hC hQ hS e11 dX3_rememberScreen_24 (fun H locs hQ hS => ?_)
        refine lv_aload_n hx hb dX3_rememberScreen_25 rfl (lv_at hL.1 1 rfl) ?_
        obtain ⟨a_12, e13, hf⟩ := p_b hf
        refine p_getR hC hi3 hK hQ e13 rfl (by decide) (by decide +kernel) dX3_rememberScreen_26 ?_
        refine lv_iload_n hx hb dX3_rememberScreen_29 rfl (lv_at hL.1 2 rfl) ?_
        refine p_aload_n (o := Option.map ad o_5) hx hb dX3_rememberScreen_30 rfl (lv_at hL.1 0 rfl) ?_
        obtain ⟨v14, e15, hf⟩ := p_b hf
        refine p_cRi (va_runS (As := [va_rf (Option.map ad o_5)]) (rest := [.int x1, .ref (ad a_12)]) hC (kX3_pictureOf l D ad h_10 o_5 v14 e15) (cwS 1 hts gX3_rememberScreen_X3_pictureOf rfl rfl rfl (by decide +kernel) ⟨Nat.le_of_ble_eq_true rfl, Nat.le_of_ble_eq_true rfl⟩) (p_preS hK hQ.tt) rfl rfl hL.1.1 rfl (lv_room (Nat.le_of_ble_eq_true rfl)) dX3_rememberScreen_31 ⟨Nat.le_of_ble_eq_true rfl, Nat.le_of_ble_eq_true rfl⟩) hQ hS (fun H locs hQ hS => ?_)
        obtain ⟨h_16, e17, hf⟩ := p_b hf
        refine p_iast hC hQ hS e17 dX3_rememberScreen_34 (fun H locs hQ hS => ?_)
        refine p_iinc (v := (x1 + 1)) (lv' := [(1, .int (x1 + 1)), (2, va_rf (Option.map ad o_5)), (0, .ref (ad a0))]) hx hb dX3_rememberScreen_35 hL (k := 2) rfl rfl (by decide) rfl (fun ls hL => ?_)
        refine lv_goto (tgt := 2) hx hb dX3_rememberScreen_38 (by decide) ?_
        exact ih _ _ _ h_16 a0 (x1 + 1) hQ hS (hL.sub [2, 0] rfl) hf
  rw [fX3_rememberScreen] at hf
  refine lv_iconst (v := 0) hx hb dX3_rememberScreen_0 (by decide) ?_
  refine p_istore_n (lv' := [(1, .int 0), (0, .ref (ad a0))]) hx hb dX3_rememberScreen_1 rfl hL (by decide) rfl (fun ls hL => ?_)
  exact b2 64 _ _ _ h a0 0 hQ hS (hL.sub [1, 0] rfl) hf
-- X3_show
abbrev rX3_show : Room := { frames := 2, cells := 0, slots := 0, locals := 43 }
set_option maxHeartbeats 4000000 in
set_option maxRecDepth 100000 in
theorem kX3_show (l : Launch) (D : va_G) (ad : Nat → Nat) (h : PH) (a0 : Nat) (r : Int32 × PH) (hf : fX3_show h a0 = some r) : Met l yX3_show wsX3_show rX3_show (p_pre D ad (p_A ad h) h [.ref (ad a0)]) (p_Mi D ad (p_A ad h) r) 0 0 (p_A ad h) := by
  refine Met.ofW (cc := cX3_show) (maxL := 2) (ret := (some .int)) (by decide) rfl ?_
  intro p e s m args below meth c s₁ B hml hv
  obtain ⟨hargs, hK, hQ⟩ := hv
  have hx := B.exec
  have hb := B.bytes
  have hr := B.returns
  have hts := atoms_spec (ws := wsX3_show) B.pre
  have hown : s.vm.findClass RX3 = some m.cls := findClass_of_methodNamed B.named
  have hlocks := B.notSynchronized
  have hC : CallFix p m c cX3_show 2 s args wsX3_show RX3 := ⟨hx, hb, hml, hown, hts⟩
  have hS : va_S (p_A ad h) s.heap s.heap [] := va_S.rf
  have hi3 : ∀ w ∈ u_ws RX3 TX3 8, w ∈ wsX3_show := fun w hw => List.mem_cons_of_mem _ (List.mem_append_left _ (List.mem_append_right _ hw))
  obtain ⟨ls, hls, hL⟩ := p_start (n := 2) hargs (by simp [p_cat, p_ci, p_cr, p_cn]) (Nat.le_of_ble_eq_true rfl)
  show W p l e rX3_show s m args below meth c s.heap [] 0 0 (MQ below (p_Mi D ad (p_A ad h) r) args s 0 0 (p_A ad h)) (entryFrame m args 2)
  rw [hls]
  clear hls
  have hL : p_L ls 2 [(0, .ref (ad a0))] := hL
  rw [fX3_show] at hf
  refine lv_aload_n hx hb dX3_show_0 rfl (lv_at hL.1 0 rfl) ?_
  obtain ⟨u1, e2, hf⟩ := p_b hf
  obtain ⟨v3, e4, hf⟩ := p_b hf
  refine p_cRi (va_runV (As := []) (rest := []) hC (kX3_countDamage l D ad h a0 v3 e4) (cwV 0 hts gX3_show_X3_countDamage rfl rfl rfl (by decide +kernel) ⟨Nat.le_of_ble_eq_true rfl, Nat.le_of_ble_eq_true rfl⟩) (p_preV hK hQ.tt e2 rfl) rfl rfl hL.1.1 rfl (lv_room (Nat.le_of_ble_eq_true rfl)) dX3_show_1 ⟨Nat.le_of_ble_eq_true rfl, Nat.le_of_ble_eq_true rfl⟩) hQ hS (fun H locs hQ hS => ?_)
  refine p_istore_n (lv' := [(1, .int v3), (0, .ref (ad a0))]) hx hb dX3_show_4 rfl hL (by decide) rfl (fun ls hL => ?_)
  refine lv_aload_n hx hb dX3_show_5 rfl (lv_at hL.1 1 rfl) ?_
  obtain ⟨u5, e6, hf⟩ := p_b hf
  obtain ⟨h_7, e8, hf⟩ := p_b hf
  refine p_cMv (va_runV (As := []) (rest := []) hC (kX3_rememberScreen l D ad h a0 h_7 e8) (cwV 0 hts gX3_show_X3_rememberScreen rfl rfl rfl (by decide +kernel) ⟨Nat.le_of_ble_eq_true rfl, Nat.le_of_ble_eq_true rfl⟩) (p_preV hK hQ.self e6 rfl) rfl rfl hL.1.1 rfl (lv_room (Nat.le_of_ble_eq_true rfl)) dX3_show_6 ⟨Nat.le_of_ble_eq_true rfl, Nat.le_of_ble_eq_true rfl⟩) hQ hS (fun H locs hQ hS => ?_)
  refine lv_iload_n hx hb dX3_show_9 rfl (lv_at hL.1 0 rfl) ?_
  exact p_rMi hC hr hlocks hQ hS hf dX3_show_10
-- X3_tick
abbrev rX3_tick : Room := { frames := 0, cells := 0, slots := 0, locals := 0 }
set_option maxHeartbeats 4000000 in
set_option maxRecDepth 100000 in
theorem kX3_tick (l : Launch) (D : va_G) (ad : Nat → Nat) (h : PH) (a0 : Nat) (r : Int32) (hf : fX3_tick h a0 = some r) : Met l yX3_tick wsX3_tick rX3_tick (p_pre D ad p_tt h [.ref (ad a0)]) (p_Ri r) 0 0 p_no := by
  refine Met.ofW (cc := cX3_tick) (maxL := 1) (ret := (some .int)) (by decide) rfl ?_
  intro p e s m args below meth c s₁ B hml hv
  obtain ⟨hargs, hK, hQ⟩ := hv
  have hx := B.exec
  have hb := B.bytes
  have hr := B.returns
  have hts := atoms_spec (ws := wsX3_tick) B.pre
  have hown : s.vm.findClass RX3 = some m.cls := findClass_of_methodNamed B.named
  have hlocks := B.notSynchronized
  have hC : CallFix p m c cX3_tick 1 s args wsX3_tick RX3 := ⟨hx, hb, hml, hown, hts⟩
  have hS : va_S p_no s.heap s.heap [] := va_S.rf
  have hi3 : ∀ w ∈ u_ws RX3 TX3 8, w ∈ wsX3_tick := fun w hw => List.mem_cons_of_mem _ (List.mem_append_right _ hw)
  obtain ⟨ls, hls, hL⟩ := p_start (n := 1) hargs (by simp [p_cat, p_ci, p_cr, p_cn]) (Nat.le_of_ble_eq_true rfl)
  show W p l e rX3_tick s m args below meth c s.heap [] 0 0 (MQ below (p_Ri r) args s 0 0 p_no) (entryFrame m args 1)
  rw [hls]
  clear hls
  have hL : p_L ls 1 [(0, .ref (ad a0))] := hL
  rw [fX3_tick] at hf
  refine lv_aload_n hx hb dX3_tick_0 rfl (lv_at hL.1 0 rfl) ?_
  obtain ⟨v1, e2, hf⟩ := p_b hf
  refine p_getI hC hi3 hK hQ e2 rfl (by decide) (by decide +kernel) dX3_tick_1 ?_
  exact p_rRi hC hr hlocks hS hf dX3_tick_4
-- X3_windows
abbrev rX3_windows : Room := { frames := 1, cells := 0, slots := 0, locals := 20 }
set_option maxHeartbeats 4000000 in
set_option maxRecDepth 100000 in
theorem kX3_windows (l : Launch) (D : va_G) (ad : Nat → Nat) (h : PH) (a0 : Nat) (r : Int32) (hf : fX3_windows h a0 = some r) : Met l yX3_windows wsX3_windows rX3_windows (p_pre D ad p_tt h [.ref (ad a0)]) (p_Ri r) 0 0 p_no := by
  refine Met.ofW (cc := cX3_windows) (maxL := 1) (ret := (some .int)) (by decide) rfl ?_
  intro p e s m args below meth c s₁ B hml hv
  obtain ⟨hargs, hK, hQ⟩ := hv
  have hx := B.exec
  have hb := B.bytes
  have hr := B.returns
  have hts := atoms_spec (ws := wsX3_windows) B.pre
  have hown : s.vm.findClass RX3 = some m.cls := findClass_of_methodNamed B.named
  have hlocks := B.notSynchronized
  have hC : CallFix p m c cX3_windows 1 s args wsX3_windows RX3 := ⟨hx, hb, hml, hown, hts⟩
  have hS : va_S p_no s.heap s.heap [] := va_S.rf
  have hi2 : ∀ w ∈ u_ws RX2 TX2 2, w ∈ wsX3_windows := fun w hw => List.mem_cons_of_mem _ (List.mem_append_right _ hw)
  have hi3 : ∀ w ∈ u_ws RX3 TX3 8, w ∈ wsX3_windows := fun w hw => List.mem_cons_of_mem _ (List.mem_append_left _ (List.mem_append_right _ hw))
  obtain ⟨ls, hls, hL⟩ := p_start (n := 1) hargs (by simp [p_cat, p_ci, p_cr, p_cn]) (Nat.le_of_ble_eq_true rfl)
  show W p l e rX3_windows s m args below meth c s.heap [] 0 0 (MQ below (p_Ri r) args s 0 0 p_no) (entryFrame m args 1)
  rw [hls]
  clear hls
  have hL : p_L ls 1 [(0, .ref (ad a0))] := hL
  rw [fX3_windows] at hf
  refine lv_aload_n hx hb dX3_windows_0 rfl (lv_at hL.1 0 rfl) ?_
  obtain ⟨a_1, e2, hf⟩ := p_b hf
  refine p_getR hC hi3 hK hQ e2 rfl (by decide) (by decide +kernel) dX3_windows_1 ?_
  obtain ⟨u3, e4, hf⟩ := p_b hf
  obtain ⟨v5, e6, hf⟩ := p_b hf
  refine p_cRi (va_runV (As := []) (rest := []) hC (kX2_count l D ad h a_1 v5 e6) (cwV 0 hts gX3_windows_X2_count rfl rfl rfl (by decide +kernel) ⟨Nat.le_of_ble_eq_true rfl, Nat.le_of_ble_eq_true rfl⟩) (p_preV hK hQ.tt e4 rfl) rfl rfl hL.1.1 rfl (lv_room (Nat.le_of_ble_eq_true rfl)) dX3_windows_4 ⟨Nat.le_of_ble_eq_true rfl, Nat.le_of_ble_eq_true rfl⟩) hQ hS (fun H locs hQ hS => ?_)
  exact p_rRi hC hr hlocks hS hf dX3_windows_7
-- X3_free
abbrev rX3_free : Room := { frames := 0, cells := 0, slots := 0, locals := 0 }
set_option maxHeartbeats 4000000 in
set_option maxRecDepth 100000 in
theorem kX3_free (l : Launch) (D : va_G) (ad : Nat → Nat) (h : PH) (a0 : Nat) (r : Int32) (hf : fX3_free h a0 = some r) : Met l yX3_free wsX3_free rX3_free (p_pre D ad p_tt h [.ref (ad a0)]) (p_Ri r) 0 0 p_no := by
  refine Met.ofW (cc := cX3_free) (maxL := 1) (ret := (some .int)) (by decide) rfl ?_
  intro p e s m args below meth c s₁ B hml hv
  obtain ⟨hargs, hK, hQ⟩ := hv
  have hx := B.exec
  have hb := B.bytes
  have hr := B.returns
  have hts := atoms_spec (ws := wsX3_free) B.pre
  have hown : s.vm.findClass RX3 = some m.cls := findClass_of_methodNamed B.named
  have hlocks := B.notSynchronized
  have hC : CallFix p m c cX3_free 1 s args wsX3_free RX3 := ⟨hx, hb, hml, hown, hts⟩
  have hS : va_S p_no s.heap s.heap [] := va_S.rf
  have hi3 : ∀ w ∈ u_ws RX3 TX3 8, w ∈ wsX3_free := fun w hw => List.mem_cons_of_mem _ (List.mem_append_right _ hw)
  obtain ⟨ls, hls, hL⟩ := p_start (n := 1) hargs (by simp [p_cat, p_ci, p_cr, p_cn]) (Nat.le_of_ble_eq_true rfl)
  show W p l e rX3_free s m args below meth c s.heap [] 0 0 (MQ below (p_Ri r) args s 0 0 p_no) (entryFrame m args 1)
  rw [hls]
  clear hls
  have hL : p_L ls 1 [(0, .ref (ad a0))] := hL
  rw [fX3_free] at hf
  refine lv_aload_n hx hb dX3_free_0 rfl (lv_at hL.1 0 rfl) ?_
  obtain ⟨v1, e2, hf⟩ := p_b hf
  refine p_getI hC hi3 hK hQ e2 rfl (by decide) (by decide +kernel) dX3_free_1 ?_
  exact p_rRi hC hr hlocks hS hf dX3_free_4
-- X3_damage
abbrev rX3_damage : Room := { frames := 2, cells := 0, slots := 0, locals := 43 }
set_option maxHeartbeats 4000000 in
set_option maxRecDepth 100000 in
theorem kX3_damage (l : Launch) (D : va_G) (ad : Nat → Nat) (h : PH) (a0 : Nat) (r : Int32) (hf : fX3_damage h a0 = some r) : Met l yX3_damage wsX3_damage rX3_damage (p_pre D ad p_tt h [.ref (ad a0)]) (p_Ri r) 0 0 p_no := by
  refine Met.ofW (cc := cX3_damage) (maxL := 1) (ret := (some .int)) (by decide) rfl ?_
  intro p e s m args below meth c s₁ B hml hv
  obtain ⟨hargs, hK, hQ⟩ := hv
  have hx := B.exec
  have hb := B.bytes
  have hr := B.returns
  have hts := atoms_spec (ws := wsX3_damage) B.pre
  have hown : s.vm.findClass RX3 = some m.cls := findClass_of_methodNamed B.named
  have hlocks := B.notSynchronized
  have hC : CallFix p m c cX3_damage 1 s args wsX3_damage RX3 := ⟨hx, hb, hml, hown, hts⟩
  have hS : va_S p_no s.heap s.heap [] := va_S.rf
  have hi3 : ∀ w ∈ u_ws RX3 TX3 8, w ∈ wsX3_damage := fun w hw => List.mem_cons_of_mem _ (List.mem_append_left _ (List.mem_append_right _ hw))
  obtain ⟨ls, hls, hL⟩ := p_start (n := 1) hargs (by simp [p_cat, p_ci, p_cr, p_cn]) (Nat.le_of_ble_eq_true rfl)
  show W p l e rX3_damage s m args below meth c s.heap [] 0 0 (MQ below (p_Ri r) args s 0 0 p_no) (entryFrame m args 1)
  rw [hls]
  clear hls
  have hL : p_L ls 1 [(0, .ref (ad a0))] := hL
  rw [fX3_damage] at hf
  refine lv_aload_n hx hb dX3_damage_0 rfl (lv_at hL.1 0 rfl) ?_
  obtain ⟨u1, e2, hf⟩ := p_b hf
  obtain ⟨v3, e4, hf⟩ := p_b hf
  refine p_cRi (va_runV (As := []) (rest := []) hC (kX3_countDamage l D ad h a0 v3 e4) (cwV 0 hts gX3_damage_X3_countDamage rfl rfl rfl (by decide +kernel) ⟨Nat.le_of_ble_eq_true rfl, Nat.le_of_ble_eq_true rfl⟩) (p_preV hK hQ.tt e2 rfl) rfl rfl hL.1.1 rfl (lv_room (Nat.le_of_ble_eq_true rfl)) dX3_damage_1 ⟨Nat.le_of_ble_eq_true rfl, Nat.le_of_ble_eq_true rfl⟩) hQ hS (fun H locs hQ hS => ?_)
  exact p_rRi hC hr hlocks hS hf dX3_damage_4
