-- X0_init
abbrev rX0_init : Room := { frames := 1, cells := 0, slots := 0, locals := 20 }
set_option maxHeartbeats 4000000 in
set_option maxRecDepth 100000 in
theorem kX0_init (l : Launch) (D : va_G) (ad : Nat → Nat) (h : PH) (a0 : Nat) (x1 : Int32) (x2 : Int32) (x3 : Int32)  (r : PH) (hf : fX0_init h a0 x1 x2 x3  = some r) : Met l yX0_init wsX0_init rX0_init (p_pre D ad (p_A ad h) h [.ref (ad a0), .int x1, .int x2, .int x3]) (p_Mv D ad (p_A ad h) r) 0 0 (p_A ad h) := by
  refine Met.ofW (cc := cX0_init) (maxL := 4) (ret := none) (by decide) rfl ?_
  intro p e s m args below meth c s₁ B hml hv
  obtain ⟨hargs, hK, hQ⟩ := hv
  have hx := B.exec
  have hb := B.bytes
  have hr := B.returns
  have hts := atoms_spec (ws := wsX0_init) B.pre
  have hown : s.vm.findClass RX0 = some m.cls := findClass_of_methodNamed B.named
  have hlocks := B.notSynchronized
  have hinit : meth.name = "<init>" := (name_of_methodNamed B.named B.method).1
  have hC : CallFix p m c cX0_init 4 s args wsX0_init RX0 := ⟨hx, hb, hml, hown, hts⟩
  have hS : va_S (p_A ad h) s.heap s.heap [] := va_S.rf
  have hi0 : ∀ w ∈ u_ws RX0 TX0 9, w ∈ wsX0_init := fun w hw => List.mem_cons_of_mem _ (List.mem_append_right _ hw)
  obtain ⟨ls, hls, hL⟩ := p_start (n := 4) hargs (by simp [p_cat, p_ci, p_cr, p_cn]) (Nat.le_of_ble_eq_true rfl)
  show W p l e rX0_init s m args below meth c s.heap [] 0 0 (MQ below (p_Mv D ad (p_A ad h) r) args s 0 0 (p_A ad h)) (entryFrame m args 4)
  rw [hls]
  clear hls
  have hL : p_L ls 4 [(0, .ref (ad a0)), (1, .int x1), (2, .int x2), (3, .int x3)] := hL
  rw [fX0_init] at hf
  refine lv_aload_n hx hb dX0_init_0 rfl (lv_at hL.1 0 rfl) ?_
  refine W.objInit hx hb hown (hts (.methodLink RX0 3 objectInit) (by decide +kernel)) (hts (.instanceMethod objectInit) (by decide +kernel)) (hts (.code objectInit ⟨#[0xb1]⟩ 1 none) (by decide +kernel)) rfl (by rw [hml]; exact hL.1.1) rfl dX0_init_1 (Nat.le_of_ble_eq_true rfl) (Nat.le_of_ble_eq_true rfl) ?_
  refine W.eq (g2 := F0 m 4 ls []) rfl ?_
  refine lv_aload_n hx hb dX0_init_4 rfl (lv_at hL.1 0 rfl) ?_
  refine lv_iload_n hx hb dX0_init_5 rfl (lv_at hL.1 1 rfl) ?_
  obtain ⟨h_1, e2, hf⟩ := p_b hf
  refine p_putIF hC hi0 tyX0_ok nmX0 hK hQ hS e2 rfl (by decide) rfl hinit rfl rfl (by decide +kernel) dX0_init_6 (fun H locs hQ hS => ?_)
  refine lv_aload_n hx hb dX0_init_9 rfl (lv_at hL.1 0 rfl) ?_
  refine lv_iload_n hx hb dX0_init_10 rfl (lv_at hL.1 2 rfl) ?_
  obtain ⟨h_3, e4, hf⟩ := p_b hf
  refine p_putIF hC hi0 tyX0_ok nmX0 hK hQ hS e4 rfl (by decide) rfl hinit rfl rfl (by decide +kernel) dX0_init_11 (fun H locs hQ hS => ?_)
  refine lv_aload_n hx hb dX0_init_14 rfl (lv_at hL.1 0 rfl) ?_
  refine lv_iconst (v := 1) hx hb dX0_init_15 (by decide) ?_
  obtain ⟨h_5, e6, hf⟩ := p_b hf
  refine p_putI hC hi0 tyX0_ok nmX0 hK hQ hS e6 rfl (by decide) rfl rfl (by decide +kernel) dX0_init_16 (fun H locs hQ hS => ?_)
  refine lv_aload_n hx hb dX0_init_19 rfl (lv_at hL.1 0 rfl) ?_
  refine lv_iconst (v := 0) hx hb dX0_init_20 (by decide) ?_
  obtain ⟨h_7, e8, hf⟩ := p_b hf
  refine p_putI hC hi0 tyX0_ok nmX0 hK hQ hS e8 rfl (by decide) rfl rfl (by decide +kernel) dX0_init_21 (fun H locs hQ hS => ?_)
  refine lv_aload_n hx hb dX0_init_24 rfl (lv_at hL.1 0 rfl) ?_
  refine lv_iconst (v := 0) hx hb dX0_init_25 (by decide) ?_
  obtain ⟨h_9, e10, hf⟩ := p_b hf
  refine p_putI hC hi0 tyX0_ok nmX0 hK hQ hS e10 rfl (by decide) rfl rfl (by decide +kernel) dX0_init_26 (fun H locs hQ hS => ?_)
  refine lv_aload_n hx hb dX0_init_29 rfl (lv_at hL.1 0 rfl) ?_
  refine lv_iload_n hx hb dX0_init_30 rfl (lv_at hL.1 3 rfl) ?_
  obtain ⟨h_11, e12, hf⟩ := p_b hf
  refine p_putI hC hi0 tyX0_ok nmX0 hK hQ hS e12 rfl (by decide) rfl rfl (by decide +kernel) dX0_init_31 (fun H locs hQ hS => ?_)
  refine lv_aload_n hx hb dX0_init_34 rfl (lv_at hL.1 0 rfl) ?_
  refine lv_iconst (v := 0) hx hb dX0_init_35 (by decide) ?_
  obtain ⟨h_13, e14, hf⟩ := p_b hf
  refine p_putZ hC hi0 tyX0_ok nmX0 hK hQ hS e14 rfl (by decide) rfl rfl (by decide +kernel) dX0_init_36 (fun H locs hQ hS => ?_)
  refine lv_aload_n hx hb dX0_init_39 rfl (lv_at hL.1 0 rfl) ?_
  refine lv_iconst (v := 0) hx hb dX0_init_40 (by decide) ?_
  obtain ⟨h_15, e16, hf⟩ := p_b hf
  refine p_putI hC hi0 tyX0_ok nmX0 hK hQ hS e16 rfl (by decide) rfl rfl (by decide +kernel) dX0_init_41 (fun H locs hQ hS => ?_)
  refine lv_aload_n hx hb dX0_init_44 rfl (lv_at hL.1 0 rfl) ?_
  refine lv_iload_n hx hb dX0_init_45 rfl (lv_at hL.1 3 rfl) ?_
  obtain ⟨h_17, e18, hf⟩ := p_b hf
  refine p_putI hC hi0 tyX0_ok nmX0 hK hQ hS e18 rfl (by decide) rfl rfl (by decide +kernel) dX0_init_46 (fun H locs hQ hS => ?_)
  exact p_rMv hC hr hlocks hQ hS hf dX0_init_49
-- X0_begin
abbrev rX0_begin : Room := { frames := 0, cells := 0, slots := 0, locals := 0 }
set_option maxHeartbeats 4000000 in
set_option maxRecDepth 100000 in
theorem kX0_begin (l : Launch) (D : va_G) (ad : Nat → Nat) (h : PH) (a0 : Nat) (x1 : Int32)  (r : PH) (hf : fX0_begin h a0 x1  = some r) : Met l yX0_begin wsX0_begin rX0_begin (p_pre D ad (p_A ad h) h [.ref (ad a0), .int x1]) (p_Mv D ad (p_A ad h) r) 0 0 (p_A ad h) := by
  refine Met.ofW (cc := cX0_begin) (maxL := 2) (ret := none) (by decide) rfl ?_
  intro p e s m args below meth c s₁ B hml hv
  obtain ⟨hargs, hK, hQ⟩ := hv
  have hx := B.exec
  have hb := B.bytes
  have hr := B.returns
  have hts := atoms_spec (ws := wsX0_begin) B.pre
  have hown : s.vm.findClass RX0 = some m.cls := findClass_of_methodNamed B.named
  have hlocks := B.notSynchronized
  have hC : CallFix p m c cX0_begin 2 s args wsX0_begin RX0 := ⟨hx, hb, hml, hown, hts⟩
  have hS : va_S (p_A ad h) s.heap s.heap [] := va_S.rf
  have hi0 : ∀ w ∈ u_ws RX0 TX0 9, w ∈ wsX0_begin := fun w hw => List.mem_cons_of_mem _ (List.mem_append_right _ hw)
  obtain ⟨ls, hls, hL⟩ := p_start (n := 2) hargs (by simp [p_cat, p_ci, p_cr, p_cn]) (Nat.le_of_ble_eq_true rfl)
  show W p l e rX0_begin s m args below meth c s.heap [] 0 0 (MQ below (p_Mv D ad (p_A ad h) r) args s 0 0 (p_A ad h)) (entryFrame m args 2)
  rw [hls]
  clear hls
  have hL : p_L ls 2 [(0, .ref (ad a0)), (1, .int x1)] := hL
  rw [fX0_begin] at hf
  refine lv_aload_n hx hb dX0_begin_0 rfl (lv_at hL.1 0 rfl) ?_
  refine lv_iconst (v := 1) hx hb dX0_begin_1 (by decide) ?_
  obtain ⟨h_1, e2, hf⟩ := p_b hf
  refine p_putZ hC hi0 tyX0_ok nmX0 hK hQ hS e2 rfl (by decide) rfl rfl (by decide +kernel) dX0_begin_2 (fun H locs hQ hS => ?_)
  refine lv_aload_n hx hb dX0_begin_5 rfl (lv_at hL.1 0 rfl) ?_
  refine lv_iconst (v := 0) hx hb dX0_begin_6 (by decide) ?_
  obtain ⟨h_3, e4, hf⟩ := p_b hf
  refine p_putI hC hi0 tyX0_ok nmX0 hK hQ hS e4 rfl (by decide) rfl rfl (by decide +kernel) dX0_begin_7 (fun H locs hQ hS => ?_)
  refine lv_aload_n hx hb dX0_begin_10 rfl (lv_at hL.1 0 rfl) ?_
  refine lv_iload_n hx hb dX0_begin_11 rfl (lv_at hL.1 1 rfl) ?_
  obtain ⟨h_5, e6, hf⟩ := p_b hf
  refine p_putI hC hi0 tyX0_ok nmX0 hK hQ hS e6 rfl (by decide) rfl rfl (by decide +kernel) dX0_begin_12 (fun H locs hQ hS => ?_)
  exact p_rMv hC hr hlocks hQ hS hf dX0_begin_15
-- X0_beginIfDue
abbrev rX0_beginIfDue : Room := { frames := 1, cells := 0, slots := 0, locals := 21 }
set_option maxHeartbeats 4000000 in
set_option maxRecDepth 100000 in
theorem kX0_beginIfDue (l : Launch) (D : va_G) (ad : Nat → Nat) (h : PH) (a0 : Nat) (x1 : Int32)  (r : PH) (hf : fX0_beginIfDue h a0 x1  = some r) : Met l yX0_beginIfDue wsX0_beginIfDue rX0_beginIfDue (p_pre D ad (p_A ad h) h [.ref (ad a0), .int x1]) (p_Mv D ad (p_A ad h) r) 0 0 (p_A ad h) := by
  refine Met.ofW (cc := cX0_beginIfDue) (maxL := 2) (ret := none) (by decide) rfl ?_
  intro p e s m args below meth c s₁ B hml hv
  obtain ⟨hargs, hK, hQ⟩ := hv
  have hx := B.exec
  have hb := B.bytes
  have hr := B.returns
  have hts := atoms_spec (ws := wsX0_beginIfDue) B.pre
  have hown : s.vm.findClass RX0 = some m.cls := findClass_of_methodNamed B.named
  have hlocks := B.notSynchronized
  have hC : CallFix p m c cX0_beginIfDue 2 s args wsX0_beginIfDue RX0 := ⟨hx, hb, hml, hown, hts⟩
  have hS : va_S (p_A ad h) s.heap s.heap [] := va_S.rf
  have hi0 : ∀ w ∈ u_ws RX0 TX0 9, w ∈ wsX0_beginIfDue := fun w hw => List.mem_cons_of_mem _ (List.mem_append_right _ hw)
  obtain ⟨ls, hls, hL⟩ := p_start (n := 2) hargs (by simp [p_cat, p_ci, p_cr, p_cn]) (Nat.le_of_ble_eq_true rfl)
  show W p l e rX0_beginIfDue s m args below meth c s.heap [] 0 0 (MQ below (p_Mv D ad (p_A ad h) r) args s 0 0 (p_A ad h)) (entryFrame m args 2)
  rw [hls]
  clear hls
  have hL : p_L ls 2 [(0, .ref (ad a0)), (1, .int x1)] := hL
  have b30 : ∀ (H : Heap) (locs : List Loc) (ls : Array Slot) (h1 : PH) , p_Q D ad (p_A ad h) s h1 H → va_S (p_A ad h) s.heap H locs → p_L ls 2 [] → fX0_beginIfDue_30 h1  = some r → W p l e rX0_beginIfDue s m args below meth c H locs 0 0 (MQ below (p_Mv D ad (p_A ad h) r) args s 0 0 (p_A ad h)) (F0 m 30 ls []) := by
    intro H locs ls h1  hQ hS hL hf
    rw [fX0_beginIfDue_30] at hf
    exact p_rMv hC hr hlocks hQ hS hf dX0_beginIfDue_30
  rw [fX0_beginIfDue] at hf
  refine lv_aload_n hx hb dX0_beginIfDue_0 rfl (lv_at hL.1 0 rfl) ?_
  obtain ⟨v1, e2, hf⟩ := p_b hf
  refine p_getI hC hi0 hK hQ e2 rfl (by decide) (by decide +kernel) dX0_beginIfDue_1 ?_
  refine lv_if_ne (tgt := 30) hx hb dX0_beginIfDue_4 (by decide) (fun c3 => ?_) (fun c3 => ?_)
  · rw [if_neg c3] at hf
    exact b30 _ _ _ h  hQ hS (hL.sub [] rfl) hf
  · rw [if_pos c3] at hf
    refine lv_aload_n hx hb dX0_beginIfDue_7 rfl (lv_at hL.1 0 rfl) ?_
    obtain ⟨v4, e5, hf⟩ := p_b hf
    refine p_getI hC hi0 hK hQ e5 rfl (by decide) (by decide +kernel) dX0_beginIfDue_8 ?_
    refine lv_iload_n hx hb dX0_beginIfDue_11 rfl (lv_at hL.1 1 rfl) ?_
    refine lv_icmp_gt (tgt := 30) hx hb dX0_beginIfDue_12 (by decide) (fun c6 => ?_) (fun c6 => ?_)
    · rw [if_pos c6] at hf
      exact b30 _ _ _ h  hQ hS (hL.sub [] rfl) hf
    · rw [if_neg c6] at hf
      refine lv_aload_n hx hb dX0_beginIfDue_15 rfl (lv_at hL.1 0 rfl) ?_
      refine lv_iload_n hx hb dX0_beginIfDue_16 rfl (lv_at hL.1 1 rfl) ?_
      refine lv_aload_n hx hb dX0_beginIfDue_17 rfl (lv_at hL.1 0 rfl) ?_
      obtain ⟨v7, e8, hf⟩ := p_b hf
      refine p_getI hC hi0 hK hQ e8 rfl (by decide) (by decide +kernel) dX0_beginIfDue_18 ?_
      refine lv_aload_n hx hb dX0_beginIfDue_21 rfl (lv_at hL.1 0 rfl) ?_
      obtain ⟨v9, e10, hf⟩ := p_b hf
      refine p_getI hC hi0 hK hQ e10 rfl (by decide) (by decide +kernel) dX0_beginIfDue_22 ?_
      refine lv_imul hx hb dX0_beginIfDue_25 ?_
      refine lv_iadd hx hb dX0_beginIfDue_26 ?_
      obtain ⟨u11, e12, hf⟩ := p_b hf
      obtain ⟨h_13, e14, hf⟩ := p_b hf
      refine p_cMv (va_runV (As := [.int (x1 + (v7 * v9))]) (rest := []) hC (kX0_begin l D ad h a0 (x1 + (v7 * v9)) h_13 e14) (cwV 1 hts gX0_beginIfDue_X0_begin rfl rfl rfl (by decide +kernel) ⟨Nat.le_of_ble_eq_true rfl, Nat.le_of_ble_eq_true rfl⟩) (p_preV hK hQ.self e12 rfl) rfl rfl hL.1.1 rfl (lv_room (Nat.le_of_ble_eq_true rfl)) dX0_beginIfDue_27 ⟨Nat.le_of_ble_eq_true rfl, Nat.le_of_ble_eq_true rfl⟩) hQ hS (fun H locs hQ hS => ?_)
      exact b30 _ _ _ h_13  hQ hS (hL.sub [] rfl) hf
-- X0_drop
abbrev rX0_drop : Room := { frames := 0, cells := 0, slots := 0, locals := 0 }
set_option maxHeartbeats 4000000 in
set_option maxRecDepth 100000 in
theorem kX0_drop (l : Launch) (D : va_G) (ad : Nat → Nat) (h : PH) (a0 : Nat) (x1 : Int32)  (r : PH) (hf : fX0_drop h a0 x1  = some r) : Met l yX0_drop wsX0_drop rX0_drop (p_pre D ad (p_A ad h) h [.ref (ad a0), .int x1]) (p_Mv D ad (p_A ad h) r) 0 0 (p_A ad h) := by
  refine Met.ofW (cc := cX0_drop) (maxL := 2) (ret := none) (by decide) rfl ?_
  intro p e s m args below meth c s₁ B hml hv
  obtain ⟨hargs, hK, hQ⟩ := hv
  have hx := B.exec
  have hb := B.bytes
  have hr := B.returns
  have hts := atoms_spec (ws := wsX0_drop) B.pre
  have hown : s.vm.findClass RX0 = some m.cls := findClass_of_methodNamed B.named
  have hlocks := B.notSynchronized
  have hC : CallFix p m c cX0_drop 2 s args wsX0_drop RX0 := ⟨hx, hb, hml, hown, hts⟩
  have hS : va_S (p_A ad h) s.heap s.heap [] := va_S.rf
  have hi0 : ∀ w ∈ u_ws RX0 TX0 9, w ∈ wsX0_drop := fun w hw => List.mem_cons_of_mem _ (List.mem_append_right _ hw)
  obtain ⟨ls, hls, hL⟩ := p_start (n := 2) hargs (by simp [p_cat, p_ci, p_cr, p_cn]) (Nat.le_of_ble_eq_true rfl)
  show W p l e rX0_drop s m args below meth c s.heap [] 0 0 (MQ below (p_Mv D ad (p_A ad h) r) args s 0 0 (p_A ad h)) (entryFrame m args 2)
  rw [hls]
  clear hls
  have hL : p_L ls 2 [(0, .ref (ad a0)), (1, .int x1)] := hL
  have b17 : ∀ (H : Heap) (locs : List Loc) (ls : Array Slot) (h1 : PH) , p_Q D ad (p_A ad h) s h1 H → va_S (p_A ad h) s.heap H locs → p_L ls 2 [] → fX0_drop_17 h1  = some r → W p l e rX0_drop s m args below meth c H locs 0 0 (MQ below (p_Mv D ad (p_A ad h) r) args s 0 0 (p_A ad h)) (F0 m 17 ls []) := by
    intro H locs ls h1  hQ hS hL hf
    rw [fX0_drop_17] at hf
    exact p_rMv hC hr hlocks hQ hS hf dX0_drop_17
  rw [fX0_drop] at hf
  refine lv_aload_n hx hb dX0_drop_0 rfl (lv_at hL.1 0 rfl) ?_
  obtain ⟨v1, e2, hf⟩ := p_b hf
  refine p_getI hC hi0 hK hQ e2 rfl (by decide) (by decide +kernel) dX0_drop_1 ?_
  refine lv_if_eq (tgt := 17) hx hb dX0_drop_4 (by decide) (fun c3 => ?_) (fun c3 => ?_)
  · rw [if_pos c3] at hf
    exact b17 _ _ _ h  hQ hS (hL.sub [] rfl) hf
  · rw [if_neg c3] at hf
    refine lv_aload_n hx hb dX0_drop_7 rfl (lv_at hL.1 0 rfl) ?_
    refine lv_iconst (v := 0) hx hb dX0_drop_8 (by decide) ?_
    obtain ⟨h_4, e5, hf⟩ := p_b hf
    refine p_putZ hC hi0 tyX0_ok nmX0 hK hQ hS e5 rfl (by decide) rfl rfl (by decide +kernel) dX0_drop_9 (fun H locs hQ hS => ?_)
    refine lv_aload_n hx hb dX0_drop_12 rfl (lv_at hL.1 0 rfl) ?_
    refine lv_iload_n hx hb dX0_drop_13 rfl (lv_at hL.1 1 rfl) ?_
    obtain ⟨h_6, e7, hf⟩ := p_b hf
    refine p_putI hC hi0 tyX0_ok nmX0 hK hQ hS e7 rfl (by decide) rfl rfl (by decide +kernel) dX0_drop_14 (fun H locs hQ hS => ?_)
    exact b17 _ _ _ h_6  hQ hS (hL.sub [] rfl) hf
-- X0_hurry
abbrev rX0_hurry : Room := { frames := 1, cells := 0, slots := 0, locals := 21 }
set_option maxHeartbeats 4000000 in
set_option maxRecDepth 100000 in
theorem kX0_hurry (l : Launch) (D : va_G) (ad : Nat → Nat) (h : PH) (a0 : Nat) (x1 : Int32)  (r : PH) (hf : fX0_hurry h a0 x1  = some r) : Met l yX0_hurry wsX0_hurry rX0_hurry (p_pre D ad (p_A ad h) h [.ref (ad a0), .int x1]) (p_Mv D ad (p_A ad h) r) 0 0 (p_A ad h) := by
  refine Met.ofW (cc := cX0_hurry) (maxL := 3) (ret := none) (by decide) rfl ?_
  intro p e s m args below meth c s₁ B hml hv
  obtain ⟨hargs, hK, hQ⟩ := hv
  have hx := B.exec
  have hb := B.bytes
  have hr := B.returns
  have hts := atoms_spec (ws := wsX0_hurry) B.pre
  have hown : s.vm.findClass RX0 = some m.cls := findClass_of_methodNamed B.named
  have hlocks := B.notSynchronized
  have hC : CallFix p m c cX0_hurry 3 s args wsX0_hurry RX0 := ⟨hx, hb, hml, hown, hts⟩
  have hS : va_S (p_A ad h) s.heap s.heap [] := va_S.rf
  have hi0 : ∀ w ∈ u_ws RX0 TX0 9, w ∈ wsX0_hurry := fun w hw => List.mem_cons_of_mem _ (List.mem_append_right _ hw)
  obtain ⟨ls, hls, hL⟩ := p_start (n := 3) hargs (by simp [p_cat, p_ci, p_cr, p_cn]) (Nat.le_of_ble_eq_true rfl)
  show W p l e rX0_hurry s m args below meth c s.heap [] 0 0 (MQ below (p_Mv D ad (p_A ad h) r) args s 0 0 (p_A ad h)) (entryFrame m args 3)
  rw [hls]
  clear hls
  have hL : p_L ls 3 [(0, .ref (ad a0)), (1, .int x1)] := hL
  have b39 : ∀ (H : Heap) (locs : List Loc) (ls : Array Slot) (h1 : PH) , p_Q D ad (p_A ad h) s h1 H → va_S (p_A ad h) s.heap H locs → p_L ls 3 [] → fX0_hurry_39 h1  = some r → W p l e rX0_hurry s m args below meth c H locs 0 0 (MQ below (p_Mv D ad (p_A ad h) r) args s 0 0 (p_A ad h)) (F0 m 39 ls []) := by
    intro H locs ls h1  hQ hS hL hf
    rw [fX0_hurry_39] at hf
    exact p_rMv hC hr hlocks hQ hS hf dX0_hurry_39
  rw [fX0_hurry] at hf
  refine lv_iload_n hx hb dX0_hurry_0 rfl (lv_at hL.1 1 rfl) ?_
  refine lv_aload_n hx hb dX0_hurry_1 rfl (lv_at hL.1 0 rfl) ?_
  obtain ⟨v1, e2, hf⟩ := p_b hf
  refine p_getI hC hi0 hK hQ e2 rfl (by decide) (by decide +kernel) dX0_hurry_2 ?_
  refine lv_iconst (v := 1) hx hb dX0_hurry_5 (by decide) ?_
  refine lv_iadd hx hb dX0_hurry_6 ?_
  refine lv_iconst (v := 2) hx hb dX0_hurry_7 (by decide) ?_
  refine lv_idiv hx hb dX0_hurry_8 (by decide) ?_
  refine lv_iadd hx hb dX0_hurry_9 ?_
  refine p_istore_n (lv' := [(2, .int (x1 + ((v1 + 1) / 2))), (0, .ref (ad a0)), (1, .int x1)]) hx hb dX0_hurry_10 rfl hL (by decide) rfl (fun ls hL => ?_)
  refine lv_aload_n hx hb dX0_hurry_11 rfl (lv_at hL.1 1 rfl) ?_
  obtain ⟨v3, e4, hf⟩ := p_b hf
  refine p_getI hC hi0 hK hQ e4 rfl (by decide) (by decide +kernel) dX0_hurry_12 ?_
  refine lv_if_ne (tgt := 26) hx hb dX0_hurry_15 (by decide) (fun c5 => ?_) (fun c5 => ?_)
  · rw [if_neg c5] at hf
    refine lv_iload_n hx hb dX0_hurry_26 rfl (lv_at hL.1 0 rfl) ?_
    refine lv_aload_n hx hb dX0_hurry_27 rfl (lv_at hL.1 1 rfl) ?_
    obtain ⟨v6, e7, hf⟩ := p_b hf
    refine p_getI hC hi0 hK hQ e7 rfl (by decide) (by decide +kernel) dX0_hurry_28 ?_
    refine lv_icmp_ge (tgt := 39) hx hb dX0_hurry_31 (by decide) (fun c8 => ?_) (fun c8 => ?_)
    · rw [if_pos c8] at hf
      exact b39 _ _ _ h  hQ hS (hL.sub [] rfl) hf
    · rw [if_neg c8] at hf
      refine lv_aload_n hx hb dX0_hurry_34 rfl (lv_at hL.1 1 rfl) ?_
      refine lv_iload_n hx hb dX0_hurry_35 rfl (lv_at hL.1 0 rfl) ?_
      obtain ⟨h_9, e10, hf⟩ := p_b hf
      refine p_putI hC hi0 tyX0_ok nmX0 hK hQ hS e10 rfl (by decide) rfl rfl (by decide +kernel) dX0_hurry_36 (fun H locs hQ hS => ?_)
      exact b39 _ _ _ h_9  hQ hS (hL.sub [] rfl) hf
  · rw [if_pos c5] at hf
    refine lv_aload_n hx hb dX0_hurry_18 rfl (lv_at hL.1 1 rfl) ?_
    refine lv_iload_n hx hb dX0_hurry_19 rfl (lv_at hL.1 0 rfl) ?_
    obtain ⟨u11, e12, hf⟩ := p_b hf
    obtain ⟨h_13, e14, hf⟩ := p_b hf
    refine p_cMv (va_runV (As := [.int (x1 + ((v1 + 1) / 2))]) (rest := []) hC (kX0_begin l D ad h a0 (x1 + ((v1 + 1) / 2)) h_13 e14) (cwV 1 hts gX0_hurry_X0_begin rfl rfl rfl (by decide +kernel) ⟨Nat.le_of_ble_eq_true rfl, Nat.le_of_ble_eq_true rfl⟩) (p_preV hK hQ.self e12 rfl) rfl rfl hL.1.1 rfl (lv_room (Nat.le_of_ble_eq_true rfl)) dX0_hurry_20 ⟨Nat.le_of_ble_eq_true rfl, Nat.le_of_ble_eq_true rfl⟩) hQ hS (fun H locs hQ hS => ?_)
    refine lv_goto (tgt := 39) hx hb dX0_hurry_23 (by decide) ?_
    exact b39 _ _ _ h_13  hQ hS (hL.sub [] rfl) hf
-- X0_finish
abbrev rX0_finish : Room := { frames := 0, cells := 0, slots := 0, locals := 0 }
set_option maxHeartbeats 4000000 in
set_option maxRecDepth 100000 in
theorem kX0_finish (l : Launch) (D : va_G) (ad : Nat → Nat) (h : PH) (a0 : Nat)  (r : PH) (hf : fX0_finish h a0  = some r) : Met l yX0_finish wsX0_finish rX0_finish (p_pre D ad (p_A ad h) h [.ref (ad a0)]) (p_Mv D ad (p_A ad h) r) 0 0 (p_A ad h) := by
  refine Met.ofW (cc := cX0_finish) (maxL := 1) (ret := none) (by decide) rfl ?_
  intro p e s m args below meth c s₁ B hml hv
  obtain ⟨hargs, hK, hQ⟩ := hv
  have hx := B.exec
  have hb := B.bytes
  have hr := B.returns
  have hts := atoms_spec (ws := wsX0_finish) B.pre
  have hown : s.vm.findClass RX0 = some m.cls := findClass_of_methodNamed B.named
  have hlocks := B.notSynchronized
  have hC : CallFix p m c cX0_finish 1 s args wsX0_finish RX0 := ⟨hx, hb, hml, hown, hts⟩
  have hS : va_S (p_A ad h) s.heap s.heap [] := va_S.rf
  have hi0 : ∀ w ∈ u_ws RX0 TX0 9, w ∈ wsX0_finish := fun w hw => List.mem_cons_of_mem _ (List.mem_append_right _ hw)
  obtain ⟨ls, hls, hL⟩ := p_start (n := 1) hargs (by simp [p_cat, p_ci, p_cr, p_cn]) (Nat.le_of_ble_eq_true rfl)
  show W p l e rX0_finish s m args below meth c s.heap [] 0 0 (MQ below (p_Mv D ad (p_A ad h) r) args s 0 0 (p_A ad h)) (entryFrame m args 1)
  rw [hls]
  clear hls
  have hL : p_L ls 1 [(0, .ref (ad a0))] := hL
  have b58 : ∀ (H : Heap) (locs : List Loc) (ls : Array Slot) (h1 : PH) , p_Q D ad (p_A ad h) s h1 H → va_S (p_A ad h) s.heap H locs → p_L ls 1 [] → fX0_finish_58 h1  = some r → W p l e rX0_finish s m args below meth c H locs 0 0 (MQ below (p_Mv D ad (p_A ad h) r) args s 0 0 (p_A ad h)) (F0 m 58 ls []) := by
    intro H locs ls h1  hQ hS hL hf
    rw [fX0_finish_58] at hf
    exact p_rMv hC hr hlocks hQ hS hf dX0_finish_58
  have b55 : ∀ (H : Heap) (locs : List Loc) (ls : Array Slot) (h1 : PH) (sx0 : Int32) (sa1 : Nat), p_Q D ad (p_A ad h) s h1 H → va_S (p_A ad h) s.heap H locs → p_L ls 1 [] → fX0_finish_55 h1 sx0 sa1 = some r → W p l e rX0_finish s m args below meth c H locs 0 0 (MQ below (p_Mv D ad (p_A ad h) r) args s 0 0 (p_A ad h)) (F0 m 55 ls [.int sx0, .ref (ad sa1)]) := by
    intro H locs ls h1 sx0 sa1 hQ hS hL hf
    rw [fX0_finish_55] at hf
    obtain ⟨h_1, e2, hf⟩ := p_b hf
    refine p_putI hC hi0 tyX0_ok nmX0 hK hQ hS e2 rfl (by decide) rfl rfl (by decide +kernel) dX0_finish_55 (fun H locs hQ hS => ?_)
    exact b58 _ _ _ h_1  hQ hS (hL.sub [] rfl) hf
  rw [fX0_finish] at hf
  refine lv_aload_n hx hb dX0_finish_0 rfl (lv_at hL.1 0 rfl) ?_
  refine lv_iconst (v := 0) hx hb dX0_finish_1 (by decide) ?_
  obtain ⟨h_3, e4, hf⟩ := p_b hf
  refine p_putZ hC hi0 tyX0_ok nmX0 hK hQ hS e4 rfl (by decide) rfl rfl (by decide +kernel) dX0_finish_2 (fun H locs hQ hS => ?_)
  refine lv_aload_n hx hb dX0_finish_5 rfl (lv_at hL.1 0 rfl) ?_
  refine lv_aload_n hx hb dX0_finish_6 rfl (lv_at hL.1 0 rfl) ?_
  obtain ⟨v5, e6, hf⟩ := p_b hf
  refine p_getI hC hi0 hK hQ e6 rfl (by decide) (by decide +kernel) dX0_finish_7 ?_
  obtain ⟨h_7, e8, hf⟩ := p_b hf
  refine p_putI hC hi0 tyX0_ok nmX0 hK hQ hS e8 rfl (by decide) rfl rfl (by decide +kernel) dX0_finish_10 (fun H locs hQ hS => ?_)
  refine lv_aload_n hx hb dX0_finish_13 rfl (lv_at hL.1 0 rfl) ?_
  refine lv_dup hx hb dX0_finish_14 rfl ?_
  obtain ⟨v9, e10, hf⟩ := p_b hf
  refine p_getI hC hi0 hK hQ e10 rfl (by decide) (by decide +kernel) dX0_finish_15 ?_
  refine lv_iconst (v := 1) hx hb dX0_finish_18 (by decide) ?_
  refine lv_iadd hx hb dX0_finish_19 ?_
  obtain ⟨h_11, e12, hf⟩ := p_b hf
  refine p_putI hC hi0 tyX0_ok nmX0 hK hQ hS e12 rfl (by decide) rfl rfl (by decide +kernel) dX0_finish_20 (fun H locs hQ hS => ?_)
  refine lv_aload_n hx hb dX0_finish_23 rfl (lv_at hL.1 0 rfl) ?_
  obtain ⟨v13, e14, hf⟩ := p_b hf
  refine p_getI hC hi0 hK hQ e14 rfl (by decide) (by decide +kernel) dX0_finish_24 ?_
  refine lv_iconst (v := 3) hx hb dX0_finish_27 (by decide) ?_
  refine lv_icmp_lt (tgt := 58) hx hb dX0_finish_28 (by decide) (fun c15 => ?_) (fun c15 => ?_)
  · rw [if_pos c15] at hf
    exact b58 _ _ _ h_11  hQ hS (hL.sub [] rfl) hf
  · rw [if_neg c15] at hf
    refine lv_aload_n hx hb dX0_finish_31 rfl (lv_at hL.1 0 rfl) ?_
    refine lv_iconst (v := 0) hx hb dX0_finish_32 (by decide) ?_
    obtain ⟨h_16, e17, hf⟩ := p_b hf
    refine p_putI hC hi0 tyX0_ok nmX0 hK hQ hS e17 rfl (by decide) rfl rfl (by decide +kernel) dX0_finish_33 (fun H locs hQ hS => ?_)
    refine lv_aload_n hx hb dX0_finish_36 rfl (lv_at hL.1 0 rfl) ?_
    refine lv_aload_n hx hb dX0_finish_37 rfl (lv_at hL.1 0 rfl) ?_
    obtain ⟨v18, e19, hf⟩ := p_b hf
    refine p_getI hC hi0 hK hQ e19 rfl (by decide) (by decide +kernel) dX0_finish_38 ?_
    refine lv_iconst (v := 1) hx hb dX0_finish_41 (by decide) ?_
    refine lv_icmp_le (tgt := 54) hx hb dX0_finish_42 (by decide) (fun c20 => ?_) (fun c20 => ?_)
    · rw [if_pos c20] at hf
      refine lv_iconst (v := 1) hx hb dX0_finish_54 (by decide) ?_
      exact b55 _ _ _ h_16 1 a0 hQ hS (hL.sub [] rfl) hf
    · rw [if_neg c20] at hf
      refine lv_aload_n hx hb dX0_finish_45 rfl (lv_at hL.1 0 rfl) ?_
      obtain ⟨v21, e22, hf⟩ := p_b hf
      refine p_getI hC hi0 hK hQ e22 rfl (by decide) (by decide +kernel) dX0_finish_46 ?_
      refine lv_iconst (v := 2) hx hb dX0_finish_49 (by decide) ?_
      refine lv_idiv hx hb dX0_finish_50 (by decide) ?_
      refine lv_goto (tgt := 55) hx hb dX0_finish_51 (by decide) ?_
      exact b55 _ _ _ h_16 (v21 / 2) a0 hQ hS (hL.sub [] rfl) hf
-- X0_miss
abbrev rX0_miss : Room := { frames := 0, cells := 0, slots := 0, locals := 0 }
set_option maxHeartbeats 4000000 in
set_option maxRecDepth 100000 in
theorem kX0_miss (l : Launch) (D : va_G) (ad : Nat → Nat) (h : PH) (a0 : Nat)  (r : PH) (hf : fX0_miss h a0  = some r) : Met l yX0_miss wsX0_miss rX0_miss (p_pre D ad (p_A ad h) h [.ref (ad a0)]) (p_Mv D ad (p_A ad h) r) 0 0 (p_A ad h) := by
  refine Met.ofW (cc := cX0_miss) (maxL := 1) (ret := none) (by decide) rfl ?_
  intro p e s m args below meth c s₁ B hml hv
  obtain ⟨hargs, hK, hQ⟩ := hv
  have hx := B.exec
  have hb := B.bytes
  have hr := B.returns
  have hts := atoms_spec (ws := wsX0_miss) B.pre
  have hown : s.vm.findClass RX0 = some m.cls := findClass_of_methodNamed B.named
  have hlocks := B.notSynchronized
  have hC : CallFix p m c cX0_miss 1 s args wsX0_miss RX0 := ⟨hx, hb, hml, hown, hts⟩
  have hS : va_S (p_A ad h) s.heap s.heap [] := va_S.rf
  have hi0 : ∀ w ∈ u_ws RX0 TX0 9, w ∈ wsX0_miss := fun w hw => List.mem_cons_of_mem _ (List.mem_append_right _ hw)
  obtain ⟨ls, hls, hL⟩ := p_start (n := 1) hargs (by simp [p_cat, p_ci, p_cr, p_cn]) (Nat.le_of_ble_eq_true rfl)
  show W p l e rX0_miss s m args below meth c s.heap [] 0 0 (MQ below (p_Mv D ad (p_A ad h) r) args s 0 0 (p_A ad h)) (entryFrame m args 1)
  rw [hls]
  clear hls
  have hL : p_L ls 1 [(0, .ref (ad a0))] := hL
  have b54 : ∀ (H : Heap) (locs : List Loc) (ls : Array Slot) (h1 : PH) (sx0 : Int32) (sa1 : Nat), p_Q D ad (p_A ad h) s h1 H → va_S (p_A ad h) s.heap H locs → p_L ls 1 [] → fX0_miss_54 h1 sx0 sa1 = some r → W p l e rX0_miss s m args below meth c H locs 0 0 (MQ below (p_Mv D ad (p_A ad h) r) args s 0 0 (p_A ad h)) (F0 m 54 ls [.int sx0, .ref (ad sa1)]) := by
    intro H locs ls h1 sx0 sa1 hQ hS hL hf
    rw [fX0_miss_54] at hf
    obtain ⟨h_1, e2, hf⟩ := p_b hf
    refine p_putI hC hi0 tyX0_ok nmX0 hK hQ hS e2 rfl (by decide) rfl rfl (by decide +kernel) dX0_miss_54 (fun H locs hQ hS => ?_)
    exact p_rMv hC hr hlocks hQ hS hf dX0_miss_57
  rw [fX0_miss] at hf
  refine lv_aload_n hx hb dX0_miss_0 rfl (lv_at hL.1 0 rfl) ?_
  refine lv_dup hx hb dX0_miss_1 rfl ?_
  obtain ⟨v3, e4, hf⟩ := p_b hf
  refine p_getI hC hi0 hK hQ e4 rfl (by decide) (by decide +kernel) dX0_miss_2 ?_
  refine lv_iconst (v := 1) hx hb dX0_miss_5 (by decide) ?_
  refine lv_iadd hx hb dX0_miss_6 ?_
  obtain ⟨h_5, e6, hf⟩ := p_b hf
  refine p_putI hC hi0 tyX0_ok nmX0 hK hQ hS e6 rfl (by decide) rfl rfl (by decide +kernel) dX0_miss_7 (fun H locs hQ hS => ?_)
  refine lv_aload_n hx hb dX0_miss_10 rfl (lv_at hL.1 0 rfl) ?_
  refine lv_iconst (v := 0) hx hb dX0_miss_11 (by decide) ?_
  obtain ⟨h_7, e8, hf⟩ := p_b hf
  refine p_putI hC hi0 tyX0_ok nmX0 hK hQ hS e8 rfl (by decide) rfl rfl (by decide +kernel) dX0_miss_12 (fun H locs hQ hS => ?_)
  refine lv_aload_n hx hb dX0_miss_15 rfl (lv_at hL.1 0 rfl) ?_
  refine lv_dup hx hb dX0_miss_16 rfl ?_
  obtain ⟨v9, e10, hf⟩ := p_b hf
  refine p_getI hC hi0 hK hQ e10 rfl (by decide) (by decide +kernel) dX0_miss_17 ?_
  refine lv_aload_n hx hb dX0_miss_20 rfl (lv_at hL.1 0 rfl) ?_
  obtain ⟨v11, e12, hf⟩ := p_b hf
  refine p_getI hC hi0 hK hQ e12 rfl (by decide) (by decide +kernel) dX0_miss_21 ?_
  refine lv_aload_n hx hb dX0_miss_24 rfl (lv_at hL.1 0 rfl) ?_
  obtain ⟨v13, e14, hf⟩ := p_b hf
  refine p_getI hC hi0 hK hQ e14 rfl (by decide) (by decide +kernel) dX0_miss_25 ?_
  refine lv_imul hx hb dX0_miss_28 ?_
  refine lv_iadd hx hb dX0_miss_29 ?_
  obtain ⟨h_15, e16, hf⟩ := p_b hf
  refine p_putI hC hi0 tyX0_ok nmX0 hK hQ hS e16 rfl (by decide) rfl rfl (by decide +kernel) dX0_miss_30 (fun H locs hQ hS => ?_)
  refine lv_aload_n hx hb dX0_miss_33 rfl (lv_at hL.1 0 rfl) ?_
  refine lv_aload_n hx hb dX0_miss_34 rfl (lv_at hL.1 0 rfl) ?_
  obtain ⟨v17, e18, hf⟩ := p_b hf
  refine p_getI hC hi0 hK hQ e18 rfl (by decide) (by decide +kernel) dX0_miss_35 ?_
  refine lv_bipush (v := 8) hx hb dX0_miss_38 (by decide) ?_
  refine lv_icmp_ge (tgt := 52) hx hb dX0_miss_40 (by decide) (fun c19 => ?_) (fun c19 => ?_)
  · rw [if_pos c19] at hf
    refine lv_bipush (v := 8) hx hb dX0_miss_52 (by decide) ?_
    exact b54 _ _ _ h_15 8 a0 hQ hS (hL.sub [] rfl) hf
  · rw [if_neg c19] at hf
    refine lv_aload_n hx hb dX0_miss_43 rfl (lv_at hL.1 0 rfl) ?_
    obtain ⟨v20, e21, hf⟩ := p_b hf
    refine p_getI hC hi0 hK hQ e21 rfl (by decide) (by decide +kernel) dX0_miss_44 ?_
    refine lv_iconst (v := 2) hx hb dX0_miss_47 (by decide) ?_
    refine lv_imul hx hb dX0_miss_48 ?_
    refine lv_goto (tgt := 54) hx hb dX0_miss_49 (by decide) ?_
    exact b54 _ _ _ h_15 (v20 * 2) a0 hQ hS (hL.sub [] rfl) hf
-- X1_init
abbrev rX1_init : Room := { frames := 1, cells := 0, slots := 0, locals := 20 }
set_option maxHeartbeats 4000000 in
set_option maxRecDepth 100000 in
theorem kX1_init (l : Launch) (D : va_G) (ad : Nat → Nat) (h : PH) (a0 : Nat) (x1 : Int32) (x2 : Int32) (x3 : Int32) (x4 : Int32) (x5 : Int32) (x6 : Int32) (a7 : Nat)  (r : PH) (hf : fX1_init h a0 x1 x2 x3 x4 x5 x6 a7  = some r) : Met l yX1_init wsX1_init rX1_init (p_pre D ad (p_A ad h) h [.ref (ad a0), .int x1, .int x2, .int x3, .int x4, .int x5, .int x6, .ref (ad a7)]) (p_Mv D ad (p_A ad h) r) 0 0 (p_A ad h) := by
  refine Met.ofW (cc := cX1_init) (maxL := 8) (ret := none) (by decide) rfl ?_
  intro p e s m args below meth c s₁ B hml hv
  obtain ⟨hargs, hK, hQ⟩ := hv
  have hx := B.exec
  have hb := B.bytes
  have hr := B.returns
  have hts := atoms_spec (ws := wsX1_init) B.pre
  have hown : s.vm.findClass RX1 = some m.cls := findClass_of_methodNamed B.named
  have hlocks := B.notSynchronized
  have hinit : meth.name = "<init>" := (name_of_methodNamed B.named B.method).1
  have hC : CallFix p m c cX1_init 8 s args wsX1_init RX1 := ⟨hx, hb, hml, hown, hts⟩
  have hS : va_S (p_A ad h) s.heap s.heap [] := va_S.rf
  have hi1 : ∀ w ∈ u_ws RX1 TX1 10, w ∈ wsX1_init := fun w hw => List.mem_cons_of_mem _ (List.mem_append_right _ hw)
  obtain ⟨ls, hls, hL⟩ := p_start (n := 8) hargs (by simp [p_cat, p_ci, p_cr, p_cn]) (Nat.le_of_ble_eq_true rfl)
  show W p l e rX1_init s m args below meth c s.heap [] 0 0 (MQ below (p_Mv D ad (p_A ad h) r) args s 0 0 (p_A ad h)) (entryFrame m args 8)
  rw [hls]
  clear hls
  have hL : p_L ls 8 [(0, .ref (ad a0)), (1, .int x1), (2, .int x2), (3, .int x3), (4, .int x4), (5, .int x5), (6, .int x6), (7, .ref (ad a7))] := hL
  rw [fX1_init] at hf
  refine lv_aload_n hx hb dX1_init_0 rfl (lv_at hL.1 0 rfl) ?_
  refine W.objInit hx hb hown (hts (.methodLink RX1 3 objectInit) (by decide +kernel)) (hts (.instanceMethod objectInit) (by decide +kernel)) (hts (.code objectInit ⟨#[0xb1]⟩ 1 none) (by decide +kernel)) rfl (by rw [hml]; exact hL.1.1) rfl dX1_init_1 (Nat.le_of_ble_eq_true rfl) (Nat.le_of_ble_eq_true rfl) ?_
  refine W.eq (g2 := F0 m 4 ls []) rfl ?_
  refine lv_aload_n hx hb dX1_init_4 rfl (lv_at hL.1 0 rfl) ?_
  refine lv_iload_n hx hb dX1_init_5 rfl (lv_at hL.1 1 rfl) ?_
  obtain ⟨h_1, e2, hf⟩ := p_b hf
  refine p_putIF hC hi1 tyX1_ok nmX1 hK hQ hS e2 rfl (by decide) rfl hinit rfl rfl (by decide +kernel) dX1_init_6 (fun H locs hQ hS => ?_)
  refine lv_aload_n hx hb dX1_init_9 rfl (lv_at hL.1 0 rfl) ?_
  refine lv_iload_n hx hb dX1_init_10 rfl (lv_at hL.1 2 rfl) ?_
  obtain ⟨h_3, e4, hf⟩ := p_b hf
  refine p_putI hC hi1 tyX1_ok nmX1 hK hQ hS e4 rfl (by decide) rfl rfl (by decide +kernel) dX1_init_11 (fun H locs hQ hS => ?_)
  refine lv_aload_n hx hb dX1_init_14 rfl (lv_at hL.1 0 rfl) ?_
  refine lv_iload_n hx hb dX1_init_15 rfl (lv_at hL.1 3 rfl) ?_
  obtain ⟨h_5, e6, hf⟩ := p_b hf
  refine p_putI hC hi1 tyX1_ok nmX1 hK hQ hS e6 rfl (by decide) rfl rfl (by decide +kernel) dX1_init_16 (fun H locs hQ hS => ?_)
  refine lv_aload_n hx hb dX1_init_19 rfl (lv_at hL.1 0 rfl) ?_
  refine lv_iload hx hb dX1_init_20 (lv_at hL.1 4 rfl) ?_
  obtain ⟨h_7, e8, hf⟩ := p_b hf
  refine p_putIF hC hi1 tyX1_ok nmX1 hK hQ hS e8 rfl (by decide) rfl hinit rfl rfl (by decide +kernel) dX1_init_22 (fun H locs hQ hS => ?_)
  refine lv_aload_n hx hb dX1_init_25 rfl (lv_at hL.1 0 rfl) ?_
  refine lv_iload hx hb dX1_init_26 (lv_at hL.1 5 rfl) ?_
  obtain ⟨h_9, e10, hf⟩ := p_b hf
  refine p_putIF hC hi1 tyX1_ok nmX1 hK hQ hS e10 rfl (by decide) rfl hinit rfl rfl (by decide +kernel) dX1_init_28 (fun H locs hQ hS => ?_)
  refine lv_aload_n hx hb dX1_init_31 rfl (lv_at hL.1 0 rfl) ?_
  refine lv_iload hx hb dX1_init_32 (lv_at hL.1 6 rfl) ?_
  obtain ⟨h_11, e12, hf⟩ := p_b hf
  refine p_putZF hC hi1 tyX1_ok nmX1 hK hQ hS e12 rfl (by decide) rfl hinit rfl rfl (by decide +kernel) dX1_init_34 (fun H locs hQ hS => ?_)
  refine lv_aload_n hx hb dX1_init_37 rfl (lv_at hL.1 0 rfl) ?_
  refine lv_aload hx hb dX1_init_38 (lv_at hL.1 7 rfl) ?_
  obtain ⟨h_13, e14, hf⟩ := p_b hf
  refine p_putRF hC hi1 tyX1_ok nmX1 hK hQ hS e14 rfl (by decide) rfl hinit rfl rfl (by decide +kernel) dX1_init_40 (fun H locs hQ hS => ?_)
  refine lv_aload_n hx hb dX1_init_43 rfl (lv_at hL.1 0 rfl) ?_
  refine lv_iconst (v := 0) hx hb dX1_init_44 (by decide) ?_
  obtain ⟨h_15, e16, hf⟩ := p_b hf
  refine p_putZ hC hi1 tyX1_ok nmX1 hK hQ hS e16 rfl (by decide) rfl rfl (by decide +kernel) dX1_init_45 (fun H locs hQ hS => ?_)
  refine lv_aload_n hx hb dX1_init_48 rfl (lv_at hL.1 0 rfl) ?_
  refine lv_iconst (v := 0) hx hb dX1_init_49 (by decide) ?_
  obtain ⟨h_17, e18, hf⟩ := p_b hf
  refine p_putZ hC hi1 tyX1_ok nmX1 hK hQ hS e18 rfl (by decide) rfl rfl (by decide +kernel) dX1_init_50 (fun H locs hQ hS => ?_)
  refine lv_aload_n hx hb dX1_init_53 rfl (lv_at hL.1 0 rfl) ?_
  refine lv_iconst (v := 0) hx hb dX1_init_54 (by decide) ?_
  obtain ⟨h_19, e20, hf⟩ := p_b hf
  refine p_putI hC hi1 tyX1_ok nmX1 hK hQ hS e20 rfl (by decide) rfl rfl (by decide +kernel) dX1_init_55 (fun H locs hQ hS => ?_)
  exact p_rMv hC hr hlocks hQ hS hf dX1_init_58
-- X1_covers
abbrev rX1_covers : Room := { frames := 0, cells := 0, slots := 0, locals := 0 }
set_option maxHeartbeats 4000000 in
set_option maxRecDepth 100000 in
theorem kX1_covers (l : Launch) (D : va_G) (ad : Nat → Nat) (h : PH) (a0 : Nat) (x1 : Int32) (x2 : Int32)  (r : Int32) (hf : fX1_covers h a0 x1 x2  = some r) : Met l yX1_covers wsX1_covers rX1_covers (p_pre D ad p_tt h [.ref (ad a0), .int x1, .int x2]) (p_Ri r) 0 0 p_no := by
  refine Met.ofW (cc := cX1_covers) (maxL := 3) (ret := (some .boolean)) (by decide) rfl ?_
  intro p e s m args below meth c s₁ B hml hv
  obtain ⟨hargs, hK, hQ⟩ := hv
  have hx := B.exec
  have hb := B.bytes
  have hr := B.returns
  have hts := atoms_spec (ws := wsX1_covers) B.pre
  have hown : s.vm.findClass RX1 = some m.cls := findClass_of_methodNamed B.named
  have hlocks := B.notSynchronized
  have hC : CallFix p m c cX1_covers 3 s args wsX1_covers RX1 := ⟨hx, hb, hml, hown, hts⟩
  have hS : va_S p_no s.heap s.heap [] := va_S.rf
  have hi1 : ∀ w ∈ u_ws RX1 TX1 10, w ∈ wsX1_covers := fun w hw => List.mem_cons_of_mem _ (List.mem_append_right _ hw)
  obtain ⟨ls, hls, hL⟩ := p_start (n := 3) hargs (by simp [p_cat, p_ci, p_cr, p_cn]) (Nat.le_of_ble_eq_true rfl)
  show W p l e rX1_covers s m args below meth c s.heap [] 0 0 (MQ below (p_Ri r) args s 0 0 p_no) (entryFrame m args 3)
  rw [hls]
  clear hls
  have hL : p_L ls 3 [(0, .ref (ad a0)), (1, .int x1), (2, .int x2)] := hL
  have b62 : ∀ (H : Heap) (locs : List Loc) (ls : Array Slot) (h1 : PH) (sx0 : Int32), p_Q D ad p_tt s h1 H → va_S p_no s.heap H locs → p_L ls 3 [] → fX1_covers_62 h1 sx0 = some r → W p l e rX1_covers s m args below meth c H locs 0 0 (MQ below (p_Ri r) args s 0 0 p_no) (F0 m 62 ls [.int sx0]) := by
    intro H locs ls h1 sx0 hQ hS hL hf
    rw [fX1_covers_62] at hf
    exact p_rRz hC hr hlocks hS hf dX1_covers_62
  have b61 : ∀ (H : Heap) (locs : List Loc) (ls : Array Slot) (h1 : PH) , p_Q D ad p_tt s h1 H → va_S p_no s.heap H locs → p_L ls 3 [] → fX1_covers_61 h1  = some r → W p l e rX1_covers s m args below meth c H locs 0 0 (MQ below (p_Ri r) args s 0 0 p_no) (F0 m 61 ls []) := by
    intro H locs ls h1  hQ hS hL hf
    rw [fX1_covers_61] at hf
    refine lv_iconst (v := 0) hx hb dX1_covers_61 (by decide) ?_
    exact b62 _ _ _ h1 0 hQ hS (hL.sub [] rfl) hf
  have b57 : ∀ (H : Heap) (locs : List Loc) (ls : Array Slot) (h1 : PH) , p_Q D ad p_tt s h1 H → va_S p_no s.heap H locs → p_L ls 3 [] → fX1_covers_57 h1  = some r → W p l e rX1_covers s m args below meth c H locs 0 0 (MQ below (p_Ri r) args s 0 0 p_no) (F0 m 57 ls []) := by
    intro H locs ls h1  hQ hS hL hf
    rw [fX1_covers_57] at hf
    refine lv_iconst (v := 1) hx hb dX1_covers_57 (by decide) ?_
    refine lv_goto (tgt := 62) hx hb dX1_covers_58 (by decide) ?_
    exact b62 _ _ _ h1 1 hQ hS (hL.sub [] rfl) hf
  rw [fX1_covers] at hf
  refine lv_iload_n hx hb dX1_covers_0 rfl (lv_at hL.1 1 rfl) ?_
  refine lv_aload_n hx hb dX1_covers_1 rfl (lv_at hL.1 0 rfl) ?_
  obtain ⟨v1, e2, hf⟩ := p_b hf
  refine p_getI hC hi1 hK hQ e2 rfl (by decide) (by decide +kernel) dX1_covers_2 ?_
  refine lv_icmp_lt (tgt := 61) hx hb dX1_covers_5 (by decide) (fun c3 => ?_) (fun c3 => ?_)
  · rw [if_pos c3] at hf
    exact b61 _ _ _ h  hQ hS (hL.sub [] rfl) hf
  · rw [if_neg c3] at hf
    refine lv_iload_n hx hb dX1_covers_8 rfl (lv_at hL.1 1 rfl) ?_
    refine lv_aload_n hx hb dX1_covers_9 rfl (lv_at hL.1 0 rfl) ?_
    obtain ⟨v4, e5, hf⟩ := p_b hf
    refine p_getI hC hi1 hK hQ e5 rfl (by decide) (by decide +kernel) dX1_covers_10 ?_
    refine lv_aload_n hx hb dX1_covers_13 rfl (lv_at hL.1 0 rfl) ?_
    obtain ⟨v6, e7, hf⟩ := p_b hf
    refine p_getI hC hi1 hK hQ e7 rfl (by decide) (by decide +kernel) dX1_covers_14 ?_
    refine lv_iadd hx hb dX1_covers_17 ?_
    refine lv_icmp_ge (tgt := 61) hx hb dX1_covers_18 (by decide) (fun c8 => ?_) (fun c8 => ?_)
    · rw [if_pos c8] at hf
      exact b61 _ _ _ h  hQ hS (hL.sub [] rfl) hf
    · rw [if_neg c8] at hf
      refine lv_iload_n hx hb dX1_covers_21 rfl (lv_at hL.1 2 rfl) ?_
      refine lv_aload_n hx hb dX1_covers_22 rfl (lv_at hL.1 0 rfl) ?_
      obtain ⟨v9, e10, hf⟩ := p_b hf
      refine p_getI hC hi1 hK hQ e10 rfl (by decide) (by decide +kernel) dX1_covers_23 ?_
      refine lv_icmp_lt (tgt := 61) hx hb dX1_covers_26 (by decide) (fun c11 => ?_) (fun c11 => ?_)
      · rw [if_pos c11] at hf
        exact b61 _ _ _ h  hQ hS (hL.sub [] rfl) hf
      · rw [if_neg c11] at hf
        refine lv_iload_n hx hb dX1_covers_29 rfl (lv_at hL.1 2 rfl) ?_
        refine lv_aload_n hx hb dX1_covers_30 rfl (lv_at hL.1 0 rfl) ?_
        obtain ⟨v12, e13, hf⟩ := p_b hf
        refine p_getI hC hi1 hK hQ e13 rfl (by decide) (by decide +kernel) dX1_covers_31 ?_
        refine lv_aload_n hx hb dX1_covers_34 rfl (lv_at hL.1 0 rfl) ?_
        obtain ⟨v14, e15, hf⟩ := p_b hf
        refine p_getI hC hi1 hK hQ e15 rfl (by decide) (by decide +kernel) dX1_covers_35 ?_
        refine lv_iadd hx hb dX1_covers_38 ?_
        refine lv_icmp_ge (tgt := 61) hx hb dX1_covers_39 (by decide) (fun c16 => ?_) (fun c16 => ?_)
        · rw [if_pos c16] at hf
          exact b61 _ _ _ h  hQ hS (hL.sub [] rfl) hf
        · rw [if_neg c16] at hf
          refine lv_aload_n hx hb dX1_covers_42 rfl (lv_at hL.1 0 rfl) ?_
          obtain ⟨v17, e18, hf⟩ := p_b hf
          refine p_getI hC hi1 hK hQ e18 rfl (by decide) (by decide +kernel) dX1_covers_43 ?_
          refine lv_if_eq (tgt := 57) hx hb dX1_covers_46 (by decide) (fun c19 => ?_) (fun c19 => ?_)
          · rw [if_pos c19] at hf
            exact b57 _ _ _ h  hQ hS (hL.sub [] rfl) hf
          · rw [if_neg c19] at hf
            refine lv_iload_n hx hb dX1_covers_49 rfl (lv_at hL.1 1 rfl) ?_
            refine lv_iload_n hx hb dX1_covers_50 rfl (lv_at hL.1 2 rfl) ?_
            refine lv_iadd hx hb dX1_covers_51 ?_
            refine lv_iconst (v := 2) hx hb dX1_covers_52 (by decide) ?_
            refine lv_irem hx hb dX1_covers_53 (by decide) ?_
            refine lv_if_ne (tgt := 61) hx hb dX1_covers_54 (by decide) (fun c20 => ?_) (fun c20 => ?_)
            · rw [if_neg c20] at hf
              exact b61 _ _ _ h  hQ hS (hL.sub [] rfl) hf
            · rw [if_pos c20] at hf
              exact b57 _ _ _ h  hQ hS (hL.sub [] rfl) hf
-- X1_pagesNeeded
abbrev rX1_pagesNeeded : Room := { frames := 0, cells := 0, slots := 0, locals := 0 }
set_option maxHeartbeats 4000000 in
set_option maxRecDepth 100000 in
theorem kX1_pagesNeeded (l : Launch) (D : va_G) (ad : Nat → Nat) (h : PH) (a0 : Nat)  (r : Int32) (hf : fX1_pagesNeeded h a0  = some r) : Met l yX1_pagesNeeded wsX1_pagesNeeded rX1_pagesNeeded (p_pre D ad p_tt h [.ref (ad a0)]) (p_Ri r) 0 0 p_no := by
  refine Met.ofW (cc := cX1_pagesNeeded) (maxL := 1) (ret := (some .int)) (by decide) rfl ?_
  intro p e s m args below meth c s₁ B hml hv
  obtain ⟨hargs, hK, hQ⟩ := hv
  have hx := B.exec
  have hb := B.bytes
  have hr := B.returns
  have hts := atoms_spec (ws := wsX1_pagesNeeded) B.pre
  have hown : s.vm.findClass RX1 = some m.cls := findClass_of_methodNamed B.named
  have hlocks := B.notSynchronized
  have hC : CallFix p m c cX1_pagesNeeded 1 s args wsX1_pagesNeeded RX1 := ⟨hx, hb, hml, hown, hts⟩
  have hS : va_S p_no s.heap s.heap [] := va_S.rf
  have hi1 : ∀ w ∈ u_ws RX1 TX1 10, w ∈ wsX1_pagesNeeded := fun w hw => List.mem_cons_of_mem _ (List.mem_append_right _ hw)
  obtain ⟨ls, hls, hL⟩ := p_start (n := 1) hargs (by simp [p_cat, p_ci, p_cr, p_cn]) (Nat.le_of_ble_eq_true rfl)
  show W p l e rX1_pagesNeeded s m args below meth c s.heap [] 0 0 (MQ below (p_Ri r) args s 0 0 p_no) (entryFrame m args 1)
  rw [hls]
  clear hls
  have hL : p_L ls 1 [(0, .ref (ad a0))] := hL
  rw [fX1_pagesNeeded] at hf
  refine lv_aload_n hx hb dX1_pagesNeeded_0 rfl (lv_at hL.1 0 rfl) ?_
  obtain ⟨v1, e2, hf⟩ := p_b hf
  refine p_getI hC hi1 hK hQ e2 rfl (by decide) (by decide +kernel) dX1_pagesNeeded_1 ?_
  refine lv_aload_n hx hb dX1_pagesNeeded_4 rfl (lv_at hL.1 0 rfl) ?_
  obtain ⟨v3, e4, hf⟩ := p_b hf
  refine p_getI hC hi1 hK hQ e4 rfl (by decide) (by decide +kernel) dX1_pagesNeeded_5 ?_
  refine lv_imul hx hb dX1_pagesNeeded_8 ?_
  refine lv_iconst (v := 4) hx hb dX1_pagesNeeded_9 (by decide) ?_
  refine lv_iadd hx hb dX1_pagesNeeded_10 ?_
  refine lv_iconst (v := 1) hx hb dX1_pagesNeeded_11 (by decide) ?_
  refine lv_isub hx hb dX1_pagesNeeded_12 ?_
  refine lv_iconst (v := 4) hx hb dX1_pagesNeeded_13 (by decide) ?_
  refine lv_idiv hx hb dX1_pagesNeeded_14 (by decide) ?_
  exact p_rRi hC hr hlocks hS hf dX1_pagesNeeded_15
-- X1_pagesHeld
abbrev rX1_pagesHeld : Room := { frames := 1, cells := 0, slots := 0, locals := 20 }
set_option maxHeartbeats 4000000 in
set_option maxRecDepth 100000 in
theorem kX1_pagesHeld (l : Launch) (D : va_G) (ad : Nat → Nat) (h : PH) (a0 : Nat)  (r : Int32) (hf : fX1_pagesHeld h a0  = some r) : Met l yX1_pagesHeld wsX1_pagesHeld rX1_pagesHeld (p_pre D ad p_tt h [.ref (ad a0)]) (p_Ri r) 0 0 p_no := by
  refine Met.ofW (cc := cX1_pagesHeld) (maxL := 1) (ret := (some .int)) (by decide) rfl ?_
  intro p e s m args below meth c s₁ B hml hv
  obtain ⟨hargs, hK, hQ⟩ := hv
  have hx := B.exec
  have hb := B.bytes
  have hr := B.returns
  have hts := atoms_spec (ws := wsX1_pagesHeld) B.pre
  have hown : s.vm.findClass RX1 = some m.cls := findClass_of_methodNamed B.named
  have hlocks := B.notSynchronized
  have hC : CallFix p m c cX1_pagesHeld 1 s args wsX1_pagesHeld RX1 := ⟨hx, hb, hml, hown, hts⟩
  have hS : va_S p_no s.heap s.heap [] := va_S.rf
  have hi1 : ∀ w ∈ u_ws RX1 TX1 10, w ∈ wsX1_pagesHeld := fun w hw => List.mem_cons_of_mem _ (List.mem_append_right _ hw)
  obtain ⟨ls, hls, hL⟩ := p_start (n := 1) hargs (by simp [p_cat, p_ci, p_cr, p_cn]) (Nat.le_of_ble_eq_true rfl)
  show W p l e rX1_pagesHeld s m args below meth c s.heap [] 0 0 (MQ below (p_Ri r) args s 0 0 p_no) (entryFrame m args 1)
  rw [hls]
  clear hls
  have hL : p_L ls 1 [(0, .ref (ad a0))] := hL
  have b15 : ∀ (H : Heap) (locs : List Loc) (ls : Array Slot) (h1 : PH) (sx0 : Int32), p_Q D ad p_tt s h1 H → va_S p_no s.heap H locs → p_L ls 1 [] → fX1_pagesHeld_15 h1 sx0 = some r → W p l e rX1_pagesHeld s m args below meth c H locs 0 0 (MQ below (p_Ri r) args s 0 0 p_no) (F0 m 15 ls [.int sx0]) := by
    intro H locs ls h1 sx0 hQ hS hL hf
    rw [fX1_pagesHeld_15] at hf
    exact p_rRi hC hr hlocks hS hf dX1_pagesHeld_15
  rw [fX1_pagesHeld] at hf
  refine lv_aload_n hx hb dX1_pagesHeld_0 rfl (lv_at hL.1 0 rfl) ?_
  obtain ⟨v1, e2, hf⟩ := p_b hf
  refine p_getI hC hi1 hK hQ e2 rfl (by decide) (by decide +kernel) dX1_pagesHeld_1 ?_
  refine lv_if_eq (tgt := 14) hx hb dX1_pagesHeld_4 (by decide) (fun c3 => ?_) (fun c3 => ?_)
  · rw [if_pos c3] at hf
    refine lv_iconst (v := 0) hx hb dX1_pagesHeld_14 (by decide) ?_
    exact b15 _ _ _ h 0 hQ hS (hL.sub [] rfl) hf
  · rw [if_neg c3] at hf
    refine lv_aload_n hx hb dX1_pagesHeld_7 rfl (lv_at hL.1 0 rfl) ?_
    obtain ⟨u4, e5, hf⟩ := p_b hf
    obtain ⟨v6, e7, hf⟩ := p_b hf
    refine p_cRi (va_runV (As := []) (rest := []) hC (kX1_pagesNeeded l D ad h a0 v6 e7) (cwV 0 hts gX1_pagesHeld_X1_pagesNeeded rfl rfl rfl (by decide +kernel) ⟨Nat.le_of_ble_eq_true rfl, Nat.le_of_ble_eq_true rfl⟩) (p_preV hK hQ.tt e5 rfl) rfl rfl hL.1.1 rfl (lv_room (Nat.le_of_ble_eq_true rfl)) dX1_pagesHeld_8 ⟨Nat.le_of_ble_eq_true rfl, Nat.le_of_ble_eq_true rfl⟩) hQ hS (fun H locs hQ hS => ?_)
    refine lv_goto (tgt := 15) hx hb dX1_pagesHeld_11 (by decide) ?_
    exact b15 _ _ _ h v6 hQ hS (hL.sub [] rfl) hf
-- X1_loseSurface
abbrev rX1_loseSurface : Room := { frames := 1, cells := 0, slots := 0, locals := 21 }
set_option maxHeartbeats 4000000 in
set_option maxRecDepth 100000 in
theorem kX1_loseSurface (l : Launch) (D : va_G) (ad : Nat → Nat) (h : PH) (a0 : Nat) (x1 : Int32)  (r : PH) (hf : fX1_loseSurface h a0 x1  = some r) : Met l yX1_loseSurface wsX1_loseSurface rX1_loseSurface (p_pre D ad (p_A ad h) h [.ref (ad a0), .int x1]) (p_Mv D ad (p_A ad h) r) 0 0 (p_A ad h) := by
  refine Met.ofW (cc := cX1_loseSurface) (maxL := 2) (ret := none) (by decide) rfl ?_
  intro p e s m args below meth c s₁ B hml hv
  obtain ⟨hargs, hK, hQ⟩ := hv
  have hx := B.exec
  have hb := B.bytes
  have hr := B.returns
  have hts := atoms_spec (ws := wsX1_loseSurface) B.pre
  have hown : s.vm.findClass RX1 = some m.cls := findClass_of_methodNamed B.named
  have hlocks := B.notSynchronized
  have hC : CallFix p m c cX1_loseSurface 2 s args wsX1_loseSurface RX1 := ⟨hx, hb, hml, hown, hts⟩
  have hS : va_S (p_A ad h) s.heap s.heap [] := va_S.rf
  have hi0 : ∀ w ∈ u_ws RX0 TX0 9, w ∈ wsX1_loseSurface := fun w hw => List.mem_cons_of_mem _ (List.mem_append_right _ hw)
  have hi1 : ∀ w ∈ u_ws RX1 TX1 10, w ∈ wsX1_loseSurface := fun w hw => List.mem_cons_of_mem _ (List.mem_append_left _ (List.mem_append_right _ hw))
  obtain ⟨ls, hls, hL⟩ := p_start (n := 2) hargs (by simp [p_cat, p_ci, p_cr, p_cn]) (Nat.le_of_ble_eq_true rfl)
  show W p l e rX1_loseSurface s m args below meth c s.heap [] 0 0 (MQ below (p_Mv D ad (p_A ad h) r) args s 0 0 (p_A ad h)) (entryFrame m args 2)
  rw [hls]
  clear hls
  have hL : p_L ls 2 [(0, .ref (ad a0)), (1, .int x1)] := hL
  rw [fX1_loseSurface] at hf
  refine lv_aload_n hx hb dX1_loseSurface_0 rfl (lv_at hL.1 0 rfl) ?_
  refine lv_iconst (v := 0) hx hb dX1_loseSurface_1 (by decide) ?_
  obtain ⟨h_1, e2, hf⟩ := p_b hf
  refine p_putZ hC hi1 tyX1_ok nmX1 hK hQ hS e2 rfl (by decide) rfl rfl (by decide +kernel) dX1_loseSurface_2 (fun H locs hQ hS => ?_)
  refine lv_aload_n hx hb dX1_loseSurface_5 rfl (lv_at hL.1 0 rfl) ?_
  refine lv_iconst (v := 0) hx hb dX1_loseSurface_6 (by decide) ?_
  obtain ⟨h_3, e4, hf⟩ := p_b hf
  refine p_putI hC hi1 tyX1_ok nmX1 hK hQ hS e4 rfl (by decide) rfl rfl (by decide +kernel) dX1_loseSurface_7 (fun H locs hQ hS => ?_)
  refine lv_aload_n hx hb dX1_loseSurface_10 rfl (lv_at hL.1 0 rfl) ?_
  obtain ⟨a_5, e6, hf⟩ := p_b hf
  refine p_getR hC hi1 hK hQ e6 rfl (by decide) (by decide +kernel) dX1_loseSurface_11 ?_
  refine lv_iload_n hx hb dX1_loseSurface_14 rfl (lv_at hL.1 1 rfl) ?_
  obtain ⟨u7, e8, hf⟩ := p_b hf
  obtain ⟨h_9, e10, hf⟩ := p_b hf
  refine p_cMv (va_runV (As := [.int x1]) (rest := []) hC (kX0_drop l D ad h_3 a_5 x1 h_9 e10) (cwV 1 hts gX1_loseSurface_X0_drop rfl rfl rfl (by decide +kernel) ⟨Nat.le_of_ble_eq_true rfl, Nat.le_of_ble_eq_true rfl⟩) (p_preV hK hQ.self e8 rfl) rfl rfl hL.1.1 rfl (lv_room (Nat.le_of_ble_eq_true rfl)) dX1_loseSurface_15 ⟨Nat.le_of_ble_eq_true rfl, Nat.le_of_ble_eq_true rfl⟩) hQ hS (fun H locs hQ hS => ?_)
  exact p_rMv hC hr hlocks hQ hS hf dX1_loseSurface_18
-- X2_init
abbrev rX2_init : Room := { frames := 1, cells := 1, slots := 8, locals := 20 }
set_option maxHeartbeats 4000000 in
set_option maxRecDepth 100000 in
theorem kX2_init (l : Launch) (D : va_G) (ad : Nat → Nat) (sz : Nat) (h : PH) (a0 : Nat) (q1 : Nat) (r : PH) (hf : fX2_init h a0 q1 = some r) : Met l yX2_init wsX2_init rX2_init (p_preN D ad (p_AN ad h sz) sz h [.ref (ad a0)]) (p_NMf D ad (p_AN ad h sz) h r) 1 8 (p_AN ad h sz) := by
  refine Met.ofW (cc := cX2_init) (maxL := 1) (ret := none) (by decide) rfl ?_
  intro p e s m args below meth c s₁ B hml hv
  obtain ⟨hargs, hK, hQ, hover, hsz⟩ := hv
  have hAz : ∀ x, s.heap.size ≤ x → (p_AN ad h sz) x := fun x hx => Or.inr (by rw [← hsz]; exact hx)
  have hth : ad a0 = ad a0 := rfl
  have hx := B.exec
  have hb := B.bytes
  have hr := B.returns
  have hts := atoms_spec (ws := wsX2_init) B.pre
  have hown : s.vm.findClass RX2 = some m.cls := findClass_of_methodNamed B.named
  have hlocks := B.notSynchronized
  have hinit : meth.name = "<init>" := (name_of_methodNamed B.named B.method).1
  have hC : CallFix p m c cX2_init 1 s args wsX2_init RX2 := ⟨hx, hb, hml, hown, hts⟩
  have hS : va_S (p_AN ad h sz) s.heap s.heap [] := va_S.rf
  have hi2 : ∀ w ∈ u_ws RX2 TX2 2, w ∈ wsX2_init := fun w hw => List.mem_cons_of_mem _ (List.mem_append_right _ hw)
  obtain ⟨ls, hls, hL⟩ := p_start (n := 1) hargs (by simp [p_cat, p_ci, p_cr, p_cn]) (Nat.le_of_ble_eq_true rfl)
  show W p l e rX2_init s m args below meth c s.heap [] 0 0 (MQ below (p_NMf D ad (p_AN ad h sz) h r) args s 1 8 (p_AN ad h sz)) (entryFrame m args 1)
  rw [hls]
  clear hls
  have hL : p_L ls 1 [(0, .ref (ad a0))] := hL
  rw [fX2_init] at hf
  refine lv_aload_n hx hb dX2_init_0 rfl (lv_at hL.1 0 rfl) ?_
  refine W.objInit hx hb hown (hts (.methodLink RX2 3 objectInit) (by decide +kernel)) (hts (.instanceMethod objectInit) (by decide +kernel)) (hts (.code objectInit ⟨#[0xb1]⟩ 1 none) (by decide +kernel)) rfl (by rw [hml]; exact hL.1.1) rfl dX2_init_1 (Nat.le_of_ble_eq_true rfl) (Nat.le_of_ble_eq_true rfl) ?_
  refine W.eq (g2 := F0 m 4 ls []) rfl ?_
  refine lv_aload_n hx hb dX2_init_4 rfl (lv_at hL.1 0 rfl) ?_
  refine lv_bipush (v := 8) hx hb dX2_init_5 (by decide) ?_
  obtain ⟨u3, e4, hf⟩ := p_b hf
  obtain ⟨h_1, e2, hf⟩ := p_b hf
  refine p_newR hC hQ hS hAz e2 (by decide) (by decide) (Nat.le_of_ble_eq_true rfl) hover (by decide +kernel) (Nat.le_of_ble_eq_true rfl) (Nat.le_of_ble_eq_true rfl) dX2_init_7 (fun adn H hx1 hQ hS => ?_)
  revert hx1 hQ hS
  generalize adn = ad1
  intro hx1 hQ hS
  have ea_a0 : ad1 a0 = ad a0 := hx1 a0 (p_ob_ne e4)
  have hth : ad1 a0 = ad a0 := ea_a0.trans rfl
  have hL : p_L ls 1 [(0, .ref (ad1 a0))] := by rw [ea_a0]; exact hL
  rw [← ea_a0]
  obtain ⟨h_5, e6, hf⟩ := p_b hf
  refine p_putRF hC hi2 tyX2_ok nmX2 hK hQ hS e6 rfl (by decide) rfl hinit rfl rfl (by decide +kernel) dX2_init_10 (fun H locs hQ hS => ?_)
  refine lv_aload_n hx hb dX2_init_13 rfl (lv_at hL.1 0 rfl) ?_
  refine lv_iconst (v := 0) hx hb dX2_init_14 (by decide) ?_
  obtain ⟨h_7, e8, hf⟩ := p_b hf
  refine p_putI hC hi2 tyX2_ok nmX2 hK hQ hS e8 rfl (by decide) rfl rfl (by decide +kernel) dX2_init_15 (fun H locs hQ hS => ?_)
  exact p_rNMf hC hr hlocks hQ hS hx1 hf (Nat.le_of_ble_eq_true rfl) (Nat.le_of_ble_eq_true rfl) dX2_init_18
-- X2_count
abbrev rX2_count : Room := { frames := 0, cells := 0, slots := 0, locals := 0 }
set_option maxHeartbeats 4000000 in
set_option maxRecDepth 100000 in
theorem kX2_count (l : Launch) (D : va_G) (ad : Nat → Nat) (h : PH) (a0 : Nat)  (r : Int32) (hf : fX2_count h a0  = some r) : Met l yX2_count wsX2_count rX2_count (p_pre D ad p_tt h [.ref (ad a0)]) (p_Ri r) 0 0 p_no := by
  refine Met.ofW (cc := cX2_count) (maxL := 1) (ret := (some .int)) (by decide) rfl ?_
  intro p e s m args below meth c s₁ B hml hv
  obtain ⟨hargs, hK, hQ⟩ := hv
  have hx := B.exec
  have hb := B.bytes
  have hr := B.returns
  have hts := atoms_spec (ws := wsX2_count) B.pre
  have hown : s.vm.findClass RX2 = some m.cls := findClass_of_methodNamed B.named
  have hlocks := B.notSynchronized
  have hC : CallFix p m c cX2_count 1 s args wsX2_count RX2 := ⟨hx, hb, hml, hown, hts⟩
  have hS : va_S p_no s.heap s.heap [] := va_S.rf
  have hi2 : ∀ w ∈ u_ws RX2 TX2 2, w ∈ wsX2_count := fun w hw => List.mem_cons_of_mem _ (List.mem_append_right _ hw)
  obtain ⟨ls, hls, hL⟩ := p_start (n := 1) hargs (by simp [p_cat, p_ci, p_cr, p_cn]) (Nat.le_of_ble_eq_true rfl)
  show W p l e rX2_count s m args below meth c s.heap [] 0 0 (MQ below (p_Ri r) args s 0 0 p_no) (entryFrame m args 1)
  rw [hls]
  clear hls
  have hL : p_L ls 1 [(0, .ref (ad a0))] := hL
  rw [fX2_count] at hf
  refine lv_aload_n hx hb dX2_count_0 rfl (lv_at hL.1 0 rfl) ?_
  obtain ⟨v1, e2, hf⟩ := p_b hf
  refine p_getI hC hi2 hK hQ e2 rfl (by decide) (by decide +kernel) dX2_count_1 ?_
  exact p_rRi hC hr hlocks hS hf dX2_count_4
-- X2_get
abbrev rX2_get : Room := { frames := 0, cells := 0, slots := 0, locals := 0 }
set_option maxHeartbeats 4000000 in
set_option maxRecDepth 100000 in
theorem kX2_get (l : Launch) (D : va_G) (ad : Nat → Nat) (h : PH) (a0 : Nat) (x1 : Int32)  (r : Option Nat) (hf : fX2_get h a0 x1  = some r) : Met l yX2_get wsX2_get rX2_get (p_pre D ad p_tt h [.ref (ad a0), .int x1]) (p_Rq ad r) 0 0 p_no := by
  refine Met.ofW (cc := cX2_get) (maxL := 2) (ret := (some (.object "FrameBroker$Window"))) (by decide) rfl ?_
  intro p e s m args below meth c s₁ B hml hv
  obtain ⟨hargs, hK, hQ⟩ := hv
  have hx := B.exec
  have hb := B.bytes
  have hr := B.returns
  have hts := atoms_spec (ws := wsX2_get) B.pre
  have hown : s.vm.findClass RX2 = some m.cls := findClass_of_methodNamed B.named
  have hlocks := B.notSynchronized
  have hC : CallFix p m c cX2_get 2 s args wsX2_get RX2 := ⟨hx, hb, hml, hown, hts⟩
  have hS : va_S p_no s.heap s.heap [] := va_S.rf
  have hi2 : ∀ w ∈ u_ws RX2 TX2 2, w ∈ wsX2_get := fun w hw => List.mem_cons_of_mem _ (List.mem_append_right _ hw)
  obtain ⟨ls, hls, hL⟩ := p_start (n := 2) hargs (by simp [p_cat, p_ci, p_cr, p_cn]) (Nat.le_of_ble_eq_true rfl)
  show W p l e rX2_get s m args below meth c s.heap [] 0 0 (MQ below (p_Rq ad r) args s 0 0 p_no) (entryFrame m args 2)
  rw [hls]
  clear hls
  have hL : p_L ls 2 [(0, .ref (ad a0)), (1, .int x1)] := hL
  have b23 : ∀ (H : Heap) (locs : List Loc) (ls : Array Slot) (h1 : PH) (so0 : Option Nat), p_Q D ad p_tt s h1 H → va_S p_no s.heap H locs → p_L ls 2 [] → fX2_get_23 h1 so0 = some r → W p l e rX2_get s m args below meth c H locs 0 0 (MQ below (p_Rq ad r) args s 0 0 p_no) (F0 m 23 ls [va_rf (Option.map ad so0)]) := by
    intro H locs ls h1 so0 hQ hS hL hf
    rw [fX2_get_23] at hf
    exact p_rRq (v := so0) hC hr hlocks hS hf dX2_get_23
  have b22 : ∀ (H : Heap) (locs : List Loc) (ls : Array Slot) (h1 : PH) , p_Q D ad p_tt s h1 H → va_S p_no s.heap H locs → p_L ls 2 [] → fX2_get_22 h1  = some r → W p l e rX2_get s m args below meth c H locs 0 0 (MQ below (p_Rq ad r) args s 0 0 p_no) (F0 m 22 ls []) := by
    intro H locs ls h1  hQ hS hL hf
    rw [fX2_get_22] at hf
    refine lv_null hx hb dX2_get_22 ?_
    exact b23 _ _ _ h1 (none : Option Nat) hQ hS (hL.sub [] rfl) hf
  rw [fX2_get] at hf
  refine lv_iload_n hx hb dX2_get_0 rfl (lv_at hL.1 1 rfl) ?_
  refine lv_if_lt (tgt := 22) hx hb dX2_get_1 (by decide) (fun c1 => ?_) (fun c1 => ?_)
  · rw [if_pos c1] at hf
    exact b22 _ _ _ h  hQ hS (hL.sub [] rfl) hf
  · rw [if_neg c1] at hf
    refine lv_iload_n hx hb dX2_get_4 rfl (lv_at hL.1 1 rfl) ?_
    refine lv_aload_n hx hb dX2_get_5 rfl (lv_at hL.1 0 rfl) ?_
    obtain ⟨a_2, e3, hf⟩ := p_b hf
    refine p_getR hC hi2 hK hQ e3 rfl (by decide) (by decide +kernel) dX2_get_6 ?_
    obtain ⟨v4, e5, hf⟩ := p_b hf
    refine p_alen hC hQ e5 dX2_get_9 ?_
    refine lv_icmp_ge (tgt := 22) hx hb dX2_get_10 (by decide) (fun c6 => ?_) (fun c6 => ?_)
    · rw [if_pos c6] at hf
      exact b22 _ _ _ h  hQ hS (hL.sub [] rfl) hf
    · rw [if_neg c6] at hf
      refine lv_aload_n hx hb dX2_get_13 rfl (lv_at hL.1 0 rfl) ?_
      obtain ⟨a_7, e8, hf⟩ := p_b hf
      refine p_getR hC hi2 hK hQ e8 rfl (by decide) (by decide +kernel) dX2_get_14 ?_
      refine lv_iload_n hx hb dX2_get_17 rfl (lv_at hL.1 1 rfl) ?_
      obtain ⟨o_10, e9, hf⟩ := p_b hf
      refine p_aald hC hQ e9 dX2_get_18 ?_
      refine lv_goto (tgt := 23) hx hb dX2_get_19 (by decide) ?_
      exact b23 _ _ _ h o_10 hQ hS (hL.sub [] rfl) hf
-- X2_indexOf
abbrev rX2_indexOf : Room := { frames := 0, cells := 0, slots := 0, locals := 0 }
set_option maxHeartbeats 4000000 in
set_option maxRecDepth 100000 in
theorem kX2_indexOf (l : Launch) (D : va_G) (ad : Nat → Nat) (h : PH) (a0 : Nat) (x1 : Int32)  (r : Int32) (hf : fX2_indexOf h a0 x1  = some r) : Met l yX2_indexOf wsX2_indexOf rX2_indexOf (p_pre D ad p_tt h [.ref (ad a0), .int x1]) (p_Ri r) 0 0 p_no := by
  refine Met.ofW (cc := cX2_indexOf) (maxL := 4) (ret := (some .int)) (by decide) rfl ?_
  intro p e s m args below meth c s₁ B hml hv
  obtain ⟨hargs, hK, hQ⟩ := hv
  have hx := B.exec
  have hb := B.bytes
  have hr := B.returns
  have hts := atoms_spec (ws := wsX2_indexOf) B.pre
  have hown : s.vm.findClass RX2 = some m.cls := findClass_of_methodNamed B.named
  have hlocks := B.notSynchronized
  have hC : CallFix p m c cX2_indexOf 4 s args wsX2_indexOf RX2 := ⟨hx, hb, hml, hown, hts⟩
  have hS : va_S p_no s.heap s.heap [] := va_S.rf
  have hi1 : ∀ w ∈ u_ws RX1 TX1 10, w ∈ wsX2_indexOf := fun w hw => List.mem_cons_of_mem _ (List.mem_append_right _ hw)
  have hi2 : ∀ w ∈ u_ws RX2 TX2 2, w ∈ wsX2_indexOf := fun w hw => List.mem_cons_of_mem _ (List.mem_append_left _ (List.mem_append_right _ hw))
  obtain ⟨ls, hls, hL⟩ := p_start (n := 4) hargs (by simp [p_cat, p_ci, p_cr, p_cn]) (Nat.le_of_ble_eq_true rfl)
  show W p l e rX2_indexOf s m args below meth c s.heap [] 0 0 (MQ below (p_Ri r) args s 0 0 p_no) (entryFrame m args 4)
  rw [hls]
  clear hls
  have hL : p_L ls 4 [(0, .ref (ad a0)), (1, .int x1)] := hL
  have b32 : ∀ K : PH → Nat → Int32 → Int32 → Option (Int32), (∀ (H : Heap) (locs : List Loc) (ls : Array Slot) (h1 : PH) (a0 : Nat) (x1 : Int32) (x2 : Int32), p_Q D ad p_tt s h1 H → va_S p_no s.heap H locs → p_L ls 4 [(0, .ref (ad a0)), (1, .int x1), (2, .int x2)] → K h1 a0 x1 x2 = some r → W p l e rX2_indexOf s m args below meth c H locs 0 0 (MQ below (p_Ri r) args s 0 0 p_no) (F0 m 2 ls [])) → ∀ (H : Heap) (locs : List Loc) (ls : Array Slot) (h1 : PH) (a0 : Nat) (x1 : Int32) (x2 : Int32), p_Q D ad p_tt s h1 H → va_S p_no s.heap H locs → p_L ls 4 [(0, .ref (ad a0)), (1, .int x1), (2, .int x2)] → fX2_indexOf_32 K h1 a0 x1 x2 = some r → W p l e rX2_indexOf s m args below meth c H locs 0 0 (MQ below (p_Ri r) args s 0 0 p_no) (F0 m 32 ls []) := by
    intro K ih H locs ls h1 a0 x1 x2 hQ hS hL hf
    rw [fX2_indexOf_32] at hf
    refine p_iinc (v := (x2 + 1)) (lv' := [(2, .int (x2 + 1)), (0, .ref (ad a0)), (1, .int x1)]) hx hb dX2_indexOf_32 hL (k := 2) rfl rfl (by decide) rfl (fun ls hL => ?_)
    refine lv_goto (tgt := 2) hx hb dX2_indexOf_35 (by decide) ?_
    exact ih _ _ _ h1 a0 x1 (x2 + 1) hQ hS (hL.sub [1, 2, 0] rfl) hf
  have b2 : ∀ n : Nat, ∀ (H : Heap) (locs : List Loc) (ls : Array Slot) (h1 : PH) (a0 : Nat) (x1 : Int32) (x2 : Int32), p_Q D ad p_tt s h1 H → va_S p_no s.heap H locs → p_L ls 4 [(0, .ref (ad a0)), (1, .int x1), (2, .int x2)] → fX2_indexOf_2 n h1 a0 x1 x2 = some r → W p l e rX2_indexOf s m args below meth c H locs 0 0 (MQ below (p_Ri r) args s 0 0 p_no) (F0 m 2 ls []) := by
    intro n
    induction n with
    | zero =>
      intro H locs ls h1 a0 x1 x2 hQ hS hL hf
      simp [fX2_indexOf_2] at hf
    | succ n ih =>
      intro H locs ls h1 a0 x1 x2 hQ hS hL hf
      rw [fX2_indexOf_2] at hf
      refine lv_iload_n hx hb dX2_indexOf_2 rfl (lv_at hL.1 2 rfl) ?_
      refine lv_aload_n hx hb dX2_indexOf_3 rfl (lv_at hL.1 0 rfl) ?_
      obtain ⟨a_1, e2, hf⟩ := p_b hf
      refine p_getR hC hi2 hK hQ e2 rfl (by decide) (by decide +kernel) dX2_indexOf_4 ?_
      obtain ⟨v3, e4, hf⟩ := p_b hf
      refine p_alen hC hQ e4 dX2_indexOf_7 ?_
      refine lv_icmp_ge (tgt := 38) hx hb dX2_indexOf_8 (by decide) (fun c5 => ?_) (fun c5 => ?_)
      · rw [if_pos c5] at hf
        refine lv_iconst (v := -1) hx hb dX2_indexOf_38 (by decide) ?_
        exact p_rRi hC hr hlocks hS hf dX2_indexOf_39
      · rw [if_neg c5] at hf
        refine lv_aload_n hx hb dX2_indexOf_11 rfl (lv_at hL.1 0 rfl) ?_
        obtain ⟨a_6, e7, hf⟩ := p_b hf
        refine p_getR hC hi2 hK hQ e7 rfl (by decide) (by decide +kernel) dX2_indexOf_12 ?_
        refine lv_iload_n hx hb dX2_indexOf_15 rfl (lv_at hL.1 2 rfl) ?_
        obtain ⟨o_9, e8, hf⟩ := p_b hf
        refine p_aald hC hQ e8 dX2_indexOf_16 ?_
        refine p_astore_n (o := Option.map ad o_9) (lv' := [(3, va_rf (Option.map ad o_9)), (0, .ref (ad a0)), (1, .int x1), (2, .int x2)]) hx hb dX2_indexOf_17 rfl hL (by decide) rfl (fun ls hL => ?_)
        refine p_aload_n (o := Option.map ad o_9) hx hb dX2_indexOf_18 rfl (lv_at hL.1 0 rfl) ?_
        cases o_9 with
        | none =>
          dsimp only at hf
          have hL : p_L ls 4 [(3, .null), (0, .ref (ad a0)), (1, .int x1), (2, .int x2)] := hL
          refine lv_ifnullN (tgt := 32) hx hb dX2_indexOf_19 (by decide) ?_
          exact b32 (fX2_indexOf_2 n) ih _ _ _ h1 a0 x1 x2 hQ hS (hL.sub [1, 2, 3] rfl) hf
        | some a_10 =>
          dsimp only at hf
          have hL : p_L ls 4 [(3, .ref (ad a_10)), (0, .ref (ad a0)), (1, .int x1), (2, .int x2)] := hL
          refine lv_ifnull hx hb dX2_indexOf_19 ?_
          refine lv_aload_n hx hb dX2_indexOf_22 rfl (lv_at hL.1 0 rfl) ?_
          obtain ⟨v11, e12, hf⟩ := p_b hf
          refine p_getI hC hi1 hK hQ e12 rfl (by decide) (by decide +kernel) dX2_indexOf_23 ?_
          refine lv_iload_n hx hb dX2_indexOf_26 rfl (lv_at hL.1 2 rfl) ?_
          refine lv_icmp_ne (tgt := 32) hx hb dX2_indexOf_27 (by decide) (fun c13 => ?_) (fun c13 => ?_)
          · rw [if_neg c13] at hf
            exact b32 (fX2_indexOf_2 n) ih _ _ _ h1 a0 x1 x2 hQ hS (hL.sub [1, 2, 3] rfl) hf
          · rw [if_pos c13] at hf
            refine lv_iload_n hx hb dX2_indexOf_30 rfl (lv_at hL.1 3 rfl) ?_
            exact p_rRi hC hr hlocks hS hf dX2_indexOf_31
  rw [fX2_indexOf] at hf
  refine lv_iconst (v := 0) hx hb dX2_indexOf_0 (by decide) ?_
  refine p_istore_n (lv' := [(2, .int 0), (0, .ref (ad a0)), (1, .int x1)]) hx hb dX2_indexOf_1 rfl hL (by decide) rfl (fun ls hL => ?_)
  exact b2 64 _ _ _ h a0 x1 0 hQ hS (hL.sub [1, 2, 0] rfl) hf
-- X2_topmostOver
abbrev rX2_topmostOver : Room := { frames := 1, cells := 0, slots := 0, locals := 22 }
set_option maxHeartbeats 4000000 in
set_option maxRecDepth 100000 in
theorem kX2_topmostOver (l : Launch) (D : va_G) (ad : Nat → Nat) (h : PH) (a0 : Nat) (x1 : Int32) (x2 : Int32)  (r : Option Nat) (hf : fX2_topmostOver h a0 x1 x2  = some r) : Met l yX2_topmostOver wsX2_topmostOver rX2_topmostOver (p_pre D ad p_tt h [.ref (ad a0), .int x1, .int x2]) (p_Rq ad r) 0 0 p_no := by
  refine Met.ofW (cc := cX2_topmostOver) (maxL := 5) (ret := (some (.object "FrameBroker$Window"))) (by decide) rfl ?_
  intro p e s m args below meth c s₁ B hml hv
  obtain ⟨hargs, hK, hQ⟩ := hv
  have hx := B.exec
  have hb := B.bytes
  have hr := B.returns
  have hts := atoms_spec (ws := wsX2_topmostOver) B.pre
  have hown : s.vm.findClass RX2 = some m.cls := findClass_of_methodNamed B.named
  have hlocks := B.notSynchronized
  have hC : CallFix p m c cX2_topmostOver 5 s args wsX2_topmostOver RX2 := ⟨hx, hb, hml, hown, hts⟩
  have hS : va_S p_no s.heap s.heap [] := va_S.rf
  have hi1 : ∀ w ∈ u_ws RX1 TX1 10, w ∈ wsX2_topmostOver := fun w hw => List.mem_cons_of_mem _ (List.mem_append_right _ hw)
  have hi2 : ∀ w ∈ u_ws RX2 TX2 2, w ∈ wsX2_topmostOver := fun w hw => List.mem_cons_of_mem _ (List.mem_append_left _ (List.mem_append_right _ hw))
  obtain ⟨ls, hls, hL⟩ := p_start (n := 5) hargs (by simp [p_cat, p_ci, p_cr, p_cn]) (Nat.le_of_ble_eq_true rfl)
  show W p l e rX2_topmostOver s m args below meth c s.heap [] 0 0 (MQ below (p_Rq ad r) args s 0 0 p_no) (entryFrame m args 5)
  rw [hls]
  clear hls
  have hL : p_L ls 5 [(0, .ref (ad a0)), (1, .int x1), (2, .int x2)] := hL
  have b36 : ∀ K : PH → Nat → Int32 → Int32 → Int32 → Option (Option Nat), (∀ (H : Heap) (locs : List Loc) (ls : Array Slot) (h1 : PH) (a0 : Nat) (x1 : Int32) (x2 : Int32) (x3 : Int32), p_Q D ad p_tt s h1 H → va_S p_no s.heap H locs → p_L ls 5 [(0, .ref (ad a0)), (1, .int x1), (2, .int x2), (3, .int x3)] → K h1 a0 x1 x2 x3 = some r → W p l e rX2_topmostOver s m args below meth c H locs 0 0 (MQ below (p_Rq ad r) args s 0 0 p_no) (F0 m 7 ls [])) → ∀ (H : Heap) (locs : List Loc) (ls : Array Slot) (h1 : PH) (a0 : Nat) (x1 : Int32) (x2 : Int32) (x3 : Int32), p_Q D ad p_tt s h1 H → va_S p_no s.heap H locs → p_L ls 5 [(0, .ref (ad a0)), (1, .int x1), (2, .int x2), (3, .int x3)] → fX2_topmostOver_36 K h1 a0 x1 x2 x3 = some r → W p l e rX2_topmostOver s m args below meth c H locs 0 0 (MQ below (p_Rq ad r) args s 0 0 p_no) (F0 m 36 ls []) := by
    intro K ih H locs ls h1 a0 x1 x2 x3 hQ hS hL hf
    rw [fX2_topmostOver_36] at hf
    refine p_iinc (v := (x3 + (-1))) (lv' := [(3, .int (x3 + (-1))), (0, .ref (ad a0)), (1, .int x1), (2, .int x2)]) hx hb dX2_topmostOver_36 hL (k := 3) rfl rfl (by decide) rfl (fun ls hL => ?_)
    refine lv_goto (tgt := 7) hx hb dX2_topmostOver_39 (by decide) ?_
    exact ih _ _ _ h1 a0 x1 x2 (x3 + (-1)) hQ hS (hL.sub [1, 2, 3, 0] rfl) hf
  have b7 : ∀ n : Nat, ∀ (H : Heap) (locs : List Loc) (ls : Array Slot) (h1 : PH) (a0 : Nat) (x1 : Int32) (x2 : Int32) (x3 : Int32), p_Q D ad p_tt s h1 H → va_S p_no s.heap H locs → p_L ls 5 [(0, .ref (ad a0)), (1, .int x1), (2, .int x2), (3, .int x3)] → fX2_topmostOver_7 n h1 a0 x1 x2 x3 = some r → W p l e rX2_topmostOver s m args below meth c H locs 0 0 (MQ below (p_Rq ad r) args s 0 0 p_no) (F0 m 7 ls []) := by
    intro n
    induction n with
    | zero =>
      intro H locs ls h1 a0 x1 x2 x3 hQ hS hL hf
      simp [fX2_topmostOver_7] at hf
    | succ n ih =>
      intro H locs ls h1 a0 x1 x2 x3 hQ hS hL hf
      rw [fX2_topmostOver_7] at hf
      refine lv_iload_n hx hb dX2_topmostOver_7 rfl (lv_at hL.1 3 rfl) ?_
      refine lv_if_lt (tgt := 42) hx hb dX2_topmostOver_8 (by decide) (fun c1 => ?_) (fun c1 => ?_)
      · rw [if_pos c1] at hf
        refine lv_null hx hb dX2_topmostOver_42 ?_
        exact p_rRq (v := (none : Option Nat)) hC hr hlocks hS hf dX2_topmostOver_43
      · rw [if_neg c1] at hf
        refine lv_aload_n hx hb dX2_topmostOver_11 rfl (lv_at hL.1 0 rfl) ?_
        refine lv_iload_n hx hb dX2_topmostOver_12 rfl (lv_at hL.1 3 rfl) ?_
        obtain ⟨u2, e3, hf⟩ := p_b hf
        obtain ⟨o_4, e5, hf⟩ := p_b hf
        refine p_cRq (va_runV (As := [.int x3]) (rest := []) hC (kX2_get l D ad h1 a0 x3 o_4 e5) (cwV 1 hts gX2_topmostOver_X2_get rfl rfl rfl (by decide +kernel) ⟨Nat.le_of_ble_eq_true rfl, Nat.le_of_ble_eq_true rfl⟩) (p_preV hK hQ.tt e3 rfl) rfl rfl hL.1.1 rfl (lv_room (Nat.le_of_ble_eq_true rfl)) dX2_topmostOver_13 ⟨Nat.le_of_ble_eq_true rfl, Nat.le_of_ble_eq_true rfl⟩) hQ hS (fun H locs hQ hS => ?_)
        refine p_astore (o := Option.map ad o_4) (lv' := [(4, va_rf (Option.map ad o_4)), (0, .ref (ad a0)), (1, .int x1), (2, .int x2), (3, .int x3)]) hx hb dX2_topmostOver_16 hL (by decide) rfl (fun ls hL => ?_)
        refine p_aload (o := Option.map ad o_4) hx hb dX2_topmostOver_18 (lv_at hL.1 0 rfl) ?_
        cases o_4 with
        | none =>
          dsimp only at hf
          have hL : p_L ls 5 [(4, .null), (0, .ref (ad a0)), (1, .int x1), (2, .int x2), (3, .int x3)] := hL
          refine lv_ifnullN (tgt := 36) hx hb dX2_topmostOver_20 (by decide) ?_
          exact b36 (fX2_topmostOver_7 n) ih _ _ _ h1 a0 x1 x2 x3 hQ hS (hL.sub [1, 2, 3, 4] rfl) hf
        | some a_6 =>
          dsimp only at hf
          have hL : p_L ls 5 [(4, .ref (ad a_6)), (0, .ref (ad a0)), (1, .int x1), (2, .int x2), (3, .int x3)] := hL
          refine lv_ifnull hx hb dX2_topmostOver_20 ?_
          refine lv_aload hx hb dX2_topmostOver_23 (lv_at hL.1 0 rfl) ?_
          refine lv_iload_n hx hb dX2_topmostOver_25 rfl (lv_at hL.1 2 rfl) ?_
          refine lv_iload_n hx hb dX2_topmostOver_26 rfl (lv_at hL.1 3 rfl) ?_
          obtain ⟨u7, e8, hf⟩ := p_b hf
          obtain ⟨v9, e10, hf⟩ := p_b hf
          refine p_cRi (va_runV (As := [.int x1, .int x2]) (rest := []) hC (kX1_covers l D ad h1 a_6 x1 x2 v9 e10) (cwV 2 hts gX2_topmostOver_X1_covers rfl rfl rfl (by decide +kernel) ⟨Nat.le_of_ble_eq_true rfl, Nat.le_of_ble_eq_true rfl⟩) (p_preV hK hQ.tt e8 rfl) rfl rfl hL.1.1 rfl (lv_room (Nat.le_of_ble_eq_true rfl)) dX2_topmostOver_27 ⟨Nat.le_of_ble_eq_true rfl, Nat.le_of_ble_eq_true rfl⟩) hQ hS (fun H locs hQ hS => ?_)
          refine lv_if_eq (tgt := 36) hx hb dX2_topmostOver_30 (by decide) (fun c11 => ?_) (fun c11 => ?_)
          · rw [if_pos c11] at hf
            exact b36 (fX2_topmostOver_7 n) ih _ _ _ h1 a0 x1 x2 x3 hQ hS (hL.sub [1, 2, 3, 4] rfl) hf
          · rw [if_neg c11] at hf
            refine lv_aload hx hb dX2_topmostOver_33 (lv_at hL.1 0 rfl) ?_
            exact p_rRq (v := (some a_6)) hC hr hlocks hS hf dX2_topmostOver_35
  rw [fX2_topmostOver] at hf
  refine lv_aload_n hx hb dX2_topmostOver_0 rfl (lv_at hL.1 0 rfl) ?_
  obtain ⟨v12, e13, hf⟩ := p_b hf
  refine p_getI hC hi2 hK hQ e13 rfl (by decide) (by decide +kernel) dX2_topmostOver_1 ?_
  refine lv_iconst (v := 1) hx hb dX2_topmostOver_4 (by decide) ?_
  refine lv_isub hx hb dX2_topmostOver_5 ?_
  refine p_istore_n (lv' := [(3, .int (v12 - 1)), (0, .ref (ad a0)), (1, .int x1), (2, .int x2)]) hx hb dX2_topmostOver_6 rfl hL (by decide) rfl (fun ls hL => ?_)
  exact b7 64 _ _ _ h a0 x1 x2 (v12 - 1) hQ hS (hL.sub [1, 2, 3, 0] rfl) hf
-- X2_addLast
abbrev rX2_addLast : Room := { frames := 0, cells := 0, slots := 0, locals := 0 }
set_option maxHeartbeats 4000000 in
set_option maxRecDepth 100000 in
theorem kX2_addLast (l : Launch) (D : va_G) (ad : Nat → Nat) (h : PH) (a0 : Nat) (o1 : Option Nat)  (r : PH) (hf : fX2_addLast h a0 o1  = some r) : Met l yX2_addLast wsX2_addLast rX2_addLast (p_pre D ad (p_A ad h) h [.ref (ad a0), va_rf (Option.map ad o1)]) (p_Mv D ad (p_A ad h) r) 0 0 (p_A ad h) := by
  refine Met.ofW (cc := cX2_addLast) (maxL := 2) (ret := none) (by decide) rfl ?_
  intro p e s m args below meth c s₁ B hml hv
  obtain ⟨hargs, hK, hQ⟩ := hv
  have hx := B.exec
  have hb := B.bytes
  have hr := B.returns
  have hts := atoms_spec (ws := wsX2_addLast) B.pre
  have hown : s.vm.findClass RX2 = some m.cls := findClass_of_methodNamed B.named
  have hlocks := B.notSynchronized
  have hC : CallFix p m c cX2_addLast 2 s args wsX2_addLast RX2 := ⟨hx, hb, hml, hown, hts⟩
  have hS : va_S (p_A ad h) s.heap s.heap [] := va_S.rf
  have hi2 : ∀ w ∈ u_ws RX2 TX2 2, w ∈ wsX2_addLast := fun w hw => List.mem_cons_of_mem _ (List.mem_append_right _ hw)
  obtain ⟨ls, hls, hL⟩ := p_start (n := 2) hargs (by simp [p_cat, p_ci, p_cr, p_cn]) (Nat.le_of_ble_eq_true rfl)
  show W p l e rX2_addLast s m args below meth c s.heap [] 0 0 (MQ below (p_Mv D ad (p_A ad h) r) args s 0 0 (p_A ad h)) (entryFrame m args 2)
  rw [hls]
  clear hls
  have hL : p_L ls 2 [(0, .ref (ad a0)), (1, va_rf (Option.map ad o1))] := hL
  have b39 : ∀ (H : Heap) (locs : List Loc) (ls : Array Slot) (h1 : PH) , p_Q D ad (p_A ad h) s h1 H → va_S (p_A ad h) s.heap H locs → p_L ls 2 [] → fX2_addLast_39 h1  = some r → W p l e rX2_addLast s m args below meth c H locs 0 0 (MQ below (p_Mv D ad (p_A ad h) r) args s 0 0 (p_A ad h)) (F0 m 39 ls []) := by
    intro H locs ls h1  hQ hS hL hf
    rw [fX2_addLast_39] at hf
    exact p_rMv hC hr hlocks hQ hS hf dX2_addLast_39
  rw [fX2_addLast] at hf
  refine lv_aload_n hx hb dX2_addLast_0 rfl (lv_at hL.1 0 rfl) ?_
  obtain ⟨v1, e2, hf⟩ := p_b hf
  refine p_getI hC hi2 hK hQ e2 rfl (by decide) (by decide +kernel) dX2_addLast_1 ?_
  refine lv_if_lt (tgt := 39) hx hb dX2_addLast_4 (by decide) (fun c3 => ?_) (fun c3 => ?_)
  · rw [if_pos c3] at hf
    exact b39 _ _ _ h  hQ hS (hL.sub [] rfl) hf
  · rw [if_neg c3] at hf
    refine lv_aload_n hx hb dX2_addLast_7 rfl (lv_at hL.1 0 rfl) ?_
    obtain ⟨v4, e5, hf⟩ := p_b hf
    refine p_getI hC hi2 hK hQ e5 rfl (by decide) (by decide +kernel) dX2_addLast_8 ?_
    refine lv_aload_n hx hb dX2_addLast_11 rfl (lv_at hL.1 0 rfl) ?_
    obtain ⟨a_6, e7, hf⟩ := p_b hf
    refine p_getR hC hi2 hK hQ e7 rfl (by decide) (by decide +kernel) dX2_addLast_12 ?_
    obtain ⟨v8, e9, hf⟩ := p_b hf
    refine p_alen hC hQ e9 dX2_addLast_15 ?_
    refine lv_icmp_ge (tgt := 39) hx hb dX2_addLast_16 (by decide) (fun c10 => ?_) (fun c10 => ?_)
    · rw [if_pos c10] at hf
      exact b39 _ _ _ h  hQ hS (hL.sub [] rfl) hf
    · rw [if_neg c10] at hf
      refine lv_aload_n hx hb dX2_addLast_19 rfl (lv_at hL.1 0 rfl) ?_
      obtain ⟨a_11, e12, hf⟩ := p_b hf
      refine p_getR hC hi2 hK hQ e12 rfl (by decide) (by decide +kernel) dX2_addLast_20 ?_
      refine lv_aload_n hx hb dX2_addLast_23 rfl (lv_at hL.1 0 rfl) ?_
      obtain ⟨v13, e14, hf⟩ := p_b hf
      refine p_getI hC hi2 hK hQ e14 rfl (by decide) (by decide +kernel) dX2_addLast_24 ?_
      refine p_aload_n (o := Option.map ad o1) hx hb dX2_addLast_27 rfl (lv_at hL.1 1 rfl) ?_
      obtain ⟨h_15, e16, hf⟩ := p_b hf
      refine p_aast (o := o1) hC hK hQ hS e16 dX2_addLast_28 (fun H locs hQ hS => ?_)
      refine lv_aload_n hx hb dX2_addLast_29 rfl (lv_at hL.1 0 rfl) ?_
      refine lv_dup hx hb dX2_addLast_30 rfl ?_
      obtain ⟨v17, e18, hf⟩ := p_b hf
      refine p_getI hC hi2 hK hQ e18 rfl (by decide) (by decide +kernel) dX2_addLast_31 ?_
      refine lv_iconst (v := 1) hx hb dX2_addLast_34 (by decide) ?_
      refine lv_iadd hx hb dX2_addLast_35 ?_
      obtain ⟨h_19, e20, hf⟩ := p_b hf
      refine p_putI hC hi2 tyX2_ok nmX2 hK hQ hS e20 rfl (by decide) rfl rfl (by decide +kernel) dX2_addLast_36 (fun H locs hQ hS => ?_)
      exact b39 _ _ _ h_19  hQ hS (hL.sub [] rfl) hf
-- X2_addFirst
abbrev rX2_addFirst : Room := { frames := 0, cells := 0, slots := 0, locals := 0 }
set_option maxHeartbeats 4000000 in
set_option maxRecDepth 100000 in
theorem kX2_addFirst (l : Launch) (D : va_G) (ad : Nat → Nat) (h : PH) (a0 : Nat) (o1 : Option Nat)  (r : PH) (hf : fX2_addFirst h a0 o1  = some r) : Met l yX2_addFirst wsX2_addFirst rX2_addFirst (p_pre D ad (p_A ad h) h [.ref (ad a0), va_rf (Option.map ad o1)]) (p_Mv D ad (p_A ad h) r) 0 0 (p_A ad h) := by
  refine Met.ofW (cc := cX2_addFirst) (maxL := 3) (ret := none) (by decide) rfl ?_
  intro p e s m args below meth c s₁ B hml hv
  obtain ⟨hargs, hK, hQ⟩ := hv
  have hx := B.exec
  have hb := B.bytes
  have hr := B.returns
  have hts := atoms_spec (ws := wsX2_addFirst) B.pre
  have hown : s.vm.findClass RX2 = some m.cls := findClass_of_methodNamed B.named
  have hlocks := B.notSynchronized
  have hC : CallFix p m c cX2_addFirst 3 s args wsX2_addFirst RX2 := ⟨hx, hb, hml, hown, hts⟩
  have hS : va_S (p_A ad h) s.heap s.heap [] := va_S.rf
  have hi2 : ∀ w ∈ u_ws RX2 TX2 2, w ∈ wsX2_addFirst := fun w hw => List.mem_cons_of_mem _ (List.mem_append_right _ hw)
  obtain ⟨ls, hls, hL⟩ := p_start (n := 3) hargs (by simp [p_cat, p_ci, p_cr, p_cn]) (Nat.le_of_ble_eq_true rfl)
  show W p l e rX2_addFirst s m args below meth c s.heap [] 0 0 (MQ below (p_Mv D ad (p_A ad h) r) args s 0 0 (p_A ad h)) (entryFrame m args 3)
  rw [hls]
  clear hls
  have hL : p_L ls 3 [(0, .ref (ad a0)), (1, va_rf (Option.map ad o1))] := hL
  have b18 : ∀ n : Nat, ∀ (H : Heap) (locs : List Loc) (ls : Array Slot) (h1 : PH) (a0 : Nat) (o1 : Option Nat) (x2 : Int32), p_Q D ad (p_A ad h) s h1 H → va_S (p_A ad h) s.heap H locs → p_L ls 3 [(0, .ref (ad a0)), (1, va_rf (Option.map ad o1)), (2, .int x2)] → fX2_addFirst_18 n h1 a0 o1 x2 = some r → W p l e rX2_addFirst s m args below meth c H locs 0 0 (MQ below (p_Mv D ad (p_A ad h) r) args s 0 0 (p_A ad h)) (F0 m 18 ls []) := by
    intro n
    induction n with
    | zero =>
      intro H locs ls h1 a0 o1 x2 hQ hS hL hf
      simp [fX2_addFirst_18] at hf
    | succ n ih =>
      intro H locs ls h1 a0 o1 x2 hQ hS hL hf
      rw [fX2_addFirst_18] at hf
      refine lv_iload_n hx hb dX2_addFirst_18 rfl (lv_at hL.1 2 rfl) ?_
      refine lv_if_le (tgt := 42) hx hb dX2_addFirst_19 (by decide) (fun c1 => ?_) (fun c1 => ?_)
      · rw [if_pos c1] at hf
        refine lv_aload_n hx hb dX2_addFirst_42 rfl (lv_at hL.1 0 rfl) ?_
        obtain ⟨a_2, e3, hf⟩ := p_b hf
        refine p_getR hC hi2 hK hQ e3 rfl (by decide) (by decide +kernel) dX2_addFirst_43 ?_
        refine lv_iconst (v := 0) hx hb dX2_addFirst_46 (by decide) ?_
        refine p_aload_n (o := Option.map ad o1) hx hb dX2_addFirst_47 rfl (lv_at hL.1 1 rfl) ?_
        obtain ⟨h_4, e5, hf⟩ := p_b hf
        refine p_aast (o := o1) hC hK hQ hS e5 dX2_addFirst_48 (fun H locs hQ hS => ?_)
        refine lv_aload_n hx hb dX2_addFirst_49 rfl (lv_at hL.1 0 rfl) ?_
        refine lv_dup hx hb dX2_addFirst_50 rfl ?_
        obtain ⟨v6, e7, hf⟩ := p_b hf
        refine p_getI hC hi2 hK hQ e7 rfl (by decide) (by decide +kernel) dX2_addFirst_51 ?_
        refine lv_iconst (v := 1) hx hb dX2_addFirst_54 (by decide) ?_
        refine lv_iadd hx hb dX2_addFirst_55 ?_
        obtain ⟨h_8, e9, hf⟩ := p_b hf
        refine p_putI hC hi2 tyX2_ok nmX2 hK hQ hS e9 rfl (by decide) rfl rfl (by decide +kernel) dX2_addFirst_56 (fun H locs hQ hS => ?_)
        exact p_rMv hC hr hlocks hQ hS hf dX2_addFirst_59
      · rw [if_neg c1] at hf
        refine lv_aload_n hx hb dX2_addFirst_22 rfl (lv_at hL.1 0 rfl) ?_
        obtain ⟨a_10, e11, hf⟩ := p_b hf
        refine p_getR hC hi2 hK hQ e11 rfl (by decide) (by decide +kernel) dX2_addFirst_23 ?_
        refine lv_iload_n hx hb dX2_addFirst_26 rfl (lv_at hL.1 2 rfl) ?_
        refine lv_aload_n hx hb dX2_addFirst_27 rfl (lv_at hL.1 0 rfl) ?_
        obtain ⟨a_12, e13, hf⟩ := p_b hf
        refine p_getR hC hi2 hK hQ e13 rfl (by decide) (by decide +kernel) dX2_addFirst_28 ?_
        refine lv_iload_n hx hb dX2_addFirst_31 rfl (lv_at hL.1 2 rfl) ?_
        refine lv_iconst (v := 1) hx hb dX2_addFirst_32 (by decide) ?_
        refine lv_isub hx hb dX2_addFirst_33 ?_
        obtain ⟨o_15, e14, hf⟩ := p_b hf
        refine p_aald hC hQ e14 dX2_addFirst_34 ?_
        obtain ⟨h_16, e17, hf⟩ := p_b hf
        refine p_aast (o := o_15) hC hK hQ hS e17 dX2_addFirst_35 (fun H locs hQ hS => ?_)
        refine p_iinc (v := (x2 + (-1))) (lv' := [(2, .int (x2 + (-1))), (0, .ref (ad a0)), (1, va_rf (Option.map ad o1))]) hx hb dX2_addFirst_36 hL (k := 2) rfl rfl (by decide) rfl (fun ls hL => ?_)
        refine lv_goto (tgt := 18) hx hb dX2_addFirst_39 (by decide) ?_
        exact ih _ _ _ h_16 a0 o1 (x2 + (-1)) hQ hS (hL.sub [1, 2, 0] rfl) hf
  rw [fX2_addFirst] at hf
  refine lv_aload_n hx hb dX2_addFirst_0 rfl (lv_at hL.1 0 rfl) ?_
  obtain ⟨v18, e19, hf⟩ := p_b hf
  refine p_getI hC hi2 hK hQ e19 rfl (by decide) (by decide +kernel) dX2_addFirst_1 ?_
  refine lv_aload_n hx hb dX2_addFirst_4 rfl (lv_at hL.1 0 rfl) ?_
  obtain ⟨a_20, e21, hf⟩ := p_b hf
  refine p_getR hC hi2 hK hQ e21 rfl (by decide) (by decide +kernel) dX2_addFirst_5 ?_
  obtain ⟨v22, e23, hf⟩ := p_b hf
  refine p_alen hC hQ e23 dX2_addFirst_8 ?_
  refine lv_icmp_lt (tgt := 13) hx hb dX2_addFirst_9 (by decide) (fun c24 => ?_) (fun c24 => ?_)
  · rw [if_pos c24] at hf
    refine lv_aload_n hx hb dX2_addFirst_13 rfl (lv_at hL.1 0 rfl) ?_
    obtain ⟨v25, e26, hf⟩ := p_b hf
    refine p_getI hC hi2 hK hQ e26 rfl (by decide) (by decide +kernel) dX2_addFirst_14 ?_
    refine p_istore_n (lv' := [(2, .int v25), (0, .ref (ad a0)), (1, va_rf (Option.map ad o1))]) hx hb dX2_addFirst_17 rfl hL (by decide) rfl (fun ls hL => ?_)
    exact b18 64 _ _ _ h a0 o1 v25 hQ hS (hL.sub [1, 2, 0] rfl) hf
  · rw [if_neg c24] at hf
    exact p_rMv hC hr hlocks hQ hS hf dX2_addFirst_12
-- X2_remove
abbrev rX2_remove : Room := { frames := 1, cells := 0, slots := 0, locals := 23 }
set_option maxHeartbeats 4000000 in
set_option maxRecDepth 100000 in
theorem kX2_remove (l : Launch) (D : va_G) (ad : Nat → Nat) (h : PH) (a0 : Nat) (x1 : Int32)  (r : PH) (hf : fX2_remove h a0 x1  = some r) : Met l yX2_remove wsX2_remove rX2_remove (p_pre D ad (p_A ad h) h [.ref (ad a0), .int x1]) (p_Mv D ad (p_A ad h) r) 0 0 (p_A ad h) := by
  refine Met.ofW (cc := cX2_remove) (maxL := 4) (ret := none) (by decide) rfl ?_
  intro p e s m args below meth c s₁ B hml hv
  obtain ⟨hargs, hK, hQ⟩ := hv
  have hx := B.exec
  have hb := B.bytes
  have hr := B.returns
  have hts := atoms_spec (ws := wsX2_remove) B.pre
  have hown : s.vm.findClass RX2 = some m.cls := findClass_of_methodNamed B.named
  have hlocks := B.notSynchronized
  have hC : CallFix p m c cX2_remove 4 s args wsX2_remove RX2 := ⟨hx, hb, hml, hown, hts⟩
  have hS : va_S (p_A ad h) s.heap s.heap [] := va_S.rf
  have hi2 : ∀ w ∈ u_ws RX2 TX2 2, w ∈ wsX2_remove := fun w hw => List.mem_cons_of_mem _ (List.mem_append_left _ (List.mem_append_right _ hw))
  obtain ⟨ls, hls, hL⟩ := p_start (n := 4) hargs (by simp [p_cat, p_ci, p_cr, p_cn]) (Nat.le_of_ble_eq_true rfl)
  show W p l e rX2_remove s m args below meth c s.heap [] 0 0 (MQ below (p_Mv D ad (p_A ad h) r) args s 0 0 (p_A ad h)) (entryFrame m args 4)
  rw [hls]
  clear hls
  have hL : p_L ls 4 [(0, .ref (ad a0)), (1, .int x1)] := hL
  have b13 : ∀ n : Nat, ∀ (H : Heap) (locs : List Loc) (ls : Array Slot) (h1 : PH) (a0 : Nat) (x3 : Int32), p_Q D ad (p_A ad h) s h1 H → va_S (p_A ad h) s.heap H locs → p_L ls 4 [(0, .ref (ad a0)), (3, .int x3)] → fX2_remove_13 n h1 a0 x3 = some r → W p l e rX2_remove s m args below meth c H locs 0 0 (MQ below (p_Mv D ad (p_A ad h) r) args s 0 0 (p_A ad h)) (F0 m 13 ls []) := by
    intro n
    induction n with
    | zero =>
      intro H locs ls h1 a0 x3 hQ hS hL hf
      simp [fX2_remove_13] at hf
    | succ n ih =>
      intro H locs ls h1 a0 x3 hQ hS hL hf
      rw [fX2_remove_13] at hf
      refine lv_iload_n hx hb dX2_remove_13 rfl (lv_at hL.1 1 rfl) ?_
      refine lv_iconst (v := 1) hx hb dX2_remove_14 (by decide) ?_
      refine lv_iadd hx hb dX2_remove_15 ?_
      refine lv_aload_n hx hb dX2_remove_16 rfl (lv_at hL.1 0 rfl) ?_
      obtain ⟨a_1, e2, hf⟩ := p_b hf
      refine p_getR hC hi2 hK hQ e2 rfl (by decide) (by decide +kernel) dX2_remove_17 ?_
      obtain ⟨v3, e4, hf⟩ := p_b hf
      refine p_alen hC hQ e4 dX2_remove_20 ?_
      refine lv_icmp_ge (tgt := 44) hx hb dX2_remove_21 (by decide) (fun c5 => ?_) (fun c5 => ?_)
      · rw [if_pos c5] at hf
        refine lv_aload_n hx hb dX2_remove_44 rfl (lv_at hL.1 0 rfl) ?_
        obtain ⟨a_6, e7, hf⟩ := p_b hf
        refine p_getR hC hi2 hK hQ e7 rfl (by decide) (by decide +kernel) dX2_remove_45 ?_
        refine lv_aload_n hx hb dX2_remove_48 rfl (lv_at hL.1 0 rfl) ?_
        obtain ⟨a_8, e9, hf⟩ := p_b hf
        refine p_getR hC hi2 hK hQ e9 rfl (by decide) (by decide +kernel) dX2_remove_49 ?_
        obtain ⟨v10, e11, hf⟩ := p_b hf
        refine p_alen hC hQ e11 dX2_remove_52 ?_
        refine lv_iconst (v := 1) hx hb dX2_remove_53 (by decide) ?_
        refine lv_isub hx hb dX2_remove_54 ?_
        refine lv_null hx hb dX2_remove_55 ?_
        obtain ⟨h_12, e13, hf⟩ := p_b hf
        refine p_aast (o := (none : Option Nat)) hC hK hQ hS e13 dX2_remove_56 (fun H locs hQ hS => ?_)
        refine lv_aload_n hx hb dX2_remove_57 rfl (lv_at hL.1 0 rfl) ?_
        refine lv_dup hx hb dX2_remove_58 rfl ?_
        obtain ⟨v14, e15, hf⟩ := p_b hf
        refine p_getI hC hi2 hK hQ e15 rfl (by decide) (by decide +kernel) dX2_remove_59 ?_
        refine lv_iconst (v := 1) hx hb dX2_remove_62 (by decide) ?_
        refine lv_isub hx hb dX2_remove_63 ?_
        obtain ⟨h_16, e17, hf⟩ := p_b hf
        refine p_putI hC hi2 tyX2_ok nmX2 hK hQ hS e17 rfl (by decide) rfl rfl (by decide +kernel) dX2_remove_64 (fun H locs hQ hS => ?_)
        exact p_rMv hC hr hlocks hQ hS hf dX2_remove_67
      · rw [if_neg c5] at hf
        refine lv_aload_n hx hb dX2_remove_24 rfl (lv_at hL.1 0 rfl) ?_
        obtain ⟨a_18, e19, hf⟩ := p_b hf
        refine p_getR hC hi2 hK hQ e19 rfl (by decide) (by decide +kernel) dX2_remove_25 ?_
        refine lv_iload_n hx hb dX2_remove_28 rfl (lv_at hL.1 1 rfl) ?_
        refine lv_aload_n hx hb dX2_remove_29 rfl (lv_at hL.1 0 rfl) ?_
        obtain ⟨a_20, e21, hf⟩ := p_b hf
        refine p_getR hC hi2 hK hQ e21 rfl (by decide) (by decide +kernel) dX2_remove_30 ?_
        refine lv_iload_n hx hb dX2_remove_33 rfl (lv_at hL.1 1 rfl) ?_
        refine lv_iconst (v := 1) hx hb dX2_remove_34 (by decide) ?_
        refine lv_iadd hx hb dX2_remove_35 ?_
        obtain ⟨o_23, e22, hf⟩ := p_b hf
        refine p_aald hC hQ e22 dX2_remove_36 ?_
        obtain ⟨h_24, e25, hf⟩ := p_b hf
        refine p_aast (o := o_23) hC hK hQ hS e25 dX2_remove_37 (fun H locs hQ hS => ?_)
        refine p_iinc (v := (x3 + 1)) (lv' := [(3, .int (x3 + 1)), (0, .ref (ad a0))]) hx hb dX2_remove_38 hL (k := 1) rfl rfl (by decide) rfl (fun ls hL => ?_)
        refine lv_goto (tgt := 13) hx hb dX2_remove_41 (by decide) ?_
        exact ih _ _ _ h_24 a0 (x3 + 1) hQ hS (hL.sub [1, 0] rfl) hf
  rw [fX2_remove] at hf
  refine lv_aload_n hx hb dX2_remove_0 rfl (lv_at hL.1 0 rfl) ?_
  refine lv_iload_n hx hb dX2_remove_1 rfl (lv_at hL.1 1 rfl) ?_
  obtain ⟨u26, e27, hf⟩ := p_b hf
  obtain ⟨v28, e29, hf⟩ := p_b hf
  refine p_cRi (va_runV (As := [.int x1]) (rest := []) hC (kX2_indexOf l D ad h a0 x1 v28 e29) (cwV 1 hts gX2_remove_X2_indexOf rfl rfl rfl (by decide +kernel) ⟨Nat.le_of_ble_eq_true rfl, Nat.le_of_ble_eq_true rfl⟩) (p_preV hK hQ.tt e27 rfl) rfl rfl hL.1.1 rfl (lv_room (Nat.le_of_ble_eq_true rfl)) dX2_remove_2 ⟨Nat.le_of_ble_eq_true rfl, Nat.le_of_ble_eq_true rfl⟩) hQ hS (fun H locs hQ hS => ?_)
  refine p_istore_n (lv' := [(2, .int v28), (0, .ref (ad a0)), (1, .int x1)]) hx hb dX2_remove_5 rfl hL (by decide) rfl (fun ls hL => ?_)
  refine lv_iload_n hx hb dX2_remove_6 rfl (lv_at hL.1 0 rfl) ?_
  refine lv_if_ge (tgt := 11) hx hb dX2_remove_7 (by decide) (fun c30 => ?_) (fun c30 => ?_)
  · rw [if_pos c30] at hf
    refine lv_iload_n hx hb dX2_remove_11 rfl (lv_at hL.1 0 rfl) ?_
    refine p_istore_n (lv' := [(3, .int v28), (2, .int v28), (0, .ref (ad a0)), (1, .int x1)]) hx hb dX2_remove_12 rfl hL (by decide) rfl (fun ls hL => ?_)
    exact b13 64 _ _ _ h a0 v28 hQ hS (hL.sub [2, 0] rfl) hf
  · rw [if_neg c30] at hf
    exact p_rMv hC hr hlocks hQ hS hf dX2_remove_10
