-- X3_init
abbrev rX3_init : Room := { frames := 2, cells := 7, slots := 164, locals := 48 }
set_option maxHeartbeats 4000000 in
set_option maxRecDepth 100000 in
theorem kX3_init (l : Launch) (D : va_G) (ad : Nat → Nat) (sz : Nat) (h : PH) (a0 : Nat) (q1 : Nat) (q2 : Nat) (q3 : Nat) (q4 : Nat) (q5 : Nat) (q6 : Nat) (q7 : Nat) (r : PH) (hf : fX3_init h a0 q1 q2 q3 q4 q5 q6 q7 = some r) : Met l yX3_init wsX3_init rX3_init (p_preN D ad (p_AN ad h sz) sz h [.ref (ad a0)]) (p_NMv D ad (p_AN ad h sz) a0 r) 7 164 (p_AN ad h sz) := by
  refine Met.ofW (cc := cX3_init) (maxL := 2) (ret := none) (by decide) rfl ?_
  intro p e s m args below meth c s₁ B hml hv
  obtain ⟨hargs, hK, hQ, hover, hsz⟩ := hv
  have hAz : ∀ x, s.heap.size ≤ x → (p_AN ad h sz) x := fun x hx => Or.inr (by rw [← hsz]; exact hx)
  have hth : ad a0 = ad a0 := rfl
  have hx := B.exec
  have hb := B.bytes
  have hr := B.returns
  have hts := atoms_spec (ws := wsX3_init) B.pre
  have hown : s.vm.findClass RX3 = some m.cls := findClass_of_methodNamed B.named
  have hlocks := B.notSynchronized
  have hinit : meth.name = "<init>" := (name_of_methodNamed B.named B.method).1
  have hC : CallFix p m c cX3_init 2 s args wsX3_init RX3 := ⟨hx, hb, hml, hown, hts⟩
  have hS : va_S (p_AN ad h sz) s.heap s.heap [] := va_S.rf
  have hi2 : ∀ w ∈ u_ws RX2 TX2 2, w ∈ wsX3_init := fun w hw => List.mem_cons_of_mem _ (List.mem_append_left _ (List.mem_append_right _ hw))
  have hi3 : ∀ w ∈ u_ws RX3 TX3 8, w ∈ wsX3_init := fun w hw => List.mem_cons_of_mem _ (List.mem_append_right _ hw)
  obtain ⟨ls, hls, hL⟩ := p_start (n := 2) hargs (by simp [p_cat, p_ci, p_cr, p_cn]) (Nat.le_of_ble_eq_true rfl)
  show W p l e rX3_init s m args below meth c s.heap [] 0 0 (MQ below (p_NMv D ad (p_AN ad h sz) a0 r) args s 7 164 (p_AN ad h sz)) (entryFrame m args 2)
  rw [hls]
  clear hls
  have hL : p_L ls 2 [(0, .ref (ad a0))] := hL
  have b53 : ∀ n : Nat, ∀ (adb : Nat → Nat) (H : Heap) (locs : List Loc) (ls : Array Slot) (h1 : PH) (a0 : Nat) (x1 : Int32), adb a0 = ad a0 → p_Q D adb (p_AN ad h sz) s h1 H → va_S (p_AN ad h sz) s.heap H locs → p_L ls 2 [(0, .ref (adb a0)), (1, .int x1)] → fX3_init_53 n h1 a0 x1 = some r → W p l e rX3_init s m args below meth c H locs 7 164 (MQ below (p_NMv D ad (p_AN ad h sz) a0 r) args s 7 164 (p_AN ad h sz)) (F0 m 53 ls []) := by
    intro n
    induction n with
    | zero =>
      intro adb H locs ls h1 a0 x1 hth hQ hS hL hf
      simp [fX3_init_53] at hf
    | succ n ih =>
      intro adb H locs ls h1 a0 x1 hth hQ hS hL hf
      rw [fX3_init_53] at hf
      refine lv_iload_n hx hb dX3_init_53 rfl (lv_at hL.1 1 rfl) ?_
      refine lv_bipush (v := 48) hx hb dX3_init_54 (by decide) ?_
      refine lv_icmp_ge (tgt := 72) hx hb dX3_init_56 (by decide) (fun c1 => ?_) (fun c1 => ?_)
      · rw [if_pos c1] at hf
        refine lv_aload_n hx hb dX3_init_72 rfl (lv_at hL.1 0 rfl) ?_
        refine lv_iconst (v := 0) hx hb dX3_init_73 (by decide) ?_
        obtain ⟨h_2, e3, hf⟩ := p_b hf
        refine p_putI hC hi3 tyX3_ok nmX3 hK hQ hS e3 rfl (by decide) rfl rfl (by decide +kernel) dX3_init_74 (fun H locs hQ hS => ?_)
        refine lv_aload_n hx hb dX3_init_77 rfl (lv_at hL.1 0 rfl) ?_
        refine lv_bipush (v := 24) hx hb dX3_init_78 (by decide) ?_
        obtain ⟨h_4, e5, hf⟩ := p_b hf
        refine p_putI hC hi3 tyX3_ok nmX3 hK hQ hS e5 rfl (by decide) rfl rfl (by decide +kernel) dX3_init_80 (fun H locs hQ hS => ?_)
        refine lv_aload_n hx hb dX3_init_83 rfl (lv_at hL.1 0 rfl) ?_
        refine lv_iconst (v := 0) hx hb dX3_init_84 (by decide) ?_
        obtain ⟨h_6, e7, hf⟩ := p_b hf
        refine p_putI hC hi3 tyX3_ok nmX3 hK hQ hS e7 rfl (by decide) rfl rfl (by decide +kernel) dX3_init_85 (fun H locs hQ hS => ?_)
        exact p_rNMv hC hr hlocks hQ hS hth hf (Nat.le_of_ble_eq_true rfl) (Nat.le_of_ble_eq_true rfl) dX3_init_88
      · rw [if_neg c1] at hf
        refine lv_aload_n hx hb dX3_init_59 rfl (lv_at hL.1 0 rfl) ?_
        obtain ⟨a_8, e9, hf⟩ := p_b hf
        refine p_getR hC hi3 hK hQ e9 rfl (by decide) (by decide +kernel) dX3_init_60 ?_
        refine lv_iload_n hx hb dX3_init_63 rfl (lv_at hL.1 1 rfl) ?_
        refine lv_iconst (v := -1) hx hb dX3_init_64 (by decide) ?_
        obtain ⟨h_10, e11, hf⟩ := p_b hf
        refine p_iast hC hQ hS e11 dX3_init_65 (fun H locs hQ hS => ?_)
        refine p_iinc (v := (x1 + 1)) (lv' := [(1, .int (x1 + 1)), (0, .ref (adb a0))]) hx hb dX3_init_66 hL (k := 1) rfl rfl (by decide) rfl (fun ls hL => ?_)
        refine lv_goto (tgt := 53) hx hb dX3_init_69 (by decide) ?_
        exact ih adb _ _ _ h_10 a0 (x1 + 1) hth hQ hS (hL.sub [1, 0] rfl) hf
  rw [fX3_init] at hf
  refine lv_aload_n hx hb dX3_init_0 rfl (lv_at hL.1 0 rfl) ?_
  refine W.objInit hx hb hown (hts (.methodLink RX3 1 objectInit) (by decide +kernel)) (hts (.instanceMethod objectInit) (by decide +kernel)) (hts (.code objectInit ⟨#[0xb1]⟩ 1 none) (by decide +kernel)) rfl (by rw [hml]; exact hL.1.1) rfl dX3_init_1 (Nat.le_of_ble_eq_true rfl) (Nat.le_of_ble_eq_true rfl) ?_
  refine W.eq (g2 := F0 m 4 ls []) rfl ?_
  refine lv_aload_n hx hb dX3_init_4 rfl (lv_at hL.1 0 rfl) ?_
  obtain ⟨u14, e15, hf⟩ := p_b hf
  obtain ⟨h_12, e13, hf⟩ := p_b hf
  refine p_new hC hi2 tyX2_ok hK hQ hS hAz e13 rfl (fun j hj => by rcases (show j = 0 ∨ j = 1 by omega) with rfl | rfl <;> rfl) (fun _ => rfl) (fun y hy => by simp at hy) (by decide +kernel) (by decide +kernel) (by decide +kernel) (Nat.le_of_ble_eq_true rfl) (Nat.le_of_ble_eq_true rfl) dX3_init_5 (fun adn H hx1 hQ hS => ?_)
  revert hx1 hQ hS
  generalize adn = ad1
  intro hx1 hQ hS
  have ea_a0 : ad1 a0 = ad a0 := hx1 a0 (p_ob_ne e15)
  have hth : ad1 a0 = ad a0 := ea_a0.trans rfl
  have hL : p_L ls 2 [(0, .ref (ad1 a0))] := by rw [ea_a0]; exact hL
  rw [← ea_a0]
  refine lv_dup hx hb dX3_init_8 rfl ?_
  obtain ⟨u20, e21, hf⟩ := p_b hf
  obtain ⟨u22, e23, hf⟩ := p_b hf
  obtain ⟨u16, e17, hf⟩ := p_b hf
  obtain ⟨h_18, e19, hf⟩ := p_b hf
  refine p_cNf (va_runI (As := []) (rest := [.ref (ad1 q1), .ref (ad1 a0)]) hC (kX2_init l D ad1 _ h_12 q1 q2 h_18 e19) (cwI 0 hts gX3_init_X2_init rfl rfl rfl (hts (.initialized RX2) (by decide +kernel)) (hts (.methodLink RX3 9 yX2_init) (by decide +kernel)) (hts (.instanceMethod yX2_init) (by decide +kernel)) rfl (by decide +kernel) ⟨Nat.le_of_ble_eq_true rfl, Nat.le_of_ble_eq_true rfl⟩) (p_preSN hK hQ hover rfl) rfl rfl hL.1.1 rfl (lv_room (Nat.le_of_ble_eq_true rfl)) dX3_init_9 ⟨Nat.le_of_ble_eq_true rfl, Nat.le_of_ble_eq_true rfl⟩) hQ hS hAz (fun adn H locs hx1 hQ hS => ?_)
  revert hx1 hQ hS
  generalize adn = ad2
  intro hx1 hQ hS
  have ea_a0 : ad2 a0 = ad1 a0 := hx1 a0 (p_ob_ne e21)
  have ea_q1 : ad2 q1 = ad1 q1 := hx1 q1 (p_ob_ne e23)
  have hth : ad2 a0 = ad a0 := ea_a0.trans hth
  have hL : p_L ls 2 [(0, .ref (ad2 a0))] := by rw [ea_a0]; exact hL
  rw [← ea_q1]
  rw [← ea_a0]
  obtain ⟨h_24, e25, hf⟩ := p_b hf
  refine p_putRF hC hi3 tyX3_ok nmX3 hK hQ hS e25 rfl (by decide) rfl hinit rfl rfl (by decide +kernel) dX3_init_12 (fun H locs hQ hS => ?_)
  refine lv_aload_n hx hb dX3_init_15 rfl (lv_at hL.1 0 rfl) ?_
  obtain ⟨u28, e29, hf⟩ := p_b hf
  obtain ⟨h_26, e27, hf⟩ := p_b hf
  refine p_new hC hi2 tyX2_ok hK hQ hS hAz e27 rfl (fun j hj => by rcases (show j = 0 ∨ j = 1 by omega) with rfl | rfl <;> rfl) (fun _ => rfl) (fun y hy => by simp at hy) (by decide +kernel) (by decide +kernel) (by decide +kernel) (Nat.le_of_ble_eq_true rfl) (Nat.le_of_ble_eq_true rfl) dX3_init_16 (fun adn H hx1 hQ hS => ?_)
  revert hx1 hQ hS
  generalize adn = ad3
  intro hx1 hQ hS
  have ea_a0 : ad3 a0 = ad2 a0 := hx1 a0 (p_ob_ne e29)
  have hth : ad3 a0 = ad a0 := ea_a0.trans hth
  have hL : p_L ls 2 [(0, .ref (ad3 a0))] := by rw [ea_a0]; exact hL
  rw [← ea_a0]
  refine lv_dup hx hb dX3_init_19 rfl ?_
  obtain ⟨u34, e35, hf⟩ := p_b hf
  obtain ⟨u36, e37, hf⟩ := p_b hf
  obtain ⟨u30, e31, hf⟩ := p_b hf
  obtain ⟨h_32, e33, hf⟩ := p_b hf
  refine p_cNf (va_runI (As := []) (rest := [.ref (ad3 q3), .ref (ad3 a0)]) hC (kX2_init l D ad3 _ h_26 q3 q4 h_32 e33) (cwI 0 hts gX3_init_X2_init rfl rfl rfl (hts (.initialized RX2) (by decide +kernel)) (hts (.methodLink RX3 9 yX2_init) (by decide +kernel)) (hts (.instanceMethod yX2_init) (by decide +kernel)) rfl (by decide +kernel) ⟨Nat.le_of_ble_eq_true rfl, Nat.le_of_ble_eq_true rfl⟩) (p_preSN hK hQ hover rfl) rfl rfl hL.1.1 rfl (lv_room (Nat.le_of_ble_eq_true rfl)) dX3_init_20 ⟨Nat.le_of_ble_eq_true rfl, Nat.le_of_ble_eq_true rfl⟩) hQ hS hAz (fun adn H locs hx1 hQ hS => ?_)
  revert hx1 hQ hS
  generalize adn = ad4
  intro hx1 hQ hS
  have ea_a0 : ad4 a0 = ad3 a0 := hx1 a0 (p_ob_ne e35)
  have ea_q3 : ad4 q3 = ad3 q3 := hx1 q3 (p_ob_ne e37)
  have hth : ad4 a0 = ad a0 := ea_a0.trans hth
  have hL : p_L ls 2 [(0, .ref (ad4 a0))] := by rw [ea_a0]; exact hL
  rw [← ea_q3]
  rw [← ea_a0]
  obtain ⟨h_38, e39, hf⟩ := p_b hf
  refine p_putRF hC hi3 tyX3_ok nmX3 hK hQ hS e39 rfl (by decide) rfl hinit rfl rfl (by decide +kernel) dX3_init_23 (fun H locs hQ hS => ?_)
  refine lv_aload_n hx hb dX3_init_26 rfl (lv_at hL.1 0 rfl) ?_
  refine lv_bipush (v := 48) hx hb dX3_init_27 (by decide) ?_
  obtain ⟨u42, e43, hf⟩ := p_b hf
  obtain ⟨h_40, e41, hf⟩ := p_b hf
  refine p_newR hC hQ hS hAz e41 (by decide) (by decide) (Nat.le_of_ble_eq_true rfl) hover (by decide +kernel) (Nat.le_of_ble_eq_true rfl) (Nat.le_of_ble_eq_true rfl) dX3_init_29 (fun adn H hx1 hQ hS => ?_)
  revert hx1 hQ hS
  generalize adn = ad5
  intro hx1 hQ hS
  have ea_a0 : ad5 a0 = ad4 a0 := hx1 a0 (p_ob_ne e43)
  have hth : ad5 a0 = ad a0 := ea_a0.trans hth
  have hL : p_L ls 2 [(0, .ref (ad5 a0))] := by rw [ea_a0]; exact hL
  rw [← ea_a0]
  obtain ⟨h_44, e45, hf⟩ := p_b hf
  refine p_putRF hC hi3 tyX3_ok nmX3 hK hQ hS e45 rfl (by decide) rfl hinit rfl rfl (by decide +kernel) dX3_init_32 (fun H locs hQ hS => ?_)
  refine lv_aload_n hx hb dX3_init_35 rfl (lv_at hL.1 0 rfl) ?_
  refine lv_bipush (v := 48) hx hb dX3_init_36 (by decide) ?_
  obtain ⟨u48, e49, hf⟩ := p_b hf
  obtain ⟨h_46, e47, hf⟩ := p_b hf
  refine p_newI (t := 0) hC rfl rfl hQ hS hAz e47 (by decide) (by decide) (Nat.le_of_ble_eq_true rfl) (by decide +kernel) (Nat.le_of_ble_eq_true rfl) (Nat.le_of_ble_eq_true rfl) dX3_init_38 (fun adn H hx1 hQ hS => ?_)
  revert hx1 hQ hS
  generalize adn = ad6
  intro hx1 hQ hS
  have ea_a0 : ad6 a0 = ad5 a0 := hx1 a0 (p_ob_ne e49)
  have hth : ad6 a0 = ad a0 := ea_a0.trans hth
  have hL : p_L ls 2 [(0, .ref (ad6 a0))] := by rw [ea_a0]; exact hL
  rw [← ea_a0]
  obtain ⟨h_50, e51, hf⟩ := p_b hf
  refine p_putRF hC hi3 tyX3_ok nmX3 hK hQ hS e51 rfl (by decide) rfl hinit rfl rfl (by decide +kernel) dX3_init_40 (fun H locs hQ hS => ?_)
  refine lv_aload_n hx hb dX3_init_43 rfl (lv_at hL.1 0 rfl) ?_
  refine lv_bipush (v := 48) hx hb dX3_init_44 (by decide) ?_
  obtain ⟨u54, e55, hf⟩ := p_b hf
  obtain ⟨h_52, e53, hf⟩ := p_b hf
  refine p_newI (t := 0) hC rfl rfl hQ hS hAz e53 (by decide) (by decide) (Nat.le_of_ble_eq_true rfl) (by decide +kernel) (Nat.le_of_ble_eq_true rfl) (Nat.le_of_ble_eq_true rfl) dX3_init_46 (fun adn H hx1 hQ hS => ?_)
  revert hx1 hQ hS
  generalize adn = ad7
  intro hx1 hQ hS
  have ea_a0 : ad7 a0 = ad6 a0 := hx1 a0 (p_ob_ne e55)
  have hth : ad7 a0 = ad a0 := ea_a0.trans hth
  have hL : p_L ls 2 [(0, .ref (ad7 a0))] := by rw [ea_a0]; exact hL
  rw [← ea_a0]
  obtain ⟨h_56, e57, hf⟩ := p_b hf
  refine p_putRF hC hi3 tyX3_ok nmX3 hK hQ hS e57 rfl (by decide) rfl hinit rfl rfl (by decide +kernel) dX3_init_48 (fun H locs hQ hS => ?_)
  refine lv_iconst (v := 0) hx hb dX3_init_51 (by decide) ?_
  refine p_istore_n (lv' := [(1, .int 0), (0, .ref (ad7 a0))]) hx hb dX3_init_52 rfl hL (by decide) rfl (fun ls hL => ?_)
  exact b53 64 ad7 _ _ _ h_56 a0 0 hth hQ hS (hL.sub [1, 0] rfl) hf
-- X3_isCell
abbrev rX3_isCell : Room := { frames := 0, cells := 0, slots := 0, locals := 0 }
set_option maxHeartbeats 4000000 in
set_option maxRecDepth 100000 in
theorem kX3_isCell (l : Launch) (D : va_G) (ad : Nat → Nat) (h : PH) (x0 : Int32) (x1 : Int32)  (r : Int32) (hf : fX3_isCell h x0 x1  = some r) : Met l yX3_isCell wsX3_isCell rX3_isCell (p_pre D ad p_tt h [.int x0, .int x1]) (p_Ri r) 0 0 p_no := by
  refine Met.ofW (cc := cX3_isCell) (maxL := 2) (ret := (some .boolean)) (by decide) rfl ?_
  intro p e s m args below meth c s₁ B hml hv
  obtain ⟨hargs, hK, hQ⟩ := hv
  have hx := B.exec
  have hb := B.bytes
  have hr := B.returns
  have hts := atoms_spec (ws := wsX3_isCell) B.pre
  have hown : s.vm.findClass RX3 = some m.cls := findClass_of_methodNamed B.named
  have hlocks := B.notSynchronized
  have hC : CallFix p m c cX3_isCell 2 s args wsX3_isCell RX3 := ⟨hx, hb, hml, hown, hts⟩
  have hS : va_S p_no s.heap s.heap [] := va_S.rf
  obtain ⟨ls, hls, hL⟩ := p_start (n := 2) hargs (by simp [p_cat, p_ci, p_cr, p_cn]) (Nat.le_of_ble_eq_true rfl)
  show W p l e rX3_isCell s m args below meth c s.heap [] 0 0 (MQ below (p_Ri r) args s 0 0 p_no) (entryFrame m args 2)
  rw [hls]
  clear hls
  have hL : p_L ls 2 [(0, .int x0), (1, .int x1)] := hL
  have b25 : ∀ (H : Heap) (locs : List Loc) (ls : Array Slot) (h1 : PH) (sx0 : Int32), p_Q D ad p_tt s h1 H → va_S p_no s.heap H locs → p_L ls 2 [] → fX3_isCell_25 h1 sx0 = some r → W p l e rX3_isCell s m args below meth c H locs 0 0 (MQ below (p_Ri r) args s 0 0 p_no) (F0 m 25 ls [.int sx0]) := by
    intro H locs ls h1 sx0 hQ hS hL hf
    rw [fX3_isCell_25] at hf
    exact p_rRz hC hr hlocks hS hf dX3_isCell_25
  have b24 : ∀ (H : Heap) (locs : List Loc) (ls : Array Slot) (h1 : PH) , p_Q D ad p_tt s h1 H → va_S p_no s.heap H locs → p_L ls 2 [] → fX3_isCell_24 h1  = some r → W p l e rX3_isCell s m args below meth c H locs 0 0 (MQ below (p_Ri r) args s 0 0 p_no) (F0 m 24 ls []) := by
    intro H locs ls h1  hQ hS hL hf
    rw [fX3_isCell_24] at hf
    refine lv_iconst (v := 0) hx hb dX3_isCell_24 (by decide) ?_
    exact b25 _ _ _ h1 0 hQ hS (hL.sub [] rfl) hf
  rw [fX3_isCell] at hf
  refine lv_iload_n hx hb dX3_isCell_0 rfl (lv_at hL.1 0 rfl) ?_
  refine lv_if_lt (tgt := 24) hx hb dX3_isCell_1 (by decide) (fun c1 => ?_) (fun c1 => ?_)
  · rw [if_pos c1] at hf
    exact b24 _ _ _ h  hQ hS (hL.sub [] rfl) hf
  · rw [if_neg c1] at hf
    refine lv_iload_n hx hb dX3_isCell_4 rfl (lv_at hL.1 0 rfl) ?_
    refine lv_bipush (v := 8) hx hb dX3_isCell_5 (by decide) ?_
    refine lv_icmp_ge (tgt := 24) hx hb dX3_isCell_7 (by decide) (fun c2 => ?_) (fun c2 => ?_)
    · rw [if_pos c2] at hf
      exact b24 _ _ _ h  hQ hS (hL.sub [] rfl) hf
    · rw [if_neg c2] at hf
      refine lv_iload_n hx hb dX3_isCell_10 rfl (lv_at hL.1 1 rfl) ?_
      refine lv_if_lt (tgt := 24) hx hb dX3_isCell_11 (by decide) (fun c3 => ?_) (fun c3 => ?_)
      · rw [if_pos c3] at hf
        exact b24 _ _ _ h  hQ hS (hL.sub [] rfl) hf
      · rw [if_neg c3] at hf
        refine lv_iload_n hx hb dX3_isCell_14 rfl (lv_at hL.1 1 rfl) ?_
        refine lv_bipush (v := 6) hx hb dX3_isCell_15 (by decide) ?_
        refine lv_icmp_ge (tgt := 24) hx hb dX3_isCell_17 (by decide) (fun c4 => ?_) (fun c4 => ?_)
        · rw [if_pos c4] at hf
          exact b24 _ _ _ h  hQ hS (hL.sub [] rfl) hf
        · rw [if_neg c4] at hf
          refine lv_iconst (v := 1) hx hb dX3_isCell_20 (by decide) ?_
          refine lv_goto (tgt := 25) hx hb dX3_isCell_21 (by decide) ?_
          exact b25 _ _ _ h 1 hQ hS (hL.sub [] rfl) hf
-- X3_fits
abbrev rX3_fits : Room := { frames := 0, cells := 0, slots := 0, locals := 0 }
set_option maxHeartbeats 4000000 in
set_option maxRecDepth 100000 in
theorem kX3_fits (l : Launch) (D : va_G) (ad : Nat → Nat) (h : PH) (x0 : Int32) (x1 : Int32) (x2 : Int32) (x3 : Int32)  (r : Int32) (hf : fX3_fits h x0 x1 x2 x3  = some r) : Met l yX3_fits wsX3_fits rX3_fits (p_pre D ad p_tt h [.int x0, .int x1, .int x2, .int x3]) (p_Ri r) 0 0 p_no := by
  refine Met.ofW (cc := cX3_fits) (maxL := 4) (ret := (some .boolean)) (by decide) rfl ?_
  intro p e s m args below meth c s₁ B hml hv
  obtain ⟨hargs, hK, hQ⟩ := hv
  have hx := B.exec
  have hb := B.bytes
  have hr := B.returns
  have hts := atoms_spec (ws := wsX3_fits) B.pre
  have hown : s.vm.findClass RX3 = some m.cls := findClass_of_methodNamed B.named
  have hlocks := B.notSynchronized
  have hC : CallFix p m c cX3_fits 4 s args wsX3_fits RX3 := ⟨hx, hb, hml, hown, hts⟩
  have hS : va_S p_no s.heap s.heap [] := va_S.rf
  obtain ⟨ls, hls, hL⟩ := p_start (n := 4) hargs (by simp [p_cat, p_ci, p_cr, p_cn]) (Nat.le_of_ble_eq_true rfl)
  show W p l e rX3_fits s m args below meth c s.heap [] 0 0 (MQ below (p_Ri r) args s 0 0 p_no) (entryFrame m args 4)
  rw [hls]
  clear hls
  have hL : p_L ls 4 [(0, .int x0), (1, .int x1), (2, .int x2), (3, .int x3)] := hL
  have b21 : ∀ (H : Heap) (locs : List Loc) (ls : Array Slot) (h1 : PH) (sx0 : Int32), p_Q D ad p_tt s h1 H → va_S p_no s.heap H locs → p_L ls 4 [] → fX3_fits_21 h1 sx0 = some r → W p l e rX3_fits s m args below meth c H locs 0 0 (MQ below (p_Ri r) args s 0 0 p_no) (F0 m 21 ls [.int sx0]) := by
    intro H locs ls h1 sx0 hQ hS hL hf
    rw [fX3_fits_21] at hf
    exact p_rRz hC hr hlocks hS hf dX3_fits_21
  have b20 : ∀ (H : Heap) (locs : List Loc) (ls : Array Slot) (h1 : PH) , p_Q D ad p_tt s h1 H → va_S p_no s.heap H locs → p_L ls 4 [] → fX3_fits_20 h1  = some r → W p l e rX3_fits s m args below meth c H locs 0 0 (MQ below (p_Ri r) args s 0 0 p_no) (F0 m 20 ls []) := by
    intro H locs ls h1  hQ hS hL hf
    rw [fX3_fits_20] at hf
    refine lv_iconst (v := 0) hx hb dX3_fits_20 (by decide) ?_
    exact b21 _ _ _ h1 0 hQ hS (hL.sub [] rfl) hf
  rw [fX3_fits] at hf
  refine lv_iload_n hx hb dX3_fits_0 rfl (lv_at hL.1 2 rfl) ?_
  refine lv_bipush (v := 8) hx hb dX3_fits_1 (by decide) ?_
  refine lv_iload_n hx hb dX3_fits_3 rfl (lv_at hL.1 0 rfl) ?_
  refine lv_isub hx hb dX3_fits_4 ?_
  refine lv_icmp_gt (tgt := 20) hx hb dX3_fits_5 (by decide) (fun c1 => ?_) (fun c1 => ?_)
  · rw [if_pos c1] at hf
    exact b20 _ _ _ h  hQ hS (hL.sub [] rfl) hf
  · rw [if_neg c1] at hf
    refine lv_iload_n hx hb dX3_fits_8 rfl (lv_at hL.1 3 rfl) ?_
    refine lv_bipush (v := 6) hx hb dX3_fits_9 (by decide) ?_
    refine lv_iload_n hx hb dX3_fits_11 rfl (lv_at hL.1 1 rfl) ?_
    refine lv_isub hx hb dX3_fits_12 ?_
    refine lv_icmp_gt (tgt := 20) hx hb dX3_fits_13 (by decide) (fun c2 => ?_) (fun c2 => ?_)
    · rw [if_pos c2] at hf
      exact b20 _ _ _ h  hQ hS (hL.sub [] rfl) hf
    · rw [if_neg c2] at hf
      refine lv_iconst (v := 1) hx hb dX3_fits_16 (by decide) ?_
      refine lv_goto (tgt := 21) hx hb dX3_fits_17 (by decide) ?_
      exact b21 _ _ _ h 1 hQ hS (hL.sub [] rfl) hf
-- X3_lookAtScreen
abbrev rX3_lookAtScreen : Room := { frames := 2, cells := 0, slots := 0, locals := 46 }
set_option maxHeartbeats 4000000 in
set_option maxRecDepth 100000 in
theorem kX3_lookAtScreen (l : Launch) (D : va_G) (ad : Nat → Nat) (h : PH) (a0 : Nat)  (r : PH) (hf : fX3_lookAtScreen h a0  = some r) : Met l yX3_lookAtScreen wsX3_lookAtScreen rX3_lookAtScreen (p_pre D ad (p_A ad h) h [.ref (ad a0)]) (p_Mv D ad (p_A ad h) r) 0 0 (p_A ad h) := by
  refine Met.ofW (cc := cX3_lookAtScreen) (maxL := 3) (ret := none) (by decide) rfl ?_
  intro p e s m args below meth c s₁ B hml hv
  obtain ⟨hargs, hK, hQ⟩ := hv
  have hx := B.exec
  have hb := B.bytes
  have hr := B.returns
  have hts := atoms_spec (ws := wsX3_lookAtScreen) B.pre
  have hown : s.vm.findClass RX3 = some m.cls := findClass_of_methodNamed B.named
  have hlocks := B.notSynchronized
  have hC : CallFix p m c cX3_lookAtScreen 3 s args wsX3_lookAtScreen RX3 := ⟨hx, hb, hml, hown, hts⟩
  have hS : va_S (p_A ad h) s.heap s.heap [] := va_S.rf
  have hi1 : ∀ w ∈ u_ws RX1 TX1 10, w ∈ wsX3_lookAtScreen := fun w hw => List.mem_cons_of_mem _ (List.mem_append_left _ (List.mem_append_right _ hw))
  have hi2 : ∀ w ∈ u_ws RX2 TX2 2, w ∈ wsX3_lookAtScreen := fun w hw => List.mem_cons_of_mem _ (List.mem_append_right _ hw)
  have hi3 : ∀ w ∈ u_ws RX3 TX3 8, w ∈ wsX3_lookAtScreen := fun w hw => List.mem_cons_of_mem _ (List.mem_append_left _ (List.mem_append_left _ (List.mem_append_right _ hw)))
  obtain ⟨ls, hls, hL⟩ := p_start (n := 3) hargs (by simp [p_cat, p_ci, p_cr, p_cn]) (Nat.le_of_ble_eq_true rfl)
  show W p l e rX3_lookAtScreen s m args below meth c s.heap [] 0 0 (MQ below (p_Mv D ad (p_A ad h) r) args s 0 0 (p_A ad h)) (entryFrame m args 3)
  rw [hls]
  clear hls
  have hL : p_L ls 3 [(0, .ref (ad a0))] := hL
  have b77 : ∀ K : PH → Nat → Int32 → Option (PH), (∀ (H : Heap) (locs : List Loc) (ls : Array Slot) (h1 : PH) (a0 : Nat) (x1 : Int32), p_Q D ad (p_A ad h) s h1 H → va_S (p_A ad h) s.heap H locs → p_L ls 3 [(0, .ref (ad a0)), (1, .int x1)] → K h1 a0 x1 = some r → W p l e rX3_lookAtScreen s m args below meth c H locs 0 0 (MQ below (p_Mv D ad (p_A ad h) r) args s 0 0 (p_A ad h)) (F0 m 39 ls [])) → ∀ (H : Heap) (locs : List Loc) (ls : Array Slot) (h1 : PH) (a0 : Nat) (x1 : Int32), p_Q D ad (p_A ad h) s h1 H → va_S (p_A ad h) s.heap H locs → p_L ls 3 [(0, .ref (ad a0)), (1, .int x1)] → fX3_lookAtScreen_77 K h1 a0 x1 = some r → W p l e rX3_lookAtScreen s m args below meth c H locs 0 0 (MQ below (p_Mv D ad (p_A ad h) r) args s 0 0 (p_A ad h)) (F0 m 77 ls []) := by
    intro K ih H locs ls h1 a0 x1 hQ hS hL hf
    rw [fX3_lookAtScreen_77] at hf
    refine p_iinc (v := (x1 + 1)) (lv' := [(1, .int (x1 + 1)), (0, .ref (ad a0))]) hx hb dX3_lookAtScreen_77 hL (k := 1) rfl rfl (by decide) rfl (fun ls hL => ?_)
    refine lv_goto (tgt := 39) hx hb dX3_lookAtScreen_80 (by decide) ?_
    exact ih _ _ _ h1 a0 (x1 + 1) hQ hS (hL.sub [1, 0] rfl) hf
  have b39 : ∀ n : Nat, ∀ (H : Heap) (locs : List Loc) (ls : Array Slot) (h1 : PH) (a0 : Nat) (x1 : Int32), p_Q D ad (p_A ad h) s h1 H → va_S (p_A ad h) s.heap H locs → p_L ls 3 [(0, .ref (ad a0)), (1, .int x1)] → fX3_lookAtScreen_39 n h1 a0 x1 = some r → W p l e rX3_lookAtScreen s m args below meth c H locs 0 0 (MQ below (p_Mv D ad (p_A ad h) r) args s 0 0 (p_A ad h)) (F0 m 39 ls []) := by
    intro n
    induction n with
    | zero =>
      intro H locs ls h1 a0 x1 hQ hS hL hf
      simp [fX3_lookAtScreen_39] at hf
    | succ n ih =>
      intro H locs ls h1 a0 x1 hQ hS hL hf
      rw [fX3_lookAtScreen_39] at hf
      refine lv_iload_n hx hb dX3_lookAtScreen_39 rfl (lv_at hL.1 1 rfl) ?_
      refine lv_bipush (v := 48) hx hb dX3_lookAtScreen_40 (by decide) ?_
      refine lv_icmp_ge (tgt := 83) hx hb dX3_lookAtScreen_42 (by decide) (fun c1 => ?_) (fun c1 => ?_)
      · rw [if_pos c1] at hf
        exact p_rMv hC hr hlocks hQ hS hf dX3_lookAtScreen_83
      · rw [if_neg c1] at hf
        refine lv_aload_n hx hb dX3_lookAtScreen_45 rfl (lv_at hL.1 0 rfl) ?_
        obtain ⟨a_2, e3, hf⟩ := p_b hf
        refine p_getR hC hi3 hK hQ e3 rfl (by decide) (by decide +kernel) dX3_lookAtScreen_46 ?_
        refine lv_iload_n hx hb dX3_lookAtScreen_49 rfl (lv_at hL.1 1 rfl) ?_
        refine lv_bipush (v := 8) hx hb dX3_lookAtScreen_50 (by decide) ?_
        refine lv_irem hx hb dX3_lookAtScreen_52 (by decide) ?_
        refine lv_iload_n hx hb dX3_lookAtScreen_53 rfl (lv_at hL.1 1 rfl) ?_
        refine lv_bipush (v := 8) hx hb dX3_lookAtScreen_54 (by decide) ?_
        refine lv_idiv hx hb dX3_lookAtScreen_56 (by decide) ?_
        obtain ⟨u4, e5, hf⟩ := p_b hf
        obtain ⟨o_6, e7, hf⟩ := p_b hf
        refine p_cRq (va_runV (As := [.int (x1 - x1 / 8 * 8), .int (x1 / 8)]) (rest := []) hC (kX2_topmostOver l D ad h1 a_2 (x1 - x1 / 8 * 8) (x1 / 8) o_6 e7) (cwV 2 hts gX3_lookAtScreen_X2_topmostOver rfl rfl rfl (by decide +kernel) ⟨Nat.le_of_ble_eq_true rfl, Nat.le_of_ble_eq_true rfl⟩) (p_preV hK hQ.tt e5 rfl) rfl rfl hL.1.1 rfl (lv_room (Nat.le_of_ble_eq_true rfl)) dX3_lookAtScreen_57 ⟨Nat.le_of_ble_eq_true rfl, Nat.le_of_ble_eq_true rfl⟩) hQ hS (fun H locs hQ hS => ?_)
        refine p_astore_n (o := Option.map ad o_6) (lv' := [(2, va_rf (Option.map ad o_6)), (0, .ref (ad a0)), (1, .int x1)]) hx hb dX3_lookAtScreen_60 rfl hL (by decide) rfl (fun ls hL => ?_)
        refine lv_aload_n hx hb dX3_lookAtScreen_61 rfl (lv_at hL.1 1 rfl) ?_
        obtain ⟨a_8, e9, hf⟩ := p_b hf
        refine p_getR hC hi3 hK hQ e9 rfl (by decide) (by decide +kernel) dX3_lookAtScreen_62 ?_
        refine lv_iload_n hx hb dX3_lookAtScreen_65 rfl (lv_at hL.1 2 rfl) ?_
        refine p_aload_n (o := Option.map ad o_6) hx hb dX3_lookAtScreen_66 rfl (lv_at hL.1 0 rfl) ?_
        obtain ⟨h_10, e11, hf⟩ := p_b hf
        refine p_aast (o := o_6) hC hK hQ hS e11 dX3_lookAtScreen_67 (fun H locs hQ hS => ?_)
        refine p_aload_n (o := Option.map ad o_6) hx hb dX3_lookAtScreen_68 rfl (lv_at hL.1 0 rfl) ?_
        cases o_6 with
        | none =>
          dsimp only at hf
          have hL : p_L ls 3 [(2, .null), (0, .ref (ad a0)), (1, .int x1)] := hL
          refine lv_ifnullN (tgt := 77) hx hb dX3_lookAtScreen_69 (by decide) ?_
          exact b77 (fX3_lookAtScreen_39 n) ih _ _ _ h_10 a0 x1 hQ hS (hL.sub [1, 2] rfl) hf
        | some a_12 =>
          dsimp only at hf
          have hL : p_L ls 3 [(2, .ref (ad a_12)), (0, .ref (ad a0)), (1, .int x1)] := hL
          refine lv_ifnull hx hb dX3_lookAtScreen_69 ?_
          refine lv_aload_n hx hb dX3_lookAtScreen_72 rfl (lv_at hL.1 0 rfl) ?_
          refine lv_iconst (v := 1) hx hb dX3_lookAtScreen_73 (by decide) ?_
          obtain ⟨h_13, e14, hf⟩ := p_b hf
          refine p_putZ hC hi1 tyX1_ok nmX1 hK hQ hS e14 rfl (by decide) rfl rfl (by decide +kernel) dX3_lookAtScreen_74 (fun H locs hQ hS => ?_)
          exact b77 (fX3_lookAtScreen_39 n) ih _ _ _ h_13 a0 x1 hQ hS (hL.sub [1, 2] rfl) hf
  have b31 : ∀ K : PH → Nat → Int32 → Option (PH), (∀ (H : Heap) (locs : List Loc) (ls : Array Slot) (h1 : PH) (a0 : Nat) (x1 : Int32), p_Q D ad (p_A ad h) s h1 H → va_S (p_A ad h) s.heap H locs → p_L ls 3 [(0, .ref (ad a0)), (1, .int x1)] → K h1 a0 x1 = some r → W p l e rX3_lookAtScreen s m args below meth c H locs 0 0 (MQ below (p_Mv D ad (p_A ad h) r) args s 0 0 (p_A ad h)) (F0 m 2 ls [])) → ∀ (H : Heap) (locs : List Loc) (ls : Array Slot) (h1 : PH) (a0 : Nat) (x1 : Int32), p_Q D ad (p_A ad h) s h1 H → va_S (p_A ad h) s.heap H locs → p_L ls 3 [(0, .ref (ad a0)), (1, .int x1)] → fX3_lookAtScreen_31 K h1 a0 x1 = some r → W p l e rX3_lookAtScreen s m args below meth c H locs 0 0 (MQ below (p_Mv D ad (p_A ad h) r) args s 0 0 (p_A ad h)) (F0 m 31 ls []) := by
    intro K ih H locs ls h1 a0 x1 hQ hS hL hf
    rw [fX3_lookAtScreen_31] at hf
    refine p_iinc (v := (x1 + 1)) (lv' := [(1, .int (x1 + 1)), (0, .ref (ad a0))]) hx hb dX3_lookAtScreen_31 hL (k := 1) rfl rfl (by decide) rfl (fun ls hL => ?_)
    refine lv_goto (tgt := 2) hx hb dX3_lookAtScreen_34 (by decide) ?_
    exact ih _ _ _ h1 a0 (x1 + 1) hQ hS (hL.sub [1, 0] rfl) hf
  have b2 : ∀ n : Nat, ∀ (H : Heap) (locs : List Loc) (ls : Array Slot) (h1 : PH) (a0 : Nat) (x1 : Int32), p_Q D ad (p_A ad h) s h1 H → va_S (p_A ad h) s.heap H locs → p_L ls 3 [(0, .ref (ad a0)), (1, .int x1)] → fX3_lookAtScreen_2 n h1 a0 x1 = some r → W p l e rX3_lookAtScreen s m args below meth c H locs 0 0 (MQ below (p_Mv D ad (p_A ad h) r) args s 0 0 (p_A ad h)) (F0 m 2 ls []) := by
    intro n
    induction n with
    | zero =>
      intro H locs ls h1 a0 x1 hQ hS hL hf
      simp [fX3_lookAtScreen_2] at hf
    | succ n ih =>
      intro H locs ls h1 a0 x1 hQ hS hL hf
      rw [fX3_lookAtScreen_2] at hf
      refine lv_iload_n hx hb dX3_lookAtScreen_2 rfl (lv_at hL.1 1 rfl) ?_
      refine lv_aload_n hx hb dX3_lookAtScreen_3 rfl (lv_at hL.1 0 rfl) ?_
      obtain ⟨a_15, e16, hf⟩ := p_b hf
      refine p_getR hC hi3 hK hQ e16 rfl (by decide) (by decide +kernel) dX3_lookAtScreen_4 ?_
      obtain ⟨u17, e18, hf⟩ := p_b hf
      obtain ⟨v19, e20, hf⟩ := p_b hf
      refine p_cRi (va_runV (As := []) (rest := [.int x1]) hC (kX2_count l D ad h1 a_15 v19 e20) (cwV 0 hts gX3_lookAtScreen_X2_count rfl rfl rfl (by decide +kernel) ⟨Nat.le_of_ble_eq_true rfl, Nat.le_of_ble_eq_true rfl⟩) (p_preV hK hQ.tt e18 rfl) rfl rfl hL.1.1 rfl (lv_room (Nat.le_of_ble_eq_true rfl)) dX3_lookAtScreen_7 ⟨Nat.le_of_ble_eq_true rfl, Nat.le_of_ble_eq_true rfl⟩) hQ hS (fun H locs hQ hS => ?_)
      refine lv_icmp_ge (tgt := 37) hx hb dX3_lookAtScreen_10 (by decide) (fun c21 => ?_) (fun c21 => ?_)
      · rw [if_pos c21] at hf
        refine lv_iconst (v := 0) hx hb dX3_lookAtScreen_37 (by decide) ?_
        refine p_istore_n (lv' := [(1, .int 0), (0, .ref (ad a0))]) hx hb dX3_lookAtScreen_38 rfl hL (by decide) rfl (fun ls hL => ?_)
        exact b39 64 _ _ _ h1 a0 0 hQ hS (hL.sub [1, 0] rfl) hf
      · rw [if_neg c21] at hf
        refine lv_aload_n hx hb dX3_lookAtScreen_13 rfl (lv_at hL.1 0 rfl) ?_
        obtain ⟨a_22, e23, hf⟩ := p_b hf
        refine p_getR hC hi3 hK hQ e23 rfl (by decide) (by decide +kernel) dX3_lookAtScreen_14 ?_
        refine lv_iload_n hx hb dX3_lookAtScreen_17 rfl (lv_at hL.1 1 rfl) ?_
        obtain ⟨u24, e25, hf⟩ := p_b hf
        obtain ⟨o_26, e27, hf⟩ := p_b hf
        refine p_cRq (va_runV (As := [.int x1]) (rest := []) hC (kX2_get l D ad h1 a_22 x1 o_26 e27) (cwV 1 hts gX3_lookAtScreen_X2_get rfl rfl rfl (by decide +kernel) ⟨Nat.le_of_ble_eq_true rfl, Nat.le_of_ble_eq_true rfl⟩) (p_preV hK hQ.tt e25 rfl) rfl rfl hL.1.1 rfl (lv_room (Nat.le_of_ble_eq_true rfl)) dX3_lookAtScreen_18 ⟨Nat.le_of_ble_eq_true rfl, Nat.le_of_ble_eq_true rfl⟩) hQ hS (fun H locs hQ hS => ?_)
        refine p_astore_n (o := Option.map ad o_26) (lv' := [(2, va_rf (Option.map ad o_26)), (0, .ref (ad a0)), (1, .int x1)]) hx hb dX3_lookAtScreen_21 rfl hL (by decide) rfl (fun ls hL => ?_)
        refine p_aload_n (o := Option.map ad o_26) hx hb dX3_lookAtScreen_22 rfl (lv_at hL.1 0 rfl) ?_
        cases o_26 with
        | none =>
          dsimp only at hf
          have hL : p_L ls 3 [(2, .null), (0, .ref (ad a0)), (1, .int x1)] := hL
          refine lv_ifnullN (tgt := 31) hx hb dX3_lookAtScreen_23 (by decide) ?_
          exact b31 (fX3_lookAtScreen_2 n) ih _ _ _ h1 a0 x1 hQ hS (hL.sub [1, 2] rfl) hf
        | some a_28 =>
          dsimp only at hf
          have hL : p_L ls 3 [(2, .ref (ad a_28)), (0, .ref (ad a0)), (1, .int x1)] := hL
          refine lv_ifnull hx hb dX3_lookAtScreen_23 ?_
          refine lv_aload_n hx hb dX3_lookAtScreen_26 rfl (lv_at hL.1 0 rfl) ?_
          refine lv_iconst (v := 0) hx hb dX3_lookAtScreen_27 (by decide) ?_
          obtain ⟨h_29, e30, hf⟩ := p_b hf
          refine p_putZ hC hi1 tyX1_ok nmX1 hK hQ hS e30 rfl (by decide) rfl rfl (by decide +kernel) dX3_lookAtScreen_28 (fun H locs hQ hS => ?_)
          exact b31 (fX3_lookAtScreen_2 n) ih _ _ _ h_29 a0 x1 hQ hS (hL.sub [1, 2] rfl) hf
  rw [fX3_lookAtScreen] at hf
  refine lv_iconst (v := 0) hx hb dX3_lookAtScreen_0 (by decide) ?_
  refine p_istore_n (lv' := [(1, .int 0), (0, .ref (ad a0))]) hx hb dX3_lookAtScreen_1 rfl hL (by decide) rfl (fun ls hL => ?_)
  exact b2 64 _ _ _ h a0 0 hQ hS (hL.sub [1, 0] rfl) hf
-- X3_pagesOfUnseen
abbrev rX3_pagesOfUnseen : Room := { frames := 1, cells := 0, slots := 0, locals := 21 }
set_option maxHeartbeats 4000000 in
set_option maxRecDepth 100000 in
theorem kX3_pagesOfUnseen (l : Launch) (D : va_G) (ad : Nat → Nat) (h : PH) (a0 : Nat)  (r : Int32) (hf : fX3_pagesOfUnseen h a0  = some r) : Met l yX3_pagesOfUnseen wsX3_pagesOfUnseen rX3_pagesOfUnseen (p_pre D ad p_tt h [.ref (ad a0)]) (p_Ri r) 0 0 p_no := by
  refine Met.ofW (cc := cX3_pagesOfUnseen) (maxL := 4) (ret := (some .int)) (by decide) rfl ?_
  intro p e s m args below meth c s₁ B hml hv
  obtain ⟨hargs, hK, hQ⟩ := hv
  have hx := B.exec
  have hb := B.bytes
  have hr := B.returns
  have hts := atoms_spec (ws := wsX3_pagesOfUnseen) B.pre
  have hown : s.vm.findClass RX3 = some m.cls := findClass_of_methodNamed B.named
  have hlocks := B.notSynchronized
  have hC : CallFix p m c cX3_pagesOfUnseen 4 s args wsX3_pagesOfUnseen RX3 := ⟨hx, hb, hml, hown, hts⟩
  have hS : va_S p_no s.heap s.heap [] := va_S.rf
  have hi1 : ∀ w ∈ u_ws RX1 TX1 10, w ∈ wsX3_pagesOfUnseen := fun w hw => List.mem_cons_of_mem _ (List.mem_append_left _ (List.mem_append_right _ hw))
  have hi2 : ∀ w ∈ u_ws RX2 TX2 2, w ∈ wsX3_pagesOfUnseen := fun w hw => List.mem_cons_of_mem _ (List.mem_append_right _ hw)
  have hi3 : ∀ w ∈ u_ws RX3 TX3 8, w ∈ wsX3_pagesOfUnseen := fun w hw => List.mem_cons_of_mem _ (List.mem_append_left _ (List.mem_append_left _ (List.mem_append_right _ hw)))
  obtain ⟨ls, hls, hL⟩ := p_start (n := 4) hargs (by simp [p_cat, p_ci, p_cr, p_cn]) (Nat.le_of_ble_eq_true rfl)
  show W p l e rX3_pagesOfUnseen s m args below meth c s.heap [] 0 0 (MQ below (p_Ri r) args s 0 0 p_no) (entryFrame m args 4)
  rw [hls]
  clear hls
  have hL : p_L ls 4 [(0, .ref (ad a0))] := hL
  have b49 : ∀ K : PH → Nat → Int32 → Int32 → Option (Int32), (∀ (H : Heap) (locs : List Loc) (ls : Array Slot) (h1 : PH) (a0 : Nat) (x1 : Int32) (x2 : Int32), p_Q D ad p_tt s h1 H → va_S p_no s.heap H locs → p_L ls 4 [(0, .ref (ad a0)), (1, .int x1), (2, .int x2)] → K h1 a0 x1 x2 = some r → W p l e rX3_pagesOfUnseen s m args below meth c H locs 0 0 (MQ below (p_Ri r) args s 0 0 p_no) (F0 m 4 ls [])) → ∀ (H : Heap) (locs : List Loc) (ls : Array Slot) (h1 : PH) (a0 : Nat) (x1 : Int32) (x2 : Int32), p_Q D ad p_tt s h1 H → va_S p_no s.heap H locs → p_L ls 4 [(0, .ref (ad a0)), (1, .int x1), (2, .int x2)] → fX3_pagesOfUnseen_49 K h1 a0 x1 x2 = some r → W p l e rX3_pagesOfUnseen s m args below meth c H locs 0 0 (MQ below (p_Ri r) args s 0 0 p_no) (F0 m 49 ls []) := by
    intro K ih H locs ls h1 a0 x1 x2 hQ hS hL hf
    rw [fX3_pagesOfUnseen_49] at hf
    refine p_iinc (v := (x2 + 1)) (lv' := [(2, .int (x2 + 1)), (0, .ref (ad a0)), (1, .int x1)]) hx hb dX3_pagesOfUnseen_49 hL (k := 2) rfl rfl (by decide) rfl (fun ls hL => ?_)
    refine lv_goto (tgt := 4) hx hb dX3_pagesOfUnseen_52 (by decide) ?_
    exact ih _ _ _ h1 a0 x1 (x2 + 1) hQ hS (hL.sub [1, 2, 0] rfl) hf
  have b4 : ∀ n : Nat, ∀ (H : Heap) (locs : List Loc) (ls : Array Slot) (h1 : PH) (a0 : Nat) (x1 : Int32) (x2 : Int32), p_Q D ad p_tt s h1 H → va_S p_no s.heap H locs → p_L ls 4 [(0, .ref (ad a0)), (1, .int x1), (2, .int x2)] → fX3_pagesOfUnseen_4 n h1 a0 x1 x2 = some r → W p l e rX3_pagesOfUnseen s m args below meth c H locs 0 0 (MQ below (p_Ri r) args s 0 0 p_no) (F0 m 4 ls []) := by
    intro n
    induction n with
    | zero =>
      intro H locs ls h1 a0 x1 x2 hQ hS hL hf
      simp [fX3_pagesOfUnseen_4] at hf
    | succ n ih =>
      intro H locs ls h1 a0 x1 x2 hQ hS hL hf
      rw [fX3_pagesOfUnseen_4] at hf
      refine lv_iload_n hx hb dX3_pagesOfUnseen_4 rfl (lv_at hL.1 2 rfl) ?_
      refine lv_aload_n hx hb dX3_pagesOfUnseen_5 rfl (lv_at hL.1 0 rfl) ?_
      obtain ⟨a_1, e2, hf⟩ := p_b hf
      refine p_getR hC hi3 hK hQ e2 rfl (by decide) (by decide +kernel) dX3_pagesOfUnseen_6 ?_
      obtain ⟨u3, e4, hf⟩ := p_b hf
      obtain ⟨v5, e6, hf⟩ := p_b hf
      refine p_cRi (va_runV (As := []) (rest := [.int x2]) hC (kX2_count l D ad h1 a_1 v5 e6) (cwV 0 hts gX3_pagesOfUnseen_X2_count rfl rfl rfl (by decide +kernel) ⟨Nat.le_of_ble_eq_true rfl, Nat.le_of_ble_eq_true rfl⟩) (p_preV hK hQ.tt e4 rfl) rfl rfl hL.1.1 rfl (lv_room (Nat.le_of_ble_eq_true rfl)) dX3_pagesOfUnseen_9 ⟨Nat.le_of_ble_eq_true rfl, Nat.le_of_ble_eq_true rfl⟩) hQ hS (fun H locs hQ hS => ?_)
      refine lv_icmp_ge (tgt := 55) hx hb dX3_pagesOfUnseen_12 (by decide) (fun c7 => ?_) (fun c7 => ?_)
      · rw [if_pos c7] at hf
        refine lv_iload_n hx hb dX3_pagesOfUnseen_55 rfl (lv_at hL.1 1 rfl) ?_
        exact p_rRi hC hr hlocks hS hf dX3_pagesOfUnseen_56
      · rw [if_neg c7] at hf
        refine lv_aload_n hx hb dX3_pagesOfUnseen_15 rfl (lv_at hL.1 0 rfl) ?_
        obtain ⟨a_8, e9, hf⟩ := p_b hf
        refine p_getR hC hi3 hK hQ e9 rfl (by decide) (by decide +kernel) dX3_pagesOfUnseen_16 ?_
        refine lv_iload_n hx hb dX3_pagesOfUnseen_19 rfl (lv_at hL.1 2 rfl) ?_
        obtain ⟨u10, e11, hf⟩ := p_b hf
        obtain ⟨o_12, e13, hf⟩ := p_b hf
        refine p_cRq (va_runV (As := [.int x2]) (rest := []) hC (kX2_get l D ad h1 a_8 x2 o_12 e13) (cwV 1 hts gX3_pagesOfUnseen_X2_get rfl rfl rfl (by decide +kernel) ⟨Nat.le_of_ble_eq_true rfl, Nat.le_of_ble_eq_true rfl⟩) (p_preV hK hQ.tt e11 rfl) rfl rfl hL.1.1 rfl (lv_room (Nat.le_of_ble_eq_true rfl)) dX3_pagesOfUnseen_20 ⟨Nat.le_of_ble_eq_true rfl, Nat.le_of_ble_eq_true rfl⟩) hQ hS (fun H locs hQ hS => ?_)
        refine p_astore_n (o := Option.map ad o_12) (lv' := [(3, va_rf (Option.map ad o_12)), (0, .ref (ad a0)), (1, .int x1), (2, .int x2)]) hx hb dX3_pagesOfUnseen_23 rfl hL (by decide) rfl (fun ls hL => ?_)
        refine p_aload_n (o := Option.map ad o_12) hx hb dX3_pagesOfUnseen_24 rfl (lv_at hL.1 0 rfl) ?_
        cases o_12 with
        | none =>
          dsimp only at hf
          have hL : p_L ls 4 [(3, .null), (0, .ref (ad a0)), (1, .int x1), (2, .int x2)] := hL
          refine lv_ifnullN (tgt := 49) hx hb dX3_pagesOfUnseen_25 (by decide) ?_
          exact b49 (fX3_pagesOfUnseen_4 n) ih _ _ _ h1 a0 x1 x2 hQ hS (hL.sub [1, 2, 3] rfl) hf
        | some a_14 =>
          dsimp only at hf
          have hL : p_L ls 4 [(3, .ref (ad a_14)), (0, .ref (ad a0)), (1, .int x1), (2, .int x2)] := hL
          refine lv_ifnull hx hb dX3_pagesOfUnseen_25 ?_
          refine lv_aload_n hx hb dX3_pagesOfUnseen_28 rfl (lv_at hL.1 0 rfl) ?_
          obtain ⟨v15, e16, hf⟩ := p_b hf
          refine p_getI hC hi1 hK hQ e16 rfl (by decide) (by decide +kernel) dX3_pagesOfUnseen_29 ?_
          refine lv_if_eq (tgt := 49) hx hb dX3_pagesOfUnseen_32 (by decide) (fun c17 => ?_) (fun c17 => ?_)
          · rw [if_pos c17] at hf
            exact b49 (fX3_pagesOfUnseen_4 n) ih _ _ _ h1 a0 x1 x2 hQ hS (hL.sub [1, 2, 3] rfl) hf
          · rw [if_neg c17] at hf
            refine lv_aload_n hx hb dX3_pagesOfUnseen_35 rfl (lv_at hL.1 0 rfl) ?_
            obtain ⟨v18, e19, hf⟩ := p_b hf
            refine p_getI hC hi1 hK hQ e19 rfl (by decide) (by decide +kernel) dX3_pagesOfUnseen_36 ?_
            refine lv_if_ne (tgt := 49) hx hb dX3_pagesOfUnseen_39 (by decide) (fun c20 => ?_) (fun c20 => ?_)
            · rw [if_neg c20] at hf
              exact b49 (fX3_pagesOfUnseen_4 n) ih _ _ _ h1 a0 x1 x2 hQ hS (hL.sub [1, 2, 3] rfl) hf
            · rw [if_pos c20] at hf
              refine lv_iload_n hx hb dX3_pagesOfUnseen_42 rfl (lv_at hL.1 2 rfl) ?_
              refine lv_aload_n hx hb dX3_pagesOfUnseen_43 rfl (lv_at hL.1 0 rfl) ?_
              obtain ⟨u21, e22, hf⟩ := p_b hf
              obtain ⟨v23, e24, hf⟩ := p_b hf
              refine p_cRi (va_runV (As := []) (rest := [.int x1]) hC (kX1_pagesNeeded l D ad h1 a_14 v23 e24) (cwV 0 hts gX3_pagesOfUnseen_X1_pagesNeeded rfl rfl rfl (by decide +kernel) ⟨Nat.le_of_ble_eq_true rfl, Nat.le_of_ble_eq_true rfl⟩) (p_preV hK hQ.tt e22 rfl) rfl rfl hL.1.1 rfl (lv_room (Nat.le_of_ble_eq_true rfl)) dX3_pagesOfUnseen_44 ⟨Nat.le_of_ble_eq_true rfl, Nat.le_of_ble_eq_true rfl⟩) hQ hS (fun H locs hQ hS => ?_)
              refine lv_iadd hx hb dX3_pagesOfUnseen_47 ?_
              refine p_istore_n (lv' := [(1, .int (x1 + v23)), (3, .ref (ad a_14)), (0, .ref (ad a0)), (2, .int x2)]) hx hb dX3_pagesOfUnseen_48 rfl hL (by decide) rfl (fun ls hL => ?_)
              exact b49 (fX3_pagesOfUnseen_4 n) ih _ _ _ h1 a0 (x1 + v23) x2 hQ hS (hL.sub [2, 0, 3] rfl) hf
  rw [fX3_pagesOfUnseen] at hf
  refine lv_iconst (v := 0) hx hb dX3_pagesOfUnseen_0 (by decide) ?_
  refine p_istore_n (lv' := [(1, .int 0), (0, .ref (ad a0))]) hx hb dX3_pagesOfUnseen_1 rfl hL (by decide) rfl (fun ls hL => ?_)
  refine lv_iconst (v := 0) hx hb dX3_pagesOfUnseen_2 (by decide) ?_
  refine p_istore_n (lv' := [(2, .int 0), (1, .int 0), (0, .ref (ad a0))]) hx hb dX3_pagesOfUnseen_3 rfl hL (by decide) rfl (fun ls hL => ?_)
  exact b4 64 _ _ _ h a0 0 0 hQ hS (hL.sub [2, 1, 0] rfl) hf
-- X3_takeBackUntilFree
abbrev rX3_takeBackUntilFree : Room := { frames := 2, cells := 0, slots := 0, locals := 42 }
set_option maxHeartbeats 4000000 in
set_option maxRecDepth 100000 in
theorem kX3_takeBackUntilFree (l : Launch) (D : va_G) (ad : Nat → Nat) (h : PH) (a0 : Nat) (x1 : Int32)  (r : PH) (hf : fX3_takeBackUntilFree h a0 x1  = some r) : Met l yX3_takeBackUntilFree wsX3_takeBackUntilFree rX3_takeBackUntilFree (p_pre D ad (p_A ad h) h [.ref (ad a0), .int x1]) (p_Mv D ad (p_A ad h) r) 0 0 (p_A ad h) := by
  refine Met.ofW (cc := cX3_takeBackUntilFree) (maxL := 4) (ret := none) (by decide) rfl ?_
  intro p e s m args below meth c s₁ B hml hv
  obtain ⟨hargs, hK, hQ⟩ := hv
  have hx := B.exec
  have hb := B.bytes
  have hr := B.returns
  have hts := atoms_spec (ws := wsX3_takeBackUntilFree) B.pre
  have hown : s.vm.findClass RX3 = some m.cls := findClass_of_methodNamed B.named
  have hlocks := B.notSynchronized
  have hC : CallFix p m c cX3_takeBackUntilFree 4 s args wsX3_takeBackUntilFree RX3 := ⟨hx, hb, hml, hown, hts⟩
  have hS : va_S (p_A ad h) s.heap s.heap [] := va_S.rf
  have hi1 : ∀ w ∈ u_ws RX1 TX1 10, w ∈ wsX3_takeBackUntilFree := fun w hw => List.mem_cons_of_mem _ (List.mem_append_left _ (List.mem_append_left _ (List.mem_append_right _ hw)))
  have hi2 : ∀ w ∈ u_ws RX2 TX2 2, w ∈ wsX3_takeBackUntilFree := fun w hw => List.mem_cons_of_mem _ (List.mem_append_left _ (List.mem_append_right _ hw))
  have hi3 : ∀ w ∈ u_ws RX3 TX3 8, w ∈ wsX3_takeBackUntilFree := fun w hw => List.mem_cons_of_mem _ (List.mem_append_left _ (List.mem_append_left _ (List.mem_append_left _ (List.mem_append_right _ hw))))
  obtain ⟨ls, hls, hL⟩ := p_start (n := 4) hargs (by simp [p_cat, p_ci, p_cr, p_cn]) (Nat.le_of_ble_eq_true rfl)
  show W p l e rX3_takeBackUntilFree s m args below meth c s.heap [] 0 0 (MQ below (p_Mv D ad (p_A ad h) r) args s 0 0 (p_A ad h)) (entryFrame m args 4)
  rw [hls]
  clear hls
  have hL : p_L ls 4 [(0, .ref (ad a0)), (1, .int x1)] := hL
  have b75 : ∀ (H : Heap) (locs : List Loc) (ls : Array Slot) (h1 : PH) , p_Q D ad (p_A ad h) s h1 H → va_S (p_A ad h) s.heap H locs → p_L ls 4 [] → fX3_takeBackUntilFree_75 h1  = some r → W p l e rX3_takeBackUntilFree s m args below meth c H locs 0 0 (MQ below (p_Mv D ad (p_A ad h) r) args s 0 0 (p_A ad h)) (F0 m 75 ls []) := by
    intro H locs ls h1  hQ hS hL hf
    rw [fX3_takeBackUntilFree_75] at hf
    exact p_rMv hC hr hlocks hQ hS hf dX3_takeBackUntilFree_75
  have b69 : ∀ K : PH → Nat → Int32 → Int32 → Option (PH), (∀ (H : Heap) (locs : List Loc) (ls : Array Slot) (h1 : PH) (a0 : Nat) (x1 : Int32) (x2 : Int32), p_Q D ad (p_A ad h) s h1 H → va_S (p_A ad h) s.heap H locs → p_L ls 4 [(0, .ref (ad a0)), (1, .int x1), (2, .int x2)] → K h1 a0 x1 x2 = some r → W p l e rX3_takeBackUntilFree s m args below meth c H locs 0 0 (MQ below (p_Mv D ad (p_A ad h) r) args s 0 0 (p_A ad h)) (F0 m 2 ls [])) → ∀ (H : Heap) (locs : List Loc) (ls : Array Slot) (h1 : PH) (a0 : Nat) (x1 : Int32) (x2 : Int32), p_Q D ad (p_A ad h) s h1 H → va_S (p_A ad h) s.heap H locs → p_L ls 4 [(0, .ref (ad a0)), (1, .int x1), (2, .int x2)] → fX3_takeBackUntilFree_69 K h1 a0 x1 x2 = some r → W p l e rX3_takeBackUntilFree s m args below meth c H locs 0 0 (MQ below (p_Mv D ad (p_A ad h) r) args s 0 0 (p_A ad h)) (F0 m 69 ls []) := by
    intro K ih H locs ls h1 a0 x1 x2 hQ hS hL hf
    rw [fX3_takeBackUntilFree_69] at hf
    refine p_iinc (v := (x2 + 1)) (lv' := [(2, .int (x2 + 1)), (0, .ref (ad a0)), (1, .int x1)]) hx hb dX3_takeBackUntilFree_69 hL (k := 2) rfl rfl (by decide) rfl (fun ls hL => ?_)
    refine lv_goto (tgt := 2) hx hb dX3_takeBackUntilFree_72 (by decide) ?_
    exact ih _ _ _ h1 a0 x1 (x2 + 1) hQ hS (hL.sub [1, 2, 0] rfl) hf
  have b2 : ∀ n : Nat, ∀ (H : Heap) (locs : List Loc) (ls : Array Slot) (h1 : PH) (a0 : Nat) (x1 : Int32) (x2 : Int32), p_Q D ad (p_A ad h) s h1 H → va_S (p_A ad h) s.heap H locs → p_L ls 4 [(0, .ref (ad a0)), (1, .int x1), (2, .int x2)] → fX3_takeBackUntilFree_2 n h1 a0 x1 x2 = some r → W p l e rX3_takeBackUntilFree s m args below meth c H locs 0 0 (MQ below (p_Mv D ad (p_A ad h) r) args s 0 0 (p_A ad h)) (F0 m 2 ls []) := by
    intro n
    induction n with
    | zero =>
      intro H locs ls h1 a0 x1 x2 hQ hS hL hf
      simp [fX3_takeBackUntilFree_2] at hf
    | succ n ih =>
      intro H locs ls h1 a0 x1 x2 hQ hS hL hf
      rw [fX3_takeBackUntilFree_2] at hf
      refine lv_iload_n hx hb dX3_takeBackUntilFree_2 rfl (lv_at hL.1 2 rfl) ?_
      refine lv_aload_n hx hb dX3_takeBackUntilFree_3 rfl (lv_at hL.1 0 rfl) ?_
      obtain ⟨a_1, e2, hf⟩ := p_b hf
      refine p_getR hC hi3 hK hQ e2 rfl (by decide) (by decide +kernel) dX3_takeBackUntilFree_4 ?_
      obtain ⟨u3, e4, hf⟩ := p_b hf
      obtain ⟨v5, e6, hf⟩ := p_b hf
      refine p_cRi (va_runV (As := []) (rest := [.int x2]) hC (kX2_count l D ad h1 a_1 v5 e6) (cwV 0 hts gX3_takeBackUntilFree_X2_count rfl rfl rfl (by decide +kernel) ⟨Nat.le_of_ble_eq_true rfl, Nat.le_of_ble_eq_true rfl⟩) (p_preV hK hQ.tt e4 rfl) rfl rfl hL.1.1 rfl (lv_room (Nat.le_of_ble_eq_true rfl)) dX3_takeBackUntilFree_7 ⟨Nat.le_of_ble_eq_true rfl, Nat.le_of_ble_eq_true rfl⟩) hQ hS (fun H locs hQ hS => ?_)
      refine lv_icmp_ge (tgt := 75) hx hb dX3_takeBackUntilFree_10 (by decide) (fun c7 => ?_) (fun c7 => ?_)
      · rw [if_pos c7] at hf
        exact b75 _ _ _ h1  hQ hS (hL.sub [] rfl) hf
      · rw [if_neg c7] at hf
        refine lv_aload_n hx hb dX3_takeBackUntilFree_13 rfl (lv_at hL.1 0 rfl) ?_
        obtain ⟨v8, e9, hf⟩ := p_b hf
        refine p_getI hC hi3 hK hQ e9 rfl (by decide) (by decide +kernel) dX3_takeBackUntilFree_14 ?_
        refine lv_iload_n hx hb dX3_takeBackUntilFree_17 rfl (lv_at hL.1 1 rfl) ?_
        refine lv_icmp_ge (tgt := 75) hx hb dX3_takeBackUntilFree_18 (by decide) (fun c10 => ?_) (fun c10 => ?_)
        · rw [if_pos c10] at hf
          exact b75 _ _ _ h1  hQ hS (hL.sub [] rfl) hf
        · rw [if_neg c10] at hf
          refine lv_aload_n hx hb dX3_takeBackUntilFree_21 rfl (lv_at hL.1 0 rfl) ?_
          obtain ⟨a_11, e12, hf⟩ := p_b hf
          refine p_getR hC hi3 hK hQ e12 rfl (by decide) (by decide +kernel) dX3_takeBackUntilFree_22 ?_
          refine lv_iload_n hx hb dX3_takeBackUntilFree_25 rfl (lv_at hL.1 2 rfl) ?_
          obtain ⟨u13, e14, hf⟩ := p_b hf
          obtain ⟨o_15, e16, hf⟩ := p_b hf
          refine p_cRq (va_runV (As := [.int x2]) (rest := []) hC (kX2_get l D ad h1 a_11 x2 o_15 e16) (cwV 1 hts gX3_takeBackUntilFree_X2_get rfl rfl rfl (by decide +kernel) ⟨Nat.le_of_ble_eq_true rfl, Nat.le_of_ble_eq_true rfl⟩) (p_preV hK hQ.tt e14 rfl) rfl rfl hL.1.1 rfl (lv_room (Nat.le_of_ble_eq_true rfl)) dX3_takeBackUntilFree_26 ⟨Nat.le_of_ble_eq_true rfl, Nat.le_of_ble_eq_true rfl⟩) hQ hS (fun H locs hQ hS => ?_)
          refine p_astore_n (o := Option.map ad o_15) (lv' := [(3, va_rf (Option.map ad o_15)), (0, .ref (ad a0)), (1, .int x1), (2, .int x2)]) hx hb dX3_takeBackUntilFree_29 rfl hL (by decide) rfl (fun ls hL => ?_)
          refine p_aload_n (o := Option.map ad o_15) hx hb dX3_takeBackUntilFree_30 rfl (lv_at hL.1 0 rfl) ?_
          cases o_15 with
          | none =>
            dsimp only at hf
            have hL : p_L ls 4 [(3, .null), (0, .ref (ad a0)), (1, .int x1), (2, .int x2)] := hL
            refine lv_ifnullN (tgt := 69) hx hb dX3_takeBackUntilFree_31 (by decide) ?_
            exact b69 (fX3_takeBackUntilFree_2 n) ih _ _ _ h1 a0 x1 x2 hQ hS (hL.sub [1, 2, 3] rfl) hf
          | some a_17 =>
            dsimp only at hf
            have hL : p_L ls 4 [(3, .ref (ad a_17)), (0, .ref (ad a0)), (1, .int x1), (2, .int x2)] := hL
            refine lv_ifnull hx hb dX3_takeBackUntilFree_31 ?_
            refine lv_aload_n hx hb dX3_takeBackUntilFree_34 rfl (lv_at hL.1 0 rfl) ?_
            obtain ⟨v18, e19, hf⟩ := p_b hf
            refine p_getI hC hi1 hK hQ e19 rfl (by decide) (by decide +kernel) dX3_takeBackUntilFree_35 ?_
            refine lv_if_eq (tgt := 69) hx hb dX3_takeBackUntilFree_38 (by decide) (fun c20 => ?_) (fun c20 => ?_)
            · rw [if_pos c20] at hf
              exact b69 (fX3_takeBackUntilFree_2 n) ih _ _ _ h1 a0 x1 x2 hQ hS (hL.sub [1, 2, 3] rfl) hf
            · rw [if_neg c20] at hf
              refine lv_aload_n hx hb dX3_takeBackUntilFree_41 rfl (lv_at hL.1 0 rfl) ?_
              obtain ⟨v21, e22, hf⟩ := p_b hf
              refine p_getI hC hi1 hK hQ e22 rfl (by decide) (by decide +kernel) dX3_takeBackUntilFree_42 ?_
              refine lv_if_ne (tgt := 69) hx hb dX3_takeBackUntilFree_45 (by decide) (fun c23 => ?_) (fun c23 => ?_)
              · rw [if_neg c23] at hf
                exact b69 (fX3_takeBackUntilFree_2 n) ih _ _ _ h1 a0 x1 x2 hQ hS (hL.sub [1, 2, 3] rfl) hf
              · rw [if_pos c23] at hf
                refine lv_aload_n hx hb dX3_takeBackUntilFree_48 rfl (lv_at hL.1 1 rfl) ?_
                refine lv_dup hx hb dX3_takeBackUntilFree_49 rfl ?_
                obtain ⟨v24, e25, hf⟩ := p_b hf
                refine p_getI hC hi3 hK hQ e25 rfl (by decide) (by decide +kernel) dX3_takeBackUntilFree_50 ?_
                refine lv_aload_n hx hb dX3_takeBackUntilFree_53 rfl (lv_at hL.1 0 rfl) ?_
                obtain ⟨u26, e27, hf⟩ := p_b hf
                obtain ⟨v28, e29, hf⟩ := p_b hf
                refine p_cRi (va_runV (As := []) (rest := [.int v24, .ref (ad a0)]) hC (kX1_pagesNeeded l D ad h1 a_17 v28 e29) (cwV 0 hts gX3_takeBackUntilFree_X1_pagesNeeded rfl rfl rfl (by decide +kernel) ⟨Nat.le_of_ble_eq_true rfl, Nat.le_of_ble_eq_true rfl⟩) (p_preV hK hQ.tt e27 rfl) rfl rfl hL.1.1 rfl (lv_room (Nat.le_of_ble_eq_true rfl)) dX3_takeBackUntilFree_54 ⟨Nat.le_of_ble_eq_true rfl, Nat.le_of_ble_eq_true rfl⟩) hQ hS (fun H locs hQ hS => ?_)
                refine lv_iadd hx hb dX3_takeBackUntilFree_57 ?_
                obtain ⟨h_30, e31, hf⟩ := p_b hf
                refine p_putI hC hi3 tyX3_ok nmX3 hK hQ hS e31 rfl (by decide) rfl rfl (by decide +kernel) dX3_takeBackUntilFree_58 (fun H locs hQ hS => ?_)
                refine lv_aload_n hx hb dX3_takeBackUntilFree_61 rfl (lv_at hL.1 0 rfl) ?_
                refine lv_aload_n hx hb dX3_takeBackUntilFree_62 rfl (lv_at hL.1 1 rfl) ?_
                obtain ⟨v32, e33, hf⟩ := p_b hf
                refine p_getI hC hi3 hK hQ e33 rfl (by decide) (by decide +kernel) dX3_takeBackUntilFree_63 ?_
                obtain ⟨u34, e35, hf⟩ := p_b hf
                obtain ⟨h_36, e37, hf⟩ := p_b hf
                refine p_cMv (va_runV (As := [.int v32]) (rest := []) hC (kX1_loseSurface l D ad h_30 a_17 v32 h_36 e37) (cwV 1 hts gX3_takeBackUntilFree_X1_loseSurface rfl rfl rfl (by decide +kernel) ⟨Nat.le_of_ble_eq_true rfl, Nat.le_of_ble_eq_true rfl⟩) (p_preV hK hQ.self e35 rfl) rfl rfl hL.1.1 rfl (lv_room (Nat.le_of_ble_eq_true rfl)) dX3_takeBackUntilFree_66 ⟨Nat.le_of_ble_eq_true rfl, Nat.le_of_ble_eq_true rfl⟩) hQ hS (fun H locs hQ hS => ?_)
                exact b69 (fX3_takeBackUntilFree_2 n) ih _ _ _ h_36 a0 x1 x2 hQ hS (hL.sub [1, 2, 3] rfl) hf
  rw [fX3_takeBackUntilFree] at hf
  refine lv_iconst (v := 0) hx hb dX3_takeBackUntilFree_0 (by decide) ?_
  refine p_istore_n (lv' := [(2, .int 0), (0, .ref (ad a0)), (1, .int x1)]) hx hb dX3_takeBackUntilFree_1 rfl hL (by decide) rfl (fun ls hL => ?_)
  exact b2 64 _ _ _ h a0 x1 0 hQ hS (hL.sub [1, 2, 0] rfl) hf
-- X3_lend
abbrev rX3_lend : Room := { frames := 3, cells := 0, slots := 0, locals := 65 }
set_option maxHeartbeats 4000000 in
set_option maxRecDepth 100000 in
theorem kX3_lend (l : Launch) (D : va_G) (ad : Nat → Nat) (h : PH) (a0 : Nat) (o1 : Option Nat)  (r : Int32 × PH) (hf : fX3_lend h a0 o1  = some r) : Met l yX3_lend wsX3_lend rX3_lend (p_pre D ad (p_A ad h) h [.ref (ad a0), va_rf (Option.map ad o1)]) (p_Mi D ad (p_A ad h) r) 0 0 (p_A ad h) := by
  refine Met.ofW (cc := cX3_lend) (maxL := 3) (ret := (some .boolean)) (by decide) rfl ?_
  intro p e s m args below meth c s₁ B hml hv
  obtain ⟨hargs, hK, hQ⟩ := hv
  have hx := B.exec
  have hb := B.bytes
  have hr := B.returns
  have hts := atoms_spec (ws := wsX3_lend) B.pre
  have hown : s.vm.findClass RX3 = some m.cls := findClass_of_methodNamed B.named
  have hlocks := B.notSynchronized
  have hC : CallFix p m c cX3_lend 3 s args wsX3_lend RX3 := ⟨hx, hb, hml, hown, hts⟩
  have hS : va_S (p_A ad h) s.heap s.heap [] := va_S.rf
  have hi1 : ∀ w ∈ u_ws RX1 TX1 10, w ∈ wsX3_lend := fun w hw => List.mem_cons_of_mem _ (List.mem_append_left _ (List.mem_append_left _ (List.mem_append_right _ hw)))
  have hi3 : ∀ w ∈ u_ws RX3 TX3 8, w ∈ wsX3_lend := fun w hw => List.mem_cons_of_mem _ (List.mem_append_left _ (List.mem_append_left _ (List.mem_append_left _ (List.mem_append_right _ hw))))
  obtain ⟨ls, hls, hL⟩ := p_start (n := 3) hargs (by simp [p_cat, p_ci, p_cr, p_cn]) (Nat.le_of_ble_eq_true rfl)
  show W p l e rX3_lend s m args below meth c s.heap [] 0 0 (MQ below (p_Mi D ad (p_A ad h) r) args s 0 0 (p_A ad h)) (entryFrame m args 3)
  rw [hls]
  clear hls
  have hL : p_L ls 3 [(0, .ref (ad a0)), (1, va_rf (Option.map ad o1))] := hL
  rw [fX3_lend] at hf
  refine p_aload_n (o := Option.map ad o1) hx hb dX3_lend_0 rfl (lv_at hL.1 1 rfl) ?_
  obtain ⟨a_1, ea, hf2⟩ := p_b hf
  clear hf
  subst ea
  have hf := hf2
  clear hf2
  obtain ⟨u2, e3, hf⟩ := p_b hf
  obtain ⟨v4, e5, hf⟩ := p_b hf
  refine p_cRi (va_runV (As := []) (rest := []) hC (kX1_pagesNeeded l D ad h a_1 v4 e5) (cwV 0 hts gX3_lend_X1_pagesNeeded rfl rfl rfl (by decide +kernel) ⟨Nat.le_of_ble_eq_true rfl, Nat.le_of_ble_eq_true rfl⟩) (p_preV hK hQ.tt e3 rfl) rfl rfl hL.1.1 rfl (lv_room (Nat.le_of_ble_eq_true rfl)) dX3_lend_1 ⟨Nat.le_of_ble_eq_true rfl, Nat.le_of_ble_eq_true rfl⟩) hQ hS (fun H locs hQ hS => ?_)
  refine p_istore_n (lv' := [(2, .int v4), (0, .ref (ad a0)), (1, .ref (ad a_1))]) hx hb dX3_lend_4 rfl hL (by decide) rfl (fun ls hL => ?_)
  refine lv_aload_n hx hb dX3_lend_5 rfl (lv_at hL.1 1 rfl) ?_
  obtain ⟨v6, e7, hf⟩ := p_b hf
  refine p_getI hC hi3 hK hQ e7 rfl (by decide) (by decide +kernel) dX3_lend_6 ?_
  refine lv_aload_n hx hb dX3_lend_9 rfl (lv_at hL.1 1 rfl) ?_
  obtain ⟨u8, e9, hf⟩ := p_b hf
  obtain ⟨v10, e11, hf⟩ := p_b hf
  refine p_cRi (va_runV (As := []) (rest := [.int v6]) hC (kX3_pagesOfUnseen l D ad h a0 v10 e11) (cwV 0 hts gX3_lend_X3_pagesOfUnseen rfl rfl rfl (by decide +kernel) ⟨Nat.le_of_ble_eq_true rfl, Nat.le_of_ble_eq_true rfl⟩) (p_preV hK hQ.tt e9 rfl) rfl rfl hL.1.1 rfl (lv_room (Nat.le_of_ble_eq_true rfl)) dX3_lend_10 ⟨Nat.le_of_ble_eq_true rfl, Nat.le_of_ble_eq_true rfl⟩) hQ hS (fun H locs hQ hS => ?_)
  refine lv_iadd hx hb dX3_lend_13 ?_
  refine lv_iload_n hx hb dX3_lend_14 rfl (lv_at hL.1 0 rfl) ?_
  refine lv_icmp_ge (tgt := 20) hx hb dX3_lend_15 (by decide) (fun c12 => ?_) (fun c12 => ?_)
  · rw [if_pos c12] at hf
    refine lv_aload_n hx hb dX3_lend_20 rfl (lv_at hL.1 1 rfl) ?_
    refine lv_iload_n hx hb dX3_lend_21 rfl (lv_at hL.1 0 rfl) ?_
    obtain ⟨u13, e14, hf⟩ := p_b hf
    obtain ⟨h_15, e16, hf⟩ := p_b hf
    refine p_cMv (va_runV (As := [.int v4]) (rest := []) hC (kX3_takeBackUntilFree l D ad h a0 v4 h_15 e16) (cwV 1 hts gX3_lend_X3_takeBackUntilFree rfl rfl rfl (by decide +kernel) ⟨Nat.le_of_ble_eq_true rfl, Nat.le_of_ble_eq_true rfl⟩) (p_preV hK hQ.self e14 rfl) rfl rfl hL.1.1 rfl (lv_room (Nat.le_of_ble_eq_true rfl)) dX3_lend_22 ⟨Nat.le_of_ble_eq_true rfl, Nat.le_of_ble_eq_true rfl⟩) hQ hS (fun H locs hQ hS => ?_)
    refine lv_aload_n hx hb dX3_lend_25 rfl (lv_at hL.1 1 rfl) ?_
    refine lv_dup hx hb dX3_lend_26 rfl ?_
    obtain ⟨v17, e18, hf⟩ := p_b hf
    refine p_getI hC hi3 hK hQ e18 rfl (by decide) (by decide +kernel) dX3_lend_27 ?_
    refine lv_iload_n hx hb dX3_lend_30 rfl (lv_at hL.1 0 rfl) ?_
    refine lv_isub hx hb dX3_lend_31 ?_
    obtain ⟨h_19, e20, hf⟩ := p_b hf
    refine p_putI hC hi3 tyX3_ok nmX3 hK hQ hS e20 rfl (by decide) rfl rfl (by decide +kernel) dX3_lend_32 (fun H locs hQ hS => ?_)
    refine lv_aload_n hx hb dX3_lend_35 rfl (lv_at hL.1 2 rfl) ?_
    refine lv_iconst (v := 1) hx hb dX3_lend_36 (by decide) ?_
    obtain ⟨h_21, e22, hf⟩ := p_b hf
    refine p_putZ hC hi1 tyX1_ok nmX1 hK hQ hS e22 rfl (by decide) rfl rfl (by decide +kernel) dX3_lend_37 (fun H locs hQ hS => ?_)
    refine lv_iconst (v := 1) hx hb dX3_lend_40 (by decide) ?_
    exact p_rMz hC hr hlocks hQ hS hf dX3_lend_41
  · rw [if_neg c12] at hf
    refine lv_iconst (v := 0) hx hb dX3_lend_18 (by decide) ?_
    exact p_rMz hC hr hlocks hQ hS hf dX3_lend_19
-- X3_putOnTop
abbrev rX3_putOnTop : Room := { frames := 4, cells := 0, slots := 0, locals := 87 }
set_option maxHeartbeats 4000000 in
set_option maxRecDepth 100000 in
theorem kX3_putOnTop (l : Launch) (D : va_G) (ad : Nat → Nat) (h : PH) (a0 : Nat) (o1 : Option Nat)  (r : Int32 × PH) (hf : fX3_putOnTop h a0 o1  = some r) : Met l yX3_putOnTop wsX3_putOnTop rX3_putOnTop (p_pre D ad (p_A ad h) h [.ref (ad a0), va_rf (Option.map ad o1)]) (p_Mi D ad (p_A ad h) r) 0 0 (p_A ad h) := by
  refine Met.ofW (cc := cX3_putOnTop) (maxL := 2) (ret := (some .boolean)) (by decide) rfl ?_
  intro p e s m args below meth c s₁ B hml hv
  obtain ⟨hargs, hK, hQ⟩ := hv
  have hx := B.exec
  have hb := B.bytes
  have hr := B.returns
  have hts := atoms_spec (ws := wsX3_putOnTop) B.pre
  have hown : s.vm.findClass RX3 = some m.cls := findClass_of_methodNamed B.named
  have hlocks := B.notSynchronized
  have hC : CallFix p m c cX3_putOnTop 2 s args wsX3_putOnTop RX3 := ⟨hx, hb, hml, hown, hts⟩
  have hS : va_S (p_A ad h) s.heap s.heap [] := va_S.rf
  have hi1 : ∀ w ∈ u_ws RX1 TX1 10, w ∈ wsX3_putOnTop := fun w hw => List.mem_cons_of_mem _ (List.mem_append_left _ (List.mem_append_left _ (List.mem_append_right _ hw)))
  have hi2 : ∀ w ∈ u_ws RX2 TX2 2, w ∈ wsX3_putOnTop := fun w hw => List.mem_cons_of_mem _ (List.mem_append_left _ (List.mem_append_right _ hw))
  have hi3 : ∀ w ∈ u_ws RX3 TX3 8, w ∈ wsX3_putOnTop := fun w hw => List.mem_cons_of_mem _ (List.mem_append_left _ (List.mem_append_left _ (List.mem_append_left _ (List.mem_append_right _ hw))))
  obtain ⟨ls, hls, hL⟩ := p_start (n := 2) hargs (by simp [p_cat, p_ci, p_cr, p_cn]) (Nat.le_of_ble_eq_true rfl)
  show W p l e rX3_putOnTop s m args below meth c s.heap [] 0 0 (MQ below (p_Mi D ad (p_A ad h) r) args s 0 0 (p_A ad h)) (entryFrame m args 2)
  rw [hls]
  clear hls
  have hL : p_L ls 2 [(0, .ref (ad a0)), (1, va_rf (Option.map ad o1))] := hL
  rw [fX3_putOnTop] at hf
  refine lv_aload_n hx hb dX3_putOnTop_0 rfl (lv_at hL.1 0 rfl) ?_
  obtain ⟨a_1, e2, hf⟩ := p_b hf
  refine p_getR hC hi3 hK hQ e2 rfl (by decide) (by decide +kernel) dX3_putOnTop_1 ?_
  refine p_aload_n (o := Option.map ad o1) hx hb dX3_putOnTop_4 rfl (lv_at hL.1 1 rfl) ?_
  obtain ⟨u3, e4, hf⟩ := p_b hf
  obtain ⟨h_5, e6, hf⟩ := p_b hf
  refine p_cMv (va_runV (As := [va_rf (Option.map ad o1)]) (rest := []) hC (kX2_addLast l D ad h a_1 o1 h_5 e6) (cwV 1 hts gX3_putOnTop_X2_addLast rfl rfl rfl (by decide +kernel) ⟨Nat.le_of_ble_eq_true rfl, Nat.le_of_ble_eq_true rfl⟩) (p_preV hK hQ.self e4 rfl) rfl rfl hL.1.1 rfl (lv_room (Nat.le_of_ble_eq_true rfl)) dX3_putOnTop_5 ⟨Nat.le_of_ble_eq_true rfl, Nat.le_of_ble_eq_true rfl⟩) hQ hS (fun H locs hQ hS => ?_)
  refine lv_aload_n hx hb dX3_putOnTop_8 rfl (lv_at hL.1 0 rfl) ?_
  obtain ⟨u7, e8, hf⟩ := p_b hf
  obtain ⟨h_9, e10, hf⟩ := p_b hf
  refine p_cMv (va_runV (As := []) (rest := []) hC (kX3_lookAtScreen l D ad h_5 a0 h_9 e10) (cwV 0 hts gX3_putOnTop_X3_lookAtScreen rfl rfl rfl (by decide +kernel) ⟨Nat.le_of_ble_eq_true rfl, Nat.le_of_ble_eq_true rfl⟩) (p_preV hK hQ.self e8 rfl) rfl rfl hL.1.1 rfl (lv_room (Nat.le_of_ble_eq_true rfl)) dX3_putOnTop_9 ⟨Nat.le_of_ble_eq_true rfl, Nat.le_of_ble_eq_true rfl⟩) hQ hS (fun H locs hQ hS => ?_)
  refine lv_aload_n hx hb dX3_putOnTop_12 rfl (lv_at hL.1 0 rfl) ?_
  refine p_aload_n (o := Option.map ad o1) hx hb dX3_putOnTop_13 rfl (lv_at hL.1 1 rfl) ?_
  obtain ⟨u11, e12, hf⟩ := p_b hf
  obtain ⟨y13, e14, hf⟩ := p_b hf
  refine p_cMi (va_runV (As := [va_rf (Option.map ad o1)]) (rest := []) hC (kX3_lend l D ad h_9 a0 o1 y13 e14) (cwV 1 hts gX3_putOnTop_X3_lend rfl rfl rfl (by decide +kernel) ⟨Nat.le_of_ble_eq_true rfl, Nat.le_of_ble_eq_true rfl⟩) (p_preV hK hQ.self e12 rfl) rfl rfl hL.1.1 rfl (lv_room (Nat.le_of_ble_eq_true rfl)) dX3_putOnTop_14 ⟨Nat.le_of_ble_eq_true rfl, Nat.le_of_ble_eq_true rfl⟩) hQ hS (fun H locs hQ hS => ?_)
  refine lv_if_eq (tgt := 22) hx hb dX3_putOnTop_17 (by decide) (fun c15 => ?_) (fun c15 => ?_)
  · rw [if_pos c15] at hf
    refine lv_aload_n hx hb dX3_putOnTop_22 rfl (lv_at hL.1 0 rfl) ?_
    obtain ⟨a_16, e17, hf⟩ := p_b hf
    refine p_getR hC hi3 hK hQ e17 rfl (by decide) (by decide +kernel) dX3_putOnTop_23 ?_
    refine p_aload_n (o := Option.map ad o1) hx hb dX3_putOnTop_26 rfl (lv_at hL.1 1 rfl) ?_
    obtain ⟨a_18, ea, hf2⟩ := p_b hf
    clear hf
    subst ea
    have hf := hf2
    clear hf2
    obtain ⟨v19, e20, hf⟩ := p_b hf
    refine p_getI hC hi1 hK hQ e20 rfl (by decide) (by decide +kernel) dX3_putOnTop_27 ?_
    obtain ⟨u21, e22, hf⟩ := p_b hf
    obtain ⟨h_23, e24, hf⟩ := p_b hf
    refine p_cMv (va_runV (As := [.int v19]) (rest := []) hC (kX2_remove l D ad y13.2 a_16 v19 h_23 e24) (cwV 1 hts gX3_putOnTop_X2_remove rfl rfl rfl (by decide +kernel) ⟨Nat.le_of_ble_eq_true rfl, Nat.le_of_ble_eq_true rfl⟩) (p_preV hK hQ.self e22 rfl) rfl rfl hL.1.1 rfl (lv_room (Nat.le_of_ble_eq_true rfl)) dX3_putOnTop_30 ⟨Nat.le_of_ble_eq_true rfl, Nat.le_of_ble_eq_true rfl⟩) hQ hS (fun H locs hQ hS => ?_)
    refine lv_aload_n hx hb dX3_putOnTop_33 rfl (lv_at hL.1 0 rfl) ?_
    obtain ⟨u25, e26, hf⟩ := p_b hf
    obtain ⟨h_27, e28, hf⟩ := p_b hf
    refine p_cMv (va_runV (As := []) (rest := []) hC (kX3_lookAtScreen l D ad h_23 a0 h_27 e28) (cwV 0 hts gX3_putOnTop_X3_lookAtScreen rfl rfl rfl (by decide +kernel) ⟨Nat.le_of_ble_eq_true rfl, Nat.le_of_ble_eq_true rfl⟩) (p_preV hK hQ.self e26 rfl) rfl rfl hL.1.1 rfl (lv_room (Nat.le_of_ble_eq_true rfl)) dX3_putOnTop_34 ⟨Nat.le_of_ble_eq_true rfl, Nat.le_of_ble_eq_true rfl⟩) hQ hS (fun H locs hQ hS => ?_)
    refine lv_iconst (v := 0) hx hb dX3_putOnTop_37 (by decide) ?_
    exact p_rMz hC hr hlocks hQ hS hf dX3_putOnTop_38
  · rw [if_neg c15] at hf
    refine lv_iconst (v := 1) hx hb dX3_putOnTop_20 (by decide) ?_
    exact p_rMz hC hr hlocks hQ hS hf dX3_putOnTop_21
-- X3_lendToSeen
abbrev rX3_lendToSeen : Room := { frames := 4, cells := 0, slots := 0, locals := 87 }
set_option maxHeartbeats 4000000 in
set_option maxRecDepth 100000 in
theorem kX3_lendToSeen (l : Launch) (D : va_G) (ad : Nat → Nat) (h : PH) (a0 : Nat)  (r : PH) (hf : fX3_lendToSeen h a0  = some r) : Met l yX3_lendToSeen wsX3_lendToSeen rX3_lendToSeen (p_pre D ad (p_A ad h) h [.ref (ad a0)]) (p_Mv D ad (p_A ad h) r) 0 0 (p_A ad h) := by
  refine Met.ofW (cc := cX3_lendToSeen) (maxL := 3) (ret := none) (by decide) rfl ?_
  intro p e s m args below meth c s₁ B hml hv
  obtain ⟨hargs, hK, hQ⟩ := hv
  have hx := B.exec
  have hb := B.bytes
  have hr := B.returns
  have hts := atoms_spec (ws := wsX3_lendToSeen) B.pre
  have hown : s.vm.findClass RX3 = some m.cls := findClass_of_methodNamed B.named
  have hlocks := B.notSynchronized
  have hC : CallFix p m c cX3_lendToSeen 3 s args wsX3_lendToSeen RX3 := ⟨hx, hb, hml, hown, hts⟩
  have hS : va_S (p_A ad h) s.heap s.heap [] := va_S.rf
  have hi1 : ∀ w ∈ u_ws RX1 TX1 10, w ∈ wsX3_lendToSeen := fun w hw => List.mem_cons_of_mem _ (List.mem_append_left _ (List.mem_append_left _ (List.mem_append_right _ hw)))
  have hi2 : ∀ w ∈ u_ws RX2 TX2 2, w ∈ wsX3_lendToSeen := fun w hw => List.mem_cons_of_mem _ (List.mem_append_left _ (List.mem_append_right _ hw))
  have hi3 : ∀ w ∈ u_ws RX3 TX3 8, w ∈ wsX3_lendToSeen := fun w hw => List.mem_cons_of_mem _ (List.mem_append_left _ (List.mem_append_left _ (List.mem_append_left _ (List.mem_append_right _ hw))))
  obtain ⟨ls, hls, hL⟩ := p_start (n := 3) hargs (by simp [p_cat, p_ci, p_cr, p_cn]) (Nat.le_of_ble_eq_true rfl)
  show W p l e rX3_lendToSeen s m args below meth c s.heap [] 0 0 (MQ below (p_Mv D ad (p_A ad h) r) args s 0 0 (p_A ad h)) (entryFrame m args 3)
  rw [hls]
  clear hls
  have hL : p_L ls 3 [(0, .ref (ad a0))] := hL
  have b47 : ∀ K : PH → Nat → Int32 → Option (PH), (∀ (H : Heap) (locs : List Loc) (ls : Array Slot) (h1 : PH) (a0 : Nat) (x1 : Int32), p_Q D ad (p_A ad h) s h1 H → va_S (p_A ad h) s.heap H locs → p_L ls 3 [(0, .ref (ad a0)), (1, .int x1)] → K h1 a0 x1 = some r → W p l e rX3_lendToSeen s m args below meth c H locs 0 0 (MQ below (p_Mv D ad (p_A ad h) r) args s 0 0 (p_A ad h)) (F0 m 10 ls [])) → ∀ (H : Heap) (locs : List Loc) (ls : Array Slot) (h1 : PH) (a0 : Nat) (x1 : Int32), p_Q D ad (p_A ad h) s h1 H → va_S (p_A ad h) s.heap H locs → p_L ls 3 [(0, .ref (ad a0)), (1, .int x1)] → fX3_lendToSeen_47 K h1 a0 x1 = some r → W p l e rX3_lendToSeen s m args below meth c H locs 0 0 (MQ below (p_Mv D ad (p_A ad h) r) args s 0 0 (p_A ad h)) (F0 m 47 ls []) := by
    intro K ih H locs ls h1 a0 x1 hQ hS hL hf
    rw [fX3_lendToSeen_47] at hf
    refine p_iinc (v := (x1 + (-1))) (lv' := [(1, .int (x1 + (-1))), (0, .ref (ad a0))]) hx hb dX3_lendToSeen_47 hL (k := 1) rfl rfl (by decide) rfl (fun ls hL => ?_)
    refine lv_goto (tgt := 10) hx hb dX3_lendToSeen_50 (by decide) ?_
    exact ih _ _ _ h1 a0 (x1 + (-1)) hQ hS (hL.sub [1, 0] rfl) hf
  have b10 : ∀ n : Nat, ∀ (H : Heap) (locs : List Loc) (ls : Array Slot) (h1 : PH) (a0 : Nat) (x1 : Int32), p_Q D ad (p_A ad h) s h1 H → va_S (p_A ad h) s.heap H locs → p_L ls 3 [(0, .ref (ad a0)), (1, .int x1)] → fX3_lendToSeen_10 n h1 a0 x1 = some r → W p l e rX3_lendToSeen s m args below meth c H locs 0 0 (MQ below (p_Mv D ad (p_A ad h) r) args s 0 0 (p_A ad h)) (F0 m 10 ls []) := by
    intro n
    induction n with
    | zero =>
      intro H locs ls h1 a0 x1 hQ hS hL hf
      simp [fX3_lendToSeen_10] at hf
    | succ n ih =>
      intro H locs ls h1 a0 x1 hQ hS hL hf
      rw [fX3_lendToSeen_10] at hf
      refine lv_iload_n hx hb dX3_lendToSeen_10 rfl (lv_at hL.1 1 rfl) ?_
      refine lv_if_lt (tgt := 53) hx hb dX3_lendToSeen_11 (by decide) (fun c1 => ?_) (fun c1 => ?_)
      · rw [if_pos c1] at hf
        exact p_rMv hC hr hlocks hQ hS hf dX3_lendToSeen_53
      · rw [if_neg c1] at hf
        refine lv_aload_n hx hb dX3_lendToSeen_14 rfl (lv_at hL.1 0 rfl) ?_
        obtain ⟨a_2, e3, hf⟩ := p_b hf
        refine p_getR hC hi3 hK hQ e3 rfl (by decide) (by decide +kernel) dX3_lendToSeen_15 ?_
        refine lv_iload_n hx hb dX3_lendToSeen_18 rfl (lv_at hL.1 1 rfl) ?_
        obtain ⟨u4, e5, hf⟩ := p_b hf
        obtain ⟨o_6, e7, hf⟩ := p_b hf
        refine p_cRq (va_runV (As := [.int x1]) (rest := []) hC (kX2_get l D ad h1 a_2 x1 o_6 e7) (cwV 1 hts gX3_lendToSeen_X2_get rfl rfl rfl (by decide +kernel) ⟨Nat.le_of_ble_eq_true rfl, Nat.le_of_ble_eq_true rfl⟩) (p_preV hK hQ.tt e5 rfl) rfl rfl hL.1.1 rfl (lv_room (Nat.le_of_ble_eq_true rfl)) dX3_lendToSeen_19 ⟨Nat.le_of_ble_eq_true rfl, Nat.le_of_ble_eq_true rfl⟩) hQ hS (fun H locs hQ hS => ?_)
        refine p_astore_n (o := Option.map ad o_6) (lv' := [(2, va_rf (Option.map ad o_6)), (0, .ref (ad a0)), (1, .int x1)]) hx hb dX3_lendToSeen_22 rfl hL (by decide) rfl (fun ls hL => ?_)
        refine p_aload_n (o := Option.map ad o_6) hx hb dX3_lendToSeen_23 rfl (lv_at hL.1 0 rfl) ?_
        cases o_6 with
        | none =>
          dsimp only at hf
          have hL : p_L ls 3 [(2, .null), (0, .ref (ad a0)), (1, .int x1)] := hL
          refine lv_ifnullN (tgt := 47) hx hb dX3_lendToSeen_24 (by decide) ?_
          exact b47 (fX3_lendToSeen_10 n) ih _ _ _ h1 a0 x1 hQ hS (hL.sub [1, 2] rfl) hf
        | some a_8 =>
          dsimp only at hf
          have hL : p_L ls 3 [(2, .ref (ad a_8)), (0, .ref (ad a0)), (1, .int x1)] := hL
          refine lv_ifnull hx hb dX3_lendToSeen_24 ?_
          refine lv_aload_n hx hb dX3_lendToSeen_27 rfl (lv_at hL.1 0 rfl) ?_
          obtain ⟨v9, e10, hf⟩ := p_b hf
          refine p_getI hC hi1 hK hQ e10 rfl (by decide) (by decide +kernel) dX3_lendToSeen_28 ?_
          refine lv_if_eq (tgt := 47) hx hb dX3_lendToSeen_31 (by decide) (fun c11 => ?_) (fun c11 => ?_)
          · rw [if_pos c11] at hf
            exact b47 (fX3_lendToSeen_10 n) ih _ _ _ h1 a0 x1 hQ hS (hL.sub [1, 2] rfl) hf
          · rw [if_neg c11] at hf
            refine lv_aload_n hx hb dX3_lendToSeen_34 rfl (lv_at hL.1 0 rfl) ?_
            obtain ⟨v12, e13, hf⟩ := p_b hf
            refine p_getI hC hi1 hK hQ e13 rfl (by decide) (by decide +kernel) dX3_lendToSeen_35 ?_
            refine lv_if_ne (tgt := 47) hx hb dX3_lendToSeen_38 (by decide) (fun c14 => ?_) (fun c14 => ?_)
            · rw [if_neg c14] at hf
              exact b47 (fX3_lendToSeen_10 n) ih _ _ _ h1 a0 x1 hQ hS (hL.sub [1, 2] rfl) hf
            · rw [if_pos c14] at hf
              refine lv_aload_n hx hb dX3_lendToSeen_41 rfl (lv_at hL.1 1 rfl) ?_
              refine lv_aload_n hx hb dX3_lendToSeen_42 rfl (lv_at hL.1 0 rfl) ?_
              obtain ⟨u15, e16, hf⟩ := p_b hf
              obtain ⟨y17, e18, hf⟩ := p_b hf
              refine p_cMi (va_runV (As := [.ref (ad a_8)]) (rest := []) hC (kX3_lend l D ad h1 a0 (some a_8) y17 e18) (cwV 1 hts gX3_lendToSeen_X3_lend rfl rfl rfl (by decide +kernel) ⟨Nat.le_of_ble_eq_true rfl, Nat.le_of_ble_eq_true rfl⟩) (p_preV hK hQ.self e16 rfl) rfl rfl hL.1.1 rfl (lv_room (Nat.le_of_ble_eq_true rfl)) dX3_lendToSeen_43 ⟨Nat.le_of_ble_eq_true rfl, Nat.le_of_ble_eq_true rfl⟩) hQ hS (fun H locs hQ hS => ?_)
              refine lv_pop hx hb dX3_lendToSeen_46 rfl ?_
              exact b47 (fX3_lendToSeen_10 n) ih _ _ _ y17.2 a0 x1 hQ hS (hL.sub [1, 2] rfl) hf
  rw [fX3_lendToSeen] at hf
  refine lv_aload_n hx hb dX3_lendToSeen_0 rfl (lv_at hL.1 0 rfl) ?_
  obtain ⟨a_19, e20, hf⟩ := p_b hf
  refine p_getR hC hi3 hK hQ e20 rfl (by decide) (by decide +kernel) dX3_lendToSeen_1 ?_
  obtain ⟨u21, e22, hf⟩ := p_b hf
  obtain ⟨v23, e24, hf⟩ := p_b hf
  refine p_cRi (va_runV (As := []) (rest := []) hC (kX2_count l D ad h a_19 v23 e24) (cwV 0 hts gX3_lendToSeen_X2_count rfl rfl rfl (by decide +kernel) ⟨Nat.le_of_ble_eq_true rfl, Nat.le_of_ble_eq_true rfl⟩) (p_preV hK hQ.tt e22 rfl) rfl rfl hL.1.1 rfl (lv_room (Nat.le_of_ble_eq_true rfl)) dX3_lendToSeen_4 ⟨Nat.le_of_ble_eq_true rfl, Nat.le_of_ble_eq_true rfl⟩) hQ hS (fun H locs hQ hS => ?_)
  refine lv_iconst (v := 1) hx hb dX3_lendToSeen_7 (by decide) ?_
  refine lv_isub hx hb dX3_lendToSeen_8 ?_
  refine p_istore_n (lv' := [(1, .int (v23 - 1)), (0, .ref (ad a0))]) hx hb dX3_lendToSeen_9 rfl hL (by decide) rfl (fun ls hL => ?_)
  exact b10 64 _ _ _ h a0 (v23 - 1) hQ hS (hL.sub [1, 0] rfl) hf
-- X3_open
abbrev rX3_open : Room := { frames := 6, cells := 3, slots := 25, locals := 109 }
set_option maxHeartbeats 4000000 in
set_option maxRecDepth 100000 in
theorem kX3_open (l : Launch) (hl : l.stackTraces = false) (D : va_G) (ad : Nat → Nat) (sz : Nat) (h : PH) (a0 : Nat) (x1 : Int32) (x2 : Int32) (x3 : Int32) (x4 : Int32) (x5 : Int32) (x6 : Int32) (x7 : Int32) (q1 : Nat) (q2 : Nat) (r : (String × PH) ⊕ (Int32 × PH)) (hf : fX3_open h a0 x1 x2 x3 x4 x5 x6 x7 q1 q2 = some r) : vx_Met l yX3_open wsX3_open rX3_open (p_preE D ad (p_AN ad h sz) (p_AN ad h sz) sz h [.ref (ad a0), .int x1, .int x2, .int x3, .int x4, .int x5, .int x6, .int x7]) (p_TMi D ad (p_AN ad h sz) a0 r) (p_TMX D ad (p_AN ad h sz) a0 r) 3 25 (p_AN ad h sz) := by
  refine vx_ofW (cc := cX3_open) (maxL := 9) (ret := (some .int)) (by decide) rfl ?_
  intro p e s m args below meth c s₁ B hml hno hv
  obtain ⟨hargs, hK, hQ, hE, hsz⟩ := hv
  have hAz : ∀ x, s.heap.size ≤ x → (p_AN ad h sz) x := fun x hx => Or.inr (by rw [← hsz]; exact hx)
  have hth : ad a0 = ad a0 := rfl
  have hx := B.exec
  have hb := B.bytes
  have hr := B.returns
  have hts := atoms_spec (ws := wsX3_open) B.pre
  have hown : s.vm.findClass RX3 = some m.cls := findClass_of_methodNamed B.named
  have hlocks := B.notSynchronized
  have hC : CallFix p m c cX3_open 9 s args wsX3_open RX3 := ⟨hx, hb, hml, hown, hts⟩
  have hS : va_S (p_AN ad h sz) s.heap s.heap [] := va_S.rf
  have hi0 : ∀ w ∈ u_ws RX0 TX0 9, w ∈ wsX3_open := fun w hw => List.mem_cons_of_mem _ (List.mem_append_left _ (List.mem_append_left _ (List.mem_append_left _ (List.mem_append_right _ hw))))
  have hi1 : ∀ w ∈ u_ws RX1 TX1 10, w ∈ wsX3_open := fun w hw => List.mem_cons_of_mem _ (List.mem_append_left _ (List.mem_append_left _ (List.mem_append_left _ (List.mem_append_left _ (List.mem_append_right _ hw)))))
  have hi2 : ∀ w ∈ u_ws RX2 TX2 2, w ∈ wsX3_open := fun w hw => List.mem_cons_of_mem _ (List.mem_append_left _ (List.mem_append_left _ (List.mem_append_right _ hw)))
  have hi3 : ∀ w ∈ u_ws RX3 TX3 8, w ∈ wsX3_open := fun w hw => List.mem_cons_of_mem _ (List.mem_append_left _ (List.mem_append_left _ (List.mem_append_left _ (List.mem_append_left _ (List.mem_append_left _ (List.mem_append_right _ hw))))))
  obtain ⟨ls, hls, hL⟩ := p_start (n := 9) hargs (by simp [p_cat, p_ci, p_cr, p_cn]) (Nat.le_of_ble_eq_true rfl)
  show W p l e rX3_open s m args below meth c s.heap [] 0 0 (vx_MQ below (p_TMi D ad (p_AN ad h sz) a0 r) (p_TMX D ad (p_AN ad h sz) a0 r) args s 3 25 (p_AN ad h sz)) (entryFrame m args 9)
  rw [hls]
  clear hls
  have hL : p_L ls 9 [(0, .ref (ad a0)), (1, .int x1), (2, .int x2), (3, .int x3), (4, .int x4), (5, .int x5), (6, .int x6), (7, .int x7)] := hL
  have b97 : ∀ (adb : Nat → Nat) (H : Heap) (locs : List Loc) (ls : Array Slot) (h1 : PH) , adb a0 = ad a0 → p_Q D adb (p_AN ad h sz) s h1 H → va_S (p_AN ad h sz) s.heap H locs → p_L ls 9 [] → fX3_open_97 h1  = some r → W p l e rX3_open s m args below meth c H locs 0 0 (vx_MQ below (p_TMi D ad (p_AN ad h sz) a0 r) (p_TMX D ad (p_AN ad h sz) a0 r) args s 3 25 (p_AN ad h sz)) (F0 m 97 ls []) := by
    intro adb H locs ls h1  hth hQ hS hL hf
    rw [fX3_open_97] at hf
    exact p_throw (text := "there are too many windows") hC hl hlocks hno (by decide +kernel) (by decide +kernel) (by decide +kernel) hE (by decide +kernel) (fun w hw => List.mem_cons_of_mem _ (List.mem_append_right _ hw)) p_t2 p_g2 hS hL.1.1 dX3_open_97 dX3_open_100 dX3_open_101 dX3_open_103 dX3_open_106 (Nat.le_of_ble_eq_true rfl) (Nat.le_of_ble_eq_true rfl) (Nat.le_of_ble_eq_true rfl) (Nat.le_of_ble_eq_true rfl) (fun t hvm hz hk => p_xM hf hQ hS hth hvm hz hk) hS.2.2 (Nat.le_of_ble_eq_true rfl) (Nat.le_of_ble_eq_true rfl)
  have b66 : ∀ (adb : Nat → Nat) (H : Heap) (locs : List Loc) (ls : Array Slot) (h1 : PH) , adb a0 = ad a0 → p_Q D adb (p_AN ad h sz) s h1 H → va_S (p_AN ad h sz) s.heap H locs → p_L ls 9 [] → fX3_open_66 h1  = some r → W p l e rX3_open s m args below meth c H locs 0 0 (vx_MQ below (p_TMi D ad (p_AN ad h sz) a0 r) (p_TMX D ad (p_AN ad h sz) a0 r) args s 3 25 (p_AN ad h sz)) (F0 m 66 ls []) := by
    intro adb H locs ls h1  hth hQ hS hL hf
    rw [fX3_open_66] at hf
    exact p_throw (text := "the period or the cost is out of range") hC hl hlocks hno (by decide +kernel) (by decide +kernel) (by decide +kernel) hE (by decide +kernel) (fun w hw => List.mem_cons_of_mem _ (List.mem_append_left _ (List.mem_append_right _ hw))) p_t1 p_g1 hS hL.1.1 dX3_open_66 dX3_open_69 dX3_open_70 dX3_open_72 dX3_open_75 (Nat.le_of_ble_eq_true rfl) (Nat.le_of_ble_eq_true rfl) (Nat.le_of_ble_eq_true rfl) (Nat.le_of_ble_eq_true rfl) (fun t hvm hz hk => p_xM hf hQ hS hth hvm hz hk) hS.2.2 (Nat.le_of_ble_eq_true rfl) (Nat.le_of_ble_eq_true rfl)
  have b30 : ∀ (adb : Nat → Nat) (H : Heap) (locs : List Loc) (ls : Array Slot) (h1 : PH) , adb a0 = ad a0 → p_Q D adb (p_AN ad h sz) s h1 H → va_S (p_AN ad h sz) s.heap H locs → p_L ls 9 [] → fX3_open_30 h1  = some r → W p l e rX3_open s m args below meth c H locs 0 0 (vx_MQ below (p_TMi D ad (p_AN ad h sz) a0 r) (p_TMX D ad (p_AN ad h sz) a0 r) args s 3 25 (p_AN ad h sz)) (F0 m 30 ls []) := by
    intro adb H locs ls h1  hth hQ hS hL hf
    rw [fX3_open_30] at hf
    exact p_throw (text := "the rectangle is not within the screen") hC hl hlocks hno (by decide +kernel) (by decide +kernel) (by decide +kernel) hE (by decide +kernel) (fun w hw => List.mem_cons_of_mem _ (List.mem_append_left _ (List.mem_append_right _ hw))) p_t1 p_g1 hS hL.1.1 dX3_open_30 dX3_open_33 dX3_open_34 dX3_open_36 dX3_open_39 (Nat.le_of_ble_eq_true rfl) (Nat.le_of_ble_eq_true rfl) (Nat.le_of_ble_eq_true rfl) (Nat.le_of_ble_eq_true rfl) (fun t hvm hz hk => p_xM hf hQ hS hth hvm hz hk) hS.2.2 (Nat.le_of_ble_eq_true rfl) (Nat.le_of_ble_eq_true rfl)
  rw [fX3_open] at hf
  refine lv_iload_n hx hb dX3_open_0 rfl (lv_at hL.1 1 rfl) ?_
  refine lv_iload_n hx hb dX3_open_1 rfl (lv_at hL.1 2 rfl) ?_
  obtain ⟨v1, e2, hf⟩ := p_b hf
  refine p_cRi (va_runS (As := [.int x1, .int x2]) (rest := []) hC (kX3_isCell l D ad h x1 x2 v1 e2) (cwS 2 hts gX3_open_X3_isCell rfl rfl rfl (by decide +kernel) ⟨Nat.le_of_ble_eq_true rfl, Nat.le_of_ble_eq_true rfl⟩) (p_preS hK hQ.tt) rfl rfl hL.1.1 rfl (lv_room (Nat.le_of_ble_eq_true rfl)) dX3_open_2 ⟨Nat.le_of_ble_eq_true rfl, Nat.le_of_ble_eq_true rfl⟩) hQ hS (fun H locs hQ hS => ?_)
  refine lv_if_eq (tgt := 30) hx hb dX3_open_5 (by decide) (fun c3 => ?_) (fun c3 => ?_)
  · rw [if_pos c3] at hf
    exact b30 ad _ _ _ h  hth hQ hS (hL.sub [] rfl) hf
  · rw [if_neg c3] at hf
    refine lv_iload_n hx hb dX3_open_8 rfl (lv_at hL.1 3 rfl) ?_
    refine lv_iconst (v := 1) hx hb dX3_open_9 (by decide) ?_
    refine lv_icmp_lt (tgt := 30) hx hb dX3_open_10 (by decide) (fun c4 => ?_) (fun c4 => ?_)
    · rw [if_pos c4] at hf
      exact b30 ad _ _ _ h  hth hQ hS (hL.sub [] rfl) hf
    · rw [if_neg c4] at hf
      refine lv_iload hx hb dX3_open_13 (lv_at hL.1 4 rfl) ?_
      refine lv_iconst (v := 1) hx hb dX3_open_15 (by decide) ?_
      refine lv_icmp_lt (tgt := 30) hx hb dX3_open_16 (by decide) (fun c5 => ?_) (fun c5 => ?_)
      · rw [if_pos c5] at hf
        exact b30 ad _ _ _ h  hth hQ hS (hL.sub [] rfl) hf
      · rw [if_neg c5] at hf
        refine lv_iload_n hx hb dX3_open_19 rfl (lv_at hL.1 1 rfl) ?_
        refine lv_iload_n hx hb dX3_open_20 rfl (lv_at hL.1 2 rfl) ?_
        refine lv_iload_n hx hb dX3_open_21 rfl (lv_at hL.1 3 rfl) ?_
        refine lv_iload hx hb dX3_open_22 (lv_at hL.1 4 rfl) ?_
        obtain ⟨v6, e7, hf⟩ := p_b hf
        refine p_cRi (va_runS (As := [.int x1, .int x2, .int x3, .int x4]) (rest := []) hC (kX3_fits l D ad h x1 x2 x3 x4 v6 e7) (cwS 4 hts gX3_open_X3_fits rfl rfl rfl (by decide +kernel) ⟨Nat.le_of_ble_eq_true rfl, Nat.le_of_ble_eq_true rfl⟩) (p_preS hK hQ.tt) rfl rfl hL.1.1 rfl (lv_room (Nat.le_of_ble_eq_true rfl)) dX3_open_24 ⟨Nat.le_of_ble_eq_true rfl, Nat.le_of_ble_eq_true rfl⟩) hQ hS (fun H locs hQ hS => ?_)
        refine lv_if_ne (tgt := 40) hx hb dX3_open_27 (by decide) (fun c8 => ?_) (fun c8 => ?_)
        · rw [if_neg c8] at hf
          refine lv_iload hx hb dX3_open_40 (lv_at hL.1 6 rfl) ?_
          refine lv_iconst (v := 1) hx hb dX3_open_42 (by decide) ?_
          refine lv_icmp_lt (tgt := 66) hx hb dX3_open_43 (by decide) (fun c9 => ?_) (fun c9 => ?_)
          · rw [if_pos c9] at hf
            exact b66 ad _ _ _ h  hth hQ hS (hL.sub [] rfl) hf
          · rw [if_neg c9] at hf
            refine lv_iload hx hb dX3_open_46 (lv_at hL.1 6 rfl) ?_
            refine lv_bipush (v := 100) hx hb dX3_open_48 (by decide) ?_
            refine lv_icmp_gt (tgt := 66) hx hb dX3_open_50 (by decide) (fun c10 => ?_) (fun c10 => ?_)
            · rw [if_pos c10] at hf
              exact b66 ad _ _ _ h  hth hQ hS (hL.sub [] rfl) hf
            · rw [if_neg c10] at hf
              refine lv_iload hx hb dX3_open_53 (lv_at hL.1 7 rfl) ?_
              refine lv_iconst (v := 1) hx hb dX3_open_55 (by decide) ?_
              refine lv_icmp_lt (tgt := 66) hx hb dX3_open_56 (by decide) (fun c11 => ?_) (fun c11 => ?_)
              · rw [if_pos c11] at hf
                exact b66 ad _ _ _ h  hth hQ hS (hL.sub [] rfl) hf
              · rw [if_neg c11] at hf
                refine lv_iload hx hb dX3_open_59 (lv_at hL.1 7 rfl) ?_
                refine lv_bipush (v := 20) hx hb dX3_open_61 (by decide) ?_
                refine lv_icmp_le (tgt := 76) hx hb dX3_open_63 (by decide) (fun c12 => ?_) (fun c12 => ?_)
                · rw [if_pos c12] at hf
                  refine lv_aload_n hx hb dX3_open_76 rfl (lv_at hL.1 0 rfl) ?_
                  obtain ⟨a_13, e14, hf⟩ := p_b hf
                  refine p_getR hC hi3 hK hQ e14 rfl (by decide) (by decide +kernel) dX3_open_77 ?_
                  obtain ⟨u15, e16, hf⟩ := p_b hf
                  obtain ⟨v17, e18, hf⟩ := p_b hf
                  refine p_cRi (va_runV (As := []) (rest := []) hC (kX2_count l D ad h a_13 v17 e18) (cwV 0 hts gX3_open_X2_count rfl rfl rfl (by decide +kernel) ⟨Nat.le_of_ble_eq_true rfl, Nat.le_of_ble_eq_true rfl⟩) (p_preV hK hQ.tt e16 rfl) rfl rfl hL.1.1 rfl (lv_room (Nat.le_of_ble_eq_true rfl)) dX3_open_80 ⟨Nat.le_of_ble_eq_true rfl, Nat.le_of_ble_eq_true rfl⟩) hQ hS (fun H locs hQ hS => ?_)
                  refine lv_bipush (v := 8) hx hb dX3_open_83 (by decide) ?_
                  refine lv_icmp_ge (tgt := 97) hx hb dX3_open_85 (by decide) (fun c19 => ?_) (fun c19 => ?_)
                  · rw [if_pos c19] at hf
                    exact b97 ad _ _ _ h  hth hQ hS (hL.sub [] rfl) hf
                  · rw [if_neg c19] at hf
                    refine lv_aload_n hx hb dX3_open_88 rfl (lv_at hL.1 0 rfl) ?_
                    obtain ⟨v20, e21, hf⟩ := p_b hf
                    refine p_getI hC hi3 hK hQ e21 rfl (by decide) (by decide +kernel) dX3_open_89 ?_
                    refine lv_bipush (v := 40) hx hb dX3_open_92 (by decide) ?_
                    refine lv_icmp_lt (tgt := 107) hx hb dX3_open_94 (by decide) (fun c22 => ?_) (fun c22 => ?_)
                    · rw [if_pos c22] at hf
                      obtain ⟨u25, e26, hf⟩ := p_b hf
                      obtain ⟨h_23, e24, hf⟩ := p_b hf
                      refine p_new hC hi1 tyX1_ok hK hQ hS hAz e24 rfl (fun j hj => by rcases (show j = 0 ∨ j = 1 ∨ j = 2 ∨ j = 3 ∨ j = 4 ∨ j = 5 ∨ j = 6 ∨ j = 7 ∨ j = 8 ∨ j = 9 by omega) with rfl | rfl | rfl | rfl | rfl | rfl | rfl | rfl | rfl | rfl <;> rfl) (fun _ => rfl) (fun y hy => by simp at hy) (by decide +kernel) (by decide +kernel) (by decide +kernel) (Nat.le_of_ble_eq_true rfl) (Nat.le_of_ble_eq_true rfl) dX3_open_107 (fun adn H hx1 hQ hS => ?_)
                      revert hx1 hQ hS
                      generalize adn = ad1
                      intro hx1 hQ hS
                      have ea_a0 : ad1 a0 = ad a0 := hx1 a0 (p_ob_ne e26)
                      have hth : ad1 a0 = ad a0 := ea_a0.trans rfl
                      have hL : p_L ls 9 [(0, .ref (ad1 a0)), (1, .int x1), (2, .int x2), (3, .int x3), (4, .int x4), (5, .int x5), (6, .int x6), (7, .int x7)] := by rw [ea_a0]; exact hL
                      refine lv_dup hx hb dX3_open_110 rfl ?_
                      refine lv_aload_n hx hb dX3_open_111 rfl (lv_at hL.1 0 rfl) ?_
                      obtain ⟨v27, e28, hf⟩ := p_b hf
                      refine p_getI hC hi3 hK hQ e28 rfl (by decide) (by decide +kernel) dX3_open_112 ?_
                      refine lv_iload_n hx hb dX3_open_115 rfl (lv_at hL.1 1 rfl) ?_
                      refine lv_iload_n hx hb dX3_open_116 rfl (lv_at hL.1 2 rfl) ?_
                      refine lv_iload_n hx hb dX3_open_117 rfl (lv_at hL.1 3 rfl) ?_
                      refine lv_iload hx hb dX3_open_118 (lv_at hL.1 4 rfl) ?_
                      refine lv_iload hx hb dX3_open_120 (lv_at hL.1 5 rfl) ?_
                      obtain ⟨u31, e32, hf⟩ := p_b hf
                      obtain ⟨u33, e34, hf⟩ := p_b hf
                      obtain ⟨h_29, e30, hf⟩ := p_b hf
                      refine p_new hC hi0 tyX0_ok hK hQ hS hAz e30 rfl (fun j hj => by rcases (show j = 0 ∨ j = 1 ∨ j = 2 ∨ j = 3 ∨ j = 4 ∨ j = 5 ∨ j = 6 ∨ j = 7 ∨ j = 8 by omega) with rfl | rfl | rfl | rfl | rfl | rfl | rfl | rfl | rfl <;> rfl) (fun _ => rfl) (fun y hy => by simp at hy) (by decide +kernel) (by decide +kernel) (by decide +kernel) (Nat.le_of_ble_eq_true rfl) (Nat.le_of_ble_eq_true rfl) dX3_open_122 (fun adn H hx1 hQ hS => ?_)
                      revert hx1 hQ hS
                      generalize adn = ad2
                      intro hx1 hQ hS
                      have ea_a0 : ad2 a0 = ad1 a0 := hx1 a0 (p_ob_ne e32)
                      have ea_q1 : ad2 q1 = ad1 q1 := hx1 q1 (p_ob_ne e34)
                      have hth : ad2 a0 = ad a0 := ea_a0.trans hth
                      have hL : p_L ls 9 [(0, .ref (ad2 a0)), (1, .int x1), (2, .int x2), (3, .int x3), (4, .int x4), (5, .int x5), (6, .int x6), (7, .int x7)] := by rw [ea_a0]; exact hL
                      rw [← ea_q1]
                      refine lv_dup hx hb dX3_open_125 rfl ?_
                      refine lv_iload hx hb dX3_open_126 (lv_at hL.1 6 rfl) ?_
                      refine lv_iload hx hb dX3_open_128 (lv_at hL.1 7 rfl) ?_
                      refine lv_aload_n hx hb dX3_open_130 rfl (lv_at hL.1 0 rfl) ?_
                      obtain ⟨v35, e36, hf⟩ := p_b hf
                      refine p_getI hC hi3 hK hQ e36 rfl (by decide) (by decide +kernel) dX3_open_131 ?_
                      obtain ⟨u37, e38, hf⟩ := p_b hf
                      obtain ⟨h_39, e40, hf⟩ := p_b hf
                      refine p_cMv (p_runI16 (As := [.int x6, .int x7, .int v35]) (rest := [.ref (ad2 q2), .int x5, .int x4, .int x3, .int x2, .int x1, .int v27, .ref (ad2 q1), .ref (ad2 q1)]) hC (kX0_init l D ad2 h_29 q2 x6 x7 v35 h_39 e40) (cwI 3 hts gX3_open_X0_init rfl rfl rfl (hts (.initialized RX0) (by decide +kernel)) (hts (.methodLink RX3 70 yX0_init) (by decide +kernel)) (hts (.instanceMethod yX0_init) (by decide +kernel)) rfl (by decide +kernel) ⟨Nat.le_of_ble_eq_true rfl, Nat.le_of_ble_eq_true rfl⟩) (Nat.le_of_ble_eq_true rfl) (p_preS hK hQ.self) rfl rfl hL.1.1 rfl (p_room16 (Nat.le_of_ble_eq_true rfl)) dX3_open_134 ⟨Nat.le_of_ble_eq_true rfl, Nat.le_of_ble_eq_true rfl⟩) hQ hS (fun H locs hQ hS => ?_)
                      obtain ⟨u41, e42, hf⟩ := p_b hf
                      obtain ⟨h_43, e44, hf⟩ := p_b hf
                      refine p_cMv (va_runI (As := [.int v27, .int x1, .int x2, .int x3, .int x4, .int x5, .ref (ad2 q2)]) (rest := [.ref (ad2 q1)]) hC (kX1_init l D ad2 h_39 q1 v27 x1 x2 x3 x4 x5 q2 h_43 e44) (cwI 7 hts gX3_open_X1_init rfl rfl rfl (hts (.initialized RX1) (by decide +kernel)) (hts (.methodLink RX3 73 yX1_init) (by decide +kernel)) (hts (.instanceMethod yX1_init) (by decide +kernel)) rfl (by decide +kernel) ⟨Nat.le_of_ble_eq_true rfl, Nat.le_of_ble_eq_true rfl⟩) (p_preS hK hQ.self) rfl rfl hL.1.1 rfl (lv_room (Nat.le_of_ble_eq_true rfl)) dX3_open_137 ⟨Nat.le_of_ble_eq_true rfl, Nat.le_of_ble_eq_true rfl⟩) hQ hS (fun H locs hQ hS => ?_)
                      refine p_astore (o := some (ad2 q1)) (lv' := [(8, .ref (ad2 q1)), (0, .ref (ad2 a0)), (1, .int x1), (2, .int x2), (3, .int x3), (4, .int x4), (5, .int x5), (6, .int x6), (7, .int x7)]) hx hb dX3_open_140 hL (by decide) rfl (fun ls hL => ?_)
                      refine lv_aload_n hx hb dX3_open_142 rfl (lv_at hL.1 1 rfl) ?_
                      refine lv_aload hx hb dX3_open_143 (lv_at hL.1 0 rfl) ?_
                      obtain ⟨u45, e46, hf⟩ := p_b hf
                      obtain ⟨y47, e48, hf⟩ := p_b hf
                      refine p_cMi (va_runV (As := [.ref (ad2 q1)]) (rest := []) hC (kX3_putOnTop l D ad2 h_43 a0 (some q1) y47 e48) (cwV 1 hts gX3_open_X3_putOnTop rfl rfl rfl (by decide +kernel) ⟨Nat.le_of_ble_eq_true rfl, Nat.le_of_ble_eq_true rfl⟩) (p_preV hK hQ.self e46 rfl) rfl rfl hL.1.1 rfl (lv_room (Nat.le_of_ble_eq_true rfl)) dX3_open_145 ⟨Nat.le_of_ble_eq_true rfl, Nat.le_of_ble_eq_true rfl⟩) hQ hS (fun H locs hQ hS => ?_)
                      refine lv_if_ne (tgt := 161) hx hb dX3_open_148 (by decide) (fun c49 => ?_) (fun c49 => ?_)
                      · rw [if_neg c49] at hf
                        refine lv_aload_n hx hb dX3_open_161 rfl (lv_at hL.1 1 rfl) ?_
                        refine lv_dup hx hb dX3_open_162 rfl ?_
                        obtain ⟨v50, e51, hf⟩ := p_b hf
                        refine p_getI hC hi3 hK hQ e51 rfl (by decide) (by decide +kernel) dX3_open_163 ?_
                        refine lv_iconst (v := 1) hx hb dX3_open_166 (by decide) ?_
                        refine lv_iadd hx hb dX3_open_167 ?_
                        obtain ⟨h_52, e53, hf⟩ := p_b hf
                        refine p_putI hC hi3 tyX3_ok nmX3 hK hQ hS e53 rfl (by decide) rfl rfl (by decide +kernel) dX3_open_168 (fun H locs hQ hS => ?_)
                        refine lv_aload_n hx hb dX3_open_171 rfl (lv_at hL.1 1 rfl) ?_
                        obtain ⟨a_54, e55, hf⟩ := p_b hf
                        refine p_getR hC hi3 hK hQ e55 rfl (by decide) (by decide +kernel) dX3_open_172 ?_
                        refine lv_aload hx hb dX3_open_175 (lv_at hL.1 0 rfl) ?_
                        obtain ⟨u56, e57, hf⟩ := p_b hf
                        obtain ⟨h_58, e59, hf⟩ := p_b hf
                        refine p_cMv (va_runV (As := [.ref (ad2 q1)]) (rest := []) hC (kX2_addLast l D ad2 h_52 a_54 (some q1) h_58 e59) (cwV 1 hts gX3_open_X2_addLast rfl rfl rfl (by decide +kernel) ⟨Nat.le_of_ble_eq_true rfl, Nat.le_of_ble_eq_true rfl⟩) (p_preV hK hQ.self e57 rfl) rfl rfl hL.1.1 rfl (lv_room (Nat.le_of_ble_eq_true rfl)) dX3_open_177 ⟨Nat.le_of_ble_eq_true rfl, Nat.le_of_ble_eq_true rfl⟩) hQ hS (fun H locs hQ hS => ?_)
                        refine lv_aload_n hx hb dX3_open_180 rfl (lv_at hL.1 1 rfl) ?_
                        obtain ⟨u60, e61, hf⟩ := p_b hf
                        obtain ⟨h_62, e63, hf⟩ := p_b hf
                        refine p_cMv (va_runV (As := []) (rest := []) hC (kX3_lendToSeen l D ad2 h_58 a0 h_62 e63) (cwV 0 hts gX3_open_X3_lendToSeen rfl rfl rfl (by decide +kernel) ⟨Nat.le_of_ble_eq_true rfl, Nat.le_of_ble_eq_true rfl⟩) (p_preV hK hQ.self e61 rfl) rfl rfl hL.1.1 rfl (lv_room (Nat.le_of_ble_eq_true rfl)) dX3_open_181 ⟨Nat.le_of_ble_eq_true rfl, Nat.le_of_ble_eq_true rfl⟩) hQ hS (fun H locs hQ hS => ?_)
                        refine lv_aload hx hb dX3_open_184 (lv_at hL.1 0 rfl) ?_
                        obtain ⟨v64, e65, hf⟩ := p_b hf
                        refine p_getI hC hi1 hK hQ e65 rfl (by decide) (by decide +kernel) dX3_open_186 ?_
                        exact p_tMi hC hr hlocks hQ hS hth hf (Nat.le_of_ble_eq_true rfl) (Nat.le_of_ble_eq_true rfl) dX3_open_189
                      · rw [if_pos c49] at hf
                        exact p_throw (text := "its pages cannot be lent") hC hl hlocks hno (by decide +kernel) (by decide +kernel) (by decide +kernel) hE (by decide +kernel) (fun w hw => List.mem_cons_of_mem _ (List.mem_append_right _ hw)) p_t2 p_g2 hS hL.1.1 dX3_open_151 dX3_open_154 dX3_open_155 dX3_open_157 dX3_open_160 (Nat.le_of_ble_eq_true rfl) (Nat.le_of_ble_eq_true rfl) (Nat.le_of_ble_eq_true rfl) (Nat.le_of_ble_eq_true rfl) (fun t hvm hz hk => p_xM hf hQ hS hth hvm hz hk) hS.2.2 (Nat.le_of_ble_eq_true rfl) (Nat.le_of_ble_eq_true rfl)
                    · rw [if_neg c22] at hf
                      exact b97 ad _ _ _ h  hth hQ hS (hL.sub [] rfl) hf
                · rw [if_neg c12] at hf
                  exact b66 ad _ _ _ h  hth hQ hS (hL.sub [] rfl) hf
        · rw [if_pos c8] at hf
          exact b30 ad _ _ _ h  hth hQ hS (hL.sub [] rfl) hf
-- X3_find
abbrev rX3_find : Room := { frames := 6, cells := 1, slots := 6, locals := 90 }
set_option maxHeartbeats 4000000 in
set_option maxRecDepth 100000 in
theorem kX3_find (l : Launch) (hl : l.stackTraces = false) (D : va_G) (ad : Nat → Nat) (A : Nat → Prop) (sz : Nat) (h : PH) (a0 : Nat) (x1 : Int32)  (r : String ⊕ (Option Nat)) (hf : fX3_find h a0 x1  = some r) : vx_Met l yX3_find wsX3_find rX3_find (p_preE D ad p_tt A sz h [.ref (ad a0), .int x1]) (p_TRq ad r) (p_TRX r) 1 6 p_no := by
  refine vx_ofW (cc := cX3_find) (maxL := 3) (ret := (some (.object "FrameBroker$Window"))) (by decide) rfl ?_
  intro p e s m args below meth c s₁ B hml hno hv
  obtain ⟨hargs, hK, hQ, hE, hsz⟩ := hv
  have hE : p_E p_no s s.heap := hE.narrow fun _ h9 => h9.elim
  have hx := B.exec
  have hb := B.bytes
  have hr := B.returns
  have hts := atoms_spec (ws := wsX3_find) B.pre
  have hown : s.vm.findClass RX3 = some m.cls := findClass_of_methodNamed B.named
  have hlocks := B.notSynchronized
  have hC : CallFix p m c cX3_find 3 s args wsX3_find RX3 := ⟨hx, hb, hml, hown, hts⟩
  have hS : va_S p_no s.heap s.heap [] := va_S.rf
  have hi2 : ∀ w ∈ u_ws RX2 TX2 2, w ∈ wsX3_find := fun w hw => List.mem_cons_of_mem _ (List.mem_append_left _ (List.mem_append_left _ (List.mem_append_right _ hw)))
  have hi3 : ∀ w ∈ u_ws RX3 TX3 8, w ∈ wsX3_find := fun w hw => List.mem_cons_of_mem _ (List.mem_append_left _ (List.mem_append_left _ (List.mem_append_left _ (List.mem_append_right _ hw))))
  obtain ⟨ls, hls, hL⟩ := p_start (n := 3) hargs (by simp [p_cat, p_ci, p_cr, p_cn]) (Nat.le_of_ble_eq_true rfl)
  show W p l e rX3_find s m args below meth c s.heap [] 0 0 (vx_MQ below (p_TRq ad r) (p_TRX r) args s 1 6 p_no) (entryFrame m args 3)
  rw [hls]
  clear hls
  have hL : p_L ls 3 [(0, .ref (ad a0)), (1, .int x1)] := hL
  rw [fX3_find] at hf
  refine lv_aload_n hx hb dX3_find_0 rfl (lv_at hL.1 0 rfl) ?_
  obtain ⟨a_1, e2, hf⟩ := p_b hf
  refine p_getR hC hi3 hK hQ e2 rfl (by decide) (by decide +kernel) dX3_find_1 ?_
  refine lv_aload_n hx hb dX3_find_4 rfl (lv_at hL.1 0 rfl) ?_
  obtain ⟨a_3, e4, hf⟩ := p_b hf
  refine p_getR hC hi3 hK hQ e4 rfl (by decide) (by decide +kernel) dX3_find_5 ?_
  refine lv_iload_n hx hb dX3_find_8 rfl (lv_at hL.1 1 rfl) ?_
  obtain ⟨u5, e6, hf⟩ := p_b hf
  obtain ⟨v7, e8, hf⟩ := p_b hf
  refine p_cRi (va_runV (As := [.int x1]) (rest := [.ref (ad a_1)]) hC (kX2_indexOf l D ad h a_3 x1 v7 e8) (cwV 1 hts gX3_find_X2_indexOf rfl rfl rfl (by decide +kernel) ⟨Nat.le_of_ble_eq_true rfl, Nat.le_of_ble_eq_true rfl⟩) (p_preV hK hQ.tt e6 rfl) rfl rfl hL.1.1 rfl (lv_room (Nat.le_of_ble_eq_true rfl)) dX3_find_9 ⟨Nat.le_of_ble_eq_true rfl, Nat.le_of_ble_eq_true rfl⟩) hQ hS (fun H locs hQ hS => ?_)
  obtain ⟨u9, e10, hf⟩ := p_b hf
  obtain ⟨o_11, e12, hf⟩ := p_b hf
  refine p_cRq (va_runV (As := [.int v7]) (rest := []) hC (kX2_get l D ad h a_1 v7 o_11 e12) (cwV 1 hts gX3_find_X2_get rfl rfl rfl (by decide +kernel) ⟨Nat.le_of_ble_eq_true rfl, Nat.le_of_ble_eq_true rfl⟩) (p_preV hK hQ.tt e10 rfl) rfl rfl hL.1.1 rfl (lv_room (Nat.le_of_ble_eq_true rfl)) dX3_find_12 ⟨Nat.le_of_ble_eq_true rfl, Nat.le_of_ble_eq_true rfl⟩) hQ hS (fun H locs hQ hS => ?_)
  refine p_astore_n (o := Option.map ad o_11) (lv' := [(2, va_rf (Option.map ad o_11)), (0, .ref (ad a0)), (1, .int x1)]) hx hb dX3_find_15 rfl hL (by decide) rfl (fun ls hL => ?_)
  refine p_aload_n (o := Option.map ad o_11) hx hb dX3_find_16 rfl (lv_at hL.1 0 rfl) ?_
  cases o_11 with
  | none =>
    dsimp only at hf
    have hL : p_L ls 3 [(2, .null), (0, .ref (ad a0)), (1, .int x1)] := hL
    refine lv_ifnonnullN hx hb dX3_find_17 ?_
    exact p_throw (text := "there is no such window") hC hl hlocks hno (by decide +kernel) (by decide +kernel) (by decide +kernel) hE (by decide +kernel) (fun w hw => List.mem_cons_of_mem _ (List.mem_append_right _ hw)) p_t3 p_g3 hS hL.1.1 dX3_find_20 dX3_find_23 dX3_find_24 dX3_find_26 dX3_find_29 (Nat.le_of_ble_eq_true rfl) (Nat.le_of_ble_eq_true rfl) (Nat.le_of_ble_eq_true rfl) (Nat.le_of_ble_eq_true rfl) (fun t hvm hz hk => p_xR hf hS hz hk) hS.2.2 (Nat.le_of_ble_eq_true rfl) (Nat.le_of_ble_eq_true rfl)
  | some a_13 =>
    dsimp only at hf
    have hL : p_L ls 3 [(2, .ref (ad a_13)), (0, .ref (ad a0)), (1, .int x1)] := hL
    refine lv_ifnonnull (tgt := 30) hx hb dX3_find_17 (by decide) ?_
    refine lv_aload_n hx hb dX3_find_30 rfl (lv_at hL.1 0 rfl) ?_
    exact p_tRq (v := (some a_13)) hC hr hlocks hS hf (Nat.le_of_ble_eq_true rfl) (Nat.le_of_ble_eq_true rfl) dX3_find_31
-- X3_rearrange
abbrev rX3_rearrange : Room := { frames := 5, cells := 0, slots := 0, locals := 109 }
set_option maxHeartbeats 4000000 in
set_option maxRecDepth 100000 in
theorem kX3_rearrange (l : Launch) (D : va_G) (ad : Nat → Nat) (h : PH) (a0 : Nat)  (r : PH) (hf : fX3_rearrange h a0  = some r) : Met l yX3_rearrange wsX3_rearrange rX3_rearrange (p_pre D ad (p_A ad h) h [.ref (ad a0)]) (p_Mv D ad (p_A ad h) r) 0 0 (p_A ad h) := by
  refine Met.ofW (cc := cX3_rearrange) (maxL := 1) (ret := none) (by decide) rfl ?_
  intro p e s m args below meth c s₁ B hml hv
  obtain ⟨hargs, hK, hQ⟩ := hv
  have hx := B.exec
  have hb := B.bytes
  have hr := B.returns
  have hts := atoms_spec (ws := wsX3_rearrange) B.pre
  have hown : s.vm.findClass RX3 = some m.cls := findClass_of_methodNamed B.named
  have hlocks := B.notSynchronized
  have hC : CallFix p m c cX3_rearrange 1 s args wsX3_rearrange RX3 := ⟨hx, hb, hml, hown, hts⟩
  have hS : va_S (p_A ad h) s.heap s.heap [] := va_S.rf
  have hi3 : ∀ w ∈ u_ws RX3 TX3 8, w ∈ wsX3_rearrange := fun w hw => List.mem_cons_of_mem _ (List.mem_append_left _ (List.mem_append_left _ (List.mem_append_left _ (List.mem_append_right _ hw))))
  obtain ⟨ls, hls, hL⟩ := p_start (n := 1) hargs (by simp [p_cat, p_ci, p_cr, p_cn]) (Nat.le_of_ble_eq_true rfl)
  show W p l e rX3_rearrange s m args below meth c s.heap [] 0 0 (MQ below (p_Mv D ad (p_A ad h) r) args s 0 0 (p_A ad h)) (entryFrame m args 1)
  rw [hls]
  clear hls
  have hL : p_L ls 1 [(0, .ref (ad a0))] := hL
  rw [fX3_rearrange] at hf
  refine lv_aload_n hx hb dX3_rearrange_0 rfl (lv_at hL.1 0 rfl) ?_
  obtain ⟨u1, e2, hf⟩ := p_b hf
  obtain ⟨h_3, e4, hf⟩ := p_b hf
  refine p_cMv (va_runV (As := []) (rest := []) hC (kX3_lookAtScreen l D ad h a0 h_3 e4) (cwV 0 hts gX3_rearrange_X3_lookAtScreen rfl rfl rfl (by decide +kernel) ⟨Nat.le_of_ble_eq_true rfl, Nat.le_of_ble_eq_true rfl⟩) (p_preV hK hQ.self e2 rfl) rfl rfl hL.1.1 rfl (lv_room (Nat.le_of_ble_eq_true rfl)) dX3_rearrange_1 ⟨Nat.le_of_ble_eq_true rfl, Nat.le_of_ble_eq_true rfl⟩) hQ hS (fun H locs hQ hS => ?_)
  refine lv_aload_n hx hb dX3_rearrange_4 rfl (lv_at hL.1 0 rfl) ?_
  obtain ⟨u5, e6, hf⟩ := p_b hf
  obtain ⟨h_7, e8, hf⟩ := p_b hf
  refine p_cMv (va_runV (As := []) (rest := []) hC (kX3_lendToSeen l D ad h_3 a0 h_7 e8) (cwV 0 hts gX3_rearrange_X3_lendToSeen rfl rfl rfl (by decide +kernel) ⟨Nat.le_of_ble_eq_true rfl, Nat.le_of_ble_eq_true rfl⟩) (p_preV hK hQ.self e6 rfl) rfl rfl hL.1.1 rfl (lv_room (Nat.le_of_ble_eq_true rfl)) dX3_rearrange_5 ⟨Nat.le_of_ble_eq_true rfl, Nat.le_of_ble_eq_true rfl⟩) hQ hS (fun H locs hQ hS => ?_)
  exact p_rMv hC hr hlocks hQ hS hf dX3_rearrange_8
-- X3_close
abbrev rX3_close : Room := { frames := 7, cells := 1, slots := 6, locals := 129 }
set_option maxHeartbeats 4000000 in
set_option maxRecDepth 100000 in
theorem kX3_close (l : Launch) (hl : l.stackTraces = false) (D : va_G) (ad : Nat → Nat) (sz : Nat) (h : PH) (a0 : Nat) (x1 : Int32)  (r : (String × PH) ⊕ (Int32 × PH)) (hf : fX3_close h a0 x1  = some r) : vx_Met l yX3_close wsX3_close rX3_close (p_preE D ad (p_A ad h) (p_A ad h) sz h [.ref (ad a0), .int x1]) (p_TMi D ad (p_A ad h) a0 r) (p_TMX D ad (p_A ad h) a0 r) 1 6 (p_A ad h) := by
  refine vx_ofW (cc := cX3_close) (maxL := 3) (ret := (some .int)) (by decide) rfl ?_
  intro p e s m args below meth c s₁ B hml hno hv
  obtain ⟨hargs, hK, hQ, hE, hsz⟩ := hv
  have hx := B.exec
  have hb := B.bytes
  have hr := B.returns
  have hts := atoms_spec (ws := wsX3_close) B.pre
  have hown : s.vm.findClass RX3 = some m.cls := findClass_of_methodNamed B.named
  have hlocks := B.notSynchronized
  have hC : CallFix p m c cX3_close 3 s args wsX3_close RX3 := ⟨hx, hb, hml, hown, hts⟩
  have hS : va_S (p_A ad h) s.heap s.heap [] := va_S.rf
  have hi1 : ∀ w ∈ u_ws RX1 TX1 10, w ∈ wsX3_close := fun w hw => List.mem_cons_of_mem _ (List.mem_append_left _ (List.mem_append_left _ (List.mem_append_right _ hw)))
  have hi2 : ∀ w ∈ u_ws RX2 TX2 2, w ∈ wsX3_close := fun w hw => List.mem_cons_of_mem _ (List.mem_append_left _ (List.mem_append_left _ (List.mem_append_left _ (List.mem_append_right _ hw))))
  have hi3 : ∀ w ∈ u_ws RX3 TX3 8, w ∈ wsX3_close := fun w hw => List.mem_cons_of_mem _ (List.mem_append_left _ (List.mem_append_left _ (List.mem_append_left _ (List.mem_append_left _ (List.mem_append_right _ hw)))))
  obtain ⟨ls, hls, hL⟩ := p_start (n := 3) hargs (by simp [p_cat, p_ci, p_cr, p_cn]) (Nat.le_of_ble_eq_true rfl)
  show W p l e rX3_close s m args below meth c s.heap [] 0 0 (vx_MQ below (p_TMi D ad (p_A ad h) a0 r) (p_TMX D ad (p_A ad h) a0 r) args s 1 6 (p_A ad h)) (entryFrame m args 3)
  rw [hls]
  clear hls
  have hL : p_L ls 3 [(0, .ref (ad a0)), (1, .int x1)] := hL
  rw [fX3_close] at hf
  refine lv_aload_n hx hb dX3_close_0 rfl (lv_at hL.1 0 rfl) ?_
  refine lv_iload_n hx hb dX3_close_1 rfl (lv_at hL.1 1 rfl) ?_
  obtain ⟨u1, e2, hf⟩ := p_b hf
  obtain ⟨o_3, e4, hf⟩ := p_b hf
  cases o_3 with
  | inl Ex5 =>
    dsimp only at hf
    exact p_cTq_x (vx_runV (As := [.int x1]) (rest := []) hC (kX3_find l hl D ad p_no _ h a0 x1 _ e4) (cwV 1 hts gX3_close_X3_find rfl rfl rfl (by decide +kernel) ⟨Nat.le_of_ble_eq_true rfl, Nat.le_of_ble_eq_true rfl⟩) (p_preVE hK hQ.tt ((hE.kept hS.2.1).narrow fun _ h9 => h9.elim) rfl e2 rfl) rfl rfl hL.1.1 rfl (lv_room (Nat.le_of_ble_eq_true rfl)) dX3_close_2 ⟨Nat.le_of_ble_eq_true rfl, Nat.le_of_ble_eq_true rfl⟩) hS hno hlocks (fun t hvm hz hk => p_xM hf hQ hS rfl hvm hz hk) (fun x hx => hx) (Nat.le_of_ble_eq_true rfl) (Nat.le_of_ble_eq_true rfl)
  | inr o_5 =>
    dsimp only at hf
    refine p_cTq_r (vx_runV (As := [.int x1]) (rest := []) hC (kX3_find l hl D ad p_no _ h a0 x1 _ e4) (cwV 1 hts gX3_close_X3_find rfl rfl rfl (by decide +kernel) ⟨Nat.le_of_ble_eq_true rfl, Nat.le_of_ble_eq_true rfl⟩) (p_preVE hK hQ.tt ((hE.kept hS.2.1).narrow fun _ h9 => h9.elim) rfl e2 rfl) rfl rfl hL.1.1 rfl (lv_room (Nat.le_of_ble_eq_true rfl)) dX3_close_2 ⟨Nat.le_of_ble_eq_true rfl, Nat.le_of_ble_eq_true rfl⟩) hQ hS (fun H locs hQ hS => ?_)
    refine p_astore_n (o := Option.map ad o_5) (lv' := [(2, va_rf (Option.map ad o_5)), (0, .ref (ad a0)), (1, .int x1)]) hx hb dX3_close_5 rfl hL (by decide) rfl (fun ls hL => ?_)
    refine lv_aload_n hx hb dX3_close_6 rfl (lv_at hL.1 1 rfl) ?_
    obtain ⟨a_6, e7, hf⟩ := p_b hf
    refine p_getR hC hi3 hK hQ e7 rfl (by decide) (by decide +kernel) dX3_close_7 ?_
    refine lv_iload_n hx hb dX3_close_10 rfl (lv_at hL.1 2 rfl) ?_
    obtain ⟨u8, e9, hf⟩ := p_b hf
    obtain ⟨h_10, e11, hf⟩ := p_b hf
    refine p_cMv (va_runV (As := [.int x1]) (rest := []) hC (kX2_remove l D ad h a_6 x1 h_10 e11) (cwV 1 hts gX3_close_X2_remove rfl rfl rfl (by decide +kernel) ⟨Nat.le_of_ble_eq_true rfl, Nat.le_of_ble_eq_true rfl⟩) (p_preV hK hQ.self e9 rfl) rfl rfl hL.1.1 rfl (lv_room (Nat.le_of_ble_eq_true rfl)) dX3_close_11 ⟨Nat.le_of_ble_eq_true rfl, Nat.le_of_ble_eq_true rfl⟩) hQ hS (fun H locs hQ hS => ?_)
    refine lv_aload_n hx hb dX3_close_14 rfl (lv_at hL.1 1 rfl) ?_
    obtain ⟨a_12, e13, hf⟩ := p_b hf
    refine p_getR hC hi3 hK hQ e13 rfl (by decide) (by decide +kernel) dX3_close_15 ?_
    refine lv_iload_n hx hb dX3_close_18 rfl (lv_at hL.1 2 rfl) ?_
    obtain ⟨u14, e15, hf⟩ := p_b hf
    obtain ⟨h_16, e17, hf⟩ := p_b hf
    refine p_cMv (va_runV (As := [.int x1]) (rest := []) hC (kX2_remove l D ad h_10 a_12 x1 h_16 e17) (cwV 1 hts gX3_close_X2_remove rfl rfl rfl (by decide +kernel) ⟨Nat.le_of_ble_eq_true rfl, Nat.le_of_ble_eq_true rfl⟩) (p_preV hK hQ.self e15 rfl) rfl rfl hL.1.1 rfl (lv_room (Nat.le_of_ble_eq_true rfl)) dX3_close_19 ⟨Nat.le_of_ble_eq_true rfl, Nat.le_of_ble_eq_true rfl⟩) hQ hS (fun H locs hQ hS => ?_)
    refine lv_aload_n hx hb dX3_close_22 rfl (lv_at hL.1 1 rfl) ?_
    refine lv_dup hx hb dX3_close_23 rfl ?_
    obtain ⟨v18, e19, hf⟩ := p_b hf
    refine p_getI hC hi3 hK hQ e19 rfl (by decide) (by decide +kernel) dX3_close_24 ?_
    refine p_aload_n (o := Option.map ad o_5) hx hb dX3_close_27 rfl (lv_at hL.1 0 rfl) ?_
    obtain ⟨a_20, ea, hf2⟩ := p_b hf
    clear hf
    subst ea
    have hf := hf2
    clear hf2
    obtain ⟨u21, e22, hf⟩ := p_b hf
    obtain ⟨v23, e24, hf⟩ := p_b hf
    refine p_cRi (va_runV (As := []) (rest := [.int v18, .ref (ad a0)]) hC (kX1_pagesHeld l D ad h_16 a_20 v23 e24) (cwV 0 hts gX3_close_X1_pagesHeld rfl rfl rfl (by decide +kernel) ⟨Nat.le_of_ble_eq_true rfl, Nat.le_of_ble_eq_true rfl⟩) (p_preV hK hQ.tt e22 rfl) rfl rfl hL.1.1 rfl (lv_room (Nat.le_of_ble_eq_true rfl)) dX3_close_28 ⟨Nat.le_of_ble_eq_true rfl, Nat.le_of_ble_eq_true rfl⟩) hQ hS (fun H locs hQ hS => ?_)
    refine lv_iadd hx hb dX3_close_31 ?_
    obtain ⟨h_25, e26, hf⟩ := p_b hf
    refine p_putI hC hi3 tyX3_ok nmX3 hK hQ hS e26 rfl (by decide) rfl rfl (by decide +kernel) dX3_close_32 (fun H locs hQ hS => ?_)
    refine lv_aload_n hx hb dX3_close_35 rfl (lv_at hL.1 1 rfl) ?_
    obtain ⟨u27, e28, hf⟩ := p_b hf
    obtain ⟨h_29, e30, hf⟩ := p_b hf
    refine p_cMv (va_runV (As := []) (rest := []) hC (kX3_rearrange l D ad h_25 a0 h_29 e30) (cwV 0 hts gX3_close_X3_rearrange rfl rfl rfl (by decide +kernel) ⟨Nat.le_of_ble_eq_true rfl, Nat.le_of_ble_eq_true rfl⟩) (p_preV hK hQ.self e28 rfl) rfl rfl hL.1.1 rfl (lv_room (Nat.le_of_ble_eq_true rfl)) dX3_close_36 ⟨Nat.le_of_ble_eq_true rfl, Nat.le_of_ble_eq_true rfl⟩) hQ hS (fun H locs hQ hS => ?_)
    refine lv_aload_n hx hb dX3_close_39 rfl (lv_at hL.1 1 rfl) ?_
    obtain ⟨a_31, e32, hf⟩ := p_b hf
    refine p_getR hC hi3 hK hQ e32 rfl (by decide) (by decide +kernel) dX3_close_40 ?_
    obtain ⟨u33, e34, hf⟩ := p_b hf
    obtain ⟨v35, e36, hf⟩ := p_b hf
    refine p_cRi (va_runV (As := []) (rest := []) hC (kX2_count l D ad h_29 a_31 v35 e36) (cwV 0 hts gX3_close_X2_count rfl rfl rfl (by decide +kernel) ⟨Nat.le_of_ble_eq_true rfl, Nat.le_of_ble_eq_true rfl⟩) (p_preV hK hQ.tt e34 rfl) rfl rfl hL.1.1 rfl (lv_room (Nat.le_of_ble_eq_true rfl)) dX3_close_43 ⟨Nat.le_of_ble_eq_true rfl, Nat.le_of_ble_eq_true rfl⟩) hQ hS (fun H locs hQ hS => ?_)
    exact p_tMi hC hr hlocks hQ hS rfl hf (Nat.le_of_ble_eq_true rfl) (Nat.le_of_ble_eq_true rfl) dX3_close_46
-- X3_move
abbrev rX3_move : Room := { frames := 7, cells := 2, slots := 12, locals := 129 }
set_option maxHeartbeats 4000000 in
set_option maxRecDepth 100000 in
theorem kX3_move (l : Launch) (hl : l.stackTraces = false) (D : va_G) (ad : Nat → Nat) (sz : Nat) (h : PH) (a0 : Nat) (x1 : Int32) (x2 : Int32) (x3 : Int32)  (r : (String × PH) ⊕ (PH)) (hf : fX3_move h a0 x1 x2 x3  = some r) : vx_Met l yX3_move wsX3_move rX3_move (p_preE D ad (p_A ad h) (p_A ad h) sz h [.ref (ad a0), .int x1, .int x2, .int x3]) (p_TMv D ad (p_A ad h) a0 r) (p_TMX D ad (p_A ad h) a0 r) 2 12 (p_A ad h) := by
  refine vx_ofW (cc := cX3_move) (maxL := 5) (ret := none) (by decide) rfl ?_
  intro p e s m args below meth c s₁ B hml hno hv
  obtain ⟨hargs, hK, hQ, hE, hsz⟩ := hv
  have hx := B.exec
  have hb := B.bytes
  have hr := B.returns
  have hts := atoms_spec (ws := wsX3_move) B.pre
  have hown : s.vm.findClass RX3 = some m.cls := findClass_of_methodNamed B.named
  have hlocks := B.notSynchronized
  have hC : CallFix p m c cX3_move 5 s args wsX3_move RX3 := ⟨hx, hb, hml, hown, hts⟩
  have hS : va_S (p_A ad h) s.heap s.heap [] := va_S.rf
  have hi1 : ∀ w ∈ u_ws RX1 TX1 10, w ∈ wsX3_move := fun w hw => List.mem_cons_of_mem _ (List.mem_append_left _ (List.mem_append_left _ (List.mem_append_left _ (List.mem_append_left _ (List.mem_append_left _ (List.mem_append_right _ hw))))))
  have hi3 : ∀ w ∈ u_ws RX3 TX3 8, w ∈ wsX3_move := fun w hw => List.mem_cons_of_mem _ (List.mem_append_left _ (List.mem_append_left _ (List.mem_append_left _ (List.mem_append_left _ (List.mem_append_right _ hw)))))
  obtain ⟨ls, hls, hL⟩ := p_start (n := 5) hargs (by simp [p_cat, p_ci, p_cr, p_cn]) (Nat.le_of_ble_eq_true rfl)
  show W p l e rX3_move s m args below meth c s.heap [] 0 0 (vx_MQ below (p_TMv D ad (p_A ad h) a0 r) (p_TMX D ad (p_A ad h) a0 r) args s 2 12 (p_A ad h)) (entryFrame m args 5)
  rw [hls]
  clear hls
  have hL : p_L ls 5 [(0, .ref (ad a0)), (1, .int x1), (2, .int x2), (3, .int x3)] := hL
  have b33 : ∀ (H : Heap) (locs : List Loc) (ls : Array Slot) (h1 : PH) , p_Q D ad (p_A ad h) s h1 H → va_S (p_A ad h) s.heap H locs → p_L ls 5 [] → fX3_move_33 h1  = some r → W p l e rX3_move s m args below meth c H locs 1 6 (vx_MQ below (p_TMv D ad (p_A ad h) a0 r) (p_TMX D ad (p_A ad h) a0 r) args s 2 12 (p_A ad h)) (F0 m 33 ls []) := by
    intro H locs ls h1  hQ hS hL hf
    rw [fX3_move_33] at hf
    exact p_throw (text := "the rectangle is not within the screen") hC hl hlocks hno (by decide +kernel) (by decide +kernel) (by decide +kernel) hE (by decide +kernel) (fun w hw => List.mem_cons_of_mem _ (List.mem_append_left _ (List.mem_append_right _ hw))) p_t1 p_g1 hS hL.1.1 dX3_move_33 dX3_move_36 dX3_move_37 dX3_move_39 dX3_move_42 (Nat.le_of_ble_eq_true rfl) (Nat.le_of_ble_eq_true rfl) (Nat.le_of_ble_eq_true rfl) (Nat.le_of_ble_eq_true rfl) (fun t hvm hz hk => p_xM hf hQ hS rfl hvm hz hk) hS.2.2 (Nat.le_of_ble_eq_true rfl) (Nat.le_of_ble_eq_true rfl)
  rw [fX3_move] at hf
  refine lv_aload_n hx hb dX3_move_0 rfl (lv_at hL.1 0 rfl) ?_
  refine lv_iload_n hx hb dX3_move_1 rfl (lv_at hL.1 1 rfl) ?_
  obtain ⟨u1, e2, hf⟩ := p_b hf
  obtain ⟨o_3, e4, hf⟩ := p_b hf
  cases o_3 with
  | inl Ex5 =>
    dsimp only at hf
    exact p_cTq_x (vx_runV (As := [.int x1]) (rest := []) hC (kX3_find l hl D ad p_no _ h a0 x1 _ e4) (cwV 1 hts gX3_move_X3_find rfl rfl rfl (by decide +kernel) ⟨Nat.le_of_ble_eq_true rfl, Nat.le_of_ble_eq_true rfl⟩) (p_preVE hK hQ.tt ((hE.kept hS.2.1).narrow fun _ h9 => h9.elim) rfl e2 rfl) rfl rfl hL.1.1 rfl (lv_room (Nat.le_of_ble_eq_true rfl)) dX3_move_2 ⟨Nat.le_of_ble_eq_true rfl, Nat.le_of_ble_eq_true rfl⟩) hS hno hlocks (fun t hvm hz hk => p_xM hf hQ hS rfl hvm hz hk) (fun x hx => hx) (Nat.le_of_ble_eq_true rfl) (Nat.le_of_ble_eq_true rfl)
  | inr o_5 =>
    dsimp only at hf
    refine p_cTq_r (vx_runV (As := [.int x1]) (rest := []) hC (kX3_find l hl D ad p_no _ h a0 x1 _ e4) (cwV 1 hts gX3_move_X3_find rfl rfl rfl (by decide +kernel) ⟨Nat.le_of_ble_eq_true rfl, Nat.le_of_ble_eq_true rfl⟩) (p_preVE hK hQ.tt ((hE.kept hS.2.1).narrow fun _ h9 => h9.elim) rfl e2 rfl) rfl rfl hL.1.1 rfl (lv_room (Nat.le_of_ble_eq_true rfl)) dX3_move_2 ⟨Nat.le_of_ble_eq_true rfl, Nat.le_of_ble_eq_true rfl⟩) hQ hS (fun H locs hQ hS => ?_)
    refine p_astore (o := Option.map ad o_5) (lv' := [(4, va_rf (Option.map ad o_5)), (0, .ref (ad a0)), (1, .int x1), (2, .int x2), (3, .int x3)]) hx hb dX3_move_5 hL (by decide) rfl (fun ls hL => ?_)
    refine lv_iload_n hx hb dX3_move_7 rfl (lv_at hL.1 3 rfl) ?_
    refine lv_iload_n hx hb dX3_move_8 rfl (lv_at hL.1 4 rfl) ?_
    obtain ⟨v6, e7, hf⟩ := p_b hf
    refine p_cRi (va_runS (As := [.int x2, .int x3]) (rest := []) hC (kX3_isCell l D ad h x2 x3 v6 e7) (cwS 2 hts gX3_move_X3_isCell rfl rfl rfl (by decide +kernel) ⟨Nat.le_of_ble_eq_true rfl, Nat.le_of_ble_eq_true rfl⟩) (p_preS hK hQ.tt) rfl rfl hL.1.1 rfl (lv_room (Nat.le_of_ble_eq_true rfl)) dX3_move_9 ⟨Nat.le_of_ble_eq_true rfl, Nat.le_of_ble_eq_true rfl⟩) hQ hS (fun H locs hQ hS => ?_)
    refine lv_if_eq (tgt := 33) hx hb dX3_move_12 (by decide) (fun c8 => ?_) (fun c8 => ?_)
    · rw [if_pos c8] at hf
      exact b33 _ _ _ h  hQ hS (hL.sub [] rfl) hf
    · rw [if_neg c8] at hf
      refine lv_iload_n hx hb dX3_move_15 rfl (lv_at hL.1 3 rfl) ?_
      refine lv_iload_n hx hb dX3_move_16 rfl (lv_at hL.1 4 rfl) ?_
      refine p_aload (o := Option.map ad o_5) hx hb dX3_move_17 (lv_at hL.1 0 rfl) ?_
      obtain ⟨a_9, ea, hf2⟩ := p_b hf
      clear hf
      subst ea
      have hf := hf2
      clear hf2
      obtain ⟨v10, e11, hf⟩ := p_b hf
      refine p_getI hC hi1 hK hQ e11 rfl (by decide) (by decide +kernel) dX3_move_19 ?_
      refine lv_aload hx hb dX3_move_22 (lv_at hL.1 0 rfl) ?_
      obtain ⟨v12, e13, hf⟩ := p_b hf
      refine p_getI hC hi1 hK hQ e13 rfl (by decide) (by decide +kernel) dX3_move_24 ?_
      obtain ⟨v14, e15, hf⟩ := p_b hf
      refine p_cRi (va_runS (As := [.int x2, .int x3, .int v10, .int v12]) (rest := []) hC (kX3_fits l D ad h x2 x3 v10 v12 v14 e15) (cwS 4 hts gX3_move_X3_fits rfl rfl rfl (by decide +kernel) ⟨Nat.le_of_ble_eq_true rfl, Nat.le_of_ble_eq_true rfl⟩) (p_preS hK hQ.tt) rfl rfl hL.1.1 rfl (lv_room (Nat.le_of_ble_eq_true rfl)) dX3_move_27 ⟨Nat.le_of_ble_eq_true rfl, Nat.le_of_ble_eq_true rfl⟩) hQ hS (fun H locs hQ hS => ?_)
      refine lv_if_ne (tgt := 43) hx hb dX3_move_30 (by decide) (fun c16 => ?_) (fun c16 => ?_)
      · rw [if_neg c16] at hf
        refine lv_aload hx hb dX3_move_43 (lv_at hL.1 0 rfl) ?_
        refine lv_iload_n hx hb dX3_move_45 rfl (lv_at hL.1 3 rfl) ?_
        obtain ⟨h_17, e18, hf⟩ := p_b hf
        refine p_putI hC hi1 tyX1_ok nmX1 hK hQ hS e18 rfl (by decide) rfl rfl (by decide +kernel) dX3_move_46 (fun H locs hQ hS => ?_)
        refine lv_aload hx hb dX3_move_49 (lv_at hL.1 0 rfl) ?_
        refine lv_iload_n hx hb dX3_move_51 rfl (lv_at hL.1 4 rfl) ?_
        obtain ⟨h_19, e20, hf⟩ := p_b hf
        refine p_putI hC hi1 tyX1_ok nmX1 hK hQ hS e20 rfl (by decide) rfl rfl (by decide +kernel) dX3_move_52 (fun H locs hQ hS => ?_)
        refine lv_aload_n hx hb dX3_move_55 rfl (lv_at hL.1 1 rfl) ?_
        obtain ⟨u21, e22, hf⟩ := p_b hf
        obtain ⟨h_23, e24, hf⟩ := p_b hf
        refine p_cMv (va_runV (As := []) (rest := []) hC (kX3_rearrange l D ad h_19 a0 h_23 e24) (cwV 0 hts gX3_move_X3_rearrange rfl rfl rfl (by decide +kernel) ⟨Nat.le_of_ble_eq_true rfl, Nat.le_of_ble_eq_true rfl⟩) (p_preV hK hQ.self e22 rfl) rfl rfl hL.1.1 rfl (lv_room (Nat.le_of_ble_eq_true rfl)) dX3_move_56 ⟨Nat.le_of_ble_eq_true rfl, Nat.le_of_ble_eq_true rfl⟩) hQ hS (fun H locs hQ hS => ?_)
        exact p_tMv hC hr hlocks hQ hS rfl hf (Nat.le_of_ble_eq_true rfl) (Nat.le_of_ble_eq_true rfl) dX3_move_59
      · rw [if_pos c16] at hf
        exact b33 _ _ _ h  hQ hS (hL.sub [] rfl) hf
-- X3_lay
abbrev rX3_lay : Room := { frames := 7, cells := 1, slots := 6, locals := 129 }
set_option maxHeartbeats 4000000 in
set_option maxRecDepth 100000 in
theorem kX3_lay (l : Launch) (hl : l.stackTraces = false) (D : va_G) (ad : Nat → Nat) (sz : Nat) (h : PH) (a0 : Nat) (x1 : Int32) (x2 : Int32)  (r : (String × PH) ⊕ (Int32 × PH)) (hf : fX3_lay h a0 x1 x2  = some r) : vx_Met l yX3_lay wsX3_lay rX3_lay (p_preE D ad (p_A ad h) (p_A ad h) sz h [.ref (ad a0), .int x1, .int x2]) (p_TMi D ad (p_A ad h) a0 r) (p_TMX D ad (p_A ad h) a0 r) 1 6 (p_A ad h) := by
  refine vx_ofW (cc := cX3_lay) (maxL := 5) (ret := (some .int)) (by decide) rfl ?_
  intro p e s m args below meth c s₁ B hml hno hv
  obtain ⟨hargs, hK, hQ, hE, hsz⟩ := hv
  have hx := B.exec
  have hb := B.bytes
  have hr := B.returns
  have hts := atoms_spec (ws := wsX3_lay) B.pre
  have hown : s.vm.findClass RX3 = some m.cls := findClass_of_methodNamed B.named
  have hlocks := B.notSynchronized
  have hC : CallFix p m c cX3_lay 5 s args wsX3_lay RX3 := ⟨hx, hb, hml, hown, hts⟩
  have hS : va_S (p_A ad h) s.heap s.heap [] := va_S.rf
  have hi2 : ∀ w ∈ u_ws RX2 TX2 2, w ∈ wsX3_lay := fun w hw => List.mem_cons_of_mem _ (List.mem_append_left _ (List.mem_append_left _ (List.mem_append_left _ (List.mem_append_right _ hw))))
  have hi3 : ∀ w ∈ u_ws RX3 TX3 8, w ∈ wsX3_lay := fun w hw => List.mem_cons_of_mem _ (List.mem_append_left _ (List.mem_append_left _ (List.mem_append_left _ (List.mem_append_left _ (List.mem_append_right _ hw)))))
  obtain ⟨ls, hls, hL⟩ := p_start (n := 5) hargs (by simp [p_cat, p_ci, p_cr, p_cn]) (Nat.le_of_ble_eq_true rfl)
  show W p l e rX3_lay s m args below meth c s.heap [] 0 0 (vx_MQ below (p_TMi D ad (p_A ad h) a0 r) (p_TMX D ad (p_A ad h) a0 r) args s 1 6 (p_A ad h)) (entryFrame m args 5)
  rw [hls]
  clear hls
  have hL : p_L ls 5 [(0, .ref (ad a0)), (1, .int x1), (2, .int x2)] := hL
  have b47 : ∀ (H : Heap) (locs : List Loc) (ls : Array Slot) (h1 : PH) (a0 : Nat) (x4 : Int32), p_Q D ad (p_A ad h) s h1 H → va_S (p_A ad h) s.heap H locs → p_L ls 5 [(0, .ref (ad a0)), (4, .int x4)] → fX3_lay_47 h1 a0 x4 = some r → W p l e rX3_lay s m args below meth c H locs 1 6 (vx_MQ below (p_TMi D ad (p_A ad h) a0 r) (p_TMX D ad (p_A ad h) a0 r) args s 1 6 (p_A ad h)) (F0 m 47 ls []) := by
    intro H locs ls h1 a0 x4 hQ hS hL hf
    rw [fX3_lay_47] at hf
    refine lv_aload_n hx hb dX3_lay_47 rfl (lv_at hL.1 0 rfl) ?_
    obtain ⟨u1, e2, hf⟩ := p_b hf
    obtain ⟨h_3, e4, hf⟩ := p_b hf
    refine p_cMv (va_runV (As := []) (rest := []) hC (kX3_rearrange l D ad h1 a0 h_3 e4) (cwV 0 hts gX3_lay_X3_rearrange rfl rfl rfl (by decide +kernel) ⟨Nat.le_of_ble_eq_true rfl, Nat.le_of_ble_eq_true rfl⟩) (p_preV hK hQ.self e2 rfl) rfl rfl hL.1.1 rfl (lv_room (Nat.le_of_ble_eq_true rfl)) dX3_lay_48 ⟨Nat.le_of_ble_eq_true rfl, Nat.le_of_ble_eq_true rfl⟩) hQ hS (fun H locs hQ hS => ?_)
    refine lv_iload hx hb dX3_lay_51 (lv_at hL.1 1 rfl) ?_
    exact p_tMi hC hr hlocks hQ hS rfl hf (Nat.le_of_ble_eq_true rfl) (Nat.le_of_ble_eq_true rfl) dX3_lay_53
  rw [fX3_lay] at hf
  refine lv_aload_n hx hb dX3_lay_0 rfl (lv_at hL.1 0 rfl) ?_
  refine lv_iload_n hx hb dX3_lay_1 rfl (lv_at hL.1 1 rfl) ?_
  obtain ⟨u5, e6, hf⟩ := p_b hf
  obtain ⟨o_7, e8, hf⟩ := p_b hf
  cases o_7 with
  | inl Ex9 =>
    dsimp only at hf
    exact p_cTq_x (vx_runV (As := [.int x1]) (rest := []) hC (kX3_find l hl D ad p_no _ h a0 x1 _ e8) (cwV 1 hts gX3_lay_X3_find rfl rfl rfl (by decide +kernel) ⟨Nat.le_of_ble_eq_true rfl, Nat.le_of_ble_eq_true rfl⟩) (p_preVE hK hQ.tt ((hE.kept hS.2.1).narrow fun _ h9 => h9.elim) rfl e6 rfl) rfl rfl hL.1.1 rfl (lv_room (Nat.le_of_ble_eq_true rfl)) dX3_lay_2 ⟨Nat.le_of_ble_eq_true rfl, Nat.le_of_ble_eq_true rfl⟩) hS hno hlocks (fun t hvm hz hk => p_xM hf hQ hS rfl hvm hz hk) (fun x hx => hx) (Nat.le_of_ble_eq_true rfl) (Nat.le_of_ble_eq_true rfl)
  | inr o_9 =>
    dsimp only at hf
    refine p_cTq_r (vx_runV (As := [.int x1]) (rest := []) hC (kX3_find l hl D ad p_no _ h a0 x1 _ e8) (cwV 1 hts gX3_lay_X3_find rfl rfl rfl (by decide +kernel) ⟨Nat.le_of_ble_eq_true rfl, Nat.le_of_ble_eq_true rfl⟩) (p_preVE hK hQ.tt ((hE.kept hS.2.1).narrow fun _ h9 => h9.elim) rfl e6 rfl) rfl rfl hL.1.1 rfl (lv_room (Nat.le_of_ble_eq_true rfl)) dX3_lay_2 ⟨Nat.le_of_ble_eq_true rfl, Nat.le_of_ble_eq_true rfl⟩) hQ hS (fun H locs hQ hS => ?_)
    refine p_astore_n (o := Option.map ad o_9) (lv' := [(3, va_rf (Option.map ad o_9)), (0, .ref (ad a0)), (1, .int x1), (2, .int x2)]) hx hb dX3_lay_5 rfl hL (by decide) rfl (fun ls hL => ?_)
    refine lv_aload_n hx hb dX3_lay_6 rfl (lv_at hL.1 1 rfl) ?_
    obtain ⟨a_10, e11, hf⟩ := p_b hf
    refine p_getR hC hi3 hK hQ e11 rfl (by decide) (by decide +kernel) dX3_lay_7 ?_
    refine lv_iload_n hx hb dX3_lay_10 rfl (lv_at hL.1 2 rfl) ?_
    obtain ⟨u12, e13, hf⟩ := p_b hf
    obtain ⟨v14, e15, hf⟩ := p_b hf
    refine p_cRi (va_runV (As := [.int x1]) (rest := []) hC (kX2_indexOf l D ad h a_10 x1 v14 e15) (cwV 1 hts gX3_lay_X2_indexOf rfl rfl rfl (by decide +kernel) ⟨Nat.le_of_ble_eq_true rfl, Nat.le_of_ble_eq_true rfl⟩) (p_preV hK hQ.tt e13 rfl) rfl rfl hL.1.1 rfl (lv_room (Nat.le_of_ble_eq_true rfl)) dX3_lay_11 ⟨Nat.le_of_ble_eq_true rfl, Nat.le_of_ble_eq_true rfl⟩) hQ hS (fun H locs hQ hS => ?_)
    refine p_istore (lv' := [(4, .int v14), (3, va_rf (Option.map ad o_9)), (0, .ref (ad a0)), (1, .int x1), (2, .int x2)]) hx hb dX3_lay_14 hL (by decide) rfl (fun ls hL => ?_)
    refine lv_aload_n hx hb dX3_lay_16 rfl (lv_at hL.1 2 rfl) ?_
    obtain ⟨a_16, e17, hf⟩ := p_b hf
    refine p_getR hC hi3 hK hQ e17 rfl (by decide) (by decide +kernel) dX3_lay_17 ?_
    refine lv_iload_n hx hb dX3_lay_20 rfl (lv_at hL.1 3 rfl) ?_
    obtain ⟨u18, e19, hf⟩ := p_b hf
    obtain ⟨h_20, e21, hf⟩ := p_b hf
    refine p_cMv (va_runV (As := [.int x1]) (rest := []) hC (kX2_remove l D ad h a_16 x1 h_20 e21) (cwV 1 hts gX3_lay_X2_remove rfl rfl rfl (by decide +kernel) ⟨Nat.le_of_ble_eq_true rfl, Nat.le_of_ble_eq_true rfl⟩) (p_preV hK hQ.self e19 rfl) rfl rfl hL.1.1 rfl (lv_room (Nat.le_of_ble_eq_true rfl)) dX3_lay_21 ⟨Nat.le_of_ble_eq_true rfl, Nat.le_of_ble_eq_true rfl⟩) hQ hS (fun H locs hQ hS => ?_)
    refine lv_iload_n hx hb dX3_lay_24 rfl (lv_at hL.1 4 rfl) ?_
    refine lv_if_eq (tgt := 39) hx hb dX3_lay_25 (by decide) (fun c22 => ?_) (fun c22 => ?_)
    · rw [if_pos c22] at hf
      refine lv_aload_n hx hb dX3_lay_39 rfl (lv_at hL.1 2 rfl) ?_
      obtain ⟨a_23, e24, hf⟩ := p_b hf
      refine p_getR hC hi3 hK hQ e24 rfl (by decide) (by decide +kernel) dX3_lay_40 ?_
      refine p_aload_n (o := Option.map ad o_9) hx hb dX3_lay_43 rfl (lv_at hL.1 1 rfl) ?_
      obtain ⟨u25, e26, hf⟩ := p_b hf
      obtain ⟨h_27, e28, hf⟩ := p_b hf
      refine p_cMv (va_runV (As := [va_rf (Option.map ad o_9)]) (rest := []) hC (kX2_addFirst l D ad h_20 a_23 o_9 h_27 e28) (cwV 1 hts gX3_lay_X2_addFirst rfl rfl rfl (by decide +kernel) ⟨Nat.le_of_ble_eq_true rfl, Nat.le_of_ble_eq_true rfl⟩) (p_preV hK hQ.self e26 rfl) rfl rfl hL.1.1 rfl (lv_room (Nat.le_of_ble_eq_true rfl)) dX3_lay_44 ⟨Nat.le_of_ble_eq_true rfl, Nat.le_of_ble_eq_true rfl⟩) hQ hS (fun H locs hQ hS => ?_)
      exact b47 _ _ _ h_27 a0 v14 hQ hS (hL.sub [2, 0] rfl) hf
    · rw [if_neg c22] at hf
      refine lv_aload_n hx hb dX3_lay_28 rfl (lv_at hL.1 2 rfl) ?_
      obtain ⟨a_29, e30, hf⟩ := p_b hf
      refine p_getR hC hi3 hK hQ e30 rfl (by decide) (by decide +kernel) dX3_lay_29 ?_
      refine p_aload_n (o := Option.map ad o_9) hx hb dX3_lay_32 rfl (lv_at hL.1 1 rfl) ?_
      obtain ⟨u31, e32, hf⟩ := p_b hf
      obtain ⟨h_33, e34, hf⟩ := p_b hf
      refine p_cMv (va_runV (As := [va_rf (Option.map ad o_9)]) (rest := []) hC (kX2_addLast l D ad h_20 a_29 o_9 h_33 e34) (cwV 1 hts gX3_lay_X2_addLast rfl rfl rfl (by decide +kernel) ⟨Nat.le_of_ble_eq_true rfl, Nat.le_of_ble_eq_true rfl⟩) (p_preV hK hQ.self e32 rfl) rfl rfl hL.1.1 rfl (lv_room (Nat.le_of_ble_eq_true rfl)) dX3_lay_33 ⟨Nat.le_of_ble_eq_true rfl, Nat.le_of_ble_eq_true rfl⟩) hQ hS (fun H locs hQ hS => ?_)
      refine lv_goto (tgt := 47) hx hb dX3_lay_36 (by decide) ?_
      exact b47 _ _ _ h_33 a0 v14 hQ hS (hL.sub [2, 0] rfl) hf
-- X3_beginFrames
abbrev rX3_beginFrames : Room := { frames := 2, cells := 0, slots := 0, locals := 42 }
set_option maxHeartbeats 4000000 in
set_option maxRecDepth 100000 in
theorem kX3_beginFrames (l : Launch) (D : va_G) (ad : Nat → Nat) (h : PH) (a0 : Nat)  (r : PH) (hf : fX3_beginFrames h a0  = some r) : Met l yX3_beginFrames wsX3_beginFrames rX3_beginFrames (p_pre D ad (p_A ad h) h [.ref (ad a0)]) (p_Mv D ad (p_A ad h) r) 0 0 (p_A ad h) := by
  refine Met.ofW (cc := cX3_beginFrames) (maxL := 3) (ret := none) (by decide) rfl ?_
  intro p e s m args below meth c s₁ B hml hv
  obtain ⟨hargs, hK, hQ⟩ := hv
  have hx := B.exec
  have hb := B.bytes
  have hr := B.returns
  have hts := atoms_spec (ws := wsX3_beginFrames) B.pre
  have hown : s.vm.findClass RX3 = some m.cls := findClass_of_methodNamed B.named
  have hlocks := B.notSynchronized
  have hC : CallFix p m c cX3_beginFrames 3 s args wsX3_beginFrames RX3 := ⟨hx, hb, hml, hown, hts⟩
  have hS : va_S (p_A ad h) s.heap s.heap [] := va_S.rf
  have hi0 : ∀ w ∈ u_ws RX0 TX0 9, w ∈ wsX3_beginFrames := fun w hw => List.mem_cons_of_mem _ (List.mem_append_right _ hw)
  have hi1 : ∀ w ∈ u_ws RX1 TX1 10, w ∈ wsX3_beginFrames := fun w hw => List.mem_cons_of_mem _ (List.mem_append_left _ (List.mem_append_left _ (List.mem_append_right _ hw)))
  have hi2 : ∀ w ∈ u_ws RX2 TX2 2, w ∈ wsX3_beginFrames := fun w hw => List.mem_cons_of_mem _ (List.mem_append_left _ (List.mem_append_right _ hw))
  have hi3 : ∀ w ∈ u_ws RX3 TX3 8, w ∈ wsX3_beginFrames := fun w hw => List.mem_cons_of_mem _ (List.mem_append_left _ (List.mem_append_left _ (List.mem_append_left _ (List.mem_append_right _ hw))))
  obtain ⟨ls, hls, hL⟩ := p_start (n := 3) hargs (by simp [p_cat, p_ci, p_cr, p_cn]) (Nat.le_of_ble_eq_true rfl)
  show W p l e rX3_beginFrames s m args below meth c s.heap [] 0 0 (MQ below (p_Mv D ad (p_A ad h) r) args s 0 0 (p_A ad h)) (entryFrame m args 3)
  rw [hls]
  clear hls
  have hL : p_L ls 3 [(0, .ref (ad a0))] := hL
  have b68 : ∀ K : PH → Nat → Int32 → Option (PH), (∀ (H : Heap) (locs : List Loc) (ls : Array Slot) (h1 : PH) (a0 : Nat) (x1 : Int32), p_Q D ad (p_A ad h) s h1 H → va_S (p_A ad h) s.heap H locs → p_L ls 3 [(0, .ref (ad a0)), (1, .int x1)] → K h1 a0 x1 = some r → W p l e rX3_beginFrames s m args below meth c H locs 0 0 (MQ below (p_Mv D ad (p_A ad h) r) args s 0 0 (p_A ad h)) (F0 m 2 ls [])) → ∀ (H : Heap) (locs : List Loc) (ls : Array Slot) (h1 : PH) (a0 : Nat) (x1 : Int32), p_Q D ad (p_A ad h) s h1 H → va_S (p_A ad h) s.heap H locs → p_L ls 3 [(0, .ref (ad a0)), (1, .int x1)] → fX3_beginFrames_68 K h1 a0 x1 = some r → W p l e rX3_beginFrames s m args below meth c H locs 0 0 (MQ below (p_Mv D ad (p_A ad h) r) args s 0 0 (p_A ad h)) (F0 m 68 ls []) := by
    intro K ih H locs ls h1 a0 x1 hQ hS hL hf
    rw [fX3_beginFrames_68] at hf
    refine p_iinc (v := (x1 + 1)) (lv' := [(1, .int (x1 + 1)), (0, .ref (ad a0))]) hx hb dX3_beginFrames_68 hL (k := 1) rfl rfl (by decide) rfl (fun ls hL => ?_)
    refine lv_goto (tgt := 2) hx hb dX3_beginFrames_71 (by decide) ?_
    exact ih _ _ _ h1 a0 (x1 + 1) hQ hS (hL.sub [1, 0] rfl) hf
  have b57 : ∀ K : PH → Nat → Int32 → Option (PH), (∀ (H : Heap) (locs : List Loc) (ls : Array Slot) (h1 : PH) (a0 : Nat) (x1 : Int32), p_Q D ad (p_A ad h) s h1 H → va_S (p_A ad h) s.heap H locs → p_L ls 3 [(0, .ref (ad a0)), (1, .int x1)] → K h1 a0 x1 = some r → W p l e rX3_beginFrames s m args below meth c H locs 0 0 (MQ below (p_Mv D ad (p_A ad h) r) args s 0 0 (p_A ad h)) (F0 m 2 ls [])) → ∀ (H : Heap) (locs : List Loc) (ls : Array Slot) (h1 : PH) (a0 : Nat) (x1 : Int32) (o2 : Option Nat), p_Q D ad (p_A ad h) s h1 H → va_S (p_A ad h) s.heap H locs → p_L ls 3 [(0, .ref (ad a0)), (1, .int x1), (2, va_rf (Option.map ad o2))] → fX3_beginFrames_57 K h1 a0 x1 o2 = some r → W p l e rX3_beginFrames s m args below meth c H locs 0 0 (MQ below (p_Mv D ad (p_A ad h) r) args s 0 0 (p_A ad h)) (F0 m 57 ls []) := by
    intro K ih H locs ls h1 a0 x1 o2 hQ hS hL hf
    rw [fX3_beginFrames_57] at hf
    refine p_aload_n (o := Option.map ad o2) hx hb dX3_beginFrames_57 rfl (lv_at hL.1 2 rfl) ?_
    obtain ⟨a_1, ea, hf2⟩ := p_b hf
    clear hf
    subst ea
    have hf := hf2
    clear hf2
    obtain ⟨a_2, e3, hf⟩ := p_b hf
    refine p_getR hC hi1 hK hQ e3 rfl (by decide) (by decide +kernel) dX3_beginFrames_58 ?_
    refine lv_aload_n hx hb dX3_beginFrames_61 rfl (lv_at hL.1 0 rfl) ?_
    obtain ⟨v4, e5, hf⟩ := p_b hf
    refine p_getI hC hi3 hK hQ e5 rfl (by decide) (by decide +kernel) dX3_beginFrames_62 ?_
    obtain ⟨u6, e7, hf⟩ := p_b hf
    obtain ⟨h_8, e9, hf⟩ := p_b hf
    refine p_cMv (va_runV (As := [.int v4]) (rest := []) hC (kX0_drop l D ad h1 a_2 v4 h_8 e9) (cwV 1 hts gX3_beginFrames_X0_drop rfl rfl rfl (by decide +kernel) ⟨Nat.le_of_ble_eq_true rfl, Nat.le_of_ble_eq_true rfl⟩) (p_preV hK hQ.self e7 rfl) rfl rfl hL.1.1 rfl (lv_room (Nat.le_of_ble_eq_true rfl)) dX3_beginFrames_65 ⟨Nat.le_of_ble_eq_true rfl, Nat.le_of_ble_eq_true rfl⟩) hQ hS (fun H locs hQ hS => ?_)
    exact b68 K ih _ _ _ h_8 a0 x1 hQ hS (hL.sub [0, 1] rfl) hf
  have b2 : ∀ n : Nat, ∀ (H : Heap) (locs : List Loc) (ls : Array Slot) (h1 : PH) (a0 : Nat) (x1 : Int32), p_Q D ad (p_A ad h) s h1 H → va_S (p_A ad h) s.heap H locs → p_L ls 3 [(0, .ref (ad a0)), (1, .int x1)] → fX3_beginFrames_2 n h1 a0 x1 = some r → W p l e rX3_beginFrames s m args below meth c H locs 0 0 (MQ below (p_Mv D ad (p_A ad h) r) args s 0 0 (p_A ad h)) (F0 m 2 ls []) := by
    intro n
    induction n with
    | zero =>
      intro H locs ls h1 a0 x1 hQ hS hL hf
      simp [fX3_beginFrames_2] at hf
    | succ n ih =>
      intro H locs ls h1 a0 x1 hQ hS hL hf
      rw [fX3_beginFrames_2] at hf
      refine lv_iload_n hx hb dX3_beginFrames_2 rfl (lv_at hL.1 1 rfl) ?_
      refine lv_aload_n hx hb dX3_beginFrames_3 rfl (lv_at hL.1 0 rfl) ?_
      obtain ⟨a_10, e11, hf⟩ := p_b hf
      refine p_getR hC hi3 hK hQ e11 rfl (by decide) (by decide +kernel) dX3_beginFrames_4 ?_
      obtain ⟨u12, e13, hf⟩ := p_b hf
      obtain ⟨v14, e15, hf⟩ := p_b hf
      refine p_cRi (va_runV (As := []) (rest := [.int x1]) hC (kX2_count l D ad h1 a_10 v14 e15) (cwV 0 hts gX3_beginFrames_X2_count rfl rfl rfl (by decide +kernel) ⟨Nat.le_of_ble_eq_true rfl, Nat.le_of_ble_eq_true rfl⟩) (p_preV hK hQ.tt e13 rfl) rfl rfl hL.1.1 rfl (lv_room (Nat.le_of_ble_eq_true rfl)) dX3_beginFrames_7 ⟨Nat.le_of_ble_eq_true rfl, Nat.le_of_ble_eq_true rfl⟩) hQ hS (fun H locs hQ hS => ?_)
      refine lv_icmp_ge (tgt := 74) hx hb dX3_beginFrames_10 (by decide) (fun c16 => ?_) (fun c16 => ?_)
      · rw [if_pos c16] at hf
        exact p_rMv hC hr hlocks hQ hS hf dX3_beginFrames_74
      · rw [if_neg c16] at hf
        refine lv_aload_n hx hb dX3_beginFrames_13 rfl (lv_at hL.1 0 rfl) ?_
        obtain ⟨a_17, e18, hf⟩ := p_b hf
        refine p_getR hC hi3 hK hQ e18 rfl (by decide) (by decide +kernel) dX3_beginFrames_14 ?_
        refine lv_iload_n hx hb dX3_beginFrames_17 rfl (lv_at hL.1 1 rfl) ?_
        obtain ⟨u19, e20, hf⟩ := p_b hf
        obtain ⟨o_21, e22, hf⟩ := p_b hf
        refine p_cRq (va_runV (As := [.int x1]) (rest := []) hC (kX2_get l D ad h1 a_17 x1 o_21 e22) (cwV 1 hts gX3_beginFrames_X2_get rfl rfl rfl (by decide +kernel) ⟨Nat.le_of_ble_eq_true rfl, Nat.le_of_ble_eq_true rfl⟩) (p_preV hK hQ.tt e20 rfl) rfl rfl hL.1.1 rfl (lv_room (Nat.le_of_ble_eq_true rfl)) dX3_beginFrames_18 ⟨Nat.le_of_ble_eq_true rfl, Nat.le_of_ble_eq_true rfl⟩) hQ hS (fun H locs hQ hS => ?_)
        refine p_astore_n (o := Option.map ad o_21) (lv' := [(2, va_rf (Option.map ad o_21)), (0, .ref (ad a0)), (1, .int x1)]) hx hb dX3_beginFrames_21 rfl hL (by decide) rfl (fun ls hL => ?_)
        refine p_aload_n (o := Option.map ad o_21) hx hb dX3_beginFrames_22 rfl (lv_at hL.1 0 rfl) ?_
        cases o_21 with
        | none =>
          dsimp only at hf
          have hL : p_L ls 3 [(2, .null), (0, .ref (ad a0)), (1, .int x1)] := hL
          refine lv_ifnonnullN hx hb dX3_beginFrames_23 ?_
          refine lv_goto (tgt := 68) hx hb dX3_beginFrames_26 (by decide) ?_
          exact b68 (fX3_beginFrames_2 n) ih _ _ _ h1 a0 x1 hQ hS (hL.sub [1, 2] rfl) hf
        | some a_23 =>
          dsimp only at hf
          have hL : p_L ls 3 [(2, .ref (ad a_23)), (0, .ref (ad a0)), (1, .int x1)] := hL
          refine lv_ifnonnull (tgt := 29) hx hb dX3_beginFrames_23 (by decide) ?_
          refine lv_aload_n hx hb dX3_beginFrames_29 rfl (lv_at hL.1 0 rfl) ?_
          obtain ⟨v24, e25, hf⟩ := p_b hf
          refine p_getI hC hi1 hK hQ e25 rfl (by decide) (by decide +kernel) dX3_beginFrames_30 ?_
          refine lv_if_eq (tgt := 57) hx hb dX3_beginFrames_33 (by decide) (fun c26 => ?_) (fun c26 => ?_)
          · rw [if_pos c26] at hf
            exact b57 (fX3_beginFrames_2 n) ih _ _ _ h1 a0 x1 (some a_23) hQ hS (hL.sub [1, 2, 0] rfl) hf
          · rw [if_neg c26] at hf
            refine lv_aload_n hx hb dX3_beginFrames_36 rfl (lv_at hL.1 0 rfl) ?_
            obtain ⟨v27, e28, hf⟩ := p_b hf
            refine p_getI hC hi1 hK hQ e28 rfl (by decide) (by decide +kernel) dX3_beginFrames_37 ?_
            refine lv_if_eq (tgt := 57) hx hb dX3_beginFrames_40 (by decide) (fun c29 => ?_) (fun c29 => ?_)
            · rw [if_pos c29] at hf
              exact b57 (fX3_beginFrames_2 n) ih _ _ _ h1 a0 x1 (some a_23) hQ hS (hL.sub [1, 2, 0] rfl) hf
            · rw [if_neg c29] at hf
              refine lv_aload_n hx hb dX3_beginFrames_43 rfl (lv_at hL.1 0 rfl) ?_
              obtain ⟨a_30, e31, hf⟩ := p_b hf
              refine p_getR hC hi1 hK hQ e31 rfl (by decide) (by decide +kernel) dX3_beginFrames_44 ?_
              refine lv_aload_n hx hb dX3_beginFrames_47 rfl (lv_at hL.1 1 rfl) ?_
              obtain ⟨v32, e33, hf⟩ := p_b hf
              refine p_getI hC hi3 hK hQ e33 rfl (by decide) (by decide +kernel) dX3_beginFrames_48 ?_
              obtain ⟨u34, e35, hf⟩ := p_b hf
              obtain ⟨h_36, e37, hf⟩ := p_b hf
              refine p_cMv (va_runV (As := [.int v32]) (rest := []) hC (kX0_beginIfDue l D ad h1 a_30 v32 h_36 e37) (cwV 1 hts gX3_beginFrames_X0_beginIfDue rfl rfl rfl (by decide +kernel) ⟨Nat.le_of_ble_eq_true rfl, Nat.le_of_ble_eq_true rfl⟩) (p_preV hK hQ.self e35 rfl) rfl rfl hL.1.1 rfl (lv_room (Nat.le_of_ble_eq_true rfl)) dX3_beginFrames_51 ⟨Nat.le_of_ble_eq_true rfl, Nat.le_of_ble_eq_true rfl⟩) hQ hS (fun H locs hQ hS => ?_)
              refine lv_goto (tgt := 68) hx hb dX3_beginFrames_54 (by decide) ?_
              exact b68 (fX3_beginFrames_2 n) ih _ _ _ h_36 a0 x1 hQ hS (hL.sub [1, 2] rfl) hf
  rw [fX3_beginFrames] at hf
  refine lv_iconst (v := 0) hx hb dX3_beginFrames_0 (by decide) ?_
  refine p_istore_n (lv' := [(1, .int 0), (0, .ref (ad a0))]) hx hb dX3_beginFrames_1 rfl hL (by decide) rfl (fun ls hL => ?_)
  exact b2 64 _ _ _ h a0 0 hQ hS (hL.sub [1, 0] rfl) hf
-- X3_mostUrgent
abbrev rX3_mostUrgent : Room := { frames := 1, cells := 0, slots := 0, locals := 21 }
set_option maxHeartbeats 4000000 in
set_option maxRecDepth 100000 in
theorem kX3_mostUrgent (l : Launch) (D : va_G) (ad : Nat → Nat) (h : PH) (a0 : Nat)  (r : Option Nat) (hf : fX3_mostUrgent h a0  = some r) : Met l yX3_mostUrgent wsX3_mostUrgent rX3_mostUrgent (p_pre D ad p_tt h [.ref (ad a0)]) (p_Rq ad r) 0 0 p_no := by
  refine Met.ofW (cc := cX3_mostUrgent) (maxL := 4) (ret := (some (.object "FrameBroker$Window"))) (by decide) rfl ?_
  intro p e s m args below meth c s₁ B hml hv
  obtain ⟨hargs, hK, hQ⟩ := hv
  have hx := B.exec
  have hb := B.bytes
  have hr := B.returns
  have hts := atoms_spec (ws := wsX3_mostUrgent) B.pre
  have hown : s.vm.findClass RX3 = some m.cls := findClass_of_methodNamed B.named
  have hlocks := B.notSynchronized
  have hC : CallFix p m c cX3_mostUrgent 4 s args wsX3_mostUrgent RX3 := ⟨hx, hb, hml, hown, hts⟩
  have hS : va_S p_no s.heap s.heap [] := va_S.rf
  have hi0 : ∀ w ∈ u_ws RX0 TX0 9, w ∈ wsX3_mostUrgent := fun w hw => List.mem_cons_of_mem _ (List.mem_append_left _ (List.mem_append_right _ hw))
  have hi1 : ∀ w ∈ u_ws RX1 TX1 10, w ∈ wsX3_mostUrgent := fun w hw => List.mem_cons_of_mem _ (List.mem_append_left _ (List.mem_append_left _ (List.mem_append_right _ hw)))
  have hi2 : ∀ w ∈ u_ws RX2 TX2 2, w ∈ wsX3_mostUrgent := fun w hw => List.mem_cons_of_mem _ (List.mem_append_right _ hw)
  have hi3 : ∀ w ∈ u_ws RX3 TX3 8, w ∈ wsX3_mostUrgent := fun w hw => List.mem_cons_of_mem _ (List.mem_append_left _ (List.mem_append_left _ (List.mem_append_left _ (List.mem_append_right _ hw))))
  obtain ⟨ls, hls, hL⟩ := p_start (n := 4) hargs (by simp [p_cat, p_ci, p_cr, p_cn]) (Nat.le_of_ble_eq_true rfl)
  show W p l e rX3_mostUrgent s m args below meth c s.heap [] 0 0 (MQ below (p_Rq ad r) args s 0 0 p_no) (entryFrame m args 4)
  rw [hls]
  clear hls
  have hL : p_L ls 4 [(0, .ref (ad a0))] := hL
  have b61 : ∀ K : PH → Nat → Option Nat → Int32 → Option (Option Nat), (∀ (H : Heap) (locs : List Loc) (ls : Array Slot) (h1 : PH) (a0 : Nat) (o1 : Option Nat) (x2 : Int32), p_Q D ad p_tt s h1 H → va_S p_no s.heap H locs → p_L ls 4 [(0, .ref (ad a0)), (1, va_rf (Option.map ad o1)), (2, .int x2)] → K h1 a0 o1 x2 = some r → W p l e rX3_mostUrgent s m args below meth c H locs 0 0 (MQ below (p_Rq ad r) args s 0 0 p_no) (F0 m 4 ls [])) → ∀ (H : Heap) (locs : List Loc) (ls : Array Slot) (h1 : PH) (a0 : Nat) (o1 : Option Nat) (x2 : Int32), p_Q D ad p_tt s h1 H → va_S p_no s.heap H locs → p_L ls 4 [(0, .ref (ad a0)), (1, va_rf (Option.map ad o1)), (2, .int x2)] → fX3_mostUrgent_61 K h1 a0 o1 x2 = some r → W p l e rX3_mostUrgent s m args below meth c H locs 0 0 (MQ below (p_Rq ad r) args s 0 0 p_no) (F0 m 61 ls []) := by
    intro K ih H locs ls h1 a0 o1 x2 hQ hS hL hf
    rw [fX3_mostUrgent_61] at hf
    refine p_iinc (v := (x2 + 1)) (lv' := [(2, .int (x2 + 1)), (0, .ref (ad a0)), (1, va_rf (Option.map ad o1))]) hx hb dX3_mostUrgent_61 hL (k := 2) rfl rfl (by decide) rfl (fun ls hL => ?_)
    refine lv_goto (tgt := 4) hx hb dX3_mostUrgent_64 (by decide) ?_
    exact ih _ _ _ h1 a0 o1 (x2 + 1) hQ hS (hL.sub [1, 2, 0] rfl) hf
  have b59 : ∀ K : PH → Nat → Option Nat → Int32 → Option (Option Nat), (∀ (H : Heap) (locs : List Loc) (ls : Array Slot) (h1 : PH) (a0 : Nat) (o1 : Option Nat) (x2 : Int32), p_Q D ad p_tt s h1 H → va_S p_no s.heap H locs → p_L ls 4 [(0, .ref (ad a0)), (1, va_rf (Option.map ad o1)), (2, .int x2)] → K h1 a0 o1 x2 = some r → W p l e rX3_mostUrgent s m args below meth c H locs 0 0 (MQ below (p_Rq ad r) args s 0 0 p_no) (F0 m 4 ls [])) → ∀ (H : Heap) (locs : List Loc) (ls : Array Slot) (h1 : PH) (a0 : Nat) (x2 : Int32) (o3 : Option Nat), p_Q D ad p_tt s h1 H → va_S p_no s.heap H locs → p_L ls 4 [(0, .ref (ad a0)), (2, .int x2), (3, va_rf (Option.map ad o3))] → fX3_mostUrgent_59 K h1 a0 x2 o3 = some r → W p l e rX3_mostUrgent s m args below meth c H locs 0 0 (MQ below (p_Rq ad r) args s 0 0 p_no) (F0 m 59 ls []) := by
    intro K ih H locs ls h1 a0 x2 o3 hQ hS hL hf
    rw [fX3_mostUrgent_59] at hf
    refine p_aload_n (o := Option.map ad o3) hx hb dX3_mostUrgent_59 rfl (lv_at hL.1 2 rfl) ?_
    refine p_astore_n (o := Option.map ad o3) (lv' := [(1, va_rf (Option.map ad o3)), (0, .ref (ad a0)), (2, .int x2), (3, va_rf (Option.map ad o3))]) hx hb dX3_mostUrgent_60 rfl hL (by decide) rfl (fun ls hL => ?_)
    exact b61 K ih _ _ _ h1 a0 o3 x2 hQ hS (hL.sub [1, 0, 2] rfl) hf
  have b4 : ∀ n : Nat, ∀ (H : Heap) (locs : List Loc) (ls : Array Slot) (h1 : PH) (a0 : Nat) (o1 : Option Nat) (x2 : Int32), p_Q D ad p_tt s h1 H → va_S p_no s.heap H locs → p_L ls 4 [(0, .ref (ad a0)), (1, va_rf (Option.map ad o1)), (2, .int x2)] → fX3_mostUrgent_4 n h1 a0 o1 x2 = some r → W p l e rX3_mostUrgent s m args below meth c H locs 0 0 (MQ below (p_Rq ad r) args s 0 0 p_no) (F0 m 4 ls []) := by
    intro n
    induction n with
    | zero =>
      intro H locs ls h1 a0 o1 x2 hQ hS hL hf
      simp [fX3_mostUrgent_4] at hf
    | succ n ih =>
      intro H locs ls h1 a0 o1 x2 hQ hS hL hf
      rw [fX3_mostUrgent_4] at hf
      refine lv_iload_n hx hb dX3_mostUrgent_4 rfl (lv_at hL.1 2 rfl) ?_
      refine lv_aload_n hx hb dX3_mostUrgent_5 rfl (lv_at hL.1 0 rfl) ?_
      obtain ⟨a_1, e2, hf⟩ := p_b hf
      refine p_getR hC hi3 hK hQ e2 rfl (by decide) (by decide +kernel) dX3_mostUrgent_6 ?_
      obtain ⟨u3, e4, hf⟩ := p_b hf
      obtain ⟨v5, e6, hf⟩ := p_b hf
      refine p_cRi (va_runV (As := []) (rest := [.int x2]) hC (kX2_count l D ad h1 a_1 v5 e6) (cwV 0 hts gX3_mostUrgent_X2_count rfl rfl rfl (by decide +kernel) ⟨Nat.le_of_ble_eq_true rfl, Nat.le_of_ble_eq_true rfl⟩) (p_preV hK hQ.tt e4 rfl) rfl rfl hL.1.1 rfl (lv_room (Nat.le_of_ble_eq_true rfl)) dX3_mostUrgent_9 ⟨Nat.le_of_ble_eq_true rfl, Nat.le_of_ble_eq_true rfl⟩) hQ hS (fun H locs hQ hS => ?_)
      refine lv_icmp_ge (tgt := 67) hx hb dX3_mostUrgent_12 (by decide) (fun c7 => ?_) (fun c7 => ?_)
      · rw [if_pos c7] at hf
        refine p_aload_n (o := Option.map ad o1) hx hb dX3_mostUrgent_67 rfl (lv_at hL.1 1 rfl) ?_
        exact p_rRq (v := o1) hC hr hlocks hS hf dX3_mostUrgent_68
      · rw [if_neg c7] at hf
        refine lv_aload_n hx hb dX3_mostUrgent_15 rfl (lv_at hL.1 0 rfl) ?_
        obtain ⟨a_8, e9, hf⟩ := p_b hf
        refine p_getR hC hi3 hK hQ e9 rfl (by decide) (by decide +kernel) dX3_mostUrgent_16 ?_
        refine lv_iload_n hx hb dX3_mostUrgent_19 rfl (lv_at hL.1 2 rfl) ?_
        obtain ⟨u10, e11, hf⟩ := p_b hf
        obtain ⟨o_12, e13, hf⟩ := p_b hf
        refine p_cRq (va_runV (As := [.int x2]) (rest := []) hC (kX2_get l D ad h1 a_8 x2 o_12 e13) (cwV 1 hts gX3_mostUrgent_X2_get rfl rfl rfl (by decide +kernel) ⟨Nat.le_of_ble_eq_true rfl, Nat.le_of_ble_eq_true rfl⟩) (p_preV hK hQ.tt e11 rfl) rfl rfl hL.1.1 rfl (lv_room (Nat.le_of_ble_eq_true rfl)) dX3_mostUrgent_20 ⟨Nat.le_of_ble_eq_true rfl, Nat.le_of_ble_eq_true rfl⟩) hQ hS (fun H locs hQ hS => ?_)
        refine p_astore_n (o := Option.map ad o_12) (lv' := [(3, va_rf (Option.map ad o_12)), (0, .ref (ad a0)), (1, va_rf (Option.map ad o1)), (2, .int x2)]) hx hb dX3_mostUrgent_23 rfl hL (by decide) rfl (fun ls hL => ?_)
        refine p_aload_n (o := Option.map ad o_12) hx hb dX3_mostUrgent_24 rfl (lv_at hL.1 0 rfl) ?_
        cases o_12 with
        | none =>
          dsimp only at hf
          have hL : p_L ls 4 [(3, .null), (0, .ref (ad a0)), (1, va_rf (Option.map ad o1)), (2, .int x2)] := hL
          refine lv_ifnullN (tgt := 61) hx hb dX3_mostUrgent_25 (by decide) ?_
          exact b61 (fX3_mostUrgent_4 n) ih _ _ _ h1 a0 o1 x2 hQ hS (hL.sub [1, 2, 3] rfl) hf
        | some a_14 =>
          dsimp only at hf
          have hL : p_L ls 4 [(3, .ref (ad a_14)), (0, .ref (ad a0)), (1, va_rf (Option.map ad o1)), (2, .int x2)] := hL
          refine lv_ifnull hx hb dX3_mostUrgent_25 ?_
          refine lv_aload_n hx hb dX3_mostUrgent_28 rfl (lv_at hL.1 0 rfl) ?_
          obtain ⟨a_15, e16, hf⟩ := p_b hf
          refine p_getR hC hi1 hK hQ e16 rfl (by decide) (by decide +kernel) dX3_mostUrgent_29 ?_
          obtain ⟨v17, e18, hf⟩ := p_b hf
          refine p_getI hC hi0 hK hQ e18 rfl (by decide) (by decide +kernel) dX3_mostUrgent_32 ?_
          refine lv_if_eq (tgt := 61) hx hb dX3_mostUrgent_35 (by decide) (fun c19 => ?_) (fun c19 => ?_)
          · rw [if_pos c19] at hf
            exact b61 (fX3_mostUrgent_4 n) ih _ _ _ h1 a0 o1 x2 hQ hS (hL.sub [1, 2, 3] rfl) hf
          · rw [if_neg c19] at hf
            refine p_aload_n (o := Option.map ad o1) hx hb dX3_mostUrgent_38 rfl (lv_at hL.1 2 rfl) ?_
            cases o1 with
            | none =>
              dsimp only at hf
              have hL : p_L ls 4 [(3, .ref (ad a_14)), (0, .ref (ad a0)), (1, .null), (2, .int x2)] := hL
              refine lv_ifnullN (tgt := 59) hx hb dX3_mostUrgent_39 (by decide) ?_
              exact b59 (fX3_mostUrgent_4 n) ih _ _ _ h1 a0 x2 (some a_14) hQ hS (hL.sub [1, 3, 0] rfl) hf
            | some a_20 =>
              dsimp only at hf
              have hL : p_L ls 4 [(3, .ref (ad a_14)), (0, .ref (ad a0)), (1, .ref (ad a_20)), (2, .int x2)] := hL
              refine lv_ifnull hx hb dX3_mostUrgent_39 ?_
              refine lv_aload_n hx hb dX3_mostUrgent_42 rfl (lv_at hL.1 0 rfl) ?_
              obtain ⟨a_21, e22, hf⟩ := p_b hf
              refine p_getR hC hi1 hK hQ e22 rfl (by decide) (by decide +kernel) dX3_mostUrgent_43 ?_
              obtain ⟨v23, e24, hf⟩ := p_b hf
              refine p_getI hC hi0 hK hQ e24 rfl (by decide) (by decide +kernel) dX3_mostUrgent_46 ?_
              refine lv_aload_n hx hb dX3_mostUrgent_49 rfl (lv_at hL.1 2 rfl) ?_
              obtain ⟨a_25, e26, hf⟩ := p_b hf
              refine p_getR hC hi1 hK hQ e26 rfl (by decide) (by decide +kernel) dX3_mostUrgent_50 ?_
              obtain ⟨v27, e28, hf⟩ := p_b hf
              refine p_getI hC hi0 hK hQ e28 rfl (by decide) (by decide +kernel) dX3_mostUrgent_53 ?_
              refine lv_icmp_ge (tgt := 61) hx hb dX3_mostUrgent_56 (by decide) (fun c29 => ?_) (fun c29 => ?_)
              · rw [if_pos c29] at hf
                exact b61 (fX3_mostUrgent_4 n) ih _ _ _ h1 a0 (some a_20) x2 hQ hS (hL.sub [1, 2, 3] rfl) hf
              · rw [if_neg c29] at hf
                exact b59 (fX3_mostUrgent_4 n) ih _ _ _ h1 a0 x2 (some a_14) hQ hS (hL.sub [1, 3, 0] rfl) hf
  rw [fX3_mostUrgent] at hf
  refine lv_null hx hb dX3_mostUrgent_0 ?_
  refine p_astore_n (o := none) (lv' := [(1, .null), (0, .ref (ad a0))]) hx hb dX3_mostUrgent_1 rfl hL (by decide) rfl (fun ls hL => ?_)
  refine lv_iconst (v := 0) hx hb dX3_mostUrgent_2 (by decide) ?_
  refine p_istore_n (lv' := [(2, .int 0), (1, .null), (0, .ref (ad a0))]) hx hb dX3_mostUrgent_3 rfl hL (by decide) rfl (fun ls hL => ?_)
  exact b4 64 _ _ _ h a0 (none : Option Nat) 0 hQ hS (hL.sub [2, 1, 0] rfl) hf
-- X3_countMisses
abbrev rX3_countMisses : Room := { frames := 1, cells := 0, slots := 0, locals := 21 }
set_option maxHeartbeats 4000000 in
set_option maxRecDepth 100000 in
theorem kX3_countMisses (l : Launch) (D : va_G) (ad : Nat → Nat) (h : PH) (a0 : Nat)  (r : PH) (hf : fX3_countMisses h a0  = some r) : Met l yX3_countMisses wsX3_countMisses rX3_countMisses (p_pre D ad (p_A ad h) h [.ref (ad a0)]) (p_Mv D ad (p_A ad h) r) 0 0 (p_A ad h) := by
  refine Met.ofW (cc := cX3_countMisses) (maxL := 3) (ret := none) (by decide) rfl ?_
  intro p e s m args below meth c s₁ B hml hv
  obtain ⟨hargs, hK, hQ⟩ := hv
  have hx := B.exec
  have hb := B.bytes
  have hr := B.returns
  have hts := atoms_spec (ws := wsX3_countMisses) B.pre
  have hown : s.vm.findClass RX3 = some m.cls := findClass_of_methodNamed B.named
  have hlocks := B.notSynchronized
  have hC : CallFix p m c cX3_countMisses 3 s args wsX3_countMisses RX3 := ⟨hx, hb, hml, hown, hts⟩
  have hS : va_S (p_A ad h) s.heap s.heap [] := va_S.rf
  have hi0 : ∀ w ∈ u_ws RX0 TX0 9, w ∈ wsX3_countMisses := fun w hw => List.mem_cons_of_mem _ (List.mem_append_left _ (List.mem_append_right _ hw))
  have hi1 : ∀ w ∈ u_ws RX1 TX1 10, w ∈ wsX3_countMisses := fun w hw => List.mem_cons_of_mem _ (List.mem_append_left _ (List.mem_append_left _ (List.mem_append_right _ hw)))
  have hi2 : ∀ w ∈ u_ws RX2 TX2 2, w ∈ wsX3_countMisses := fun w hw => List.mem_cons_of_mem _ (List.mem_append_right _ hw)
  have hi3 : ∀ w ∈ u_ws RX3 TX3 8, w ∈ wsX3_countMisses := fun w hw => List.mem_cons_of_mem _ (List.mem_append_left _ (List.mem_append_left _ (List.mem_append_left _ (List.mem_append_right _ hw))))
  obtain ⟨ls, hls, hL⟩ := p_start (n := 3) hargs (by simp [p_cat, p_ci, p_cr, p_cn]) (Nat.le_of_ble_eq_true rfl)
  show W p l e rX3_countMisses s m args below meth c s.heap [] 0 0 (MQ below (p_Mv D ad (p_A ad h) r) args s 0 0 (p_A ad h)) (entryFrame m args 3)
  rw [hls]
  clear hls
  have hL : p_L ls 3 [(0, .ref (ad a0))] := hL
  have b57 : ∀ K : PH → Nat → Int32 → Option (PH), (∀ (H : Heap) (locs : List Loc) (ls : Array Slot) (h1 : PH) (a0 : Nat) (x1 : Int32), p_Q D ad (p_A ad h) s h1 H → va_S (p_A ad h) s.heap H locs → p_L ls 3 [(0, .ref (ad a0)), (1, .int x1)] → K h1 a0 x1 = some r → W p l e rX3_countMisses s m args below meth c H locs 0 0 (MQ below (p_Mv D ad (p_A ad h) r) args s 0 0 (p_A ad h)) (F0 m 2 ls [])) → ∀ (H : Heap) (locs : List Loc) (ls : Array Slot) (h1 : PH) (a0 : Nat) (x1 : Int32), p_Q D ad (p_A ad h) s h1 H → va_S (p_A ad h) s.heap H locs → p_L ls 3 [(0, .ref (ad a0)), (1, .int x1)] → fX3_countMisses_57 K h1 a0 x1 = some r → W p l e rX3_countMisses s m args below meth c H locs 0 0 (MQ below (p_Mv D ad (p_A ad h) r) args s 0 0 (p_A ad h)) (F0 m 57 ls []) := by
    intro K ih H locs ls h1 a0 x1 hQ hS hL hf
    rw [fX3_countMisses_57] at hf
    refine p_iinc (v := (x1 + 1)) (lv' := [(1, .int (x1 + 1)), (0, .ref (ad a0))]) hx hb dX3_countMisses_57 hL (k := 1) rfl rfl (by decide) rfl (fun ls hL => ?_)
    refine lv_goto (tgt := 2) hx hb dX3_countMisses_60 (by decide) ?_
    exact ih _ _ _ h1 a0 (x1 + 1) hQ hS (hL.sub [1, 0] rfl) hf
  have b2 : ∀ n : Nat, ∀ (H : Heap) (locs : List Loc) (ls : Array Slot) (h1 : PH) (a0 : Nat) (x1 : Int32), p_Q D ad (p_A ad h) s h1 H → va_S (p_A ad h) s.heap H locs → p_L ls 3 [(0, .ref (ad a0)), (1, .int x1)] → fX3_countMisses_2 n h1 a0 x1 = some r → W p l e rX3_countMisses s m args below meth c H locs 0 0 (MQ below (p_Mv D ad (p_A ad h) r) args s 0 0 (p_A ad h)) (F0 m 2 ls []) := by
    intro n
    induction n with
    | zero =>
      intro H locs ls h1 a0 x1 hQ hS hL hf
      simp [fX3_countMisses_2] at hf
    | succ n ih =>
      intro H locs ls h1 a0 x1 hQ hS hL hf
      rw [fX3_countMisses_2] at hf
      refine lv_iload_n hx hb dX3_countMisses_2 rfl (lv_at hL.1 1 rfl) ?_
      refine lv_aload_n hx hb dX3_countMisses_3 rfl (lv_at hL.1 0 rfl) ?_
      obtain ⟨a_1, e2, hf⟩ := p_b hf
      refine p_getR hC hi3 hK hQ e2 rfl (by decide) (by decide +kernel) dX3_countMisses_4 ?_
      obtain ⟨u3, e4, hf⟩ := p_b hf
      obtain ⟨v5, e6, hf⟩ := p_b hf
      refine p_cRi (va_runV (As := []) (rest := [.int x1]) hC (kX2_count l D ad h1 a_1 v5 e6) (cwV 0 hts gX3_countMisses_X2_count rfl rfl rfl (by decide +kernel) ⟨Nat.le_of_ble_eq_true rfl, Nat.le_of_ble_eq_true rfl⟩) (p_preV hK hQ.tt e4 rfl) rfl rfl hL.1.1 rfl (lv_room (Nat.le_of_ble_eq_true rfl)) dX3_countMisses_7 ⟨Nat.le_of_ble_eq_true rfl, Nat.le_of_ble_eq_true rfl⟩) hQ hS (fun H locs hQ hS => ?_)
      refine lv_icmp_ge (tgt := 63) hx hb dX3_countMisses_10 (by decide) (fun c7 => ?_) (fun c7 => ?_)
      · rw [if_pos c7] at hf
        exact p_rMv hC hr hlocks hQ hS hf dX3_countMisses_63
      · rw [if_neg c7] at hf
        refine lv_aload_n hx hb dX3_countMisses_13 rfl (lv_at hL.1 0 rfl) ?_
        obtain ⟨a_8, e9, hf⟩ := p_b hf
        refine p_getR hC hi3 hK hQ e9 rfl (by decide) (by decide +kernel) dX3_countMisses_14 ?_
        refine lv_iload_n hx hb dX3_countMisses_17 rfl (lv_at hL.1 1 rfl) ?_
        obtain ⟨u10, e11, hf⟩ := p_b hf
        obtain ⟨o_12, e13, hf⟩ := p_b hf
        refine p_cRq (va_runV (As := [.int x1]) (rest := []) hC (kX2_get l D ad h1 a_8 x1 o_12 e13) (cwV 1 hts gX3_countMisses_X2_get rfl rfl rfl (by decide +kernel) ⟨Nat.le_of_ble_eq_true rfl, Nat.le_of_ble_eq_true rfl⟩) (p_preV hK hQ.tt e11 rfl) rfl rfl hL.1.1 rfl (lv_room (Nat.le_of_ble_eq_true rfl)) dX3_countMisses_18 ⟨Nat.le_of_ble_eq_true rfl, Nat.le_of_ble_eq_true rfl⟩) hQ hS (fun H locs hQ hS => ?_)
        refine p_astore_n (o := Option.map ad o_12) (lv' := [(2, va_rf (Option.map ad o_12)), (0, .ref (ad a0)), (1, .int x1)]) hx hb dX3_countMisses_21 rfl hL (by decide) rfl (fun ls hL => ?_)
        refine p_aload_n (o := Option.map ad o_12) hx hb dX3_countMisses_22 rfl (lv_at hL.1 0 rfl) ?_
        cases o_12 with
        | none =>
          dsimp only at hf
          have hL : p_L ls 3 [(2, .null), (0, .ref (ad a0)), (1, .int x1)] := hL
          refine lv_ifnullN (tgt := 57) hx hb dX3_countMisses_23 (by decide) ?_
          exact b57 (fX3_countMisses_2 n) ih _ _ _ h1 a0 x1 hQ hS (hL.sub [1, 2] rfl) hf
        | some a_14 =>
          dsimp only at hf
          have hL : p_L ls 3 [(2, .ref (ad a_14)), (0, .ref (ad a0)), (1, .int x1)] := hL
          refine lv_ifnull hx hb dX3_countMisses_23 ?_
          refine lv_aload_n hx hb dX3_countMisses_26 rfl (lv_at hL.1 0 rfl) ?_
          obtain ⟨a_15, e16, hf⟩ := p_b hf
          refine p_getR hC hi1 hK hQ e16 rfl (by decide) (by decide +kernel) dX3_countMisses_27 ?_
          obtain ⟨v17, e18, hf⟩ := p_b hf
          refine p_getI hC hi0 hK hQ e18 rfl (by decide) (by decide +kernel) dX3_countMisses_30 ?_
          refine lv_if_eq (tgt := 57) hx hb dX3_countMisses_33 (by decide) (fun c19 => ?_) (fun c19 => ?_)
          · rw [if_pos c19] at hf
            exact b57 (fX3_countMisses_2 n) ih _ _ _ h1 a0 x1 hQ hS (hL.sub [1, 2] rfl) hf
          · rw [if_neg c19] at hf
            refine lv_aload_n hx hb dX3_countMisses_36 rfl (lv_at hL.1 0 rfl) ?_
            obtain ⟨a_20, e21, hf⟩ := p_b hf
            refine p_getR hC hi1 hK hQ e21 rfl (by decide) (by decide +kernel) dX3_countMisses_37 ?_
            obtain ⟨v22, e23, hf⟩ := p_b hf
            refine p_getI hC hi0 hK hQ e23 rfl (by decide) (by decide +kernel) dX3_countMisses_40 ?_
            refine lv_aload_n hx hb dX3_countMisses_43 rfl (lv_at hL.1 1 rfl) ?_
            obtain ⟨v24, e25, hf⟩ := p_b hf
            refine p_getI hC hi3 hK hQ e25 rfl (by decide) (by decide +kernel) dX3_countMisses_44 ?_
            refine lv_icmp_ne (tgt := 57) hx hb dX3_countMisses_47 (by decide) (fun c26 => ?_) (fun c26 => ?_)
            · rw [if_neg c26] at hf
              exact b57 (fX3_countMisses_2 n) ih _ _ _ h1 a0 x1 hQ hS (hL.sub [1, 2] rfl) hf
            · rw [if_pos c26] at hf
              refine lv_aload_n hx hb dX3_countMisses_50 rfl (lv_at hL.1 0 rfl) ?_
              obtain ⟨a_27, e28, hf⟩ := p_b hf
              refine p_getR hC hi1 hK hQ e28 rfl (by decide) (by decide +kernel) dX3_countMisses_51 ?_
              obtain ⟨u29, e30, hf⟩ := p_b hf
              obtain ⟨h_31, e32, hf⟩ := p_b hf
              refine p_cMv (va_runV (As := []) (rest := []) hC (kX0_miss l D ad h1 a_27 h_31 e32) (cwV 0 hts gX3_countMisses_X0_miss rfl rfl rfl (by decide +kernel) ⟨Nat.le_of_ble_eq_true rfl, Nat.le_of_ble_eq_true rfl⟩) (p_preV hK hQ.self e30 rfl) rfl rfl hL.1.1 rfl (lv_room (Nat.le_of_ble_eq_true rfl)) dX3_countMisses_54 ⟨Nat.le_of_ble_eq_true rfl, Nat.le_of_ble_eq_true rfl⟩) hQ hS (fun H locs hQ hS => ?_)
              exact b57 (fX3_countMisses_2 n) ih _ _ _ h_31 a0 x1 hQ hS (hL.sub [1, 2] rfl) hf
  rw [fX3_countMisses] at hf
  refine lv_iconst (v := 0) hx hb dX3_countMisses_0 (by decide) ?_
  refine p_istore_n (lv' := [(1, .int 0), (0, .ref (ad a0))]) hx hb dX3_countMisses_1 rfl hL (by decide) rfl (fun ls hL => ?_)
  exact b2 64 _ _ _ h a0 0 hQ hS (hL.sub [1, 0] rfl) hf
-- X3_passTick
abbrev rX3_passTick : Room := { frames := 3, cells := 0, slots := 0, locals := 64 }
set_option maxHeartbeats 4000000 in
set_option maxRecDepth 100000 in
theorem kX3_passTick (l : Launch) (D : va_G) (ad : Nat → Nat) (h : PH) (a0 : Nat)  (r : PH) (hf : fX3_passTick h a0  = some r) : Met l yX3_passTick wsX3_passTick rX3_passTick (p_pre D ad (p_A ad h) h [.ref (ad a0)]) (p_Mv D ad (p_A ad h) r) 0 0 (p_A ad h) := by
  refine Met.ofW (cc := cX3_passTick) (maxL := 2) (ret := none) (by decide) rfl ?_
  intro p e s m args below meth c s₁ B hml hv
  obtain ⟨hargs, hK, hQ⟩ := hv
  have hx := B.exec
  have hb := B.bytes
  have hr := B.returns
  have hts := atoms_spec (ws := wsX3_passTick) B.pre
  have hown : s.vm.findClass RX3 = some m.cls := findClass_of_methodNamed B.named
  have hlocks := B.notSynchronized
  have hC : CallFix p m c cX3_passTick 2 s args wsX3_passTick RX3 := ⟨hx, hb, hml, hown, hts⟩
  have hS : va_S (p_A ad h) s.heap s.heap [] := va_S.rf
  have hi0 : ∀ w ∈ u_ws RX0 TX0 9, w ∈ wsX3_passTick := fun w hw => List.mem_cons_of_mem _ (List.mem_append_left _ (List.mem_append_left _ (List.mem_append_right _ hw)))
  have hi1 : ∀ w ∈ u_ws RX1 TX1 10, w ∈ wsX3_passTick := fun w hw => List.mem_cons_of_mem _ (List.mem_append_left _ (List.mem_append_left _ (List.mem_append_left _ (List.mem_append_right _ hw))))
  have hi3 : ∀ w ∈ u_ws RX3 TX3 8, w ∈ wsX3_passTick := fun w hw => List.mem_cons_of_mem _ (List.mem_append_left _ (List.mem_append_right _ hw))
  obtain ⟨ls, hls, hL⟩ := p_start (n := 2) hargs (by simp [p_cat, p_ci, p_cr, p_cn]) (Nat.le_of_ble_eq_true rfl)
  show W p l e rX3_passTick s m args below meth c s.heap [] 0 0 (MQ below (p_Mv D ad (p_A ad h) r) args s 0 0 (p_A ad h)) (entryFrame m args 2)
  rw [hls]
  clear hls
  have hL : p_L ls 2 [(0, .ref (ad a0))] := hL
  have b74 : ∀ (H : Heap) (locs : List Loc) (ls : Array Slot) (h1 : PH) (a0 : Nat), p_Q D ad (p_A ad h) s h1 H → va_S (p_A ad h) s.heap H locs → p_L ls 2 [(0, .ref (ad a0))] → fX3_passTick_74 h1 a0 = some r → W p l e rX3_passTick s m args below meth c H locs 0 0 (MQ below (p_Mv D ad (p_A ad h) r) args s 0 0 (p_A ad h)) (F0 m 74 ls []) := by
    intro H locs ls h1 a0 hQ hS hL hf
    rw [fX3_passTick_74] at hf
    refine lv_aload_n hx hb dX3_passTick_74 rfl (lv_at hL.1 0 rfl) ?_
    obtain ⟨u1, e2, hf⟩ := p_b hf
    obtain ⟨h_3, e4, hf⟩ := p_b hf
    refine p_cMv (va_runV (As := []) (rest := []) hC (kX3_countMisses l D ad h1 a0 h_3 e4) (cwV 0 hts gX3_passTick_X3_countMisses rfl rfl rfl (by decide +kernel) ⟨Nat.le_of_ble_eq_true rfl, Nat.le_of_ble_eq_true rfl⟩) (p_preV hK hQ.self e2 rfl) rfl rfl hL.1.1 rfl (lv_room (Nat.le_of_ble_eq_true rfl)) dX3_passTick_75 ⟨Nat.le_of_ble_eq_true rfl, Nat.le_of_ble_eq_true rfl⟩) hQ hS (fun H locs hQ hS => ?_)
    exact p_rMv hC hr hlocks hQ hS hf dX3_passTick_78
  have b26 : ∀ (H : Heap) (locs : List Loc) (ls : Array Slot) (h1 : PH) (a0 : Nat) (o1 : Option Nat), p_Q D ad (p_A ad h) s h1 H → va_S (p_A ad h) s.heap H locs → p_L ls 2 [(0, .ref (ad a0)), (1, va_rf (Option.map ad o1))] → fX3_passTick_26 h1 a0 o1 = some r → W p l e rX3_passTick s m args below meth c H locs 0 0 (MQ below (p_Mv D ad (p_A ad h) r) args s 0 0 (p_A ad h)) (F0 m 26 ls []) := by
    intro H locs ls h1 a0 o1 hQ hS hL hf
    rw [fX3_passTick_26] at hf
    refine lv_aload_n hx hb dX3_passTick_26 rfl (lv_at hL.1 0 rfl) ?_
    refine lv_dup hx hb dX3_passTick_27 rfl ?_
    obtain ⟨v5, e6, hf⟩ := p_b hf
    refine p_getI hC hi3 hK hQ e6 rfl (by decide) (by decide +kernel) dX3_passTick_28 ?_
    refine lv_iconst (v := 1) hx hb dX3_passTick_31 (by decide) ?_
    refine lv_iadd hx hb dX3_passTick_32 ?_
    obtain ⟨h_7, e8, hf⟩ := p_b hf
    refine p_putI hC hi3 tyX3_ok nmX3 hK hQ hS e8 rfl (by decide) rfl rfl (by decide +kernel) dX3_passTick_33 (fun H locs hQ hS => ?_)
    refine p_aload_n (o := Option.map ad o1) hx hb dX3_passTick_36 rfl (lv_at hL.1 1 rfl) ?_
    cases o1 with
    | none =>
      dsimp only at hf
      have hL : p_L ls 2 [(0, .ref (ad a0)), (1, .null)] := hL
      refine lv_ifnullN (tgt := 74) hx hb dX3_passTick_37 (by decide) ?_
      exact b74 _ _ _ h_7 a0 hQ hS (hL.sub [0] rfl) hf
    | some a_9 =>
      dsimp only at hf
      have hL : p_L ls 2 [(0, .ref (ad a0)), (1, .ref (ad a_9))] := hL
      refine lv_ifnull hx hb dX3_passTick_37 ?_
      refine lv_aload_n hx hb dX3_passTick_40 rfl (lv_at hL.1 1 rfl) ?_
      obtain ⟨a_10, e11, hf⟩ := p_b hf
      refine p_getR hC hi1 hK hQ e11 rfl (by decide) (by decide +kernel) dX3_passTick_41 ?_
      obtain ⟨v12, e13, hf⟩ := p_b hf
      refine p_getI hC hi0 hK hQ e13 rfl (by decide) (by decide +kernel) dX3_passTick_44 ?_
      refine lv_aload_n hx hb dX3_passTick_47 rfl (lv_at hL.1 1 rfl) ?_
      obtain ⟨a_14, e15, hf⟩ := p_b hf
      refine p_getR hC hi1 hK hQ e15 rfl (by decide) (by decide +kernel) dX3_passTick_48 ?_
      obtain ⟨v16, e17, hf⟩ := p_b hf
      refine p_getI hC hi0 hK hQ e17 rfl (by decide) (by decide +kernel) dX3_passTick_51 ?_
      refine lv_icmp_lt (tgt := 74) hx hb dX3_passTick_54 (by decide) (fun c18 => ?_) (fun c18 => ?_)
      · rw [if_pos c18] at hf
        exact b74 _ _ _ h_7 a0 hQ hS (hL.sub [0] rfl) hf
      · rw [if_neg c18] at hf
        refine lv_aload_n hx hb dX3_passTick_57 rfl (lv_at hL.1 1 rfl) ?_
        refine lv_dup hx hb dX3_passTick_58 rfl ?_
        obtain ⟨v19, e20, hf⟩ := p_b hf
        refine p_getI hC hi1 hK hQ e20 rfl (by decide) (by decide +kernel) dX3_passTick_59 ?_
        refine lv_iconst (v := 1) hx hb dX3_passTick_62 (by decide) ?_
        refine lv_iadd hx hb dX3_passTick_63 ?_
        obtain ⟨h_21, e22, hf⟩ := p_b hf
        refine p_putI hC hi1 tyX1_ok nmX1 hK hQ hS e22 rfl (by decide) rfl rfl (by decide +kernel) dX3_passTick_64 (fun H locs hQ hS => ?_)
        refine lv_aload_n hx hb dX3_passTick_67 rfl (lv_at hL.1 1 rfl) ?_
        obtain ⟨a_23, e24, hf⟩ := p_b hf
        refine p_getR hC hi1 hK hQ e24 rfl (by decide) (by decide +kernel) dX3_passTick_68 ?_
        obtain ⟨u25, e26, hf⟩ := p_b hf
        obtain ⟨h_27, e28, hf⟩ := p_b hf
        refine p_cMv (va_runV (As := []) (rest := []) hC (kX0_finish l D ad h_21 a_23 h_27 e28) (cwV 0 hts gX3_passTick_X0_finish rfl rfl rfl (by decide +kernel) ⟨Nat.le_of_ble_eq_true rfl, Nat.le_of_ble_eq_true rfl⟩) (p_preV hK hQ.self e26 rfl) rfl rfl hL.1.1 rfl (lv_room (Nat.le_of_ble_eq_true rfl)) dX3_passTick_71 ⟨Nat.le_of_ble_eq_true rfl, Nat.le_of_ble_eq_true rfl⟩) hQ hS (fun H locs hQ hS => ?_)
        exact b74 _ _ _ h_27 a0 hQ hS (hL.sub [0] rfl) hf
  rw [fX3_passTick] at hf
  refine lv_aload_n hx hb dX3_passTick_0 rfl (lv_at hL.1 0 rfl) ?_
  obtain ⟨u29, e30, hf⟩ := p_b hf
  obtain ⟨h_31, e32, hf⟩ := p_b hf
  refine p_cMv (va_runV (As := []) (rest := []) hC (kX3_beginFrames l D ad h a0 h_31 e32) (cwV 0 hts gX3_passTick_X3_beginFrames rfl rfl rfl (by decide +kernel) ⟨Nat.le_of_ble_eq_true rfl, Nat.le_of_ble_eq_true rfl⟩) (p_preV hK hQ.self e30 rfl) rfl rfl hL.1.1 rfl (lv_room (Nat.le_of_ble_eq_true rfl)) dX3_passTick_1 ⟨Nat.le_of_ble_eq_true rfl, Nat.le_of_ble_eq_true rfl⟩) hQ hS (fun H locs hQ hS => ?_)
  refine lv_aload_n hx hb dX3_passTick_4 rfl (lv_at hL.1 0 rfl) ?_
  obtain ⟨u33, e34, hf⟩ := p_b hf
  obtain ⟨o_35, e36, hf⟩ := p_b hf
  refine p_cRq (va_runV (As := []) (rest := []) hC (kX3_mostUrgent l D ad h_31 a0 o_35 e36) (cwV 0 hts gX3_passTick_X3_mostUrgent rfl rfl rfl (by decide +kernel) ⟨Nat.le_of_ble_eq_true rfl, Nat.le_of_ble_eq_true rfl⟩) (p_preV hK hQ.tt e34 rfl) rfl rfl hL.1.1 rfl (lv_room (Nat.le_of_ble_eq_true rfl)) dX3_passTick_5 ⟨Nat.le_of_ble_eq_true rfl, Nat.le_of_ble_eq_true rfl⟩) hQ hS (fun H locs hQ hS => ?_)
  refine p_astore_n (o := Option.map ad o_35) (lv' := [(1, va_rf (Option.map ad o_35)), (0, .ref (ad a0))]) hx hb dX3_passTick_8 rfl hL (by decide) rfl (fun ls hL => ?_)
  refine p_aload_n (o := Option.map ad o_35) hx hb dX3_passTick_9 rfl (lv_at hL.1 0 rfl) ?_
  cases o_35 with
  | none =>
    dsimp only at hf
    have hL : p_L ls 2 [(1, .null), (0, .ref (ad a0))] := hL
    refine lv_ifnullN (tgt := 26) hx hb dX3_passTick_10 (by decide) ?_
    exact b26 _ _ _ h_31 a0 (none : Option Nat) hQ hS (hL.sub [1, 0] rfl) hf
  | some a_37 =>
    dsimp only at hf
    have hL : p_L ls 2 [(1, .ref (ad a_37)), (0, .ref (ad a0))] := hL
    refine lv_ifnull hx hb dX3_passTick_10 ?_
    refine lv_aload_n hx hb dX3_passTick_13 rfl (lv_at hL.1 0 rfl) ?_
    obtain ⟨a_38, e39, hf⟩ := p_b hf
    refine p_getR hC hi1 hK hQ e39 rfl (by decide) (by decide +kernel) dX3_passTick_14 ?_
    refine lv_dup hx hb dX3_passTick_17 rfl ?_
    obtain ⟨v40, e41, hf⟩ := p_b hf
    refine p_getI hC hi0 hK hQ e41 rfl (by decide) (by decide +kernel) dX3_passTick_18 ?_
    refine lv_iconst (v := 1) hx hb dX3_passTick_21 (by decide) ?_
    refine lv_iadd hx hb dX3_passTick_22 ?_
    obtain ⟨h_42, e43, hf⟩ := p_b hf
    refine p_putI hC hi0 tyX0_ok nmX0 hK hQ hS e43 rfl (by decide) rfl rfl (by decide +kernel) dX3_passTick_23 (fun H locs hQ hS => ?_)
    exact b26 _ _ _ h_42 a0 (some a_37) hQ hS (hL.sub [1, 0] rfl) hf
-- X3_advance
abbrev rX3_advance : Room := { frames := 6, cells := 1, slots := 6, locals := 90 }
set_option maxHeartbeats 4000000 in
set_option maxRecDepth 100000 in
theorem kX3_advance (l : Launch) (hl : l.stackTraces = false) (D : va_G) (ad : Nat → Nat) (sz : Nat) (h : PH) (a0 : Nat) (x1 : Int32)  (r : (String × PH) ⊕ (Int32 × PH)) (hf : fX3_advance h a0 x1  = some r) : vx_Met l yX3_advance wsX3_advance rX3_advance (p_preE D ad (p_A ad h) (p_A ad h) sz h [.ref (ad a0), .int x1]) (p_TMi D ad (p_A ad h) a0 r) (p_TMX D ad (p_A ad h) a0 r) 1 6 (p_A ad h) := by
  refine vx_ofW (cc := cX3_advance) (maxL := 3) (ret := (some .int)) (by decide) rfl ?_
  intro p e s m args below meth c s₁ B hml hno hv
  obtain ⟨hargs, hK, hQ, hE, hsz⟩ := hv
  have hx := B.exec
  have hb := B.bytes
  have hr := B.returns
  have hts := atoms_spec (ws := wsX3_advance) B.pre
  have hown : s.vm.findClass RX3 = some m.cls := findClass_of_methodNamed B.named
  have hlocks := B.notSynchronized
  have hC : CallFix p m c cX3_advance 3 s args wsX3_advance RX3 := ⟨hx, hb, hml, hown, hts⟩
  have hS : va_S (p_A ad h) s.heap s.heap [] := va_S.rf
  have hi3 : ∀ w ∈ u_ws RX3 TX3 8, w ∈ wsX3_advance := fun w hw => List.mem_cons_of_mem _ (List.mem_append_left _ (List.mem_append_left _ (List.mem_append_left _ (List.mem_append_left _ (List.mem_append_left _ (List.mem_append_right _ hw))))))
  obtain ⟨ls, hls, hL⟩ := p_start (n := 3) hargs (by simp [p_cat, p_ci, p_cr, p_cn]) (Nat.le_of_ble_eq_true rfl)
  show W p l e rX3_advance s m args below meth c s.heap [] 0 0 (vx_MQ below (p_TMi D ad (p_A ad h) a0 r) (p_TMX D ad (p_A ad h) a0 r) args s 1 6 (p_A ad h)) (entryFrame m args 3)
  rw [hls]
  clear hls
  have hL : p_L ls 3 [(0, .ref (ad a0)), (1, .int x1)] := hL
  have b45 : ∀ n : Nat, ∀ (H : Heap) (locs : List Loc) (ls : Array Slot) (h1 : PH) (a0 : Nat) (x1 : Int32) (x2 : Int32), p_Q D ad (p_A ad h) s h1 H → va_S (p_A ad h) s.heap H locs → p_L ls 3 [(0, .ref (ad a0)), (1, .int x1), (2, .int x2)] → fX3_advance_45 n h1 a0 x1 x2 = some r → W p l e rX3_advance s m args below meth c H locs 0 0 (vx_MQ below (p_TMi D ad (p_A ad h) a0 r) (p_TMX D ad (p_A ad h) a0 r) args s 1 6 (p_A ad h)) (F0 m 45 ls []) := by
    intro n
    induction n with
    | zero =>
      intro H locs ls h1 a0 x1 x2 hQ hS hL hf
      simp [fX3_advance_45] at hf
    | succ n ih =>
      intro H locs ls h1 a0 x1 x2 hQ hS hL hf
      rw [fX3_advance_45] at hf
      refine lv_iload_n hx hb dX3_advance_45 rfl (lv_at hL.1 2 rfl) ?_
      refine lv_iload_n hx hb dX3_advance_46 rfl (lv_at hL.1 1 rfl) ?_
      refine lv_icmp_ge (tgt := 60) hx hb dX3_advance_47 (by decide) (fun c1 => ?_) (fun c1 => ?_)
      · rw [if_pos c1] at hf
        refine lv_aload_n hx hb dX3_advance_60 rfl (lv_at hL.1 0 rfl) ?_
        obtain ⟨v2, e3, hf⟩ := p_b hf
        refine p_getI hC hi3 hK hQ e3 rfl (by decide) (by decide +kernel) dX3_advance_61 ?_
        exact p_tMi hC hr hlocks hQ hS rfl hf (Nat.le_of_ble_eq_true rfl) (Nat.le_of_ble_eq_true rfl) dX3_advance_64
      · rw [if_neg c1] at hf
        refine lv_aload_n hx hb dX3_advance_50 rfl (lv_at hL.1 0 rfl) ?_
        obtain ⟨u4, e5, hf⟩ := p_b hf
        obtain ⟨h_6, e7, hf⟩ := p_b hf
        refine p_cMv (va_runV (As := []) (rest := []) hC (kX3_passTick l D ad h1 a0 h_6 e7) (cwV 0 hts gX3_advance_X3_passTick rfl rfl rfl (by decide +kernel) ⟨Nat.le_of_ble_eq_true rfl, Nat.le_of_ble_eq_true rfl⟩) (p_preV hK hQ.self e5 rfl) rfl rfl hL.1.1 rfl (lv_room (Nat.le_of_ble_eq_true rfl)) dX3_advance_51 ⟨Nat.le_of_ble_eq_true rfl, Nat.le_of_ble_eq_true rfl⟩) hQ hS (fun H locs hQ hS => ?_)
        refine p_iinc (v := (x2 + 1)) (lv' := [(2, .int (x2 + 1)), (0, .ref (ad a0)), (1, .int x1)]) hx hb dX3_advance_54 hL (k := 2) rfl rfl (by decide) rfl (fun ls hL => ?_)
        refine lv_goto (tgt := 45) hx hb dX3_advance_57 (by decide) ?_
        exact ih _ _ _ h_6 a0 x1 (x2 + 1) hQ hS (hL.sub [1, 2, 0] rfl) hf
  have b12 : ∀ (H : Heap) (locs : List Loc) (ls : Array Slot) (h1 : PH) , p_Q D ad (p_A ad h) s h1 H → va_S (p_A ad h) s.heap H locs → p_L ls 3 [] → fX3_advance_12 h1  = some r → W p l e rX3_advance s m args below meth c H locs 0 0 (vx_MQ below (p_TMi D ad (p_A ad h) a0 r) (p_TMX D ad (p_A ad h) a0 r) args s 1 6 (p_A ad h)) (F0 m 12 ls []) := by
    intro H locs ls h1  hQ hS hL hf
    rw [fX3_advance_12] at hf
    exact p_throw (text := "ticks is out of range") hC hl hlocks hno (by decide +kernel) (by decide +kernel) (by decide +kernel) hE (by decide +kernel) (fun w hw => List.mem_cons_of_mem _ (List.mem_append_left _ (List.mem_append_right _ hw))) p_t1 p_g1 hS hL.1.1 dX3_advance_12 dX3_advance_15 dX3_advance_16 dX3_advance_18 dX3_advance_21 (Nat.le_of_ble_eq_true rfl) (Nat.le_of_ble_eq_true rfl) (Nat.le_of_ble_eq_true rfl) (Nat.le_of_ble_eq_true rfl) (fun t hvm hz hk => p_xM hf hQ hS rfl hvm hz hk) hS.2.2 (Nat.le_of_ble_eq_true rfl) (Nat.le_of_ble_eq_true rfl)
  rw [fX3_advance] at hf
  refine lv_iload_n hx hb dX3_advance_0 rfl (lv_at hL.1 1 rfl) ?_
  refine lv_iconst (v := 1) hx hb dX3_advance_1 (by decide) ?_
  refine lv_icmp_lt (tgt := 12) hx hb dX3_advance_2 (by decide) (fun c8 => ?_) (fun c8 => ?_)
  · rw [if_pos c8] at hf
    exact b12 _ _ _ h  hQ hS (hL.sub [] rfl) hf
  · rw [if_neg c8] at hf
    refine lv_iload_n hx hb dX3_advance_5 rfl (lv_at hL.1 1 rfl) ?_
    refine lv_sipush (v := 200) hx hb dX3_advance_6 (by decide) ?_
    refine lv_icmp_le (tgt := 22) hx hb dX3_advance_9 (by decide) (fun c9 => ?_) (fun c9 => ?_)
    · rw [if_pos c9] at hf
      refine lv_aload_n hx hb dX3_advance_22 rfl (lv_at hL.1 0 rfl) ?_
      obtain ⟨v10, e11, hf⟩ := p_b hf
      refine p_getI hC hi3 hK hQ e11 rfl (by decide) (by decide +kernel) dX3_advance_23 ?_
      refine lv_iload_n hx hb dX3_advance_26 rfl (lv_at hL.1 1 rfl) ?_
      refine lv_iadd hx hb dX3_advance_27 ?_
      refine lv_ldc (v := 100000) hx hb hown (hts (.constant RX3 127 (100000)) (by decide +kernel)) dX3_advance_28 ?_
      refine lv_icmp_le (tgt := 43) hx hb dX3_advance_30 (by decide) (fun c12 => ?_) (fun c12 => ?_)
      · rw [if_pos c12] at hf
        refine lv_iconst (v := 0) hx hb dX3_advance_43 (by decide) ?_
        refine p_istore_n (lv' := [(2, .int 0), (0, .ref (ad a0)), (1, .int x1)]) hx hb dX3_advance_44 rfl hL (by decide) rfl (fun ls hL => ?_)
        exact b45 300 _ _ _ h a0 x1 0 hQ hS (hL.sub [1, 2, 0] rfl) hf
      · rw [if_neg c12] at hf
        exact p_throw (text := "the tick would be above the last one") hC hl hlocks hno (by decide +kernel) (by decide +kernel) (by decide +kernel) hE (by decide +kernel) (fun w hw => List.mem_cons_of_mem _ (List.mem_append_right _ hw)) p_t2 p_g2 hS hL.1.1 dX3_advance_33 dX3_advance_36 dX3_advance_37 dX3_advance_39 dX3_advance_42 (Nat.le_of_ble_eq_true rfl) (Nat.le_of_ble_eq_true rfl) (Nat.le_of_ble_eq_true rfl) (Nat.le_of_ble_eq_true rfl) (fun t hvm hz hk => p_xM hf hQ hS rfl hvm hz hk) hS.2.2 (Nat.le_of_ble_eq_true rfl) (Nat.le_of_ble_eq_true rfl)
    · rw [if_neg c9] at hf
      exact b12 _ _ _ h  hQ hS (hL.sub [] rfl) hf
-- X3_findTopmost
abbrev rX3_findTopmost : Room := { frames := 6, cells := 1, slots := 6, locals := 90 }
set_option maxHeartbeats 4000000 in
set_option maxRecDepth 100000 in
theorem kX3_findTopmost (l : Launch) (hl : l.stackTraces = false) (D : va_G) (ad : Nat → Nat) (A : Nat → Prop) (sz : Nat) (h : PH) (a0 : Nat) (x1 : Int32) (x2 : Int32)  (r : String ⊕ (Option Nat)) (hf : fX3_findTopmost h a0 x1 x2  = some r) : vx_Met l yX3_findTopmost wsX3_findTopmost rX3_findTopmost (p_preE D ad p_tt A sz h [.ref (ad a0), .int x1, .int x2]) (p_TRq ad r) (p_TRX r) 1 6 p_no := by
  refine vx_ofW (cc := cX3_findTopmost) (maxL := 3) (ret := (some (.object "FrameBroker$Window"))) (by decide) rfl ?_
  intro p e s m args below meth c s₁ B hml hno hv
  obtain ⟨hargs, hK, hQ, hE, hsz⟩ := hv
  have hE : p_E p_no s s.heap := hE.narrow fun _ h9 => h9.elim
  have hx := B.exec
  have hb := B.bytes
  have hr := B.returns
  have hts := atoms_spec (ws := wsX3_findTopmost) B.pre
  have hown : s.vm.findClass RX3 = some m.cls := findClass_of_methodNamed B.named
  have hlocks := B.notSynchronized
  have hC : CallFix p m c cX3_findTopmost 3 s args wsX3_findTopmost RX3 := ⟨hx, hb, hml, hown, hts⟩
  have hS : va_S p_no s.heap s.heap [] := va_S.rf
  have hi3 : ∀ w ∈ u_ws RX3 TX3 8, w ∈ wsX3_findTopmost := fun w hw => List.mem_cons_of_mem _ (List.mem_append_left _ (List.mem_append_right _ hw))
  obtain ⟨ls, hls, hL⟩ := p_start (n := 3) hargs (by simp [p_cat, p_ci, p_cr, p_cn]) (Nat.le_of_ble_eq_true rfl)
  show W p l e rX3_findTopmost s m args below meth c s.heap [] 0 0 (vx_MQ below (p_TRq ad r) (p_TRX r) args s 1 6 p_no) (entryFrame m args 3)
  rw [hls]
  clear hls
  have hL : p_L ls 3 [(0, .ref (ad a0)), (1, .int x1), (2, .int x2)] := hL
  rw [fX3_findTopmost] at hf
  refine lv_iload_n hx hb dX3_findTopmost_0 rfl (lv_at hL.1 1 rfl) ?_
  refine lv_iload_n hx hb dX3_findTopmost_1 rfl (lv_at hL.1 2 rfl) ?_
  obtain ⟨v1, e2, hf⟩ := p_b hf
  refine p_cRi (va_runS (As := [.int x1, .int x2]) (rest := []) hC (kX3_isCell l D ad h x1 x2 v1 e2) (cwS 2 hts gX3_findTopmost_X3_isCell rfl rfl rfl (by decide +kernel) ⟨Nat.le_of_ble_eq_true rfl, Nat.le_of_ble_eq_true rfl⟩) (p_preS hK hQ.tt) rfl rfl hL.1.1 rfl (lv_room (Nat.le_of_ble_eq_true rfl)) dX3_findTopmost_2 ⟨Nat.le_of_ble_eq_true rfl, Nat.le_of_ble_eq_true rfl⟩) hQ hS (fun H locs hQ hS => ?_)
  refine lv_if_ne (tgt := 18) hx hb dX3_findTopmost_5 (by decide) (fun c3 => ?_) (fun c3 => ?_)
  · rw [if_neg c3] at hf
    refine lv_aload_n hx hb dX3_findTopmost_18 rfl (lv_at hL.1 0 rfl) ?_
    obtain ⟨a_4, e5, hf⟩ := p_b hf
    refine p_getR hC hi3 hK hQ e5 rfl (by decide) (by decide +kernel) dX3_findTopmost_19 ?_
    refine lv_iload_n hx hb dX3_findTopmost_22 rfl (lv_at hL.1 2 rfl) ?_
    refine lv_bipush (v := 8) hx hb dX3_findTopmost_23 (by decide) ?_
    refine lv_imul hx hb dX3_findTopmost_25 ?_
    refine lv_iload_n hx hb dX3_findTopmost_26 rfl (lv_at hL.1 1 rfl) ?_
    refine lv_iadd hx hb dX3_findTopmost_27 ?_
    obtain ⟨o_7, e6, hf⟩ := p_b hf
    refine p_aald hC hQ e6 dX3_findTopmost_28 ?_
    exact p_tRq (v := o_7) hC hr hlocks hS hf (Nat.le_of_ble_eq_true rfl) (Nat.le_of_ble_eq_true rfl) dX3_findTopmost_29
  · rw [if_pos c3] at hf
    exact p_throw (text := "there is no such cell") hC hl hlocks hno (by decide +kernel) (by decide +kernel) (by decide +kernel) hE (by decide +kernel) (fun w hw => List.mem_cons_of_mem _ (List.mem_append_right _ hw)) p_t3 p_g3 hS hL.1.1 dX3_findTopmost_8 dX3_findTopmost_11 dX3_findTopmost_12 dX3_findTopmost_14 dX3_findTopmost_17 (Nat.le_of_ble_eq_true rfl) (Nat.le_of_ble_eq_true rfl) (Nat.le_of_ble_eq_true rfl) (Nat.le_of_ble_eq_true rfl) (fun t hvm hz hk => p_xR hf hS hz hk) hS.2.2 (Nat.le_of_ble_eq_true rfl) (Nat.le_of_ble_eq_true rfl)
-- X3_numberOf
abbrev rX3_numberOf : Room := { frames := 0, cells := 0, slots := 0, locals := 0 }
set_option maxHeartbeats 4000000 in
set_option maxRecDepth 100000 in
theorem kX3_numberOf (l : Launch) (D : va_G) (ad : Nat → Nat) (h : PH) (o0 : Option Nat)  (r : Int32) (hf : fX3_numberOf h o0  = some r) : Met l yX3_numberOf wsX3_numberOf rX3_numberOf (p_pre D ad p_tt h [va_rf (Option.map ad o0)]) (p_Ri r) 0 0 p_no := by
  refine Met.ofW (cc := cX3_numberOf) (maxL := 1) (ret := (some .int)) (by decide) rfl ?_
  intro p e s m args below meth c s₁ B hml hv
  obtain ⟨hargs, hK, hQ⟩ := hv
  have hx := B.exec
  have hb := B.bytes
  have hr := B.returns
  have hts := atoms_spec (ws := wsX3_numberOf) B.pre
  have hown : s.vm.findClass RX3 = some m.cls := findClass_of_methodNamed B.named
  have hlocks := B.notSynchronized
  have hC : CallFix p m c cX3_numberOf 1 s args wsX3_numberOf RX3 := ⟨hx, hb, hml, hown, hts⟩
  have hS : va_S p_no s.heap s.heap [] := va_S.rf
  have hi1 : ∀ w ∈ u_ws RX1 TX1 10, w ∈ wsX3_numberOf := fun w hw => List.mem_cons_of_mem _ (List.mem_append_right _ hw)
  obtain ⟨ls, hls, hL⟩ := p_start (n := 1) hargs (by simp [p_cat, p_ci, p_cr, p_cn]) (Nat.le_of_ble_eq_true rfl)
  show W p l e rX3_numberOf s m args below meth c s.heap [] 0 0 (MQ below (p_Ri r) args s 0 0 p_no) (entryFrame m args 1)
  rw [hls]
  clear hls
  have hL : p_L ls 1 [(0, va_rf (Option.map ad o0))] := hL
  have b12 : ∀ (H : Heap) (locs : List Loc) (ls : Array Slot) (h1 : PH) (sx0 : Int32), p_Q D ad p_tt s h1 H → va_S p_no s.heap H locs → p_L ls 1 [] → fX3_numberOf_12 h1 sx0 = some r → W p l e rX3_numberOf s m args below meth c H locs 0 0 (MQ below (p_Ri r) args s 0 0 p_no) (F0 m 12 ls [.int sx0]) := by
    intro H locs ls h1 sx0 hQ hS hL hf
    rw [fX3_numberOf_12] at hf
    exact p_rRi hC hr hlocks hS hf dX3_numberOf_12
  unfold fX3_numberOf at hf
  refine p_aload_n (o := Option.map ad o0) hx hb dX3_numberOf_0 rfl (lv_at hL.1 0 rfl) ?_
  cases o0 with
  | none =>
    dsimp only at hf
    have hL : p_L ls 1 [(0, .null)] := hL
    refine lv_ifnonnullN hx hb dX3_numberOf_1 ?_
    refine lv_iconst (v := -1) hx hb dX3_numberOf_4 (by decide) ?_
    refine lv_goto (tgt := 12) hx hb dX3_numberOf_5 (by decide) ?_
    exact b12 _ _ _ h (-1) hQ hS (hL.sub [] rfl) hf
  | some a_1 =>
    dsimp only at hf
    have hL : p_L ls 1 [(0, .ref (ad a_1))] := hL
    refine lv_ifnonnull (tgt := 8) hx hb dX3_numberOf_1 (by decide) ?_
    refine lv_aload_n hx hb dX3_numberOf_8 rfl (lv_at hL.1 0 rfl) ?_
    obtain ⟨v2, e3, hf⟩ := p_b hf
    refine p_getI hC hi1 hK hQ e3 rfl (by decide) (by decide +kernel) dX3_numberOf_9 ?_
    exact b12 _ _ _ h v2 hQ hS (hL.sub [] rfl) hf
-- X3_input
abbrev rX3_input : Room := { frames := 7, cells := 1, slots := 6, locals := 112 }
set_option maxHeartbeats 4000000 in
set_option maxRecDepth 100000 in
theorem kX3_input (l : Launch) (hl : l.stackTraces = false) (D : va_G) (ad : Nat → Nat) (sz : Nat) (h : PH) (a0 : Nat) (x1 : Int32) (x2 : Int32)  (r : (String × PH) ⊕ (Int32 × PH)) (hf : fX3_input h a0 x1 x2  = some r) : vx_Met l yX3_input wsX3_input rX3_input (p_preE D ad (p_A ad h) (p_A ad h) sz h [.ref (ad a0), .int x1, .int x2]) (p_TMi D ad (p_A ad h) a0 r) (p_TMX D ad (p_A ad h) a0 r) 1 6 (p_A ad h) := by
  refine vx_ofW (cc := cX3_input) (maxL := 4) (ret := (some .int)) (by decide) rfl ?_
  intro p e s m args below meth c s₁ B hml hno hv
  obtain ⟨hargs, hK, hQ, hE, hsz⟩ := hv
  have hx := B.exec
  have hb := B.bytes
  have hr := B.returns
  have hts := atoms_spec (ws := wsX3_input) B.pre
  have hown : s.vm.findClass RX3 = some m.cls := findClass_of_methodNamed B.named
  have hlocks := B.notSynchronized
  have hC : CallFix p m c cX3_input 4 s args wsX3_input RX3 := ⟨hx, hb, hml, hown, hts⟩
  have hS : va_S (p_A ad h) s.heap s.heap [] := va_S.rf
  have hi0 : ∀ w ∈ u_ws RX0 TX0 9, w ∈ wsX3_input := fun w hw => List.mem_cons_of_mem _ (List.mem_append_left _ (List.mem_append_right _ hw))
  have hi1 : ∀ w ∈ u_ws RX1 TX1 10, w ∈ wsX3_input := fun w hw => List.mem_cons_of_mem _ (List.mem_append_left _ (List.mem_append_left _ (List.mem_append_left _ (List.mem_append_right _ hw))))
  have hi3 : ∀ w ∈ u_ws RX3 TX3 8, w ∈ wsX3_input := fun w hw => List.mem_cons_of_mem _ (List.mem_append_left _ (List.mem_append_left _ (List.mem_append_right _ hw)))
  obtain ⟨ls, hls, hL⟩ := p_start (n := 4) hargs (by simp [p_cat, p_ci, p_cr, p_cn]) (Nat.le_of_ble_eq_true rfl)
  show W p l e rX3_input s m args below meth c s.heap [] 0 0 (vx_MQ below (p_TMi D ad (p_A ad h) a0 r) (p_TMX D ad (p_A ad h) a0 r) args s 1 6 (p_A ad h)) (entryFrame m args 4)
  rw [hls]
  clear hls
  have hL : p_L ls 4 [(0, .ref (ad a0)), (1, .int x1), (2, .int x2)] := hL
  have b29 : ∀ (H : Heap) (locs : List Loc) (ls : Array Slot) (h1 : PH) (o3 : Option Nat), p_Q D ad (p_A ad h) s h1 H → va_S (p_A ad h) s.heap H locs → p_L ls 4 [(3, va_rf (Option.map ad o3))] → fX3_input_29 h1 o3 = some r → W p l e rX3_input s m args below meth c H locs 1 6 (vx_MQ below (p_TMi D ad (p_A ad h) a0 r) (p_TMX D ad (p_A ad h) a0 r) args s 1 6 (p_A ad h)) (F0 m 29 ls []) := by
    intro H locs ls h1 o3 hQ hS hL hf
    rw [fX3_input_29] at hf
    refine p_aload_n (o := Option.map ad o3) hx hb dX3_input_29 rfl (lv_at hL.1 0 rfl) ?_
    obtain ⟨v1, e2, hf⟩ := p_b hf
    refine p_cRi (va_runS (As := [va_rf (Option.map ad o3)]) (rest := []) hC (kX3_numberOf l D ad h1 o3 v1 e2) (cwS 1 hts gX3_input_X3_numberOf rfl rfl rfl (by decide +kernel) ⟨Nat.le_of_ble_eq_true rfl, Nat.le_of_ble_eq_true rfl⟩) (p_preS hK hQ.tt) rfl rfl hL.1.1 rfl (lv_room (Nat.le_of_ble_eq_true rfl)) dX3_input_30 ⟨Nat.le_of_ble_eq_true rfl, Nat.le_of_ble_eq_true rfl⟩) hQ hS (fun H locs hQ hS => ?_)
    exact p_tMi hC hr hlocks hQ hS rfl hf (Nat.le_of_ble_eq_true rfl) (Nat.le_of_ble_eq_true rfl) dX3_input_33
  rw [fX3_input] at hf
  refine lv_aload_n hx hb dX3_input_0 rfl (lv_at hL.1 0 rfl) ?_
  refine lv_iload_n hx hb dX3_input_1 rfl (lv_at hL.1 1 rfl) ?_
  refine lv_iload_n hx hb dX3_input_2 rfl (lv_at hL.1 2 rfl) ?_
  obtain ⟨u3, e4, hf⟩ := p_b hf
  obtain ⟨o_5, e6, hf⟩ := p_b hf
  cases o_5 with
  | inl Ex7 =>
    dsimp only at hf
    exact p_cTq_x (vx_runV (As := [.int x1, .int x2]) (rest := []) hC (kX3_findTopmost l hl D ad p_no _ h a0 x1 x2 _ e6) (cwV 2 hts gX3_input_X3_findTopmost rfl rfl rfl (by decide +kernel) ⟨Nat.le_of_ble_eq_true rfl, Nat.le_of_ble_eq_true rfl⟩) (p_preVE hK hQ.tt ((hE.kept hS.2.1).narrow fun _ h9 => h9.elim) rfl e4 rfl) rfl rfl hL.1.1 rfl (lv_room (Nat.le_of_ble_eq_true rfl)) dX3_input_3 ⟨Nat.le_of_ble_eq_true rfl, Nat.le_of_ble_eq_true rfl⟩) hS hno hlocks (fun t hvm hz hk => p_xM hf hQ hS rfl hvm hz hk) (fun x hx => hx) (Nat.le_of_ble_eq_true rfl) (Nat.le_of_ble_eq_true rfl)
  | inr o_7 =>
    dsimp only at hf
    refine p_cTq_r (vx_runV (As := [.int x1, .int x2]) (rest := []) hC (kX3_findTopmost l hl D ad p_no _ h a0 x1 x2 _ e6) (cwV 2 hts gX3_input_X3_findTopmost rfl rfl rfl (by decide +kernel) ⟨Nat.le_of_ble_eq_true rfl, Nat.le_of_ble_eq_true rfl⟩) (p_preVE hK hQ.tt ((hE.kept hS.2.1).narrow fun _ h9 => h9.elim) rfl e4 rfl) rfl rfl hL.1.1 rfl (lv_room (Nat.le_of_ble_eq_true rfl)) dX3_input_3 ⟨Nat.le_of_ble_eq_true rfl, Nat.le_of_ble_eq_true rfl⟩) hQ hS (fun H locs hQ hS => ?_)
    refine p_astore_n (o := Option.map ad o_7) (lv' := [(3, va_rf (Option.map ad o_7)), (0, .ref (ad a0)), (1, .int x1), (2, .int x2)]) hx hb dX3_input_6 rfl hL (by decide) rfl (fun ls hL => ?_)
    refine p_aload_n (o := Option.map ad o_7) hx hb dX3_input_7 rfl (lv_at hL.1 0 rfl) ?_
    cases o_7 with
    | none =>
      dsimp only at hf
      have hL : p_L ls 4 [(3, .null), (0, .ref (ad a0)), (1, .int x1), (2, .int x2)] := hL
      refine lv_ifnullN (tgt := 29) hx hb dX3_input_8 (by decide) ?_
      exact b29 _ _ _ h (none : Option Nat) hQ hS (hL.sub [0] rfl) hf
    | some a_8 =>
      dsimp only at hf
      have hL : p_L ls 4 [(3, .ref (ad a_8)), (0, .ref (ad a0)), (1, .int x1), (2, .int x2)] := hL
      refine lv_ifnull hx hb dX3_input_8 ?_
      refine lv_aload_n hx hb dX3_input_11 rfl (lv_at hL.1 0 rfl) ?_
      obtain ⟨v9, e10, hf⟩ := p_b hf
      refine p_getI hC hi1 hK hQ e10 rfl (by decide) (by decide +kernel) dX3_input_12 ?_
      refine lv_if_eq (tgt := 29) hx hb dX3_input_15 (by decide) (fun c11 => ?_) (fun c11 => ?_)
      · rw [if_pos c11] at hf
        exact b29 _ _ _ h (some a_8) hQ hS (hL.sub [0] rfl) hf
      · rw [if_neg c11] at hf
        refine lv_aload_n hx hb dX3_input_18 rfl (lv_at hL.1 0 rfl) ?_
        obtain ⟨a_12, e13, hf⟩ := p_b hf
        refine p_getR hC hi1 hK hQ e13 rfl (by decide) (by decide +kernel) dX3_input_19 ?_
        refine lv_aload_n hx hb dX3_input_22 rfl (lv_at hL.1 1 rfl) ?_
        obtain ⟨v14, e15, hf⟩ := p_b hf
        refine p_getI hC hi3 hK hQ e15 rfl (by decide) (by decide +kernel) dX3_input_23 ?_
        obtain ⟨u16, e17, hf⟩ := p_b hf
        obtain ⟨h_18, e19, hf⟩ := p_b hf
        refine p_cMv (va_runV (As := [.int v14]) (rest := []) hC (kX0_hurry l D ad h a_12 v14 h_18 e19) (cwV 1 hts gX3_input_X0_hurry rfl rfl rfl (by decide +kernel) ⟨Nat.le_of_ble_eq_true rfl, Nat.le_of_ble_eq_true rfl⟩) (p_preV hK hQ.self e17 rfl) rfl rfl hL.1.1 rfl (lv_room (Nat.le_of_ble_eq_true rfl)) dX3_input_26 ⟨Nat.le_of_ble_eq_true rfl, Nat.le_of_ble_eq_true rfl⟩) hQ hS (fun H locs hQ hS => ?_)
        exact b29 _ _ _ h_18 (some a_8) hQ hS (hL.sub [0] rfl) hf
-- X3_pictureOf
abbrev rX3_pictureOf : Room := { frames := 0, cells := 0, slots := 0, locals := 0 }
set_option maxHeartbeats 4000000 in
set_option maxRecDepth 100000 in
theorem kX3_pictureOf (l : Launch) (D : va_G) (ad : Nat → Nat) (h : PH) (o0 : Option Nat)  (r : Int32) (hf : fX3_pictureOf h o0  = some r) : Met l yX3_pictureOf wsX3_pictureOf rX3_pictureOf (p_pre D ad p_tt h [va_rf (Option.map ad o0)]) (p_Ri r) 0 0 p_no := by
  refine Met.ofW (cc := cX3_pictureOf) (maxL := 1) (ret := (some .int)) (by decide) rfl ?_
  intro p e s m args below meth c s₁ B hml hv
  obtain ⟨hargs, hK, hQ⟩ := hv
  have hx := B.exec
  have hb := B.bytes
  have hr := B.returns
  have hts := atoms_spec (ws := wsX3_pictureOf) B.pre
  have hown : s.vm.findClass RX3 = some m.cls := findClass_of_methodNamed B.named
  have hlocks := B.notSynchronized
  have hC : CallFix p m c cX3_pictureOf 1 s args wsX3_pictureOf RX3 := ⟨hx, hb, hml, hown, hts⟩
  have hS : va_S p_no s.heap s.heap [] := va_S.rf
  have hi1 : ∀ w ∈ u_ws RX1 TX1 10, w ∈ wsX3_pictureOf := fun w hw => List.mem_cons_of_mem _ (List.mem_append_right _ hw)
  obtain ⟨ls, hls, hL⟩ := p_start (n := 1) hargs (by simp [p_cat, p_ci, p_cr, p_cn]) (Nat.le_of_ble_eq_true rfl)
  show W p l e rX3_pictureOf s m args below meth c s.heap [] 0 0 (MQ below (p_Ri r) args s 0 0 p_no) (entryFrame m args 1)
  rw [hls]
  clear hls
  have hL : p_L ls 1 [(0, va_rf (Option.map ad o0))] := hL
  have b12 : ∀ (H : Heap) (locs : List Loc) (ls : Array Slot) (h1 : PH) (sx0 : Int32), p_Q D ad p_tt s h1 H → va_S p_no s.heap H locs → p_L ls 1 [] → fX3_pictureOf_12 h1 sx0 = some r → W p l e rX3_pictureOf s m args below meth c H locs 0 0 (MQ below (p_Ri r) args s 0 0 p_no) (F0 m 12 ls [.int sx0]) := by
    intro H locs ls h1 sx0 hQ hS hL hf
    rw [fX3_pictureOf_12] at hf
    exact p_rRi hC hr hlocks hS hf dX3_pictureOf_12
  unfold fX3_pictureOf at hf
  refine p_aload_n (o := Option.map ad o0) hx hb dX3_pictureOf_0 rfl (lv_at hL.1 0 rfl) ?_
  cases o0 with
  | none =>
    dsimp only at hf
    have hL : p_L ls 1 [(0, .null)] := hL
    refine lv_ifnonnullN hx hb dX3_pictureOf_1 ?_
    refine lv_iconst (v := 0) hx hb dX3_pictureOf_4 (by decide) ?_
    refine lv_goto (tgt := 12) hx hb dX3_pictureOf_5 (by decide) ?_
    exact b12 _ _ _ h 0 hQ hS (hL.sub [] rfl) hf
  | some a_1 =>
    dsimp only at hf
    have hL : p_L ls 1 [(0, .ref (ad a_1))] := hL
    refine lv_ifnonnull (tgt := 8) hx hb dX3_pictureOf_1 (by decide) ?_
    refine lv_aload_n hx hb dX3_pictureOf_8 rfl (lv_at hL.1 0 rfl) ?_
    obtain ⟨v2, e3, hf⟩ := p_b hf
    refine p_getI hC hi1 hK hQ e3 rfl (by decide) (by decide +kernel) dX3_pictureOf_9 ?_
    exact b12 _ _ _ h v2 hQ hS (hL.sub [] rfl) hf
-- X3_countDamage
abbrev rX3_countDamage : Room := { frames := 1, cells := 0, slots := 0, locals := 20 }
set_option maxHeartbeats 4000000 in
set_option maxRecDepth 100000 in
theorem kX3_countDamage (l : Launch) (D : va_G) (ad : Nat → Nat) (h : PH) (a0 : Nat)  (r : Int32) (hf : fX3_countDamage h a0  = some r) : Met l yX3_countDamage wsX3_countDamage rX3_countDamage (p_pre D ad p_tt h [.ref (ad a0)]) (p_Ri r) 0 0 p_no := by
  refine Met.ofW (cc := cX3_countDamage) (maxL := 4) (ret := (some .int)) (by decide) rfl ?_
  intro p e s m args below meth c s₁ B hml hv
  obtain ⟨hargs, hK, hQ⟩ := hv
  have hx := B.exec
  have hb := B.bytes
  have hr := B.returns
  have hts := atoms_spec (ws := wsX3_countDamage) B.pre
  have hown : s.vm.findClass RX3 = some m.cls := findClass_of_methodNamed B.named
  have hlocks := B.notSynchronized
  have hC : CallFix p m c cX3_countDamage 4 s args wsX3_countDamage RX3 := ⟨hx, hb, hml, hown, hts⟩
  have hS : va_S p_no s.heap s.heap [] := va_S.rf
  have hi3 : ∀ w ∈ u_ws RX3 TX3 8, w ∈ wsX3_countDamage := fun w hw => List.mem_cons_of_mem _ (List.mem_append_left _ (List.mem_append_right _ hw))
  obtain ⟨ls, hls, hL⟩ := p_start (n := 4) hargs (by simp [p_cat, p_ci, p_cr, p_cn]) (Nat.le_of_ble_eq_true rfl)
  show W p l e rX3_countDamage s m args below meth c s.heap [] 0 0 (MQ below (p_Ri r) args s 0 0 p_no) (entryFrame m args 4)
  rw [hls]
  clear hls
  have hL : p_L ls 4 [(0, .ref (ad a0))] := hL
  have b46 : ∀ K : PH → Nat → Int32 → Int32 → Option (Int32), (∀ (H : Heap) (locs : List Loc) (ls : Array Slot) (h1 : PH) (a0 : Nat) (x1 : Int32) (x2 : Int32), p_Q D ad p_tt s h1 H → va_S p_no s.heap H locs → p_L ls 4 [(0, .ref (ad a0)), (1, .int x1), (2, .int x2)] → K h1 a0 x1 x2 = some r → W p l e rX3_countDamage s m args below meth c H locs 0 0 (MQ below (p_Ri r) args s 0 0 p_no) (F0 m 4 ls [])) → ∀ (H : Heap) (locs : List Loc) (ls : Array Slot) (h1 : PH) (a0 : Nat) (x1 : Int32) (x2 : Int32), p_Q D ad p_tt s h1 H → va_S p_no s.heap H locs → p_L ls 4 [(0, .ref (ad a0)), (1, .int x1), (2, .int x2)] → fX3_countDamage_46 K h1 a0 x1 x2 = some r → W p l e rX3_countDamage s m args below meth c H locs 0 0 (MQ below (p_Ri r) args s 0 0 p_no) (F0 m 46 ls []) := by
    intro K ih H locs ls h1 a0 x1 x2 hQ hS hL hf
    rw [fX3_countDamage_46] at hf
    refine p_iinc (v := (x2 + 1)) (lv' := [(2, .int (x2 + 1)), (0, .ref (ad a0)), (1, .int x1)]) hx hb dX3_countDamage_46 hL (k := 2) rfl rfl (by decide) rfl (fun ls hL => ?_)
    refine lv_goto (tgt := 4) hx hb dX3_countDamage_49 (by decide) ?_
    exact ih _ _ _ h1 a0 x1 (x2 + 1) hQ hS (hL.sub [1, 2, 0] rfl) hf
  have b43 : ∀ K : PH → Nat → Int32 → Int32 → Option (Int32), (∀ (H : Heap) (locs : List Loc) (ls : Array Slot) (h1 : PH) (a0 : Nat) (x1 : Int32) (x2 : Int32), p_Q D ad p_tt s h1 H → va_S p_no s.heap H locs → p_L ls 4 [(0, .ref (ad a0)), (1, .int x1), (2, .int x2)] → K h1 a0 x1 x2 = some r → W p l e rX3_countDamage s m args below meth c H locs 0 0 (MQ below (p_Ri r) args s 0 0 p_no) (F0 m 4 ls [])) → ∀ (H : Heap) (locs : List Loc) (ls : Array Slot) (h1 : PH) (a0 : Nat) (x1 : Int32) (x2 : Int32), p_Q D ad p_tt s h1 H → va_S p_no s.heap H locs → p_L ls 4 [(0, .ref (ad a0)), (1, .int x1), (2, .int x2)] → fX3_countDamage_43 K h1 a0 x1 x2 = some r → W p l e rX3_countDamage s m args below meth c H locs 0 0 (MQ below (p_Ri r) args s 0 0 p_no) (F0 m 43 ls []) := by
    intro K ih H locs ls h1 a0 x1 x2 hQ hS hL hf
    rw [fX3_countDamage_43] at hf
    refine p_iinc (v := (x1 + 1)) (lv' := [(1, .int (x1 + 1)), (0, .ref (ad a0)), (2, .int x2)]) hx hb dX3_countDamage_43 hL (k := 1) rfl rfl (by decide) rfl (fun ls hL => ?_)
    exact b46 K ih _ _ _ h1 a0 (x1 + 1) x2 hQ hS (hL.sub [1, 0, 2] rfl) hf
  have b4 : ∀ n : Nat, ∀ (H : Heap) (locs : List Loc) (ls : Array Slot) (h1 : PH) (a0 : Nat) (x1 : Int32) (x2 : Int32), p_Q D ad p_tt s h1 H → va_S p_no s.heap H locs → p_L ls 4 [(0, .ref (ad a0)), (1, .int x1), (2, .int x2)] → fX3_countDamage_4 n h1 a0 x1 x2 = some r → W p l e rX3_countDamage s m args below meth c H locs 0 0 (MQ below (p_Ri r) args s 0 0 p_no) (F0 m 4 ls []) := by
    intro n
    induction n with
    | zero =>
      intro H locs ls h1 a0 x1 x2 hQ hS hL hf
      simp [fX3_countDamage_4] at hf
    | succ n ih =>
      intro H locs ls h1 a0 x1 x2 hQ hS hL hf
      rw [fX3_countDamage_4] at hf
      refine lv_iload_n hx hb dX3_countDamage_4 rfl (lv_at hL.1 2 rfl) ?_
      refine lv_bipush (v := 48) hx hb dX3_countDamage_5 (by decide) ?_
      refine lv_icmp_ge (tgt := 52) hx hb dX3_countDamage_7 (by decide) (fun c1 => ?_) (fun c1 => ?_)
      · rw [if_pos c1] at hf
        refine lv_iload_n hx hb dX3_countDamage_52 rfl (lv_at hL.1 1 rfl) ?_
        exact p_rRi hC hr hlocks hS hf dX3_countDamage_53
      · rw [if_neg c1] at hf
        refine lv_aload_n hx hb dX3_countDamage_10 rfl (lv_at hL.1 0 rfl) ?_
        obtain ⟨a_2, e3, hf⟩ := p_b hf
        refine p_getR hC hi3 hK hQ e3 rfl (by decide) (by decide +kernel) dX3_countDamage_11 ?_
        refine lv_iload_n hx hb dX3_countDamage_14 rfl (lv_at hL.1 2 rfl) ?_
        obtain ⟨o_5, e4, hf⟩ := p_b hf
        refine p_aald hC hQ e4 dX3_countDamage_15 ?_
        refine p_astore_n (o := Option.map ad o_5) (lv' := [(3, va_rf (Option.map ad o_5)), (0, .ref (ad a0)), (1, .int x1), (2, .int x2)]) hx hb dX3_countDamage_16 rfl hL (by decide) rfl (fun ls hL => ?_)
        refine p_aload_n (o := Option.map ad o_5) hx hb dX3_countDamage_17 rfl (lv_at hL.1 0 rfl) ?_
        obtain ⟨v6, e7, hf⟩ := p_b hf
        refine p_cRi (va_runS (As := [va_rf (Option.map ad o_5)]) (rest := []) hC (kX3_numberOf l D ad h1 o_5 v6 e7) (cwS 1 hts gX3_countDamage_X3_numberOf rfl rfl rfl (by decide +kernel) ⟨Nat.le_of_ble_eq_true rfl, Nat.le_of_ble_eq_true rfl⟩) (p_preS hK hQ.tt) rfl rfl hL.1.1 rfl (lv_room (Nat.le_of_ble_eq_true rfl)) dX3_countDamage_18 ⟨Nat.le_of_ble_eq_true rfl, Nat.le_of_ble_eq_true rfl⟩) hQ hS (fun H locs hQ hS => ?_)
        refine lv_aload_n hx hb dX3_countDamage_21 rfl (lv_at hL.1 1 rfl) ?_
        obtain ⟨a_8, e9, hf⟩ := p_b hf
        refine p_getR hC hi3 hK hQ e9 rfl (by decide) (by decide +kernel) dX3_countDamage_22 ?_
        refine lv_iload_n hx hb dX3_countDamage_25 rfl (lv_at hL.1 3 rfl) ?_
        obtain ⟨v11, e10, hf⟩ := p_b hf
        refine p_iald hC hQ e10 dX3_countDamage_26 ?_
        refine lv_icmp_ne (tgt := 43) hx hb dX3_countDamage_27 (by decide) (fun c12 => ?_) (fun c12 => ?_)
        · rw [if_neg c12] at hf
          exact b43 (fX3_countDamage_4 n) ih _ _ _ h1 a0 x1 x2 hQ hS (hL.sub [1, 2, 3] rfl) hf
        · rw [if_pos c12] at hf
          refine p_aload_n (o := Option.map ad o_5) hx hb dX3_countDamage_30 rfl (lv_at hL.1 0 rfl) ?_
          obtain ⟨v13, e14, hf⟩ := p_b hf
          refine p_cRi (va_runS (As := [va_rf (Option.map ad o_5)]) (rest := []) hC (kX3_pictureOf l D ad h1 o_5 v13 e14) (cwS 1 hts gX3_countDamage_X3_pictureOf rfl rfl rfl (by decide +kernel) ⟨Nat.le_of_ble_eq_true rfl, Nat.le_of_ble_eq_true rfl⟩) (p_preS hK hQ.tt) rfl rfl hL.1.1 rfl (lv_room (Nat.le_of_ble_eq_true rfl)) dX3_countDamage_31 ⟨Nat.le_of_ble_eq_true rfl, Nat.le_of_ble_eq_true rfl⟩) hQ hS (fun H locs hQ hS => ?_)
          refine lv_aload_n hx hb dX3_countDamage_34 rfl (lv_at hL.1 1 rfl) ?_
          obtain ⟨a_15, e16, hf⟩ := p_b hf
          refine p_getR hC hi3 hK hQ e16 rfl (by decide) (by decide +kernel) dX3_countDamage_35 ?_
          refine lv_iload_n hx hb dX3_countDamage_38 rfl (lv_at hL.1 3 rfl) ?_
          obtain ⟨v18, e17, hf⟩ := p_b hf
          refine p_iald hC hQ e17 dX3_countDamage_39 ?_
          refine lv_icmp_eq (tgt := 46) hx hb dX3_countDamage_40 (by decide) (fun c19 => ?_) (fun c19 => ?_)
          · rw [if_pos c19] at hf
            exact b46 (fX3_countDamage_4 n) ih _ _ _ h1 a0 x1 x2 hQ hS (hL.sub [1, 2, 3] rfl) hf
          · rw [if_neg c19] at hf
            exact b43 (fX3_countDamage_4 n) ih _ _ _ h1 a0 x1 x2 hQ hS (hL.sub [1, 2, 3] rfl) hf
  rw [fX3_countDamage] at hf
  refine lv_iconst (v := 0) hx hb dX3_countDamage_0 (by decide) ?_
  refine p_istore_n (lv' := [(1, .int 0), (0, .ref (ad a0))]) hx hb dX3_countDamage_1 rfl hL (by decide) rfl (fun ls hL => ?_)
  refine lv_iconst (v := 0) hx hb dX3_countDamage_2 (by decide) ?_
  refine p_istore_n (lv' := [(2, .int 0), (1, .int 0), (0, .ref (ad a0))]) hx hb dX3_countDamage_3 rfl hL (by decide) rfl (fun ls hL => ?_)
  exact b4 64 _ _ _ h a0 0 0 hQ hS (hL.sub [2, 1, 0] rfl) hf
-- X3_rememberScreen
abbrev rX3_rememberScreen : Room := { frames := 1, cells := 0, slots := 0, locals := 20 }
set_option maxHeartbeats 4000000 in
set_option maxRecDepth 100000 in
theorem kX3_rememberScreen (l : Launch) (D : va_G) (ad : Nat → Nat) (h : PH) (a0 : Nat)  (r : PH) (hf : fX3_rememberScreen h a0  = some r) : Met l yX3_rememberScreen wsX3_rememberScreen rX3_rememberScreen (p_pre D ad (p_A ad h) h [.ref (ad a0)]) (p_Mv D ad (p_A ad h) r) 0 0 (p_A ad h) := by
  refine Met.ofW (cc := cX3_rememberScreen) (maxL := 3) (ret := none) (by decide) rfl ?_
  intro p e s m args below meth c s₁ B hml hv
  obtain ⟨hargs, hK, hQ⟩ := hv
  have hx := B.exec
  have hb := B.bytes
  have hr := B.returns
  have hts := atoms_spec (ws := wsX3_rememberScreen) B.pre
  have hown : s.vm.findClass RX3 = some m.cls := findClass_of_methodNamed B.named
  have hlocks := B.notSynchronized
  have hC : CallFix p m c cX3_rememberScreen 3 s args wsX3_rememberScreen RX3 := ⟨hx, hb, hml, hown, hts⟩
  have hS : va_S (p_A ad h) s.heap s.heap [] := va_S.rf
  have hi3 : ∀ w ∈ u_ws RX3 TX3 8, w ∈ wsX3_rememberScreen := fun w hw => List.mem_cons_of_mem _ (List.mem_append_left _ (List.mem_append_right _ hw))
  obtain ⟨ls, hls, hL⟩ := p_start (n := 3) hargs (by simp [p_cat, p_ci, p_cr, p_cn]) (Nat.le_of_ble_eq_true rfl)
  show W p l e rX3_rememberScreen s m args below meth c s.heap [] 0 0 (MQ below (p_Mv D ad (p_A ad h) r) args s 0 0 (p_A ad h)) (entryFrame m args 3)
  rw [hls]
  clear hls
  have hL : p_L ls 3 [(0, .ref (ad a0))] := hL
  have b2 : ∀ n : Nat, ∀ (H : Heap) (locs : List Loc) (ls : Array Slot) (h1 : PH) (a0 : Nat) (x1 : Int32), p_Q D ad (p_A ad h) s h1 H → va_S (p_A ad h) s.heap H locs → p_L ls 3 [(0, .ref (ad a0)), (1, .int x1)] → fX3_rememberScreen_2 n h1 a0 x1 = some r → W p l e rX3_rememberScreen s m args below meth c H locs 0 0 (MQ below (p_Mv D ad (p_A ad h) r) args s 0 0 (p_A ad h)) (F0 m 2 ls []) := by
    intro n
    induction n with
    | zero =>
      intro H locs ls h1 a0 x1 hQ hS hL hf
      simp [fX3_rememberScreen_2] at hf
    | succ n ih =>
      intro H locs ls h1 a0 x1 hQ hS hL hf
      rw [fX3_rememberScreen_2] at hf
      refine lv_iload_n hx hb dX3_rememberScreen_2 rfl (lv_at hL.1 1 rfl) ?_
      refine lv_bipush (v := 48) hx hb dX3_rememberScreen_3 (by decide) ?_
      refine lv_icmp_ge (tgt := 41) hx hb dX3_rememberScreen_5 (by decide) (fun c1 => ?_) (fun c1 => ?_)
      · rw [if_pos c1] at hf
        exact p_rMv hC hr hlocks hQ hS hf dX3_rememberScreen_41
      · rw [if_neg c1] at hf
        refine lv_aload_n hx hb dX3_rememberScreen_8 rfl (lv_at hL.1 0 rfl) ?_
        obtain ⟨a_2, e3, hf⟩ := p_b hf
        refine p_getR hC hi3 hK hQ e3 rfl (by decide) (by decide +kernel) dX3_rememberScreen_9 ?_
        refine lv_iload_n hx hb dX3_rememberScreen_12 rfl (lv_at hL.1 1 rfl) ?_
        obtain ⟨o_5, e4, hf⟩ := p_b hf
        refine p_aald hC hQ e4 dX3_rememberScreen_13 ?_
        refine p_astore_n (o := Option.map ad o_5) (lv' := [(2, va_rf (Option.map ad o_5)), (0, .ref (ad a0)), (1, .int x1)]) hx hb dX3_rememberScreen_14 rfl hL (by decide) rfl (fun ls hL => ?_)
        refine lv_aload_n hx hb dX3_rememberScreen_15 rfl (lv_at hL.1 1 rfl) ?_
        obtain ⟨a_6, e7, hf⟩ := p_b hf
        refine p_getR hC hi3 hK hQ e7 rfl (by decide) (by decide +kernel) dX3_rememberScreen_16 ?_
        refine lv_iload_n hx hb dX3_rememberScreen_19 rfl (lv_at hL.1 2 rfl) ?_
        refine p_aload_n (o := Option.map ad o_5) hx hb dX3_rememberScreen_20 rfl (lv_at hL.1 0 rfl) ?_
        obtain ⟨v8, e9, hf⟩ := p_b hf
        refine p_cRi (va_runS (As := [va_rf (Option.map ad o_5)]) (rest := [.int x1, .ref (ad a_6)]) hC (kX3_numberOf l D ad h1 o_5 v8 e9) (cwS 1 hts gX3_rememberScreen_X3_numberOf rfl rfl rfl (by decide +kernel) ⟨Nat.le_of_ble_eq_true rfl, Nat.le_of_ble_eq_true rfl⟩) (p_preS hK hQ.tt) rfl rfl hL.1.1 rfl (lv_room (Nat.le_of_ble_eq_true rfl)) dX3_rememberScreen_21 ⟨Nat.le_of_ble_eq_true rfl, Nat.le_of_ble_eq_true rfl⟩) hQ hS (fun H locs hQ hS => ?_)
        obtain ⟨h_10, e11, hf⟩ := p_b hf
        refine p_iast hC hQ hS e11 dX3_rememberScreen_24 (fun H locs hQ hS => ?_)
        refine lv_aload_n hx hb dX3_rememberScreen_25 rfl (lv_at hL.1 1 rfl) ?_
        obtain ⟨a_12, e13, hf⟩ := p_b hf
        refine p_getR hC hi3 hK hQ e13 rfl (by decide) (by decide +kernel) dX3_rememberScreen_26 ?_
        refine lv_iload_n hx hb dX3_rememberScreen_29 rfl (lv_at hL.1 2 rfl) ?_
        refine p_aload_n (o := Option.map ad o_5) hx hb dX3_rememberScreen_30 rfl (lv_at hL.1 0 rfl) ?_
        obtain ⟨v14, e15, hf⟩ := p_b hf
        refine p_cRi (va_runS (As := [va_rf (Option.map ad o_5)]) (rest := [.int x1, .ref (ad a_12)]) hC (kX3_pictureOf l D ad h_10 o_5 v14 e15) (cwS 1 hts gX3_rememberScreen_X3_pictureOf rfl rfl rfl (by decide +kernel) ⟨Nat.le_of_ble_eq_true rfl, Nat.le_of_ble_eq_true rfl⟩) (p_preS hK hQ.tt) rfl rfl hL.1.1 rfl (lv_room (Nat.le_of_ble_eq_true rfl)) dX3_rememberScreen_31 ⟨Nat.le_of_ble_eq_true rfl, Nat.le_of_ble_eq_true rfl⟩) hQ hS (fun H locs hQ hS => ?_)
        obtain ⟨h_16, e17, hf⟩ := p_b hf
        refine p_iast hC hQ hS e17 dX3_rememberScreen_34 (fun H locs hQ hS => ?_)
        refine p_iinc (v := (x1 + 1)) (lv' := [(1, .int (x1 + 1)), (2, va_rf (Option.map ad o_5)), (0, .ref (ad a0))]) hx hb dX3_rememberScreen_35 hL (k := 2) rfl rfl (by decide) rfl (fun ls hL => ?_)
        refine lv_goto (tgt := 2) hx hb dX3_rememberScreen_38 (by decide) ?_
        exact ih _ _ _ h_16 a0 (x1 + 1) hQ hS (hL.sub [2, 0] rfl) hf
  rw [fX3_rememberScreen] at hf
  refine lv_iconst (v := 0) hx hb dX3_rememberScreen_0 (by decide) ?_
  refine p_istore_n (lv' := [(1, .int 0), (0, .ref (ad a0))]) hx hb dX3_rememberScreen_1 rfl hL (by decide) rfl (fun ls hL => ?_)
  exact b2 64 _ _ _ h a0 0 hQ hS (hL.sub [1, 0] rfl) hf
-- X3_show
abbrev rX3_show : Room := { frames := 2, cells := 0, slots := 0, locals := 43 }
set_option maxHeartbeats 4000000 in
set_option maxRecDepth 100000 in
theorem kX3_show (l : Launch) (D : va_G) (ad : Nat → Nat) (h : PH) (a0 : Nat)  (r : Int32 × PH) (hf : fX3_show h a0  = some r) : Met l yX3_show wsX3_show rX3_show (p_pre D ad (p_A ad h) h [.ref (ad a0)]) (p_Mi D ad (p_A ad h) r) 0 0 (p_A ad h) := by
  refine Met.ofW (cc := cX3_show) (maxL := 2) (ret := (some .int)) (by decide) rfl ?_
  intro p e s m args below meth c s₁ B hml hv
  obtain ⟨hargs, hK, hQ⟩ := hv
  have hx := B.exec
  have hb := B.bytes
  have hr := B.returns
  have hts := atoms_spec (ws := wsX3_show) B.pre
  have hown : s.vm.findClass RX3 = some m.cls := findClass_of_methodNamed B.named
  have hlocks := B.notSynchronized
  have hC : CallFix p m c cX3_show 2 s args wsX3_show RX3 := ⟨hx, hb, hml, hown, hts⟩
  have hS : va_S (p_A ad h) s.heap s.heap [] := va_S.rf
  have hi3 : ∀ w ∈ u_ws RX3 TX3 8, w ∈ wsX3_show := fun w hw => List.mem_cons_of_mem _ (List.mem_append_left _ (List.mem_append_right _ hw))
  obtain ⟨ls, hls, hL⟩ := p_start (n := 2) hargs (by simp [p_cat, p_ci, p_cr, p_cn]) (Nat.le_of_ble_eq_true rfl)
  show W p l e rX3_show s m args below meth c s.heap [] 0 0 (MQ below (p_Mi D ad (p_A ad h) r) args s 0 0 (p_A ad h)) (entryFrame m args 2)
  rw [hls]
  clear hls
  have hL : p_L ls 2 [(0, .ref (ad a0))] := hL
  rw [fX3_show] at hf
  refine lv_aload_n hx hb dX3_show_0 rfl (lv_at hL.1 0 rfl) ?_
  obtain ⟨u1, e2, hf⟩ := p_b hf
  obtain ⟨v3, e4, hf⟩ := p_b hf
  refine p_cRi (va_runV (As := []) (rest := []) hC (kX3_countDamage l D ad h a0 v3 e4) (cwV 0 hts gX3_show_X3_countDamage rfl rfl rfl (by decide +kernel) ⟨Nat.le_of_ble_eq_true rfl, Nat.le_of_ble_eq_true rfl⟩) (p_preV hK hQ.tt e2 rfl) rfl rfl hL.1.1 rfl (lv_room (Nat.le_of_ble_eq_true rfl)) dX3_show_1 ⟨Nat.le_of_ble_eq_true rfl, Nat.le_of_ble_eq_true rfl⟩) hQ hS (fun H locs hQ hS => ?_)
  refine p_istore_n (lv' := [(1, .int v3), (0, .ref (ad a0))]) hx hb dX3_show_4 rfl hL (by decide) rfl (fun ls hL => ?_)
  refine lv_aload_n hx hb dX3_show_5 rfl (lv_at hL.1 1 rfl) ?_
  obtain ⟨u5, e6, hf⟩ := p_b hf
  obtain ⟨h_7, e8, hf⟩ := p_b hf
  refine p_cMv (va_runV (As := []) (rest := []) hC (kX3_rememberScreen l D ad h a0 h_7 e8) (cwV 0 hts gX3_show_X3_rememberScreen rfl rfl rfl (by decide +kernel) ⟨Nat.le_of_ble_eq_true rfl, Nat.le_of_ble_eq_true rfl⟩) (p_preV hK hQ.self e6 rfl) rfl rfl hL.1.1 rfl (lv_room (Nat.le_of_ble_eq_true rfl)) dX3_show_6 ⟨Nat.le_of_ble_eq_true rfl, Nat.le_of_ble_eq_true rfl⟩) hQ hS (fun H locs hQ hS => ?_)
  refine lv_iload_n hx hb dX3_show_9 rfl (lv_at hL.1 0 rfl) ?_
  exact p_rMi hC hr hlocks hQ hS hf dX3_show_10
-- X3_tick
abbrev rX3_tick : Room := { frames := 0, cells := 0, slots := 0, locals := 0 }
set_option maxHeartbeats 4000000 in
set_option maxRecDepth 100000 in
theorem kX3_tick (l : Launch) (D : va_G) (ad : Nat → Nat) (h : PH) (a0 : Nat)  (r : Int32) (hf : fX3_tick h a0  = some r) : Met l yX3_tick wsX3_tick rX3_tick (p_pre D ad p_tt h [.ref (ad a0)]) (p_Ri r) 0 0 p_no := by
  refine Met.ofW (cc := cX3_tick) (maxL := 1) (ret := (some .int)) (by decide) rfl ?_
  intro p e s m args below meth c s₁ B hml hv
  obtain ⟨hargs, hK, hQ⟩ := hv
  have hx := B.exec
  have hb := B.bytes
  have hr := B.returns
  have hts := atoms_spec (ws := wsX3_tick) B.pre
  have hown : s.vm.findClass RX3 = some m.cls := findClass_of_methodNamed B.named
  have hlocks := B.notSynchronized
  have hC : CallFix p m c cX3_tick 1 s args wsX3_tick RX3 := ⟨hx, hb, hml, hown, hts⟩
  have hS : va_S p_no s.heap s.heap [] := va_S.rf
  have hi3 : ∀ w ∈ u_ws RX3 TX3 8, w ∈ wsX3_tick := fun w hw => List.mem_cons_of_mem _ (List.mem_append_right _ hw)
  obtain ⟨ls, hls, hL⟩ := p_start (n := 1) hargs (by simp [p_cat, p_ci, p_cr, p_cn]) (Nat.le_of_ble_eq_true rfl)
  show W p l e rX3_tick s m args below meth c s.heap [] 0 0 (MQ below (p_Ri r) args s 0 0 p_no) (entryFrame m args 1)
  rw [hls]
  clear hls
  have hL : p_L ls 1 [(0, .ref (ad a0))] := hL
  rw [fX3_tick] at hf
  refine lv_aload_n hx hb dX3_tick_0 rfl (lv_at hL.1 0 rfl) ?_
  obtain ⟨v1, e2, hf⟩ := p_b hf
  refine p_getI hC hi3 hK hQ e2 rfl (by decide) (by decide +kernel) dX3_tick_1 ?_
  exact p_rRi hC hr hlocks hS hf dX3_tick_4
-- X3_windows
abbrev rX3_windows : Room := { frames := 1, cells := 0, slots := 0, locals := 20 }
set_option maxHeartbeats 4000000 in
set_option maxRecDepth 100000 in
theorem kX3_windows (l : Launch) (D : va_G) (ad : Nat → Nat) (h : PH) (a0 : Nat)  (r : Int32) (hf : fX3_windows h a0  = some r) : Met l yX3_windows wsX3_windows rX3_windows (p_pre D ad p_tt h [.ref (ad a0)]) (p_Ri r) 0 0 p_no := by
  refine Met.ofW (cc := cX3_windows) (maxL := 1) (ret := (some .int)) (by decide) rfl ?_
  intro p e s m args below meth c s₁ B hml hv
  obtain ⟨hargs, hK, hQ⟩ := hv
  have hx := B.exec
  have hb := B.bytes
  have hr := B.returns
  have hts := atoms_spec (ws := wsX3_windows) B.pre
  have hown : s.vm.findClass RX3 = some m.cls := findClass_of_methodNamed B.named
  have hlocks := B.notSynchronized
  have hC : CallFix p m c cX3_windows 1 s args wsX3_windows RX3 := ⟨hx, hb, hml, hown, hts⟩
  have hS : va_S p_no s.heap s.heap [] := va_S.rf
  have hi2 : ∀ w ∈ u_ws RX2 TX2 2, w ∈ wsX3_windows := fun w hw => List.mem_cons_of_mem _ (List.mem_append_right _ hw)
  have hi3 : ∀ w ∈ u_ws RX3 TX3 8, w ∈ wsX3_windows := fun w hw => List.mem_cons_of_mem _ (List.mem_append_left _ (List.mem_append_right _ hw))
  obtain ⟨ls, hls, hL⟩ := p_start (n := 1) hargs (by simp [p_cat, p_ci, p_cr, p_cn]) (Nat.le_of_ble_eq_true rfl)
  show W p l e rX3_windows s m args below meth c s.heap [] 0 0 (MQ below (p_Ri r) args s 0 0 p_no) (entryFrame m args 1)
  rw [hls]
  clear hls
  have hL : p_L ls 1 [(0, .ref (ad a0))] := hL
  rw [fX3_windows] at hf
  refine lv_aload_n hx hb dX3_windows_0 rfl (lv_at hL.1 0 rfl) ?_
  obtain ⟨a_1, e2, hf⟩ := p_b hf
  refine p_getR hC hi3 hK hQ e2 rfl (by decide) (by decide +kernel) dX3_windows_1 ?_
  obtain ⟨u3, e4, hf⟩ := p_b hf
  obtain ⟨v5, e6, hf⟩ := p_b hf
  refine p_cRi (va_runV (As := []) (rest := []) hC (kX2_count l D ad h a_1 v5 e6) (cwV 0 hts gX3_windows_X2_count rfl rfl rfl (by decide +kernel) ⟨Nat.le_of_ble_eq_true rfl, Nat.le_of_ble_eq_true rfl⟩) (p_preV hK hQ.tt e4 rfl) rfl rfl hL.1.1 rfl (lv_room (Nat.le_of_ble_eq_true rfl)) dX3_windows_4 ⟨Nat.le_of_ble_eq_true rfl, Nat.le_of_ble_eq_true rfl⟩) hQ hS (fun H locs hQ hS => ?_)
  exact p_rRi hC hr hlocks hS hf dX3_windows_7
-- X3_free
abbrev rX3_free : Room := { frames := 0, cells := 0, slots := 0, locals := 0 }
set_option maxHeartbeats 4000000 in
set_option maxRecDepth 100000 in
theorem kX3_free (l : Launch) (D : va_G) (ad : Nat → Nat) (h : PH) (a0 : Nat)  (r : Int32) (hf : fX3_free h a0  = some r) : Met l yX3_free wsX3_free rX3_free (p_pre D ad p_tt h [.ref (ad a0)]) (p_Ri r) 0 0 p_no := by
  refine Met.ofW (cc := cX3_free) (maxL := 1) (ret := (some .int)) (by decide) rfl ?_
  intro p e s m args below meth c s₁ B hml hv
  obtain ⟨hargs, hK, hQ⟩ := hv
  have hx := B.exec
  have hb := B.bytes
  have hr := B.returns
  have hts := atoms_spec (ws := wsX3_free) B.pre
  have hown : s.vm.findClass RX3 = some m.cls := findClass_of_methodNamed B.named
  have hlocks := B.notSynchronized
  have hC : CallFix p m c cX3_free 1 s args wsX3_free RX3 := ⟨hx, hb, hml, hown, hts⟩
  have hS : va_S p_no s.heap s.heap [] := va_S.rf
  have hi3 : ∀ w ∈ u_ws RX3 TX3 8, w ∈ wsX3_free := fun w hw => List.mem_cons_of_mem _ (List.mem_append_right _ hw)
  obtain ⟨ls, hls, hL⟩ := p_start (n := 1) hargs (by simp [p_cat, p_ci, p_cr, p_cn]) (Nat.le_of_ble_eq_true rfl)
  show W p l e rX3_free s m args below meth c s.heap [] 0 0 (MQ below (p_Ri r) args s 0 0 p_no) (entryFrame m args 1)
  rw [hls]
  clear hls
  have hL : p_L ls 1 [(0, .ref (ad a0))] := hL
  rw [fX3_free] at hf
  refine lv_aload_n hx hb dX3_free_0 rfl (lv_at hL.1 0 rfl) ?_
  obtain ⟨v1, e2, hf⟩ := p_b hf
  refine p_getI hC hi3 hK hQ e2 rfl (by decide) (by decide +kernel) dX3_free_1 ?_
  exact p_rRi hC hr hlocks hS hf dX3_free_4
-- X3_damage
abbrev rX3_damage : Room := { frames := 2, cells := 0, slots := 0, locals := 43 }
set_option maxHeartbeats 4000000 in
set_option maxRecDepth 100000 in
theorem kX3_damage (l : Launch) (D : va_G) (ad : Nat → Nat) (h : PH) (a0 : Nat)  (r : Int32) (hf : fX3_damage h a0  = some r) : Met l yX3_damage wsX3_damage rX3_damage (p_pre D ad p_tt h [.ref (ad a0)]) (p_Ri r) 0 0 p_no := by
  refine Met.ofW (cc := cX3_damage) (maxL := 1) (ret := (some .int)) (by decide) rfl ?_
  intro p e s m args below meth c s₁ B hml hv
  obtain ⟨hargs, hK, hQ⟩ := hv
  have hx := B.exec
  have hb := B.bytes
  have hr := B.returns
  have hts := atoms_spec (ws := wsX3_damage) B.pre
  have hown : s.vm.findClass RX3 = some m.cls := findClass_of_methodNamed B.named
  have hlocks := B.notSynchronized
  have hC : CallFix p m c cX3_damage 1 s args wsX3_damage RX3 := ⟨hx, hb, hml, hown, hts⟩
  have hS : va_S p_no s.heap s.heap [] := va_S.rf
  have hi3 : ∀ w ∈ u_ws RX3 TX3 8, w ∈ wsX3_damage := fun w hw => List.mem_cons_of_mem _ (List.mem_append_left _ (List.mem_append_right _ hw))
  obtain ⟨ls, hls, hL⟩ := p_start (n := 1) hargs (by simp [p_cat, p_ci, p_cr, p_cn]) (Nat.le_of_ble_eq_true rfl)
  show W p l e rX3_damage s m args below meth c s.heap [] 0 0 (MQ below (p_Ri r) args s 0 0 p_no) (entryFrame m args 1)
  rw [hls]
  clear hls
  have hL : p_L ls 1 [(0, .ref (ad a0))] := hL
  rw [fX3_damage] at hf
  refine lv_aload_n hx hb dX3_damage_0 rfl (lv_at hL.1 0 rfl) ?_
  obtain ⟨u1, e2, hf⟩ := p_b hf
  obtain ⟨v3, e4, hf⟩ := p_b hf
  refine p_cRi (va_runV (As := []) (rest := []) hC (kX3_countDamage l D ad h a0 v3 e4) (cwV 0 hts gX3_damage_X3_countDamage rfl rfl rfl (by decide +kernel) ⟨Nat.le_of_ble_eq_true rfl, Nat.le_of_ble_eq_true rfl⟩) (p_preV hK hQ.tt e2 rfl) rfl rfl hL.1.1 rfl (lv_room (Nat.le_of_ble_eq_true rfl)) dX3_damage_1 ⟨Nat.le_of_ble_eq_true rfl, Nat.le_of_ble_eq_true rfl⟩) hQ hS (fun H locs hQ hS => ?_)
  exact p_rRi hC hr hlocks hS hf dX3_damage_4
-- X3_at
abbrev rX3_at : Room := { frames := 7, cells := 1, slots := 6, locals := 112 }
set_option maxHeartbeats 4000000 in
set_option maxRecDepth 100000 in
theorem kX3_at (l : Launch) (hl : l.stackTraces = false) (D : va_G) (ad : Nat → Nat) (A : Nat → Prop) (sz : Nat) (h : PH) (a0 : Nat) (x1 : Int32) (x2 : Int32)  (r : String ⊕ (Int32)) (hf : fX3_at h a0 x1 x2  = some r) : vx_Met l yX3_at wsX3_at rX3_at (p_preE D ad p_tt A sz h [.ref (ad a0), .int x1, .int x2]) (p_TRi r) (p_TRX r) 1 6 p_no := by
  refine vx_ofW (cc := cX3_at) (maxL := 3) (ret := (some .int)) (by decide) rfl ?_
  intro p e s m args below meth c s₁ B hml hno hv
  obtain ⟨hargs, hK, hQ, hE, hsz⟩ := hv
  have hE : p_E p_no s s.heap := hE.narrow fun _ h9 => h9.elim
  have hx := B.exec
  have hb := B.bytes
  have hr := B.returns
  have hts := atoms_spec (ws := wsX3_at) B.pre
  have hown : s.vm.findClass RX3 = some m.cls := findClass_of_methodNamed B.named
  have hlocks := B.notSynchronized
  have hC : CallFix p m c cX3_at 3 s args wsX3_at RX3 := ⟨hx, hb, hml, hown, hts⟩
  have hS : va_S p_no s.heap s.heap [] := va_S.rf
  have hi3 : ∀ w ∈ u_ws RX3 TX3 8, w ∈ wsX3_at := fun w hw => List.mem_cons_of_mem _ (List.mem_append_left _ (List.mem_append_left _ (List.mem_append_right _ hw)))
  obtain ⟨ls, hls, hL⟩ := p_start (n := 3) hargs (by simp [p_cat, p_ci, p_cr, p_cn]) (Nat.le_of_ble_eq_true rfl)
  show W p l e rX3_at s m args below meth c s.heap [] 0 0 (vx_MQ below (p_TRi r) (p_TRX r) args s 1 6 p_no) (entryFrame m args 3)
  rw [hls]
  clear hls
  have hL : p_L ls 3 [(0, .ref (ad a0)), (1, .int x1), (2, .int x2)] := hL
  rw [fX3_at] at hf
  refine lv_aload_n hx hb dX3_at_0 rfl (lv_at hL.1 0 rfl) ?_
  refine lv_iload_n hx hb dX3_at_1 rfl (lv_at hL.1 1 rfl) ?_
  refine lv_iload_n hx hb dX3_at_2 rfl (lv_at hL.1 2 rfl) ?_
  obtain ⟨u1, e2, hf⟩ := p_b hf
  obtain ⟨o_3, e4, hf⟩ := p_b hf
  cases o_3 with
  | inl Ex5 =>
    dsimp only at hf
    exact p_cTq_x (vx_runV (As := [.int x1, .int x2]) (rest := []) hC (kX3_findTopmost l hl D ad p_no _ h a0 x1 x2 _ e4) (cwV 2 hts gX3_at_X3_findTopmost rfl rfl rfl (by decide +kernel) ⟨Nat.le_of_ble_eq_true rfl, Nat.le_of_ble_eq_true rfl⟩) (p_preVE hK hQ.tt ((hE.kept hS.2.1).narrow fun _ h9 => h9.elim) rfl e2 rfl) rfl rfl hL.1.1 rfl (lv_room (Nat.le_of_ble_eq_true rfl)) dX3_at_3 ⟨Nat.le_of_ble_eq_true rfl, Nat.le_of_ble_eq_true rfl⟩) hS hno hlocks (fun t hvm hz hk => p_xR hf hS hz hk) (fun x hx => hx) (Nat.le_of_ble_eq_true rfl) (Nat.le_of_ble_eq_true rfl)
  | inr o_5 =>
    dsimp only at hf
    refine p_cTq_r (vx_runV (As := [.int x1, .int x2]) (rest := []) hC (kX3_findTopmost l hl D ad p_no _ h a0 x1 x2 _ e4) (cwV 2 hts gX3_at_X3_findTopmost rfl rfl rfl (by decide +kernel) ⟨Nat.le_of_ble_eq_true rfl, Nat.le_of_ble_eq_true rfl⟩) (p_preVE hK hQ.tt ((hE.kept hS.2.1).narrow fun _ h9 => h9.elim) rfl e2 rfl) rfl rfl hL.1.1 rfl (lv_room (Nat.le_of_ble_eq_true rfl)) dX3_at_3 ⟨Nat.le_of_ble_eq_true rfl, Nat.le_of_ble_eq_true rfl⟩) hQ hS (fun H locs hQ hS => ?_)
    obtain ⟨v6, e7, hf⟩ := p_b hf
    refine p_cRi (va_runS (As := [va_rf (Option.map ad o_5)]) (rest := []) hC (kX3_numberOf l D ad h o_5 v6 e7) (cwS 1 hts gX3_at_X3_numberOf rfl rfl rfl (by decide +kernel) ⟨Nat.le_of_ble_eq_true rfl, Nat.le_of_ble_eq_true rfl⟩) (p_preS hK hQ.tt) rfl rfl hL.1.1 rfl (lv_room (Nat.le_of_ble_eq_true rfl)) dX3_at_6 ⟨Nat.le_of_ble_eq_true rfl, Nat.le_of_ble_eq_true rfl⟩) hQ hS (fun H locs hQ hS => ?_)
    exact p_tRi hC hr hlocks hS hf (Nat.le_of_ble_eq_true rfl) (Nat.le_of_ble_eq_true rfl) dX3_at_9
-- X3_placeOf
abbrev rX3_placeOf : Room := { frames := 7, cells := 1, slots := 6, locals := 112 }
set_option maxHeartbeats 4000000 in
set_option maxRecDepth 100000 in
theorem kX3_placeOf (l : Launch) (hl : l.stackTraces = false) (D : va_G) (ad : Nat → Nat) (A : Nat → Prop) (sz : Nat) (h : PH) (a0 : Nat) (x1 : Int32)  (r : String ⊕ (Int32)) (hf : fX3_placeOf h a0 x1  = some r) : vx_Met l yX3_placeOf wsX3_placeOf rX3_placeOf (p_preE D ad p_tt A sz h [.ref (ad a0), .int x1]) (p_TRi r) (p_TRX r) 1 6 p_no := by
  refine vx_ofW (cc := cX3_placeOf) (maxL := 2) (ret := (some .int)) (by decide) rfl ?_
  intro p e s m args below meth c s₁ B hml hno hv
  obtain ⟨hargs, hK, hQ, hE, hsz⟩ := hv
  have hE : p_E p_no s s.heap := hE.narrow fun _ h9 => h9.elim
  have hx := B.exec
  have hb := B.bytes
  have hr := B.returns
  have hts := atoms_spec (ws := wsX3_placeOf) B.pre
  have hown : s.vm.findClass RX3 = some m.cls := findClass_of_methodNamed B.named
  have hlocks := B.notSynchronized
  have hC : CallFix p m c cX3_placeOf 2 s args wsX3_placeOf RX3 := ⟨hx, hb, hml, hown, hts⟩
  have hS : va_S p_no s.heap s.heap [] := va_S.rf
  have hi1 : ∀ w ∈ u_ws RX1 TX1 10, w ∈ wsX3_placeOf := fun w hw => List.mem_cons_of_mem _ (List.mem_append_left _ (List.mem_append_left _ (List.mem_append_right _ hw)))
  have hi2 : ∀ w ∈ u_ws RX2 TX2 2, w ∈ wsX3_placeOf := fun w hw => List.mem_cons_of_mem _ (List.mem_append_left _ (List.mem_append_right _ hw))
  have hi3 : ∀ w ∈ u_ws RX3 TX3 8, w ∈ wsX3_placeOf := fun w hw => List.mem_cons_of_mem _ (List.mem_append_left _ (List.mem_append_left _ (List.mem_append_left _ (List.mem_append_right _ hw))))
  obtain ⟨ls, hls, hL⟩ := p_start (n := 2) hargs (by simp [p_cat, p_ci, p_cr, p_cn]) (Nat.le_of_ble_eq_true rfl)
  show W p l e rX3_placeOf s m args below meth c s.heap [] 0 0 (vx_MQ below (p_TRi r) (p_TRX r) args s 1 6 p_no) (entryFrame m args 2)
  rw [hls]
  clear hls
  have hL : p_L ls 2 [(0, .ref (ad a0)), (1, .int x1)] := hL
  rw [fX3_placeOf] at hf
  refine lv_aload_n hx hb dX3_placeOf_0 rfl (lv_at hL.1 0 rfl) ?_
  obtain ⟨a_1, e2, hf⟩ := p_b hf
  refine p_getR hC hi3 hK hQ e2 rfl (by decide) (by decide +kernel) dX3_placeOf_1 ?_
  refine lv_aload_n hx hb dX3_placeOf_4 rfl (lv_at hL.1 0 rfl) ?_
  refine lv_iload_n hx hb dX3_placeOf_5 rfl (lv_at hL.1 1 rfl) ?_
  obtain ⟨u3, e4, hf⟩ := p_b hf
  obtain ⟨o_5, e6, hf⟩ := p_b hf
  cases o_5 with
  | inl Ex7 =>
    dsimp only at hf
    exact p_cTq_x (vx_runV (As := [.int x1]) (rest := [.ref (ad a_1)]) hC (kX3_find l hl D ad p_no _ h a0 x1 _ e6) (cwV 1 hts gX3_placeOf_X3_find rfl rfl rfl (by decide +kernel) ⟨Nat.le_of_ble_eq_true rfl, Nat.le_of_ble_eq_true rfl⟩) (p_preVE hK hQ.tt ((hE.kept hS.2.1).narrow fun _ h9 => h9.elim) rfl e4 rfl) rfl rfl hL.1.1 rfl (lv_room (Nat.le_of_ble_eq_true rfl)) dX3_placeOf_6 ⟨Nat.le_of_ble_eq_true rfl, Nat.le_of_ble_eq_true rfl⟩) hS hno hlocks (fun t hvm hz hk => p_xR hf hS hz hk) (fun x hx => hx) (Nat.le_of_ble_eq_true rfl) (Nat.le_of_ble_eq_true rfl)
  | inr o_7 =>
    dsimp only at hf
    refine p_cTq_r (vx_runV (As := [.int x1]) (rest := [.ref (ad a_1)]) hC (kX3_find l hl D ad p_no _ h a0 x1 _ e6) (cwV 1 hts gX3_placeOf_X3_find rfl rfl rfl (by decide +kernel) ⟨Nat.le_of_ble_eq_true rfl, Nat.le_of_ble_eq_true rfl⟩) (p_preVE hK hQ.tt ((hE.kept hS.2.1).narrow fun _ h9 => h9.elim) rfl e4 rfl) rfl rfl hL.1.1 rfl (lv_room (Nat.le_of_ble_eq_true rfl)) dX3_placeOf_6 ⟨Nat.le_of_ble_eq_true rfl, Nat.le_of_ble_eq_true rfl⟩) hQ hS (fun H locs hQ hS => ?_)
    obtain ⟨a_8, ea, hf2⟩ := p_b hf
    clear hf
    subst ea
    have hf := hf2
    clear hf2
    obtain ⟨v9, e10, hf⟩ := p_b hf
    refine p_getI hC hi1 hK hQ e10 rfl (by decide) (by decide +kernel) dX3_placeOf_9 ?_
    obtain ⟨u11, e12, hf⟩ := p_b hf
    obtain ⟨v13, e14, hf⟩ := p_b hf
    refine p_cRi (va_runV (As := [.int v9]) (rest := []) hC (kX2_indexOf l D ad h a_1 v9 v13 e14) (cwV 1 hts gX3_placeOf_X2_indexOf rfl rfl rfl (by decide +kernel) ⟨Nat.le_of_ble_eq_true rfl, Nat.le_of_ble_eq_true rfl⟩) (p_preV hK hQ.tt e12 rfl) rfl rfl hL.1.1 rfl (lv_room (Nat.le_of_ble_eq_true rfl)) dX3_placeOf_12 ⟨Nat.le_of_ble_eq_true rfl, Nat.le_of_ble_eq_true rfl⟩) hQ hS (fun H locs hQ hS => ?_)
    exact p_tRi hC hr hlocks hS hf (Nat.le_of_ble_eq_true rfl) (Nat.le_of_ble_eq_true rfl) dX3_placeOf_15
-- X3_isSeen
abbrev rX3_isSeen : Room := { frames := 7, cells := 1, slots := 6, locals := 112 }
set_option maxHeartbeats 4000000 in
set_option maxRecDepth 100000 in
theorem kX3_isSeen (l : Launch) (hl : l.stackTraces = false) (D : va_G) (ad : Nat → Nat) (A : Nat → Prop) (sz : Nat) (h : PH) (a0 : Nat) (x1 : Int32)  (r : String ⊕ (Int32)) (hf : fX3_isSeen h a0 x1  = some r) : vx_Met l yX3_isSeen wsX3_isSeen rX3_isSeen (p_preE D ad p_tt A sz h [.ref (ad a0), .int x1]) (p_TRi r) (p_TRX r) 1 6 p_no := by
  refine vx_ofW (cc := cX3_isSeen) (maxL := 2) (ret := (some .boolean)) (by decide) rfl ?_
  intro p e s m args below meth c s₁ B hml hno hv
  obtain ⟨hargs, hK, hQ, hE, hsz⟩ := hv
  have hE : p_E p_no s s.heap := hE.narrow fun _ h9 => h9.elim
  have hx := B.exec
  have hb := B.bytes
  have hr := B.returns
  have hts := atoms_spec (ws := wsX3_isSeen) B.pre
  have hown : s.vm.findClass RX3 = some m.cls := findClass_of_methodNamed B.named
  have hlocks := B.notSynchronized
  have hC : CallFix p m c cX3_isSeen 2 s args wsX3_isSeen RX3 := ⟨hx, hb, hml, hown, hts⟩
  have hS : va_S p_no s.heap s.heap [] := va_S.rf
  have hi1 : ∀ w ∈ u_ws RX1 TX1 10, w ∈ wsX3_isSeen := fun w hw => List.mem_cons_of_mem _ (List.mem_append_left _ (List.mem_append_left _ (List.mem_append_left _ (List.mem_append_right _ hw))))
  have hi3 : ∀ w ∈ u_ws RX3 TX3 8, w ∈ wsX3_isSeen := fun w hw => List.mem_cons_of_mem _ (List.mem_append_left _ (List.mem_append_left _ (List.mem_append_right _ hw)))
  obtain ⟨ls, hls, hL⟩ := p_start (n := 2) hargs (by simp [p_cat, p_ci, p_cr, p_cn]) (Nat.le_of_ble_eq_true rfl)
  show W p l e rX3_isSeen s m args below meth c s.heap [] 0 0 (vx_MQ below (p_TRi r) (p_TRX r) args s 1 6 p_no) (entryFrame m args 2)
  rw [hls]
  clear hls
  have hL : p_L ls 2 [(0, .ref (ad a0)), (1, .int x1)] := hL
  rw [fX3_isSeen] at hf
  refine lv_aload_n hx hb dX3_isSeen_0 rfl (lv_at hL.1 0 rfl) ?_
  refine lv_iload_n hx hb dX3_isSeen_1 rfl (lv_at hL.1 1 rfl) ?_
  obtain ⟨u1, e2, hf⟩ := p_b hf
  obtain ⟨o_3, e4, hf⟩ := p_b hf
  cases o_3 with
  | inl Ex5 =>
    dsimp only at hf
    exact p_cTq_x (vx_runV (As := [.int x1]) (rest := []) hC (kX3_find l hl D ad p_no _ h a0 x1 _ e4) (cwV 1 hts gX3_isSeen_X3_find rfl rfl rfl (by decide +kernel) ⟨Nat.le_of_ble_eq_true rfl, Nat.le_of_ble_eq_true rfl⟩) (p_preVE hK hQ.tt ((hE.kept hS.2.1).narrow fun _ h9 => h9.elim) rfl e2 rfl) rfl rfl hL.1.1 rfl (lv_room (Nat.le_of_ble_eq_true rfl)) dX3_isSeen_2 ⟨Nat.le_of_ble_eq_true rfl, Nat.le_of_ble_eq_true rfl⟩) hS hno hlocks (fun t hvm hz hk => p_xR hf hS hz hk) (fun x hx => hx) (Nat.le_of_ble_eq_true rfl) (Nat.le_of_ble_eq_true rfl)
  | inr o_5 =>
    dsimp only at hf
    refine p_cTq_r (vx_runV (As := [.int x1]) (rest := []) hC (kX3_find l hl D ad p_no _ h a0 x1 _ e4) (cwV 1 hts gX3_isSeen_X3_find rfl rfl rfl (by decide +kernel) ⟨Nat.le_of_ble_eq_true rfl, Nat.le_of_ble_eq_true rfl⟩) (p_preVE hK hQ.tt ((hE.kept hS.2.1).narrow fun _ h9 => h9.elim) rfl e2 rfl) rfl rfl hL.1.1 rfl (lv_room (Nat.le_of_ble_eq_true rfl)) dX3_isSeen_2 ⟨Nat.le_of_ble_eq_true rfl, Nat.le_of_ble_eq_true rfl⟩) hQ hS (fun H locs hQ hS => ?_)
    obtain ⟨a_6, ea, hf2⟩ := p_b hf
    clear hf
    subst ea
    have hf := hf2
    clear hf2
    obtain ⟨v7, e8, hf⟩ := p_b hf
    refine p_getI hC hi1 hK hQ e8 rfl (by decide) (by decide +kernel) dX3_isSeen_5 ?_
    exact p_tRz hC hr hlocks hS hf (Nat.le_of_ble_eq_true rfl) (Nat.le_of_ble_eq_true rfl) dX3_isSeen_8
-- X3_pagesOf
abbrev rX3_pagesOf : Room := { frames := 7, cells := 1, slots := 6, locals := 112 }
set_option maxHeartbeats 4000000 in
set_option maxRecDepth 100000 in
theorem kX3_pagesOf (l : Launch) (hl : l.stackTraces = false) (D : va_G) (ad : Nat → Nat) (A : Nat → Prop) (sz : Nat) (h : PH) (a0 : Nat) (x1 : Int32)  (r : String ⊕ (Int32)) (hf : fX3_pagesOf h a0 x1  = some r) : vx_Met l yX3_pagesOf wsX3_pagesOf rX3_pagesOf (p_preE D ad p_tt A sz h [.ref (ad a0), .int x1]) (p_TRi r) (p_TRX r) 1 6 p_no := by
  refine vx_ofW (cc := cX3_pagesOf) (maxL := 2) (ret := (some .int)) (by decide) rfl ?_
  intro p e s m args below meth c s₁ B hml hno hv
  obtain ⟨hargs, hK, hQ, hE, hsz⟩ := hv
  have hE : p_E p_no s s.heap := hE.narrow fun _ h9 => h9.elim
  have hx := B.exec
  have hb := B.bytes
  have hr := B.returns
  have hts := atoms_spec (ws := wsX3_pagesOf) B.pre
  have hown : s.vm.findClass RX3 = some m.cls := findClass_of_methodNamed B.named
  have hlocks := B.notSynchronized
  have hC : CallFix p m c cX3_pagesOf 2 s args wsX3_pagesOf RX3 := ⟨hx, hb, hml, hown, hts⟩
  have hS : va_S p_no s.heap s.heap [] := va_S.rf
  have hi1 : ∀ w ∈ u_ws RX1 TX1 10, w ∈ wsX3_pagesOf := fun w hw => List.mem_cons_of_mem _ (List.mem_append_left _ (List.mem_append_right _ hw))
  have hi3 : ∀ w ∈ u_ws RX3 TX3 8, w ∈ wsX3_pagesOf := fun w hw => List.mem_cons_of_mem _ (List.mem_append_left _ (List.mem_append_left _ (List.mem_append_left _ (List.mem_append_right _ hw))))
  obtain ⟨ls, hls, hL⟩ := p_start (n := 2) hargs (by simp [p_cat, p_ci, p_cr, p_cn]) (Nat.le_of_ble_eq_true rfl)
  show W p l e rX3_pagesOf s m args below meth c s.heap [] 0 0 (vx_MQ below (p_TRi r) (p_TRX r) args s 1 6 p_no) (entryFrame m args 2)
  rw [hls]
  clear hls
  have hL : p_L ls 2 [(0, .ref (ad a0)), (1, .int x1)] := hL
  rw [fX3_pagesOf] at hf
  refine lv_aload_n hx hb dX3_pagesOf_0 rfl (lv_at hL.1 0 rfl) ?_
  refine lv_iload_n hx hb dX3_pagesOf_1 rfl (lv_at hL.1 1 rfl) ?_
  obtain ⟨u1, e2, hf⟩ := p_b hf
  obtain ⟨o_3, e4, hf⟩ := p_b hf
  cases o_3 with
  | inl Ex5 =>
    dsimp only at hf
    exact p_cTq_x (vx_runV (As := [.int x1]) (rest := []) hC (kX3_find l hl D ad p_no _ h a0 x1 _ e4) (cwV 1 hts gX3_pagesOf_X3_find rfl rfl rfl (by decide +kernel) ⟨Nat.le_of_ble_eq_true rfl, Nat.le_of_ble_eq_true rfl⟩) (p_preVE hK hQ.tt ((hE.kept hS.2.1).narrow fun _ h9 => h9.elim) rfl e2 rfl) rfl rfl hL.1.1 rfl (lv_room (Nat.le_of_ble_eq_true rfl)) dX3_pagesOf_2 ⟨Nat.le_of_ble_eq_true rfl, Nat.le_of_ble_eq_true rfl⟩) hS hno hlocks (fun t hvm hz hk => p_xR hf hS hz hk) (fun x hx => hx) (Nat.le_of_ble_eq_true rfl) (Nat.le_of_ble_eq_true rfl)
  | inr o_5 =>
    dsimp only at hf
    refine p_cTq_r (vx_runV (As := [.int x1]) (rest := []) hC (kX3_find l hl D ad p_no _ h a0 x1 _ e4) (cwV 1 hts gX3_pagesOf_X3_find rfl rfl rfl (by decide +kernel) ⟨Nat.le_of_ble_eq_true rfl, Nat.le_of_ble_eq_true rfl⟩) (p_preVE hK hQ.tt ((hE.kept hS.2.1).narrow fun _ h9 => h9.elim) rfl e2 rfl) rfl rfl hL.1.1 rfl (lv_room (Nat.le_of_ble_eq_true rfl)) dX3_pagesOf_2 ⟨Nat.le_of_ble_eq_true rfl, Nat.le_of_ble_eq_true rfl⟩) hQ hS (fun H locs hQ hS => ?_)
    obtain ⟨a_6, ea, hf2⟩ := p_b hf
    clear hf
    subst ea
    have hf := hf2
    clear hf2
    obtain ⟨u7, e8, hf⟩ := p_b hf
    obtain ⟨v9, e10, hf⟩ := p_b hf
    refine p_cRi (va_runV (As := []) (rest := []) hC (kX1_pagesHeld l D ad h a_6 v9 e10) (cwV 0 hts gX3_pagesOf_X1_pagesHeld rfl rfl rfl (by decide +kernel) ⟨Nat.le_of_ble_eq_true rfl, Nat.le_of_ble_eq_true rfl⟩) (p_preV hK hQ.tt e8 rfl) rfl rfl hL.1.1 rfl (lv_room (Nat.le_of_ble_eq_true rfl)) dX3_pagesOf_5 ⟨Nat.le_of_ble_eq_true rfl, Nat.le_of_ble_eq_true rfl⟩) hQ hS (fun H locs hQ hS => ?_)
    exact p_tRi hC hr hlocks hS hf (Nat.le_of_ble_eq_true rfl) (Nat.le_of_ble_eq_true rfl) dX3_pagesOf_8
-- X3_picture
abbrev rX3_picture : Room := { frames := 7, cells := 1, slots := 6, locals := 112 }
set_option maxHeartbeats 4000000 in
set_option maxRecDepth 100000 in
theorem kX3_picture (l : Launch) (hl : l.stackTraces = false) (D : va_G) (ad : Nat → Nat) (A : Nat → Prop) (sz : Nat) (h : PH) (a0 : Nat) (x1 : Int32)  (r : String ⊕ (Int32)) (hf : fX3_picture h a0 x1  = some r) : vx_Met l yX3_picture wsX3_picture rX3_picture (p_preE D ad p_tt A sz h [.ref (ad a0), .int x1]) (p_TRi r) (p_TRX r) 1 6 p_no := by
  refine vx_ofW (cc := cX3_picture) (maxL := 2) (ret := (some .int)) (by decide) rfl ?_
  intro p e s m args below meth c s₁ B hml hno hv
  obtain ⟨hargs, hK, hQ, hE, hsz⟩ := hv
  have hE : p_E p_no s s.heap := hE.narrow fun _ h9 => h9.elim
  have hx := B.exec
  have hb := B.bytes
  have hr := B.returns
  have hts := atoms_spec (ws := wsX3_picture) B.pre
  have hown : s.vm.findClass RX3 = some m.cls := findClass_of_methodNamed B.named
  have hlocks := B.notSynchronized
  have hC : CallFix p m c cX3_picture 2 s args wsX3_picture RX3 := ⟨hx, hb, hml, hown, hts⟩
  have hS : va_S p_no s.heap s.heap [] := va_S.rf
  have hi1 : ∀ w ∈ u_ws RX1 TX1 10, w ∈ wsX3_picture := fun w hw => List.mem_cons_of_mem _ (List.mem_append_left _ (List.mem_append_left _ (List.mem_append_left _ (List.mem_append_right _ hw))))
  have hi3 : ∀ w ∈ u_ws RX3 TX3 8, w ∈ wsX3_picture := fun w hw => List.mem_cons_of_mem _ (List.mem_append_left _ (List.mem_append_left _ (List.mem_append_right _ hw)))
  obtain ⟨ls, hls, hL⟩ := p_start (n := 2) hargs (by simp [p_cat, p_ci, p_cr, p_cn]) (Nat.le_of_ble_eq_true rfl)
  show W p l e rX3_picture s m args below meth c s.heap [] 0 0 (vx_MQ below (p_TRi r) (p_TRX r) args s 1 6 p_no) (entryFrame m args 2)
  rw [hls]
  clear hls
  have hL : p_L ls 2 [(0, .ref (ad a0)), (1, .int x1)] := hL
  rw [fX3_picture] at hf
  refine lv_aload_n hx hb dX3_picture_0 rfl (lv_at hL.1 0 rfl) ?_
  refine lv_iload_n hx hb dX3_picture_1 rfl (lv_at hL.1 1 rfl) ?_
  obtain ⟨u1, e2, hf⟩ := p_b hf
  obtain ⟨o_3, e4, hf⟩ := p_b hf
  cases o_3 with
  | inl Ex5 =>
    dsimp only at hf
    exact p_cTq_x (vx_runV (As := [.int x1]) (rest := []) hC (kX3_find l hl D ad p_no _ h a0 x1 _ e4) (cwV 1 hts gX3_picture_X3_find rfl rfl rfl (by decide +kernel) ⟨Nat.le_of_ble_eq_true rfl, Nat.le_of_ble_eq_true rfl⟩) (p_preVE hK hQ.tt ((hE.kept hS.2.1).narrow fun _ h9 => h9.elim) rfl e2 rfl) rfl rfl hL.1.1 rfl (lv_room (Nat.le_of_ble_eq_true rfl)) dX3_picture_2 ⟨Nat.le_of_ble_eq_true rfl, Nat.le_of_ble_eq_true rfl⟩) hS hno hlocks (fun t hvm hz hk => p_xR hf hS hz hk) (fun x hx => hx) (Nat.le_of_ble_eq_true rfl) (Nat.le_of_ble_eq_true rfl)
  | inr o_5 =>
    dsimp only at hf
    refine p_cTq_r (vx_runV (As := [.int x1]) (rest := []) hC (kX3_find l hl D ad p_no _ h a0 x1 _ e4) (cwV 1 hts gX3_picture_X3_find rfl rfl rfl (by decide +kernel) ⟨Nat.le_of_ble_eq_true rfl, Nat.le_of_ble_eq_true rfl⟩) (p_preVE hK hQ.tt ((hE.kept hS.2.1).narrow fun _ h9 => h9.elim) rfl e2 rfl) rfl rfl hL.1.1 rfl (lv_room (Nat.le_of_ble_eq_true rfl)) dX3_picture_2 ⟨Nat.le_of_ble_eq_true rfl, Nat.le_of_ble_eq_true rfl⟩) hQ hS (fun H locs hQ hS => ?_)
    obtain ⟨a_6, ea, hf2⟩ := p_b hf
    clear hf
    subst ea
    have hf := hf2
    clear hf2
    obtain ⟨v7, e8, hf⟩ := p_b hf
    refine p_getI hC hi1 hK hQ e8 rfl (by decide) (by decide +kernel) dX3_picture_5 ?_
    exact p_tRi hC hr hlocks hS hf (Nat.le_of_ble_eq_true rfl) (Nat.le_of_ble_eq_true rfl) dX3_picture_8
-- X3_pace
abbrev rX3_pace : Room := { frames := 7, cells := 1, slots := 6, locals := 112 }
set_option maxHeartbeats 4000000 in
set_option maxRecDepth 100000 in
theorem kX3_pace (l : Launch) (hl : l.stackTraces = false) (D : va_G) (ad : Nat → Nat) (A : Nat → Prop) (sz : Nat) (h : PH) (a0 : Nat) (x1 : Int32)  (r : String ⊕ (Int32)) (hf : fX3_pace h a0 x1  = some r) : vx_Met l yX3_pace wsX3_pace rX3_pace (p_preE D ad p_tt A sz h [.ref (ad a0), .int x1]) (p_TRi r) (p_TRX r) 1 6 p_no := by
  refine vx_ofW (cc := cX3_pace) (maxL := 2) (ret := (some .int)) (by decide) rfl ?_
  intro p e s m args below meth c s₁ B hml hno hv
  obtain ⟨hargs, hK, hQ, hE, hsz⟩ := hv
  have hE : p_E p_no s s.heap := hE.narrow fun _ h9 => h9.elim
  have hx := B.exec
  have hb := B.bytes
  have hr := B.returns
  have hts := atoms_spec (ws := wsX3_pace) B.pre
  have hown : s.vm.findClass RX3 = some m.cls := findClass_of_methodNamed B.named
  have hlocks := B.notSynchronized
  have hC : CallFix p m c cX3_pace 2 s args wsX3_pace RX3 := ⟨hx, hb, hml, hown, hts⟩
  have hS : va_S p_no s.heap s.heap [] := va_S.rf
  have hi0 : ∀ w ∈ u_ws RX0 TX0 9, w ∈ wsX3_pace := fun w hw => List.mem_cons_of_mem _ (List.mem_append_left _ (List.mem_append_left _ (List.mem_append_left _ (List.mem_append_right _ hw))))
  have hi1 : ∀ w ∈ u_ws RX1 TX1 10, w ∈ wsX3_pace := fun w hw => List.mem_cons_of_mem _ (List.mem_append_left _ (List.mem_append_left _ (List.mem_append_left _ (List.mem_append_left _ (List.mem_append_right _ hw)))))
  have hi3 : ∀ w ∈ u_ws RX3 TX3 8, w ∈ wsX3_pace := fun w hw => List.mem_cons_of_mem _ (List.mem_append_left _ (List.mem_append_left _ (List.mem_append_right _ hw)))
  obtain ⟨ls, hls, hL⟩ := p_start (n := 2) hargs (by simp [p_cat, p_ci, p_cr, p_cn]) (Nat.le_of_ble_eq_true rfl)
  show W p l e rX3_pace s m args below meth c s.heap [] 0 0 (vx_MQ below (p_TRi r) (p_TRX r) args s 1 6 p_no) (entryFrame m args 2)
  rw [hls]
  clear hls
  have hL : p_L ls 2 [(0, .ref (ad a0)), (1, .int x1)] := hL
  rw [fX3_pace] at hf
  refine lv_aload_n hx hb dX3_pace_0 rfl (lv_at hL.1 0 rfl) ?_
  refine lv_iload_n hx hb dX3_pace_1 rfl (lv_at hL.1 1 rfl) ?_
  obtain ⟨u1, e2, hf⟩ := p_b hf
  obtain ⟨o_3, e4, hf⟩ := p_b hf
  cases o_3 with
  | inl Ex5 =>
    dsimp only at hf
    exact p_cTq_x (vx_runV (As := [.int x1]) (rest := []) hC (kX3_find l hl D ad p_no _ h a0 x1 _ e4) (cwV 1 hts gX3_pace_X3_find rfl rfl rfl (by decide +kernel) ⟨Nat.le_of_ble_eq_true rfl, Nat.le_of_ble_eq_true rfl⟩) (p_preVE hK hQ.tt ((hE.kept hS.2.1).narrow fun _ h9 => h9.elim) rfl e2 rfl) rfl rfl hL.1.1 rfl (lv_room (Nat.le_of_ble_eq_true rfl)) dX3_pace_2 ⟨Nat.le_of_ble_eq_true rfl, Nat.le_of_ble_eq_true rfl⟩) hS hno hlocks (fun t hvm hz hk => p_xR hf hS hz hk) (fun x hx => hx) (Nat.le_of_ble_eq_true rfl) (Nat.le_of_ble_eq_true rfl)
  | inr o_5 =>
    dsimp only at hf
    refine p_cTq_r (vx_runV (As := [.int x1]) (rest := []) hC (kX3_find l hl D ad p_no _ h a0 x1 _ e4) (cwV 1 hts gX3_pace_X3_find rfl rfl rfl (by decide +kernel) ⟨Nat.le_of_ble_eq_true rfl, Nat.le_of_ble_eq_true rfl⟩) (p_preVE hK hQ.tt ((hE.kept hS.2.1).narrow fun _ h9 => h9.elim) rfl e2 rfl) rfl rfl hL.1.1 rfl (lv_room (Nat.le_of_ble_eq_true rfl)) dX3_pace_2 ⟨Nat.le_of_ble_eq_true rfl, Nat.le_of_ble_eq_true rfl⟩) hQ hS (fun H locs hQ hS => ?_)
    obtain ⟨a_6, ea, hf2⟩ := p_b hf
    clear hf
    subst ea
    have hf := hf2
    clear hf2
    obtain ⟨a_7, e8, hf⟩ := p_b hf
    refine p_getR hC hi1 hK hQ e8 rfl (by decide) (by decide +kernel) dX3_pace_5 ?_
    obtain ⟨v9, e10, hf⟩ := p_b hf
    refine p_getI hC hi0 hK hQ e10 rfl (by decide) (by decide +kernel) dX3_pace_8 ?_
    exact p_tRi hC hr hlocks hS hf (Nat.le_of_ble_eq_true rfl) (Nat.le_of_ble_eq_true rfl) dX3_pace_11
-- X3_misses
abbrev rX3_misses : Room := { frames := 7, cells := 1, slots := 6, locals := 112 }
set_option maxHeartbeats 4000000 in
set_option maxRecDepth 100000 in
theorem kX3_misses (l : Launch) (hl : l.stackTraces = false) (D : va_G) (ad : Nat → Nat) (A : Nat → Prop) (sz : Nat) (h : PH) (a0 : Nat) (x1 : Int32)  (r : String ⊕ (Int32)) (hf : fX3_misses h a0 x1  = some r) : vx_Met l yX3_misses wsX3_misses rX3_misses (p_preE D ad p_tt A sz h [.ref (ad a0), .int x1]) (p_TRi r) (p_TRX r) 1 6 p_no := by
  refine vx_ofW (cc := cX3_misses) (maxL := 2) (ret := (some .int)) (by decide) rfl ?_
  intro p e s m args below meth c s₁ B hml hno hv
  obtain ⟨hargs, hK, hQ, hE, hsz⟩ := hv
  have hE : p_E p_no s s.heap := hE.narrow fun _ h9 => h9.elim
  have hx := B.exec
  have hb := B.bytes
  have hr := B.returns
  have hts := atoms_spec (ws := wsX3_misses) B.pre
  have hown : s.vm.findClass RX3 = some m.cls := findClass_of_methodNamed B.named
  have hlocks := B.notSynchronized
  have hC : CallFix p m c cX3_misses 2 s args wsX3_misses RX3 := ⟨hx, hb, hml, hown, hts⟩
  have hS : va_S p_no s.heap s.heap [] := va_S.rf
  have hi0 : ∀ w ∈ u_ws RX0 TX0 9, w ∈ wsX3_misses := fun w hw => List.mem_cons_of_mem _ (List.mem_append_left _ (List.mem_append_left _ (List.mem_append_left _ (List.mem_append_right _ hw))))
  have hi1 : ∀ w ∈ u_ws RX1 TX1 10, w ∈ wsX3_misses := fun w hw => List.mem_cons_of_mem _ (List.mem_append_left _ (List.mem_append_left _ (List.mem_append_left _ (List.mem_append_left _ (List.mem_append_right _ hw)))))
  have hi3 : ∀ w ∈ u_ws RX3 TX3 8, w ∈ wsX3_misses := fun w hw => List.mem_cons_of_mem _ (List.mem_append_left _ (List.mem_append_left _ (List.mem_append_right _ hw)))
  obtain ⟨ls, hls, hL⟩ := p_start (n := 2) hargs (by simp [p_cat, p_ci, p_cr, p_cn]) (Nat.le_of_ble_eq_true rfl)
  show W p l e rX3_misses s m args below meth c s.heap [] 0 0 (vx_MQ below (p_TRi r) (p_TRX r) args s 1 6 p_no) (entryFrame m args 2)
  rw [hls]
  clear hls
  have hL : p_L ls 2 [(0, .ref (ad a0)), (1, .int x1)] := hL
  rw [fX3_misses] at hf
  refine lv_aload_n hx hb dX3_misses_0 rfl (lv_at hL.1 0 rfl) ?_
  refine lv_iload_n hx hb dX3_misses_1 rfl (lv_at hL.1 1 rfl) ?_
  obtain ⟨u1, e2, hf⟩ := p_b hf
  obtain ⟨o_3, e4, hf⟩ := p_b hf
  cases o_3 with
  | inl Ex5 =>
    dsimp only at hf
    exact p_cTq_x (vx_runV (As := [.int x1]) (rest := []) hC (kX3_find l hl D ad p_no _ h a0 x1 _ e4) (cwV 1 hts gX3_misses_X3_find rfl rfl rfl (by decide +kernel) ⟨Nat.le_of_ble_eq_true rfl, Nat.le_of_ble_eq_true rfl⟩) (p_preVE hK hQ.tt ((hE.kept hS.2.1).narrow fun _ h9 => h9.elim) rfl e2 rfl) rfl rfl hL.1.1 rfl (lv_room (Nat.le_of_ble_eq_true rfl)) dX3_misses_2 ⟨Nat.le_of_ble_eq_true rfl, Nat.le_of_ble_eq_true rfl⟩) hS hno hlocks (fun t hvm hz hk => p_xR hf hS hz hk) (fun x hx => hx) (Nat.le_of_ble_eq_true rfl) (Nat.le_of_ble_eq_true rfl)
  | inr o_5 =>
    dsimp only at hf
    refine p_cTq_r (vx_runV (As := [.int x1]) (rest := []) hC (kX3_find l hl D ad p_no _ h a0 x1 _ e4) (cwV 1 hts gX3_misses_X3_find rfl rfl rfl (by decide +kernel) ⟨Nat.le_of_ble_eq_true rfl, Nat.le_of_ble_eq_true rfl⟩) (p_preVE hK hQ.tt ((hE.kept hS.2.1).narrow fun _ h9 => h9.elim) rfl e2 rfl) rfl rfl hL.1.1 rfl (lv_room (Nat.le_of_ble_eq_true rfl)) dX3_misses_2 ⟨Nat.le_of_ble_eq_true rfl, Nat.le_of_ble_eq_true rfl⟩) hQ hS (fun H locs hQ hS => ?_)
    obtain ⟨a_6, ea, hf2⟩ := p_b hf
    clear hf
    subst ea
    have hf := hf2
    clear hf2
    obtain ⟨a_7, e8, hf⟩ := p_b hf
    refine p_getR hC hi1 hK hQ e8 rfl (by decide) (by decide +kernel) dX3_misses_5 ?_
    obtain ⟨v9, e10, hf⟩ := p_b hf
    refine p_getI hC hi0 hK hQ e10 rfl (by decide) (by decide +kernel) dX3_misses_8 ?_
    exact p_tRi hC hr hlocks hS hf (Nat.le_of_ble_eq_true rfl) (Nat.le_of_ble_eq_true rfl) dX3_misses_11
-- X3_deadline
abbrev rX3_deadline : Room := { frames := 7, cells := 1, slots := 6, locals := 112 }
set_option maxHeartbeats 4000000 in
set_option maxRecDepth 100000 in
theorem kX3_deadline (l : Launch) (hl : l.stackTraces = false) (D : va_G) (ad : Nat → Nat) (A : Nat → Prop) (sz : Nat) (h : PH) (a0 : Nat) (x1 : Int32)  (r : String ⊕ (Int32)) (hf : fX3_deadline h a0 x1  = some r) : vx_Met l yX3_deadline wsX3_deadline rX3_deadline (p_preE D ad p_tt A sz h [.ref (ad a0), .int x1]) (p_TRi r) (p_TRX r) 1 6 p_no := by
  refine vx_ofW (cc := cX3_deadline) (maxL := 3) (ret := (some .int)) (by decide) rfl ?_
  intro p e s m args below meth c s₁ B hml hno hv
  obtain ⟨hargs, hK, hQ, hE, hsz⟩ := hv
  have hE : p_E p_no s s.heap := hE.narrow fun _ h9 => h9.elim
  have hx := B.exec
  have hb := B.bytes
  have hr := B.returns
  have hts := atoms_spec (ws := wsX3_deadline) B.pre
  have hown : s.vm.findClass RX3 = some m.cls := findClass_of_methodNamed B.named
  have hlocks := B.notSynchronized
  have hC : CallFix p m c cX3_deadline 3 s args wsX3_deadline RX3 := ⟨hx, hb, hml, hown, hts⟩
  have hS : va_S p_no s.heap s.heap [] := va_S.rf
  have hi0 : ∀ w ∈ u_ws RX0 TX0 9, w ∈ wsX3_deadline := fun w hw => List.mem_cons_of_mem _ (List.mem_append_left _ (List.mem_append_left _ (List.mem_append_left _ (List.mem_append_right _ hw))))
  have hi1 : ∀ w ∈ u_ws RX1 TX1 10, w ∈ wsX3_deadline := fun w hw => List.mem_cons_of_mem _ (List.mem_append_left _ (List.mem_append_left _ (List.mem_append_left _ (List.mem_append_left _ (List.mem_append_right _ hw)))))
  have hi3 : ∀ w ∈ u_ws RX3 TX3 8, w ∈ wsX3_deadline := fun w hw => List.mem_cons_of_mem _ (List.mem_append_left _ (List.mem_append_left _ (List.mem_append_right _ hw)))
  obtain ⟨ls, hls, hL⟩ := p_start (n := 3) hargs (by simp [p_cat, p_ci, p_cr, p_cn]) (Nat.le_of_ble_eq_true rfl)
  show W p l e rX3_deadline s m args below meth c s.heap [] 0 0 (vx_MQ below (p_TRi r) (p_TRX r) args s 1 6 p_no) (entryFrame m args 3)
  rw [hls]
  clear hls
  have hL : p_L ls 3 [(0, .ref (ad a0)), (1, .int x1)] := hL
  have b24 : ∀ (H : Heap) (locs : List Loc) (ls : Array Slot) (h1 : PH) (sx0 : Int32), p_Q D ad p_tt s h1 H → va_S p_no s.heap H locs → p_L ls 3 [] → fX3_deadline_24 h1 sx0 = some r → W p l e rX3_deadline s m args below meth c H locs 1 6 (vx_MQ below (p_TRi r) (p_TRX r) args s 1 6 p_no) (F0 m 24 ls [.int sx0]) := by
    intro H locs ls h1 sx0 hQ hS hL hf
    rw [fX3_deadline_24] at hf
    exact p_tRi hC hr hlocks hS hf (Nat.le_of_ble_eq_true rfl) (Nat.le_of_ble_eq_true rfl) dX3_deadline_24
  rw [fX3_deadline] at hf
  refine lv_aload_n hx hb dX3_deadline_0 rfl (lv_at hL.1 0 rfl) ?_
  refine lv_iload_n hx hb dX3_deadline_1 rfl (lv_at hL.1 1 rfl) ?_
  obtain ⟨u1, e2, hf⟩ := p_b hf
  obtain ⟨o_3, e4, hf⟩ := p_b hf
  cases o_3 with
  | inl Ex5 =>
    dsimp only at hf
    exact p_cTq_x (vx_runV (As := [.int x1]) (rest := []) hC (kX3_find l hl D ad p_no _ h a0 x1 _ e4) (cwV 1 hts gX3_deadline_X3_find rfl rfl rfl (by decide +kernel) ⟨Nat.le_of_ble_eq_true rfl, Nat.le_of_ble_eq_true rfl⟩) (p_preVE hK hQ.tt ((hE.kept hS.2.1).narrow fun _ h9 => h9.elim) rfl e2 rfl) rfl rfl hL.1.1 rfl (lv_room (Nat.le_of_ble_eq_true rfl)) dX3_deadline_2 ⟨Nat.le_of_ble_eq_true rfl, Nat.le_of_ble_eq_true rfl⟩) hS hno hlocks (fun t hvm hz hk => p_xR hf hS hz hk) (fun x hx => hx) (Nat.le_of_ble_eq_true rfl) (Nat.le_of_ble_eq_true rfl)
  | inr o_5 =>
    dsimp only at hf
    refine p_cTq_r (vx_runV (As := [.int x1]) (rest := []) hC (kX3_find l hl D ad p_no _ h a0 x1 _ e4) (cwV 1 hts gX3_deadline_X3_find rfl rfl rfl (by decide +kernel) ⟨Nat.le_of_ble_eq_true rfl, Nat.le_of_ble_eq_true rfl⟩) (p_preVE hK hQ.tt ((hE.kept hS.2.1).narrow fun _ h9 => h9.elim) rfl e2 rfl) rfl rfl hL.1.1 rfl (lv_room (Nat.le_of_ble_eq_true rfl)) dX3_deadline_2 ⟨Nat.le_of_ble_eq_true rfl, Nat.le_of_ble_eq_true rfl⟩) hQ hS (fun H locs hQ hS => ?_)
    obtain ⟨a_6, ea, hf2⟩ := p_b hf
    clear hf
    subst ea
    have hf := hf2
    clear hf2
    obtain ⟨a_7, e8, hf⟩ := p_b hf
    refine p_getR hC hi1 hK hQ e8 rfl (by decide) (by decide +kernel) dX3_deadline_5 ?_
    refine p_astore_n (o := some (ad a_7)) (lv' := [(2, .ref (ad a_7)), (0, .ref (ad a0)), (1, .int x1)]) hx hb dX3_deadline_8 rfl hL (by decide) rfl (fun ls hL => ?_)
    refine lv_aload_n hx hb dX3_deadline_9 rfl (lv_at hL.1 0 rfl) ?_
    obtain ⟨v9, e10, hf⟩ := p_b hf
    refine p_getI hC hi0 hK hQ e10 rfl (by decide) (by decide +kernel) dX3_deadline_10 ?_
    refine lv_if_eq (tgt := 23) hx hb dX3_deadline_13 (by decide) (fun c11 => ?_) (fun c11 => ?_)
    · rw [if_pos c11] at hf
      refine lv_iconst (v := -1) hx hb dX3_deadline_23 (by decide) ?_
      exact b24 _ _ _ h (-1) hQ hS (hL.sub [] rfl) hf
    · rw [if_neg c11] at hf
      refine lv_aload_n hx hb dX3_deadline_16 rfl (lv_at hL.1 0 rfl) ?_
      obtain ⟨v12, e13, hf⟩ := p_b hf
      refine p_getI hC hi0 hK hQ e13 rfl (by decide) (by decide +kernel) dX3_deadline_17 ?_
      refine lv_goto (tgt := 24) hx hb dX3_deadline_20 (by decide) ?_
      exact b24 _ _ _ h v12 hQ hS (hL.sub [] rfl) hf
