-- X4_init
abbrev rX4_init : Room := { frames := 1, cells := 18, slots := 704, locals := 20 }
set_option maxHeartbeats 4000000 in
set_option maxRecDepth 100000 in
theorem kX4_init (l : Launch) (D : va_G) (ad : Nat → Nat) (sz : Nat) (h : PH) (a0 : Nat) (q1 : Nat) (q2 : Nat) (q3 : Nat) (q4 : Nat) (q5 : Nat) (q6 : Nat) (q7 : Nat) (q8 : Nat) (q9 : Nat) (q10 : Nat) (q11 : Nat) (q12 : Nat) (q13 : Nat) (q14 : Nat) (q15 : Nat) (q16 : Nat) (q17 : Nat) (q18 : Nat) (r : PH) (hf : fX4_init h a0 q1 q2 q3 q4 q5 q6 q7 q8 q9 q10 q11 q12 q13 q14 q15 q16 q17 q18 = some r) : Met l yX4_init wsX4_init rX4_init (p_preN D ad (p_AN ad h sz) sz h [.ref (ad a0)]) (p_NMv D ad (p_AN ad h sz) a0 r) 18 704 (p_AN ad h sz) := by
  refine Met.ofW (cc := cX4_init) (maxL := 2) (ret := none) (by decide) rfl ?_
  intro p e s m args below meth c s₁ B hml hv
  obtain ⟨hargs, hK, hQ, hover, hsz⟩ := hv
  have hAz : ∀ x, s.heap.size ≤ x → (p_AN ad h sz) x := fun x hx => Or.inr (by rw [← hsz]; exact hx)
  have hth : ad a0 = ad a0 := rfl
  have hx := B.exec
  have hb := B.bytes
  have hr := B.returns
  have hts := atoms_spec (ws := wsX4_init) B.pre
  have hown : s.vm.findClass RX4 = some m.cls := findClass_of_methodNamed B.named
  have hlocks := B.notSynchronized
  have hinit : meth.name = "<init>" := (name_of_methodNamed B.named B.method).1
  have hC : CallFix p m c cX4_init 2 s args wsX4_init RX4 := ⟨hx, hb, hml, hown, hts⟩
  have hS : va_S (p_AN ad h sz) s.heap s.heap [] := va_S.rf
  have hi4 : ∀ w ∈ u_ws RX4 TX4 22, w ∈ wsX4_init := fun w hw => List.mem_cons_of_mem _ (List.mem_append_right _ hw)
  obtain ⟨ls, hls, hL⟩ := p_start (n := 2) hargs (by simp [p_cat, p_ci, p_cr, p_cn]) (Nat.le_of_ble_eq_true rfl)
  show W p l e rX4_init s m args below meth c s.heap [] 0 0 (MQ below (p_NMv D ad (p_AN ad h sz) a0 r) args s 18 704 (p_AN ad h sz)) (entryFrame m args 2)
  rw [hls]
  clear hls
  have hL : p_L ls 2 [(0, .ref (ad a0))] := hL
  have b150 : ∀ n : Nat, ∀ (adb : Nat → Nat) (H : Heap) (locs : List Loc) (ls : Array Slot) (h1 : PH) (a0 : Nat) (x1 : Int32), adb a0 = ad a0 → p_Q D adb (p_AN ad h sz) s h1 H → va_S (p_AN ad h sz) s.heap H locs → p_L ls 2 [(0, .ref (adb a0)), (1, .int x1)] → fX4_init_150 n h1 a0 x1 = some r → W p l e rX4_init s m args below meth c H locs 18 704 (MQ below (p_NMv D ad (p_AN ad h sz) a0 r) args s 18 704 (p_AN ad h sz)) (F0 m 150 ls []) := by
    intro n
    induction n with
    | zero =>
      intro adb H locs ls h1 a0 x1 hth hQ hS hL hf
      simp [fX4_init_150] at hf
    | succ n ih =>
      intro adb H locs ls h1 a0 x1 hth hQ hS hL hf
      rw [fX4_init_150] at hf
      refine lv_iload_n hx hb dX4_init_150 rfl (lv_at hL.1 1 rfl) ?_
      refine lv_bipush (v := 48) hx hb dX4_init_151 (by decide) ?_
      refine lv_icmp_ge (tgt := 169) hx hb dX4_init_153 (by decide) (fun c1 => ?_) (fun c1 => ?_)
      · rw [if_pos c1] at hf
        exact p_rNMv hC hr hlocks hQ hS hth hf (Nat.le_of_ble_eq_true rfl) (Nat.le_of_ble_eq_true rfl) dX4_init_169
      · rw [if_neg c1] at hf
        refine lv_aload_n hx hb dX4_init_156 rfl (lv_at hL.1 0 rfl) ?_
        obtain ⟨a_2, e3, hf⟩ := p_b hf
        refine p_getR hC hi4 hK hQ e3 rfl (by decide) (by decide +kernel) dX4_init_157 ?_
        refine lv_iload_n hx hb dX4_init_160 rfl (lv_at hL.1 1 rfl) ?_
        refine lv_iconst (v := -1) hx hb dX4_init_161 (by decide) ?_
        obtain ⟨h_4, e5, hf⟩ := p_b hf
        refine p_iast hC hQ hS e5 dX4_init_162 (fun H locs hQ hS => ?_)
        refine p_iinc (v := (x1 + 1)) (lv' := [(1, .int (x1 + 1)), (0, .ref (adb a0))]) hx hb dX4_init_163 hL (k := 1) rfl rfl (by decide) rfl (fun ls hL => ?_)
        refine lv_goto (tgt := 150) hx hb dX4_init_166 (by decide) ?_
        exact ih adb _ _ _ h_4 a0 (x1 + 1) hth hQ hS (hL.sub [1, 0] rfl) hf
  rw [fX4_init] at hf
  refine lv_aload_n hx hb dX4_init_0 rfl (lv_at hL.1 0 rfl) ?_
  refine W.objInit hx hb hown (hts (.methodLink RX4 1 objectInit) (by decide +kernel)) (hts (.instanceMethod objectInit) (by decide +kernel)) (hts (.code objectInit ⟨#[0xb1]⟩ 1 none) (by decide +kernel)) rfl (by rw [hml]; exact hL.1.1) rfl dX4_init_1 (Nat.le_of_ble_eq_true rfl) (Nat.le_of_ble_eq_true rfl) ?_
  refine W.eq (g2 := F0 m 4 ls []) rfl ?_
  refine lv_aload_n hx hb dX4_init_4 rfl (lv_at hL.1 0 rfl) ?_
  refine lv_bipush (v := 8) hx hb dX4_init_5 (by decide) ?_
  obtain ⟨u8, e9, hf⟩ := p_b hf
  obtain ⟨h_6, e7, hf⟩ := p_b hf
  refine p_newI (t := 0) hC rfl rfl hQ hS hAz e7 (by decide) (by decide) (Nat.le_of_ble_eq_true rfl) (by decide +kernel) (Nat.le_of_ble_eq_true rfl) (Nat.le_of_ble_eq_true rfl) dX4_init_7 (fun adn H hx1 hQ hS => ?_)
  revert hx1 hQ hS
  generalize adn = ad1
  intro hx1 hQ hS
  have ea_a0 : ad1 a0 = ad a0 := hx1 a0 (p_ob_ne e9)
  have hth : ad1 a0 = ad a0 := ea_a0.trans rfl
  have hL : p_L ls 2 [(0, .ref (ad1 a0))] := by rw [ea_a0]; exact hL
  rw [← ea_a0]
  obtain ⟨h_10, e11, hf⟩ := p_b hf
  refine p_putRF hC hi4 tyX4_ok nmX4 hK hQ hS e11 rfl (by decide) rfl hinit rfl rfl (by decide +kernel) dX4_init_9 (fun H locs hQ hS => ?_)
  refine lv_aload_n hx hb dX4_init_12 rfl (lv_at hL.1 0 rfl) ?_
  refine lv_bipush (v := 40) hx hb dX4_init_13 (by decide) ?_
  obtain ⟨u14, e15, hf⟩ := p_b hf
  obtain ⟨h_12, e13, hf⟩ := p_b hf
  refine p_newI (t := 0) hC rfl rfl hQ hS hAz e13 (by decide) (by decide) (Nat.le_of_ble_eq_true rfl) (by decide +kernel) (Nat.le_of_ble_eq_true rfl) (Nat.le_of_ble_eq_true rfl) dX4_init_15 (fun adn H hx1 hQ hS => ?_)
  revert hx1 hQ hS
  generalize adn = ad2
  intro hx1 hQ hS
  have ea_a0 : ad2 a0 = ad1 a0 := hx1 a0 (p_ob_ne e15)
  have hth : ad2 a0 = ad a0 := ea_a0.trans hth
  have hL : p_L ls 2 [(0, .ref (ad2 a0))] := by rw [ea_a0]; exact hL
  rw [← ea_a0]
  obtain ⟨h_16, e17, hf⟩ := p_b hf
  refine p_putRF hC hi4 tyX4_ok nmX4 hK hQ hS e17 rfl (by decide) rfl hinit rfl rfl (by decide +kernel) dX4_init_17 (fun H locs hQ hS => ?_)
  refine lv_aload_n hx hb dX4_init_20 rfl (lv_at hL.1 0 rfl) ?_
  refine lv_bipush (v := 40) hx hb dX4_init_21 (by decide) ?_
  obtain ⟨u20, e21, hf⟩ := p_b hf
  obtain ⟨h_18, e19, hf⟩ := p_b hf
  refine p_newI (t := 0) hC rfl rfl hQ hS hAz e19 (by decide) (by decide) (Nat.le_of_ble_eq_true rfl) (by decide +kernel) (Nat.le_of_ble_eq_true rfl) (Nat.le_of_ble_eq_true rfl) dX4_init_23 (fun adn H hx1 hQ hS => ?_)
  revert hx1 hQ hS
  generalize adn = ad3
  intro hx1 hQ hS
  have ea_a0 : ad3 a0 = ad2 a0 := hx1 a0 (p_ob_ne e21)
  have hth : ad3 a0 = ad a0 := ea_a0.trans hth
  have hL : p_L ls 2 [(0, .ref (ad3 a0))] := by rw [ea_a0]; exact hL
  rw [← ea_a0]
  obtain ⟨h_22, e23, hf⟩ := p_b hf
  refine p_putRF hC hi4 tyX4_ok nmX4 hK hQ hS e23 rfl (by decide) rfl hinit rfl rfl (by decide +kernel) dX4_init_25 (fun H locs hQ hS => ?_)
  refine lv_aload_n hx hb dX4_init_28 rfl (lv_at hL.1 0 rfl) ?_
  refine lv_bipush (v := 40) hx hb dX4_init_29 (by decide) ?_
  obtain ⟨u26, e27, hf⟩ := p_b hf
  obtain ⟨h_24, e25, hf⟩ := p_b hf
  refine p_newI (t := 0) hC rfl rfl hQ hS hAz e25 (by decide) (by decide) (Nat.le_of_ble_eq_true rfl) (by decide +kernel) (Nat.le_of_ble_eq_true rfl) (Nat.le_of_ble_eq_true rfl) dX4_init_31 (fun adn H hx1 hQ hS => ?_)
  revert hx1 hQ hS
  generalize adn = ad4
  intro hx1 hQ hS
  have ea_a0 : ad4 a0 = ad3 a0 := hx1 a0 (p_ob_ne e27)
  have hth : ad4 a0 = ad a0 := ea_a0.trans hth
  have hL : p_L ls 2 [(0, .ref (ad4 a0))] := by rw [ea_a0]; exact hL
  rw [← ea_a0]
  obtain ⟨h_28, e29, hf⟩ := p_b hf
  refine p_putRF hC hi4 tyX4_ok nmX4 hK hQ hS e29 rfl (by decide) rfl hinit rfl rfl (by decide +kernel) dX4_init_33 (fun H locs hQ hS => ?_)
  refine lv_aload_n hx hb dX4_init_36 rfl (lv_at hL.1 0 rfl) ?_
  refine lv_bipush (v := 40) hx hb dX4_init_37 (by decide) ?_
  obtain ⟨u32, e33, hf⟩ := p_b hf
  obtain ⟨h_30, e31, hf⟩ := p_b hf
  refine p_newI (t := 0) hC rfl rfl hQ hS hAz e31 (by decide) (by decide) (Nat.le_of_ble_eq_true rfl) (by decide +kernel) (Nat.le_of_ble_eq_true rfl) (Nat.le_of_ble_eq_true rfl) dX4_init_39 (fun adn H hx1 hQ hS => ?_)
  revert hx1 hQ hS
  generalize adn = ad5
  intro hx1 hQ hS
  have ea_a0 : ad5 a0 = ad4 a0 := hx1 a0 (p_ob_ne e33)
  have hth : ad5 a0 = ad a0 := ea_a0.trans hth
  have hL : p_L ls 2 [(0, .ref (ad5 a0))] := by rw [ea_a0]; exact hL
  rw [← ea_a0]
  obtain ⟨h_34, e35, hf⟩ := p_b hf
  refine p_putRF hC hi4 tyX4_ok nmX4 hK hQ hS e35 rfl (by decide) rfl hinit rfl rfl (by decide +kernel) dX4_init_41 (fun H locs hQ hS => ?_)
  refine lv_aload_n hx hb dX4_init_44 rfl (lv_at hL.1 0 rfl) ?_
  refine lv_bipush (v := 40) hx hb dX4_init_45 (by decide) ?_
  obtain ⟨u38, e39, hf⟩ := p_b hf
  obtain ⟨h_36, e37, hf⟩ := p_b hf
  refine p_newI (t := 1) hC rfl rfl hQ hS hAz e37 (by decide) (by decide) (Nat.le_of_ble_eq_true rfl) (by decide +kernel) (Nat.le_of_ble_eq_true rfl) (Nat.le_of_ble_eq_true rfl) dX4_init_47 (fun adn H hx1 hQ hS => ?_)
  revert hx1 hQ hS
  generalize adn = ad6
  intro hx1 hQ hS
  have ea_a0 : ad6 a0 = ad5 a0 := hx1 a0 (p_ob_ne e39)
  have hth : ad6 a0 = ad a0 := ea_a0.trans hth
  have hL : p_L ls 2 [(0, .ref (ad6 a0))] := by rw [ea_a0]; exact hL
  rw [← ea_a0]
  obtain ⟨h_40, e41, hf⟩ := p_b hf
  refine p_putRF hC hi4 tyX4_ok nmX4 hK hQ hS e41 rfl (by decide) rfl hinit rfl rfl (by decide +kernel) dX4_init_49 (fun H locs hQ hS => ?_)
  refine lv_aload_n hx hb dX4_init_52 rfl (lv_at hL.1 0 rfl) ?_
  refine lv_bipush (v := 40) hx hb dX4_init_53 (by decide) ?_
  obtain ⟨u44, e45, hf⟩ := p_b hf
  obtain ⟨h_42, e43, hf⟩ := p_b hf
  refine p_newI (t := 0) hC rfl rfl hQ hS hAz e43 (by decide) (by decide) (Nat.le_of_ble_eq_true rfl) (by decide +kernel) (Nat.le_of_ble_eq_true rfl) (Nat.le_of_ble_eq_true rfl) dX4_init_55 (fun adn H hx1 hQ hS => ?_)
  revert hx1 hQ hS
  generalize adn = ad7
  intro hx1 hQ hS
  have ea_a0 : ad7 a0 = ad6 a0 := hx1 a0 (p_ob_ne e45)
  have hth : ad7 a0 = ad a0 := ea_a0.trans hth
  have hL : p_L ls 2 [(0, .ref (ad7 a0))] := by rw [ea_a0]; exact hL
  rw [← ea_a0]
  obtain ⟨h_46, e47, hf⟩ := p_b hf
  refine p_putRF hC hi4 tyX4_ok nmX4 hK hQ hS e47 rfl (by decide) rfl hinit rfl rfl (by decide +kernel) dX4_init_57 (fun H locs hQ hS => ?_)
  refine lv_aload_n hx hb dX4_init_60 rfl (lv_at hL.1 0 rfl) ?_
  refine lv_bipush (v := 40) hx hb dX4_init_61 (by decide) ?_
  obtain ⟨u50, e51, hf⟩ := p_b hf
  obtain ⟨h_48, e49, hf⟩ := p_b hf
  refine p_newI (t := 0) hC rfl rfl hQ hS hAz e49 (by decide) (by decide) (Nat.le_of_ble_eq_true rfl) (by decide +kernel) (Nat.le_of_ble_eq_true rfl) (Nat.le_of_ble_eq_true rfl) dX4_init_63 (fun adn H hx1 hQ hS => ?_)
  revert hx1 hQ hS
  generalize adn = ad8
  intro hx1 hQ hS
  have ea_a0 : ad8 a0 = ad7 a0 := hx1 a0 (p_ob_ne e51)
  have hth : ad8 a0 = ad a0 := ea_a0.trans hth
  have hL : p_L ls 2 [(0, .ref (ad8 a0))] := by rw [ea_a0]; exact hL
  rw [← ea_a0]
  obtain ⟨h_52, e53, hf⟩ := p_b hf
  refine p_putRF hC hi4 tyX4_ok nmX4 hK hQ hS e53 rfl (by decide) rfl hinit rfl rfl (by decide +kernel) dX4_init_65 (fun H locs hQ hS => ?_)
  refine lv_aload_n hx hb dX4_init_68 rfl (lv_at hL.1 0 rfl) ?_
  refine lv_bipush (v := 40) hx hb dX4_init_69 (by decide) ?_
  obtain ⟨u56, e57, hf⟩ := p_b hf
  obtain ⟨h_54, e55, hf⟩ := p_b hf
  refine p_newI (t := 1) hC rfl rfl hQ hS hAz e55 (by decide) (by decide) (Nat.le_of_ble_eq_true rfl) (by decide +kernel) (Nat.le_of_ble_eq_true rfl) (Nat.le_of_ble_eq_true rfl) dX4_init_71 (fun adn H hx1 hQ hS => ?_)
  revert hx1 hQ hS
  generalize adn = ad9
  intro hx1 hQ hS
  have ea_a0 : ad9 a0 = ad8 a0 := hx1 a0 (p_ob_ne e57)
  have hth : ad9 a0 = ad a0 := ea_a0.trans hth
  have hL : p_L ls 2 [(0, .ref (ad9 a0))] := by rw [ea_a0]; exact hL
  rw [← ea_a0]
  obtain ⟨h_58, e59, hf⟩ := p_b hf
  refine p_putRF hC hi4 tyX4_ok nmX4 hK hQ hS e59 rfl (by decide) rfl hinit rfl rfl (by decide +kernel) dX4_init_73 (fun H locs hQ hS => ?_)
  refine lv_aload_n hx hb dX4_init_76 rfl (lv_at hL.1 0 rfl) ?_
  refine lv_bipush (v := 40) hx hb dX4_init_77 (by decide) ?_
  obtain ⟨u62, e63, hf⟩ := p_b hf
  obtain ⟨h_60, e61, hf⟩ := p_b hf
  refine p_newI (t := 0) hC rfl rfl hQ hS hAz e61 (by decide) (by decide) (Nat.le_of_ble_eq_true rfl) (by decide +kernel) (Nat.le_of_ble_eq_true rfl) (Nat.le_of_ble_eq_true rfl) dX4_init_79 (fun adn H hx1 hQ hS => ?_)
  revert hx1 hQ hS
  generalize adn = ad10
  intro hx1 hQ hS
  have ea_a0 : ad10 a0 = ad9 a0 := hx1 a0 (p_ob_ne e63)
  have hth : ad10 a0 = ad a0 := ea_a0.trans hth
  have hL : p_L ls 2 [(0, .ref (ad10 a0))] := by rw [ea_a0]; exact hL
  rw [← ea_a0]
  obtain ⟨h_64, e65, hf⟩ := p_b hf
  refine p_putRF hC hi4 tyX4_ok nmX4 hK hQ hS e65 rfl (by decide) rfl hinit rfl rfl (by decide +kernel) dX4_init_81 (fun H locs hQ hS => ?_)
  refine lv_aload_n hx hb dX4_init_84 rfl (lv_at hL.1 0 rfl) ?_
  refine lv_bipush (v := 40) hx hb dX4_init_85 (by decide) ?_
  obtain ⟨u68, e69, hf⟩ := p_b hf
  obtain ⟨h_66, e67, hf⟩ := p_b hf
  refine p_newI (t := 0) hC rfl rfl hQ hS hAz e67 (by decide) (by decide) (Nat.le_of_ble_eq_true rfl) (by decide +kernel) (Nat.le_of_ble_eq_true rfl) (Nat.le_of_ble_eq_true rfl) dX4_init_87 (fun adn H hx1 hQ hS => ?_)
  revert hx1 hQ hS
  generalize adn = ad11
  intro hx1 hQ hS
  have ea_a0 : ad11 a0 = ad10 a0 := hx1 a0 (p_ob_ne e69)
  have hth : ad11 a0 = ad a0 := ea_a0.trans hth
  have hL : p_L ls 2 [(0, .ref (ad11 a0))] := by rw [ea_a0]; exact hL
  rw [← ea_a0]
  obtain ⟨h_70, e71, hf⟩ := p_b hf
  refine p_putRF hC hi4 tyX4_ok nmX4 hK hQ hS e71 rfl (by decide) rfl hinit rfl rfl (by decide +kernel) dX4_init_89 (fun H locs hQ hS => ?_)
  refine lv_aload_n hx hb dX4_init_92 rfl (lv_at hL.1 0 rfl) ?_
  refine lv_bipush (v := 40) hx hb dX4_init_93 (by decide) ?_
  obtain ⟨u74, e75, hf⟩ := p_b hf
  obtain ⟨h_72, e73, hf⟩ := p_b hf
  refine p_newI (t := 0) hC rfl rfl hQ hS hAz e73 (by decide) (by decide) (Nat.le_of_ble_eq_true rfl) (by decide +kernel) (Nat.le_of_ble_eq_true rfl) (Nat.le_of_ble_eq_true rfl) dX4_init_95 (fun adn H hx1 hQ hS => ?_)
  revert hx1 hQ hS
  generalize adn = ad12
  intro hx1 hQ hS
  have ea_a0 : ad12 a0 = ad11 a0 := hx1 a0 (p_ob_ne e75)
  have hth : ad12 a0 = ad a0 := ea_a0.trans hth
  have hL : p_L ls 2 [(0, .ref (ad12 a0))] := by rw [ea_a0]; exact hL
  rw [← ea_a0]
  obtain ⟨h_76, e77, hf⟩ := p_b hf
  refine p_putRF hC hi4 tyX4_ok nmX4 hK hQ hS e77 rfl (by decide) rfl hinit rfl rfl (by decide +kernel) dX4_init_97 (fun H locs hQ hS => ?_)
  refine lv_aload_n hx hb dX4_init_100 rfl (lv_at hL.1 0 rfl) ?_
  refine lv_bipush (v := 40) hx hb dX4_init_101 (by decide) ?_
  obtain ⟨u80, e81, hf⟩ := p_b hf
  obtain ⟨h_78, e79, hf⟩ := p_b hf
  refine p_newI (t := 0) hC rfl rfl hQ hS hAz e79 (by decide) (by decide) (Nat.le_of_ble_eq_true rfl) (by decide +kernel) (Nat.le_of_ble_eq_true rfl) (Nat.le_of_ble_eq_true rfl) dX4_init_103 (fun adn H hx1 hQ hS => ?_)
  revert hx1 hQ hS
  generalize adn = ad13
  intro hx1 hQ hS
  have ea_a0 : ad13 a0 = ad12 a0 := hx1 a0 (p_ob_ne e81)
  have hth : ad13 a0 = ad a0 := ea_a0.trans hth
  have hL : p_L ls 2 [(0, .ref (ad13 a0))] := by rw [ea_a0]; exact hL
  rw [← ea_a0]
  obtain ⟨h_82, e83, hf⟩ := p_b hf
  refine p_putRF hC hi4 tyX4_ok nmX4 hK hQ hS e83 rfl (by decide) rfl hinit rfl rfl (by decide +kernel) dX4_init_105 (fun H locs hQ hS => ?_)
  refine lv_aload_n hx hb dX4_init_108 rfl (lv_at hL.1 0 rfl) ?_
  refine lv_bipush (v := 40) hx hb dX4_init_109 (by decide) ?_
  obtain ⟨u86, e87, hf⟩ := p_b hf
  obtain ⟨h_84, e85, hf⟩ := p_b hf
  refine p_newI (t := 0) hC rfl rfl hQ hS hAz e85 (by decide) (by decide) (Nat.le_of_ble_eq_true rfl) (by decide +kernel) (Nat.le_of_ble_eq_true rfl) (Nat.le_of_ble_eq_true rfl) dX4_init_111 (fun adn H hx1 hQ hS => ?_)
  revert hx1 hQ hS
  generalize adn = ad14
  intro hx1 hQ hS
  have ea_a0 : ad14 a0 = ad13 a0 := hx1 a0 (p_ob_ne e87)
  have hth : ad14 a0 = ad a0 := ea_a0.trans hth
  have hL : p_L ls 2 [(0, .ref (ad14 a0))] := by rw [ea_a0]; exact hL
  rw [← ea_a0]
  obtain ⟨h_88, e89, hf⟩ := p_b hf
  refine p_putRF hC hi4 tyX4_ok nmX4 hK hQ hS e89 rfl (by decide) rfl hinit rfl rfl (by decide +kernel) dX4_init_113 (fun H locs hQ hS => ?_)
  refine lv_aload_n hx hb dX4_init_116 rfl (lv_at hL.1 0 rfl) ?_
  refine lv_bipush (v := 40) hx hb dX4_init_117 (by decide) ?_
  obtain ⟨u92, e93, hf⟩ := p_b hf
  obtain ⟨h_90, e91, hf⟩ := p_b hf
  refine p_newI (t := 0) hC rfl rfl hQ hS hAz e91 (by decide) (by decide) (Nat.le_of_ble_eq_true rfl) (by decide +kernel) (Nat.le_of_ble_eq_true rfl) (Nat.le_of_ble_eq_true rfl) dX4_init_119 (fun adn H hx1 hQ hS => ?_)
  revert hx1 hQ hS
  generalize adn = ad15
  intro hx1 hQ hS
  have ea_a0 : ad15 a0 = ad14 a0 := hx1 a0 (p_ob_ne e93)
  have hth : ad15 a0 = ad a0 := ea_a0.trans hth
  have hL : p_L ls 2 [(0, .ref (ad15 a0))] := by rw [ea_a0]; exact hL
  rw [← ea_a0]
  obtain ⟨h_94, e95, hf⟩ := p_b hf
  refine p_putRF hC hi4 tyX4_ok nmX4 hK hQ hS e95 rfl (by decide) rfl hinit rfl rfl (by decide +kernel) dX4_init_121 (fun H locs hQ hS => ?_)
  refine lv_aload_n hx hb dX4_init_124 rfl (lv_at hL.1 0 rfl) ?_
  refine lv_bipush (v := 40) hx hb dX4_init_125 (by decide) ?_
  obtain ⟨u98, e99, hf⟩ := p_b hf
  obtain ⟨h_96, e97, hf⟩ := p_b hf
  refine p_newI (t := 0) hC rfl rfl hQ hS hAz e97 (by decide) (by decide) (Nat.le_of_ble_eq_true rfl) (by decide +kernel) (Nat.le_of_ble_eq_true rfl) (Nat.le_of_ble_eq_true rfl) dX4_init_127 (fun adn H hx1 hQ hS => ?_)
  revert hx1 hQ hS
  generalize adn = ad16
  intro hx1 hQ hS
  have ea_a0 : ad16 a0 = ad15 a0 := hx1 a0 (p_ob_ne e99)
  have hth : ad16 a0 = ad a0 := ea_a0.trans hth
  have hL : p_L ls 2 [(0, .ref (ad16 a0))] := by rw [ea_a0]; exact hL
  rw [← ea_a0]
  obtain ⟨h_100, e101, hf⟩ := p_b hf
  refine p_putRF hC hi4 tyX4_ok nmX4 hK hQ hS e101 rfl (by decide) rfl hinit rfl rfl (by decide +kernel) dX4_init_129 (fun H locs hQ hS => ?_)
  refine lv_aload_n hx hb dX4_init_132 rfl (lv_at hL.1 0 rfl) ?_
  refine lv_bipush (v := 48) hx hb dX4_init_133 (by decide) ?_
  obtain ⟨u104, e105, hf⟩ := p_b hf
  obtain ⟨h_102, e103, hf⟩ := p_b hf
  refine p_newI (t := 0) hC rfl rfl hQ hS hAz e103 (by decide) (by decide) (Nat.le_of_ble_eq_true rfl) (by decide +kernel) (Nat.le_of_ble_eq_true rfl) (Nat.le_of_ble_eq_true rfl) dX4_init_135 (fun adn H hx1 hQ hS => ?_)
  revert hx1 hQ hS
  generalize adn = ad17
  intro hx1 hQ hS
  have ea_a0 : ad17 a0 = ad16 a0 := hx1 a0 (p_ob_ne e105)
  have hth : ad17 a0 = ad a0 := ea_a0.trans hth
  have hL : p_L ls 2 [(0, .ref (ad17 a0))] := by rw [ea_a0]; exact hL
  rw [← ea_a0]
  obtain ⟨h_106, e107, hf⟩ := p_b hf
  refine p_putRF hC hi4 tyX4_ok nmX4 hK hQ hS e107 rfl (by decide) rfl hinit rfl rfl (by decide +kernel) dX4_init_137 (fun H locs hQ hS => ?_)
  refine lv_aload_n hx hb dX4_init_140 rfl (lv_at hL.1 0 rfl) ?_
  refine lv_bipush (v := 48) hx hb dX4_init_141 (by decide) ?_
  obtain ⟨u110, e111, hf⟩ := p_b hf
  obtain ⟨h_108, e109, hf⟩ := p_b hf
  refine p_newI (t := 0) hC rfl rfl hQ hS hAz e109 (by decide) (by decide) (Nat.le_of_ble_eq_true rfl) (by decide +kernel) (Nat.le_of_ble_eq_true rfl) (Nat.le_of_ble_eq_true rfl) dX4_init_143 (fun adn H hx1 hQ hS => ?_)
  revert hx1 hQ hS
  generalize adn = ad18
  intro hx1 hQ hS
  have ea_a0 : ad18 a0 = ad17 a0 := hx1 a0 (p_ob_ne e111)
  have hth : ad18 a0 = ad a0 := ea_a0.trans hth
  have hL : p_L ls 2 [(0, .ref (ad18 a0))] := by rw [ea_a0]; exact hL
  rw [← ea_a0]
  obtain ⟨h_112, e113, hf⟩ := p_b hf
  refine p_putRF hC hi4 tyX4_ok nmX4 hK hQ hS e113 rfl (by decide) rfl hinit rfl rfl (by decide +kernel) dX4_init_145 (fun H locs hQ hS => ?_)
  refine lv_iconst (v := 0) hx hb dX4_init_148 (by decide) ?_
  refine p_istore_n (lv' := [(1, .int 0), (0, .ref (ad18 a0))]) hx hb dX4_init_149 rfl hL (by decide) rfl (fun ls hL => ?_)
  exact b150 64 ad18 _ _ _ h_112 a0 0 hth hQ hS (hL.sub [1, 0] rfl) hf
-- X4_thrown
abbrev rX4_thrown : Room := { frames := 0, cells := 0, slots := 0, locals := 0 }
set_option maxHeartbeats 4000000 in
set_option maxRecDepth 100000 in
theorem kX4_thrown (l : Launch) (D : va_G) (ad : Nat → Nat) (h : PH) (a0 : Nat)  (r : Int32) (hf : fX4_thrown h a0  = some r) : Met l yX4_thrown wsX4_thrown rX4_thrown (p_pre D ad p_tt h [.ref (ad a0)]) (p_Ri r) 0 0 p_no := by
  refine Met.ofW (cc := cX4_thrown) (maxL := 1) (ret := (some .int)) (by decide) rfl ?_
  intro p e s m args below meth c s₁ B hml hv
  obtain ⟨hargs, hK, hQ⟩ := hv
  have hx := B.exec
  have hb := B.bytes
  have hr := B.returns
  have hts := atoms_spec (ws := wsX4_thrown) B.pre
  have hown : s.vm.findClass RX4 = some m.cls := findClass_of_methodNamed B.named
  have hlocks := B.notSynchronized
  have hC : CallFix p m c cX4_thrown 1 s args wsX4_thrown RX4 := ⟨hx, hb, hml, hown, hts⟩
  have hS : va_S p_no s.heap s.heap [] := va_S.rf
  have hi4 : ∀ w ∈ u_ws RX4 TX4 22, w ∈ wsX4_thrown := fun w hw => List.mem_cons_of_mem _ (List.mem_append_right _ hw)
  obtain ⟨ls, hls, hL⟩ := p_start (n := 1) hargs (by simp [p_cat, p_ci, p_cr, p_cn]) (Nat.le_of_ble_eq_true rfl)
  show W p l e rX4_thrown s m args below meth c s.heap [] 0 0 (MQ below (p_Ri r) args s 0 0 p_no) (entryFrame m args 1)
  rw [hls]
  clear hls
  have hL : p_L ls 1 [(0, .ref (ad a0))] := hL
  rw [fX4_thrown] at hf
  refine lv_aload_n hx hb dX4_thrown_0 rfl (lv_at hL.1 0 rfl) ?_
  obtain ⟨v1, e2, hf⟩ := p_b hf
  refine p_getI hC hi4 hK hQ e2 rfl (by decide) (by decide +kernel) dX4_thrown_1 ?_
  exact p_rRi hC hr hlocks hS hf dX4_thrown_4
-- X4_refused
abbrev rX4_refused : Room := { frames := 0, cells := 0, slots := 0, locals := 0 }
set_option maxHeartbeats 4000000 in
set_option maxRecDepth 100000 in
theorem kX4_refused (l : Launch) (D : va_G) (ad : Nat → Nat) (h : PH) (a0 : Nat) (x1 : Int32)  (r : Int32 × PH) (hf : fX4_refused h a0 x1  = some r) : Met l yX4_refused wsX4_refused rX4_refused (p_pre D ad (p_A ad h) h [.ref (ad a0), .int x1]) (p_Mi D ad (p_A ad h) r) 0 0 (p_A ad h) := by
  refine Met.ofW (cc := cX4_refused) (maxL := 2) (ret := (some .boolean)) (by decide) rfl ?_
  intro p e s m args below meth c s₁ B hml hv
  obtain ⟨hargs, hK, hQ⟩ := hv
  have hx := B.exec
  have hb := B.bytes
  have hr := B.returns
  have hts := atoms_spec (ws := wsX4_refused) B.pre
  have hown : s.vm.findClass RX4 = some m.cls := findClass_of_methodNamed B.named
  have hlocks := B.notSynchronized
  have hC : CallFix p m c cX4_refused 2 s args wsX4_refused RX4 := ⟨hx, hb, hml, hown, hts⟩
  have hS : va_S (p_A ad h) s.heap s.heap [] := va_S.rf
  have hi4 : ∀ w ∈ u_ws RX4 TX4 22, w ∈ wsX4_refused := fun w hw => List.mem_cons_of_mem _ (List.mem_append_right _ hw)
  obtain ⟨ls, hls, hL⟩ := p_start (n := 2) hargs (by simp [p_cat, p_ci, p_cr, p_cn]) (Nat.le_of_ble_eq_true rfl)
  show W p l e rX4_refused s m args below meth c s.heap [] 0 0 (MQ below (p_Mi D ad (p_A ad h) r) args s 0 0 (p_A ad h)) (entryFrame m args 2)
  rw [hls]
  clear hls
  have hL : p_L ls 2 [(0, .ref (ad a0)), (1, .int x1)] := hL
  have b14 : ∀ (H : Heap) (locs : List Loc) (ls : Array Slot) (h1 : PH) (sx0 : Int32), p_Q D ad (p_A ad h) s h1 H → va_S (p_A ad h) s.heap H locs → p_L ls 2 [] → fX4_refused_14 h1 sx0 = some r → W p l e rX4_refused s m args below meth c H locs 0 0 (MQ below (p_Mi D ad (p_A ad h) r) args s 0 0 (p_A ad h)) (F0 m 14 ls [.int sx0]) := by
    intro H locs ls h1 sx0 hQ hS hL hf
    rw [fX4_refused_14] at hf
    exact p_rMz hC hr hlocks hQ hS hf dX4_refused_14
  rw [fX4_refused] at hf
  refine lv_aload_n hx hb dX4_refused_0 rfl (lv_at hL.1 0 rfl) ?_
  refine lv_iload_n hx hb dX4_refused_1 rfl (lv_at hL.1 1 rfl) ?_
  obtain ⟨h_1, e2, hf⟩ := p_b hf
  refine p_putI hC hi4 tyX4_ok nmX4 hK hQ hS e2 rfl (by decide) rfl rfl (by decide +kernel) dX4_refused_2 (fun H locs hQ hS => ?_)
  refine lv_iload_n hx hb dX4_refused_5 rfl (lv_at hL.1 1 rfl) ?_
  refine lv_if_eq (tgt := 13) hx hb dX4_refused_6 (by decide) (fun c3 => ?_) (fun c3 => ?_)
  · rw [if_pos c3] at hf
    refine lv_iconst (v := 0) hx hb dX4_refused_13 (by decide) ?_
    exact b14 _ _ _ h_1 0 hQ hS (hL.sub [] rfl) hf
  · rw [if_neg c3] at hf
    refine lv_iconst (v := 1) hx hb dX4_refused_9 (by decide) ?_
    refine lv_goto (tgt := 14) hx hb dX4_refused_10 (by decide) ?_
    exact b14 _ _ _ h_1 1 hQ hS (hL.sub [] rfl) hf
-- X4_fine
abbrev rX4_fine : Room := { frames := 0, cells := 0, slots := 0, locals := 0 }
set_option maxHeartbeats 4000000 in
set_option maxRecDepth 100000 in
theorem kX4_fine (l : Launch) (D : va_G) (ad : Nat → Nat) (h : PH) (a0 : Nat) (x1 : Int32)  (r : Int32 × PH) (hf : fX4_fine h a0 x1  = some r) : Met l yX4_fine wsX4_fine rX4_fine (p_pre D ad (p_A ad h) h [.ref (ad a0), .int x1]) (p_Mi D ad (p_A ad h) r) 0 0 (p_A ad h) := by
  refine Met.ofW (cc := cX4_fine) (maxL := 2) (ret := (some .int)) (by decide) rfl ?_
  intro p e s m args below meth c s₁ B hml hv
  obtain ⟨hargs, hK, hQ⟩ := hv
  have hx := B.exec
  have hb := B.bytes
  have hr := B.returns
  have hts := atoms_spec (ws := wsX4_fine) B.pre
  have hown : s.vm.findClass RX4 = some m.cls := findClass_of_methodNamed B.named
  have hlocks := B.notSynchronized
  have hC : CallFix p m c cX4_fine 2 s args wsX4_fine RX4 := ⟨hx, hb, hml, hown, hts⟩
  have hS : va_S (p_A ad h) s.heap s.heap [] := va_S.rf
  have hi4 : ∀ w ∈ u_ws RX4 TX4 22, w ∈ wsX4_fine := fun w hw => List.mem_cons_of_mem _ (List.mem_append_right _ hw)
  obtain ⟨ls, hls, hL⟩ := p_start (n := 2) hargs (by simp [p_cat, p_ci, p_cr, p_cn]) (Nat.le_of_ble_eq_true rfl)
  show W p l e rX4_fine s m args below meth c s.heap [] 0 0 (MQ below (p_Mi D ad (p_A ad h) r) args s 0 0 (p_A ad h)) (entryFrame m args 2)
  rw [hls]
  clear hls
  have hL : p_L ls 2 [(0, .ref (ad a0)), (1, .int x1)] := hL
  rw [fX4_fine] at hf
  refine lv_aload_n hx hb dX4_fine_0 rfl (lv_at hL.1 0 rfl) ?_
  refine lv_iconst (v := 0) hx hb dX4_fine_1 (by decide) ?_
  obtain ⟨h_1, e2, hf⟩ := p_b hf
  refine p_putI hC hi4 tyX4_ok nmX4 hK hQ hS e2 rfl (by decide) rfl rfl (by decide +kernel) dX4_fine_2 (fun H locs hQ hS => ?_)
  refine lv_iload_n hx hb dX4_fine_5 rfl (lv_at hL.1 1 rfl) ?_
  exact p_rMi hC hr hlocks hQ hS hf dX4_fine_6
-- X4_in
abbrev rX4_in : Room := { frames := 0, cells := 0, slots := 0, locals := 0 }
set_option maxHeartbeats 4000000 in
set_option maxRecDepth 100000 in
theorem kX4_in (l : Launch) (D : va_G) (ad : Nat → Nat) (h : PH) (x0 : Int32) (x1 : Int32) (x2 : Int32)  (r : Int32) (hf : fX4_in h x0 x1 x2  = some r) : Met l yX4_in wsX4_in rX4_in (p_pre D ad p_tt h [.int x0, .int x1, .int x2]) (p_Ri r) 0 0 p_no := by
  refine Met.ofW (cc := cX4_in) (maxL := 3) (ret := (some .boolean)) (by decide) rfl ?_
  intro p e s m args below meth c s₁ B hml hv
  obtain ⟨hargs, hK, hQ⟩ := hv
  have hx := B.exec
  have hb := B.bytes
  have hr := B.returns
  have hts := atoms_spec (ws := wsX4_in) B.pre
  have hown : s.vm.findClass RX4 = some m.cls := findClass_of_methodNamed B.named
  have hlocks := B.notSynchronized
  have hC : CallFix p m c cX4_in 3 s args wsX4_in RX4 := ⟨hx, hb, hml, hown, hts⟩
  have hS : va_S p_no s.heap s.heap [] := va_S.rf
  obtain ⟨ls, hls, hL⟩ := p_start (n := 3) hargs (by simp [p_cat, p_ci, p_cr, p_cn]) (Nat.le_of_ble_eq_true rfl)
  show W p l e rX4_in s m args below meth c s.heap [] 0 0 (MQ below (p_Ri r) args s 0 0 p_no) (entryFrame m args 3)
  rw [hls]
  clear hls
  have hL : p_L ls 3 [(0, .int x0), (1, .int x1), (2, .int x2)] := hL
  have b15 : ∀ (H : Heap) (locs : List Loc) (ls : Array Slot) (h1 : PH) (sx0 : Int32), p_Q D ad p_tt s h1 H → va_S p_no s.heap H locs → p_L ls 3 [] → fX4_in_15 h1 sx0 = some r → W p l e rX4_in s m args below meth c H locs 0 0 (MQ below (p_Ri r) args s 0 0 p_no) (F0 m 15 ls [.int sx0]) := by
    intro H locs ls h1 sx0 hQ hS hL hf
    rw [fX4_in_15] at hf
    exact p_rRz hC hr hlocks hS hf dX4_in_15
  have b14 : ∀ (H : Heap) (locs : List Loc) (ls : Array Slot) (h1 : PH) , p_Q D ad p_tt s h1 H → va_S p_no s.heap H locs → p_L ls 3 [] → fX4_in_14 h1  = some r → W p l e rX4_in s m args below meth c H locs 0 0 (MQ below (p_Ri r) args s 0 0 p_no) (F0 m 14 ls []) := by
    intro H locs ls h1  hQ hS hL hf
    rw [fX4_in_14] at hf
    refine lv_iconst (v := 0) hx hb dX4_in_14 (by decide) ?_
    exact b15 _ _ _ h1 0 hQ hS (hL.sub [] rfl) hf
  rw [fX4_in] at hf
  refine lv_iload_n hx hb dX4_in_0 rfl (lv_at hL.1 0 rfl) ?_
  refine lv_iload_n hx hb dX4_in_1 rfl (lv_at hL.1 1 rfl) ?_
  refine lv_icmp_lt (tgt := 14) hx hb dX4_in_2 (by decide) (fun c1 => ?_) (fun c1 => ?_)
  · rw [if_pos c1] at hf
    exact b14 _ _ _ h  hQ hS (hL.sub [] rfl) hf
  · rw [if_neg c1] at hf
    refine lv_iload_n hx hb dX4_in_5 rfl (lv_at hL.1 0 rfl) ?_
    refine lv_iload_n hx hb dX4_in_6 rfl (lv_at hL.1 2 rfl) ?_
    refine lv_icmp_gt (tgt := 14) hx hb dX4_in_7 (by decide) (fun c2 => ?_) (fun c2 => ?_)
    · rw [if_pos c2] at hf
      exact b14 _ _ _ h  hQ hS (hL.sub [] rfl) hf
    · rw [if_neg c2] at hf
      refine lv_iconst (v := 1) hx hb dX4_in_10 (by decide) ?_
      refine lv_goto (tgt := 15) hx hb dX4_in_11 (by decide) ?_
      exact b15 _ _ _ h 1 hQ hS (hL.sub [] rfl) hf
-- X4_placeIn
abbrev rX4_placeIn : Room := { frames := 0, cells := 0, slots := 0, locals := 0 }
set_option maxHeartbeats 4000000 in
set_option maxRecDepth 100000 in
theorem kX4_placeIn (l : Launch) (D : va_G) (ad : Nat → Nat) (h : PH) (a0 : Nat) (x1 : Int32)  (r : Int32) (hf : fX4_placeIn h a0 x1  = some r) : Met l yX4_placeIn wsX4_placeIn rX4_placeIn (p_pre D ad p_tt h [.ref (ad a0), .int x1]) (p_Ri r) 0 0 p_no := by
  refine Met.ofW (cc := cX4_placeIn) (maxL := 3) (ret := (some .int)) (by decide) rfl ?_
  intro p e s m args below meth c s₁ B hml hv
  obtain ⟨hargs, hK, hQ⟩ := hv
  have hx := B.exec
  have hb := B.bytes
  have hr := B.returns
  have hts := atoms_spec (ws := wsX4_placeIn) B.pre
  have hown : s.vm.findClass RX4 = some m.cls := findClass_of_methodNamed B.named
  have hlocks := B.notSynchronized
  have hC : CallFix p m c cX4_placeIn 3 s args wsX4_placeIn RX4 := ⟨hx, hb, hml, hown, hts⟩
  have hS : va_S p_no s.heap s.heap [] := va_S.rf
  have hi4 : ∀ w ∈ u_ws RX4 TX4 22, w ∈ wsX4_placeIn := fun w hw => List.mem_cons_of_mem _ (List.mem_append_right _ hw)
  obtain ⟨ls, hls, hL⟩ := p_start (n := 3) hargs (by simp [p_cat, p_ci, p_cr, p_cn]) (Nat.le_of_ble_eq_true rfl)
  show W p l e rX4_placeIn s m args below meth c s.heap [] 0 0 (MQ below (p_Ri r) args s 0 0 p_no) (entryFrame m args 3)
  rw [hls]
  clear hls
  have hL : p_L ls 3 [(0, .ref (ad a0)), (1, .int x1)] := hL
  have b2 : ∀ n : Nat, ∀ (H : Heap) (locs : List Loc) (ls : Array Slot) (h1 : PH) (a0 : Nat) (x1 : Int32) (x2 : Int32), p_Q D ad p_tt s h1 H → va_S p_no s.heap H locs → p_L ls 3 [(0, .ref (ad a0)), (1, .int x1), (2, .int x2)] → fX4_placeIn_2 n h1 a0 x1 x2 = some r → W p l e rX4_placeIn s m args below meth c H locs 0 0 (MQ below (p_Ri r) args s 0 0 p_no) (F0 m 2 ls []) := by
    intro n
    induction n with
    | zero =>
      intro H locs ls h1 a0 x1 x2 hQ hS hL hf
      simp [fX4_placeIn_2] at hf
    | succ n ih =>
      intro H locs ls h1 a0 x1 x2 hQ hS hL hf
      rw [fX4_placeIn_2] at hf
      refine lv_iload_n hx hb dX4_placeIn_2 rfl (lv_at hL.1 2 rfl) ?_
      refine lv_aload_n hx hb dX4_placeIn_3 rfl (lv_at hL.1 0 rfl) ?_
      obtain ⟨v1, e2, hf⟩ := p_b hf
      refine p_getI hC hi4 hK hQ e2 rfl (by decide) (by decide +kernel) dX4_placeIn_4 ?_
      refine lv_icmp_ge (tgt := 28) hx hb dX4_placeIn_7 (by decide) (fun c3 => ?_) (fun c3 => ?_)
      · rw [if_pos c3] at hf
        refine lv_iconst (v := -1) hx hb dX4_placeIn_28 (by decide) ?_
        exact p_rRi hC hr hlocks hS hf dX4_placeIn_29
      · rw [if_neg c3] at hf
        refine lv_aload_n hx hb dX4_placeIn_10 rfl (lv_at hL.1 0 rfl) ?_
        obtain ⟨a_4, e5, hf⟩ := p_b hf
        refine p_getR hC hi4 hK hQ e5 rfl (by decide) (by decide +kernel) dX4_placeIn_11 ?_
        refine lv_iload_n hx hb dX4_placeIn_14 rfl (lv_at hL.1 2 rfl) ?_
        obtain ⟨v7, e6, hf⟩ := p_b hf
        refine p_iald hC hQ e6 dX4_placeIn_15 ?_
        refine lv_iload_n hx hb dX4_placeIn_16 rfl (lv_at hL.1 1 rfl) ?_
        refine lv_icmp_ne (tgt := 22) hx hb dX4_placeIn_17 (by decide) (fun c8 => ?_) (fun c8 => ?_)
        · rw [if_neg c8] at hf
          refine p_iinc (v := (x2 + 1)) (lv' := [(2, .int (x2 + 1)), (0, .ref (ad a0)), (1, .int x1)]) hx hb dX4_placeIn_22 hL (k := 2) rfl rfl (by decide) rfl (fun ls hL => ?_)
          refine lv_goto (tgt := 2) hx hb dX4_placeIn_25 (by decide) ?_
          exact ih _ _ _ h1 a0 x1 (x2 + 1) hQ hS (hL.sub [1, 2, 0] rfl) hf
        · rw [if_pos c8] at hf
          refine lv_iload_n hx hb dX4_placeIn_20 rfl (lv_at hL.1 2 rfl) ?_
          exact p_rRi hC hr hlocks hS hf dX4_placeIn_21
  rw [fX4_placeIn] at hf
  refine lv_iconst (v := 0) hx hb dX4_placeIn_0 (by decide) ?_
  refine p_istore_n (lv' := [(2, .int 0), (0, .ref (ad a0)), (1, .int x1)]) hx hb dX4_placeIn_1 rfl hL (by decide) rfl (fun ls hL => ?_)
  exact b2 64 _ _ _ h a0 x1 0 hQ hS (hL.sub [1, 2, 0] rfl) hf
-- X4_noWindow
abbrev rX4_noWindow : Room := { frames := 1, cells := 0, slots := 0, locals := 22 }
set_option maxHeartbeats 4000000 in
set_option maxRecDepth 100000 in
theorem kX4_noWindow (l : Launch) (D : va_G) (ad : Nat → Nat) (h : PH) (a0 : Nat) (x1 : Int32)  (r : Int32 × PH) (hf : fX4_noWindow h a0 x1  = some r) : Met l yX4_noWindow wsX4_noWindow rX4_noWindow (p_pre D ad (p_A ad h) h [.ref (ad a0), .int x1]) (p_Mi D ad (p_A ad h) r) 0 0 (p_A ad h) := by
  refine Met.ofW (cc := cX4_noWindow) (maxL := 2) (ret := (some .boolean)) (by decide) rfl ?_
  intro p e s m args below meth c s₁ B hml hv
  obtain ⟨hargs, hK, hQ⟩ := hv
  have hx := B.exec
  have hb := B.bytes
  have hr := B.returns
  have hts := atoms_spec (ws := wsX4_noWindow) B.pre
  have hown : s.vm.findClass RX4 = some m.cls := findClass_of_methodNamed B.named
  have hlocks := B.notSynchronized
  have hC : CallFix p m c cX4_noWindow 2 s args wsX4_noWindow RX4 := ⟨hx, hb, hml, hown, hts⟩
  have hS : va_S (p_A ad h) s.heap s.heap [] := va_S.rf
  have hi4 : ∀ w ∈ u_ws RX4 TX4 22, w ∈ wsX4_noWindow := fun w hw => List.mem_cons_of_mem _ (List.mem_append_right _ hw)
  obtain ⟨ls, hls, hL⟩ := p_start (n := 2) hargs (by simp [p_cat, p_ci, p_cr, p_cn]) (Nat.le_of_ble_eq_true rfl)
  show W p l e rX4_noWindow s m args below meth c s.heap [] 0 0 (MQ below (p_Mi D ad (p_A ad h) r) args s 0 0 (p_A ad h)) (entryFrame m args 2)
  rw [hls]
  clear hls
  have hL : p_L ls 2 [(0, .ref (ad a0)), (1, .int x1)] := hL
  have b15 : ∀ (H : Heap) (locs : List Loc) (ls : Array Slot) (h1 : PH) (sx0 : Int32) (sa1 : Nat), p_Q D ad (p_A ad h) s h1 H → va_S (p_A ad h) s.heap H locs → p_L ls 2 [] → fX4_noWindow_15 h1 sx0 sa1 = some r → W p l e rX4_noWindow s m args below meth c H locs 0 0 (MQ below (p_Mi D ad (p_A ad h) r) args s 0 0 (p_A ad h)) (F0 m 15 ls [.int sx0, .ref (ad sa1)]) := by
    intro H locs ls h1 sx0 sa1 hQ hS hL hf
    rw [fX4_noWindow_15] at hf
    obtain ⟨u1, e2, hf⟩ := p_b hf
    obtain ⟨y3, e4, hf⟩ := p_b hf
    refine p_cMi (va_runV (As := [.int sx0]) (rest := []) hC (kX4_refused l D ad h1 sa1 sx0 y3 e4) (cwV 1 hts gX4_noWindow_X4_refused rfl rfl rfl (by decide +kernel) ⟨Nat.le_of_ble_eq_true rfl, Nat.le_of_ble_eq_true rfl⟩) (p_preV hK hQ.self e2 rfl) rfl rfl hL.1.1 rfl (lv_room (Nat.le_of_ble_eq_true rfl)) dX4_noWindow_15 ⟨Nat.le_of_ble_eq_true rfl, Nat.le_of_ble_eq_true rfl⟩) hQ hS (fun H locs hQ hS => ?_)
    exact p_rMz hC hr hlocks hQ hS hf dX4_noWindow_18
  rw [fX4_noWindow] at hf
  refine lv_aload_n hx hb dX4_noWindow_0 rfl (lv_at hL.1 0 rfl) ?_
  refine lv_aload_n hx hb dX4_noWindow_1 rfl (lv_at hL.1 0 rfl) ?_
  refine lv_iload_n hx hb dX4_noWindow_2 rfl (lv_at hL.1 1 rfl) ?_
  obtain ⟨u5, e6, hf⟩ := p_b hf
  obtain ⟨v7, e8, hf⟩ := p_b hf
  refine p_cRi (va_runV (As := [.int x1]) (rest := [.ref (ad a0)]) hC (kX4_placeIn l D ad h a0 x1 v7 e8) (cwV 1 hts gX4_noWindow_X4_placeIn rfl rfl rfl (by decide +kernel) ⟨Nat.le_of_ble_eq_true rfl, Nat.le_of_ble_eq_true rfl⟩) (p_preV hK hQ.tt e6 rfl) rfl rfl hL.1.1 rfl (lv_room (Nat.le_of_ble_eq_true rfl)) dX4_noWindow_3 ⟨Nat.le_of_ble_eq_true rfl, Nat.le_of_ble_eq_true rfl⟩) hQ hS (fun H locs hQ hS => ?_)
  refine lv_iconst (v := -1) hx hb dX4_noWindow_6 (by decide) ?_
  refine lv_icmp_ne (tgt := 14) hx hb dX4_noWindow_7 (by decide) (fun c9 => ?_) (fun c9 => ?_)
  · rw [if_neg c9] at hf
    refine lv_iconst (v := 0) hx hb dX4_noWindow_14 (by decide) ?_
    exact b15 _ _ _ h 0 a0 hQ hS (hL.sub [] rfl) hf
  · rw [if_pos c9] at hf
    refine lv_iconst (v := 1) hx hb dX4_noWindow_10 (by decide) ?_
    refine lv_goto (tgt := 15) hx hb dX4_noWindow_11 (by decide) ?_
    exact b15 _ _ _ h 1 a0 hQ hS (hL.sub [] rfl) hf
-- X4_covers
abbrev rX4_covers : Room := { frames := 1, cells := 0, slots := 0, locals := 22 }
set_option maxHeartbeats 4000000 in
set_option maxRecDepth 100000 in
theorem kX4_covers (l : Launch) (D : va_G) (ad : Nat → Nat) (h : PH) (a0 : Nat) (x1 : Int32) (x2 : Int32) (x3 : Int32)  (r : Int32) (hf : fX4_covers h a0 x1 x2 x3  = some r) : Met l yX4_covers wsX4_covers rX4_covers (p_pre D ad p_tt h [.ref (ad a0), .int x1, .int x2, .int x3]) (p_Ri r) 0 0 p_no := by
  refine Met.ofW (cc := cX4_covers) (maxL := 5) (ret := (some .boolean)) (by decide) rfl ?_
  intro p e s m args below meth c s₁ B hml hv
  obtain ⟨hargs, hK, hQ⟩ := hv
  have hx := B.exec
  have hb := B.bytes
  have hr := B.returns
  have hts := atoms_spec (ws := wsX4_covers) B.pre
  have hown : s.vm.findClass RX4 = some m.cls := findClass_of_methodNamed B.named
  have hlocks := B.notSynchronized
  have hC : CallFix p m c cX4_covers 5 s args wsX4_covers RX4 := ⟨hx, hb, hml, hown, hts⟩
  have hS : va_S p_no s.heap s.heap [] := va_S.rf
  have hi4 : ∀ w ∈ u_ws RX4 TX4 22, w ∈ wsX4_covers := fun w hw => List.mem_cons_of_mem _ (List.mem_append_right _ hw)
  obtain ⟨ls, hls, hL⟩ := p_start (n := 5) hargs (by simp [p_cat, p_ci, p_cr, p_cn]) (Nat.le_of_ble_eq_true rfl)
  show W p l e rX4_covers s m args below meth c s.heap [] 0 0 (MQ below (p_Ri r) args s 0 0 p_no) (entryFrame m args 5)
  rw [hls]
  clear hls
  have hL : p_L ls 5 [(0, .ref (ad a0)), (1, .int x1), (2, .int x2), (3, .int x3)] := hL
  have b90 : ∀ (H : Heap) (locs : List Loc) (ls : Array Slot) (h1 : PH) (sx0 : Int32), p_Q D ad p_tt s h1 H → va_S p_no s.heap H locs → p_L ls 5 [] → fX4_covers_90 h1 sx0 = some r → W p l e rX4_covers s m args below meth c H locs 0 0 (MQ below (p_Ri r) args s 0 0 p_no) (F0 m 90 ls [.int sx0]) := by
    intro H locs ls h1 sx0 hQ hS hL hf
    rw [fX4_covers_90] at hf
    exact p_rRz hC hr hlocks hS hf dX4_covers_90
  have b89 : ∀ (H : Heap) (locs : List Loc) (ls : Array Slot) (h1 : PH) , p_Q D ad p_tt s h1 H → va_S p_no s.heap H locs → p_L ls 5 [] → fX4_covers_89 h1  = some r → W p l e rX4_covers s m args below meth c H locs 0 0 (MQ below (p_Ri r) args s 0 0 p_no) (F0 m 89 ls []) := by
    intro H locs ls h1  hQ hS hL hf
    rw [fX4_covers_89] at hf
    refine lv_iconst (v := 0) hx hb dX4_covers_89 (by decide) ?_
    exact b90 _ _ _ h1 0 hQ hS (hL.sub [] rfl) hf
  have b85 : ∀ (H : Heap) (locs : List Loc) (ls : Array Slot) (h1 : PH) , p_Q D ad p_tt s h1 H → va_S p_no s.heap H locs → p_L ls 5 [] → fX4_covers_85 h1  = some r → W p l e rX4_covers s m args below meth c H locs 0 0 (MQ below (p_Ri r) args s 0 0 p_no) (F0 m 85 ls []) := by
    intro H locs ls h1  hQ hS hL hf
    rw [fX4_covers_85] at hf
    refine lv_iconst (v := 1) hx hb dX4_covers_85 (by decide) ?_
    refine lv_goto (tgt := 90) hx hb dX4_covers_86 (by decide) ?_
    exact b90 _ _ _ h1 1 hQ hS (hL.sub [] rfl) hf
  have b61 : ∀ (H : Heap) (locs : List Loc) (ls : Array Slot) (h1 : PH) (a0 : Nat) (x1 : Int32) (x2 : Int32) (x3 : Int32) (sx0 : Int32), p_Q D ad p_tt s h1 H → va_S p_no s.heap H locs → p_L ls 5 [(0, .ref (ad a0)), (1, .int x1), (2, .int x2), (3, .int x3)] → fX4_covers_61 h1 a0 x1 x2 x3 sx0 = some r → W p l e rX4_covers s m args below meth c H locs 0 0 (MQ below (p_Ri r) args s 0 0 p_no) (F0 m 61 ls [.int sx0]) := by
    intro H locs ls h1 a0 x1 x2 x3 sx0 hQ hS hL hf
    rw [fX4_covers_61] at hf
    refine p_istore (lv' := [(4, .int sx0), (0, .ref (ad a0)), (1, .int x1), (2, .int x2), (3, .int x3)]) hx hb dX4_covers_61 hL (by decide) rfl (fun ls hL => ?_)
    refine lv_iload hx hb dX4_covers_63 (lv_at hL.1 0 rfl) ?_
    refine lv_if_eq (tgt := 89) hx hb dX4_covers_65 (by decide) (fun c1 => ?_) (fun c1 => ?_)
    · rw [if_pos c1] at hf
      exact b89 _ _ _ h1  hQ hS (hL.sub [] rfl) hf
    · rw [if_neg c1] at hf
      refine lv_aload_n hx hb dX4_covers_68 rfl (lv_at hL.1 1 rfl) ?_
      obtain ⟨a_2, e3, hf⟩ := p_b hf
      refine p_getR hC hi4 hK hQ e3 rfl (by decide) (by decide +kernel) dX4_covers_69 ?_
      refine lv_iload_n hx hb dX4_covers_72 rfl (lv_at hL.1 2 rfl) ?_
      obtain ⟨v5, e4, hf⟩ := p_b hf
      refine p_zald hC hQ e4 dX4_covers_73 ?_
      refine lv_if_eq (tgt := 85) hx hb dX4_covers_74 (by decide) (fun c6 => ?_) (fun c6 => ?_)
      · rw [if_pos c6] at hf
        exact b85 _ _ _ h1  hQ hS (hL.sub [] rfl) hf
      · rw [if_neg c6] at hf
        refine lv_iload_n hx hb dX4_covers_77 rfl (lv_at hL.1 3 rfl) ?_
        refine lv_iload_n hx hb dX4_covers_78 rfl (lv_at hL.1 4 rfl) ?_
        refine lv_iadd hx hb dX4_covers_79 ?_
        refine lv_iconst (v := 2) hx hb dX4_covers_80 (by decide) ?_
        refine lv_irem hx hb dX4_covers_81 (by decide) ?_
        refine lv_if_ne (tgt := 89) hx hb dX4_covers_82 (by decide) (fun c7 => ?_) (fun c7 => ?_)
        · rw [if_neg c7] at hf
          exact b89 _ _ _ h1  hQ hS (hL.sub [] rfl) hf
        · rw [if_pos c7] at hf
          exact b85 _ _ _ h1  hQ hS (hL.sub [] rfl) hf
  have b60 : ∀ (H : Heap) (locs : List Loc) (ls : Array Slot) (h1 : PH) (a0 : Nat) (x1 : Int32) (x2 : Int32) (x3 : Int32), p_Q D ad p_tt s h1 H → va_S p_no s.heap H locs → p_L ls 5 [(0, .ref (ad a0)), (1, .int x1), (2, .int x2), (3, .int x3)] → fX4_covers_60 h1 a0 x1 x2 x3 = some r → W p l e rX4_covers s m args below meth c H locs 0 0 (MQ below (p_Ri r) args s 0 0 p_no) (F0 m 60 ls []) := by
    intro H locs ls h1 a0 x1 x2 x3 hQ hS hL hf
    rw [fX4_covers_60] at hf
    refine lv_iconst (v := 0) hx hb dX4_covers_60 (by decide) ?_
    exact b61 _ _ _ h1 a0 x1 x2 x3 0 hQ hS (hL.sub [0, 1, 2, 3] rfl) hf
  rw [fX4_covers] at hf
  refine lv_iload_n hx hb dX4_covers_0 rfl (lv_at hL.1 2 rfl) ?_
  refine lv_aload_n hx hb dX4_covers_1 rfl (lv_at hL.1 0 rfl) ?_
  obtain ⟨a_8, e9, hf⟩ := p_b hf
  refine p_getR hC hi4 hK hQ e9 rfl (by decide) (by decide +kernel) dX4_covers_2 ?_
  refine lv_iload_n hx hb dX4_covers_5 rfl (lv_at hL.1 1 rfl) ?_
  obtain ⟨v11, e10, hf⟩ := p_b hf
  refine p_iald hC hQ e10 dX4_covers_6 ?_
  refine lv_aload_n hx hb dX4_covers_7 rfl (lv_at hL.1 0 rfl) ?_
  obtain ⟨a_12, e13, hf⟩ := p_b hf
  refine p_getR hC hi4 hK hQ e13 rfl (by decide) (by decide +kernel) dX4_covers_8 ?_
  refine lv_iload_n hx hb dX4_covers_11 rfl (lv_at hL.1 1 rfl) ?_
  obtain ⟨v15, e14, hf⟩ := p_b hf
  refine p_iald hC hQ e14 dX4_covers_12 ?_
  refine lv_aload_n hx hb dX4_covers_13 rfl (lv_at hL.1 0 rfl) ?_
  obtain ⟨a_16, e17, hf⟩ := p_b hf
  refine p_getR hC hi4 hK hQ e17 rfl (by decide) (by decide +kernel) dX4_covers_14 ?_
  refine lv_iload_n hx hb dX4_covers_17 rfl (lv_at hL.1 1 rfl) ?_
  obtain ⟨v19, e18, hf⟩ := p_b hf
  refine p_iald hC hQ e18 dX4_covers_18 ?_
  refine lv_iadd hx hb dX4_covers_19 ?_
  refine lv_iconst (v := 1) hx hb dX4_covers_20 (by decide) ?_
  refine lv_isub hx hb dX4_covers_21 ?_
  obtain ⟨v20, e21, hf⟩ := p_b hf
  refine p_cRi (va_runS (As := [.int x2, .int v11, .int ((v15 + v19) - 1)]) (rest := []) hC (kX4_in l D ad h x2 v11 ((v15 + v19) - 1) v20 e21) (cwS 3 hts gX4_covers_X4_in rfl rfl rfl (by decide +kernel) ⟨Nat.le_of_ble_eq_true rfl, Nat.le_of_ble_eq_true rfl⟩) (p_preS hK hQ.tt) rfl rfl hL.1.1 rfl (lv_room (Nat.le_of_ble_eq_true rfl)) dX4_covers_22 ⟨Nat.le_of_ble_eq_true rfl, Nat.le_of_ble_eq_true rfl⟩) hQ hS (fun H locs hQ hS => ?_)
  refine lv_if_eq (tgt := 60) hx hb dX4_covers_25 (by decide) (fun c22 => ?_) (fun c22 => ?_)
  · rw [if_pos c22] at hf
    exact b60 _ _ _ h a0 x1 x2 x3 hQ hS (hL.sub [0, 1, 2, 3] rfl) hf
  · rw [if_neg c22] at hf
    refine lv_iload_n hx hb dX4_covers_28 rfl (lv_at hL.1 3 rfl) ?_
    refine lv_aload_n hx hb dX4_covers_29 rfl (lv_at hL.1 0 rfl) ?_
    obtain ⟨a_23, e24, hf⟩ := p_b hf
    refine p_getR hC hi4 hK hQ e24 rfl (by decide) (by decide +kernel) dX4_covers_30 ?_
    refine lv_iload_n hx hb dX4_covers_33 rfl (lv_at hL.1 1 rfl) ?_
    obtain ⟨v26, e25, hf⟩ := p_b hf
    refine p_iald hC hQ e25 dX4_covers_34 ?_
    refine lv_aload_n hx hb dX4_covers_35 rfl (lv_at hL.1 0 rfl) ?_
    obtain ⟨a_27, e28, hf⟩ := p_b hf
    refine p_getR hC hi4 hK hQ e28 rfl (by decide) (by decide +kernel) dX4_covers_36 ?_
    refine lv_iload_n hx hb dX4_covers_39 rfl (lv_at hL.1 1 rfl) ?_
    obtain ⟨v30, e29, hf⟩ := p_b hf
    refine p_iald hC hQ e29 dX4_covers_40 ?_
    refine lv_aload_n hx hb dX4_covers_41 rfl (lv_at hL.1 0 rfl) ?_
    obtain ⟨a_31, e32, hf⟩ := p_b hf
    refine p_getR hC hi4 hK hQ e32 rfl (by decide) (by decide +kernel) dX4_covers_42 ?_
    refine lv_iload_n hx hb dX4_covers_45 rfl (lv_at hL.1 1 rfl) ?_
    obtain ⟨v34, e33, hf⟩ := p_b hf
    refine p_iald hC hQ e33 dX4_covers_46 ?_
    refine lv_iadd hx hb dX4_covers_47 ?_
    refine lv_iconst (v := 1) hx hb dX4_covers_48 (by decide) ?_
    refine lv_isub hx hb dX4_covers_49 ?_
    obtain ⟨v35, e36, hf⟩ := p_b hf
    refine p_cRi (va_runS (As := [.int x3, .int v26, .int ((v30 + v34) - 1)]) (rest := []) hC (kX4_in l D ad h x3 v26 ((v30 + v34) - 1) v35 e36) (cwS 3 hts gX4_covers_X4_in rfl rfl rfl (by decide +kernel) ⟨Nat.le_of_ble_eq_true rfl, Nat.le_of_ble_eq_true rfl⟩) (p_preS hK hQ.tt) rfl rfl hL.1.1 rfl (lv_room (Nat.le_of_ble_eq_true rfl)) dX4_covers_50 ⟨Nat.le_of_ble_eq_true rfl, Nat.le_of_ble_eq_true rfl⟩) hQ hS (fun H locs hQ hS => ?_)
    refine lv_if_eq (tgt := 60) hx hb dX4_covers_53 (by decide) (fun c37 => ?_) (fun c37 => ?_)
    · rw [if_pos c37] at hf
      exact b60 _ _ _ h a0 x1 x2 x3 hQ hS (hL.sub [0, 1, 2, 3] rfl) hf
    · rw [if_neg c37] at hf
      refine lv_iconst (v := 1) hx hb dX4_covers_56 (by decide) ?_
      refine lv_goto (tgt := 61) hx hb dX4_covers_57 (by decide) ?_
      exact b61 _ _ _ h a0 x1 x2 x3 1 hQ hS (hL.sub [0, 1, 2, 3] rfl) hf
-- X4_shownAt
abbrev rX4_shownAt : Room := { frames := 2, cells := 0, slots := 0, locals := 46 }
set_option maxHeartbeats 4000000 in
set_option maxRecDepth 100000 in
theorem kX4_shownAt (l : Launch) (D : va_G) (ad : Nat → Nat) (h : PH) (a0 : Nat) (x1 : Int32) (x2 : Int32)  (r : Int32) (hf : fX4_shownAt h a0 x1 x2  = some r) : Met l yX4_shownAt wsX4_shownAt rX4_shownAt (p_pre D ad p_tt h [.ref (ad a0), .int x1, .int x2]) (p_Ri r) 0 0 p_no := by
  refine Met.ofW (cc := cX4_shownAt) (maxL := 4) (ret := (some .int)) (by decide) rfl ?_
  intro p e s m args below meth c s₁ B hml hv
  obtain ⟨hargs, hK, hQ⟩ := hv
  have hx := B.exec
  have hb := B.bytes
  have hr := B.returns
  have hts := atoms_spec (ws := wsX4_shownAt) B.pre
  have hown : s.vm.findClass RX4 = some m.cls := findClass_of_methodNamed B.named
  have hlocks := B.notSynchronized
  have hC : CallFix p m c cX4_shownAt 4 s args wsX4_shownAt RX4 := ⟨hx, hb, hml, hown, hts⟩
  have hS : va_S p_no s.heap s.heap [] := va_S.rf
  have hi4 : ∀ w ∈ u_ws RX4 TX4 22, w ∈ wsX4_shownAt := fun w hw => List.mem_cons_of_mem _ (List.mem_append_right _ hw)
  obtain ⟨ls, hls, hL⟩ := p_start (n := 4) hargs (by simp [p_cat, p_ci, p_cr, p_cn]) (Nat.le_of_ble_eq_true rfl)
  show W p l e rX4_shownAt s m args below meth c s.heap [] 0 0 (MQ below (p_Ri r) args s 0 0 p_no) (entryFrame m args 4)
  rw [hls]
  clear hls
  have hL : p_L ls 4 [(0, .ref (ad a0)), (1, .int x1), (2, .int x2)] := hL
  have b7 : ∀ n : Nat, ∀ (H : Heap) (locs : List Loc) (ls : Array Slot) (h1 : PH) (a0 : Nat) (x1 : Int32) (x2 : Int32) (x3 : Int32), p_Q D ad p_tt s h1 H → va_S p_no s.heap H locs → p_L ls 4 [(0, .ref (ad a0)), (1, .int x1), (2, .int x2), (3, .int x3)] → fX4_shownAt_7 n h1 a0 x1 x2 x3 = some r → W p l e rX4_shownAt s m args below meth c H locs 0 0 (MQ below (p_Ri r) args s 0 0 p_no) (F0 m 7 ls []) := by
    intro n
    induction n with
    | zero =>
      intro H locs ls h1 a0 x1 x2 x3 hQ hS hL hf
      simp [fX4_shownAt_7] at hf
    | succ n ih =>
      intro H locs ls h1 a0 x1 x2 x3 hQ hS hL hf
      rw [fX4_shownAt_7] at hf
      refine lv_iload_n hx hb dX4_shownAt_7 rfl (lv_at hL.1 3 rfl) ?_
      refine lv_if_lt (tgt := 39) hx hb dX4_shownAt_8 (by decide) (fun c1 => ?_) (fun c1 => ?_)
      · rw [if_pos c1] at hf
        refine lv_iconst (v := -1) hx hb dX4_shownAt_39 (by decide) ?_
        exact p_rRi hC hr hlocks hS hf dX4_shownAt_40
      · rw [if_neg c1] at hf
        refine lv_aload_n hx hb dX4_shownAt_11 rfl (lv_at hL.1 0 rfl) ?_
        refine lv_aload_n hx hb dX4_shownAt_12 rfl (lv_at hL.1 0 rfl) ?_
        obtain ⟨a_2, e3, hf⟩ := p_b hf
        refine p_getR hC hi4 hK hQ e3 rfl (by decide) (by decide +kernel) dX4_shownAt_13 ?_
        refine lv_iload_n hx hb dX4_shownAt_16 rfl (lv_at hL.1 3 rfl) ?_
        obtain ⟨v5, e4, hf⟩ := p_b hf
        refine p_iald hC hQ e4 dX4_shownAt_17 ?_
        refine lv_iload_n hx hb dX4_shownAt_18 rfl (lv_at hL.1 1 rfl) ?_
        refine lv_iload_n hx hb dX4_shownAt_19 rfl (lv_at hL.1 2 rfl) ?_
        obtain ⟨u6, e7, hf⟩ := p_b hf
        obtain ⟨v8, e9, hf⟩ := p_b hf
        refine p_cRi (va_runV (As := [.int v5, .int x1, .int x2]) (rest := []) hC (kX4_covers l D ad h1 a0 v5 x1 x2 v8 e9) (cwV 3 hts gX4_shownAt_X4_covers rfl rfl rfl (by decide +kernel) ⟨Nat.le_of_ble_eq_true rfl, Nat.le_of_ble_eq_true rfl⟩) (p_preV hK hQ.tt e7 rfl) rfl rfl hL.1.1 rfl (lv_room (Nat.le_of_ble_eq_true rfl)) dX4_shownAt_20 ⟨Nat.le_of_ble_eq_true rfl, Nat.le_of_ble_eq_true rfl⟩) hQ hS (fun H locs hQ hS => ?_)
        refine lv_if_eq (tgt := 33) hx hb dX4_shownAt_23 (by decide) (fun c10 => ?_) (fun c10 => ?_)
        · rw [if_pos c10] at hf
          refine p_iinc (v := (x3 + (-1))) (lv' := [(3, .int (x3 + (-1))), (0, .ref (ad a0)), (1, .int x1), (2, .int x2)]) hx hb dX4_shownAt_33 hL (k := 3) rfl rfl (by decide) rfl (fun ls hL => ?_)
          refine lv_goto (tgt := 7) hx hb dX4_shownAt_36 (by decide) ?_
          exact ih _ _ _ h1 a0 x1 x2 (x3 + (-1)) hQ hS (hL.sub [1, 2, 3, 0] rfl) hf
        · rw [if_neg c10] at hf
          refine lv_aload_n hx hb dX4_shownAt_26 rfl (lv_at hL.1 0 rfl) ?_
          obtain ⟨a_11, e12, hf⟩ := p_b hf
          refine p_getR hC hi4 hK hQ e12 rfl (by decide) (by decide +kernel) dX4_shownAt_27 ?_
          refine lv_iload_n hx hb dX4_shownAt_30 rfl (lv_at hL.1 3 rfl) ?_
          obtain ⟨v14, e13, hf⟩ := p_b hf
          refine p_iald hC hQ e13 dX4_shownAt_31 ?_
          exact p_rRi hC hr hlocks hS hf dX4_shownAt_32
  rw [fX4_shownAt] at hf
  refine lv_aload_n hx hb dX4_shownAt_0 rfl (lv_at hL.1 0 rfl) ?_
  obtain ⟨v15, e16, hf⟩ := p_b hf
  refine p_getI hC hi4 hK hQ e16 rfl (by decide) (by decide +kernel) dX4_shownAt_1 ?_
  refine lv_iconst (v := 1) hx hb dX4_shownAt_4 (by decide) ?_
  refine lv_isub hx hb dX4_shownAt_5 ?_
  refine p_istore_n (lv' := [(3, .int (v15 - 1)), (0, .ref (ad a0)), (1, .int x1), (2, .int x2)]) hx hb dX4_shownAt_6 rfl hL (by decide) rfl (fun ls hL => ?_)
  exact b7 64 _ _ _ h a0 x1 x2 (v15 - 1) hQ hS (hL.sub [1, 2, 3, 0] rfl) hf
-- X4_isShown
abbrev rX4_isShown : Room := { frames := 3, cells := 0, slots := 0, locals := 69 }
set_option maxHeartbeats 4000000 in
set_option maxRecDepth 100000 in
theorem kX4_isShown (l : Launch) (D : va_G) (ad : Nat → Nat) (h : PH) (a0 : Nat) (x1 : Int32)  (r : Int32) (hf : fX4_isShown h a0 x1  = some r) : Met l yX4_isShown wsX4_isShown rX4_isShown (p_pre D ad p_tt h [.ref (ad a0), .int x1]) (p_Ri r) 0 0 p_no := by
  refine Met.ofW (cc := cX4_isShown) (maxL := 4) (ret := (some .boolean)) (by decide) rfl ?_
  intro p e s m args below meth c s₁ B hml hv
  obtain ⟨hargs, hK, hQ⟩ := hv
  have hx := B.exec
  have hb := B.bytes
  have hr := B.returns
  have hts := atoms_spec (ws := wsX4_isShown) B.pre
  have hown : s.vm.findClass RX4 = some m.cls := findClass_of_methodNamed B.named
  have hlocks := B.notSynchronized
  have hC : CallFix p m c cX4_isShown 4 s args wsX4_isShown RX4 := ⟨hx, hb, hml, hown, hts⟩
  have hS : va_S p_no s.heap s.heap [] := va_S.rf
  have hi4 : ∀ w ∈ u_ws RX4 TX4 22, w ∈ wsX4_isShown := fun w hw => List.mem_cons_of_mem _ (List.mem_append_right _ hw)
  obtain ⟨ls, hls, hL⟩ := p_start (n := 4) hargs (by simp [p_cat, p_ci, p_cr, p_cn]) (Nat.le_of_ble_eq_true rfl)
  show W p l e rX4_isShown s m args below meth c s.heap [] 0 0 (MQ below (p_Ri r) args s 0 0 p_no) (entryFrame m args 4)
  rw [hls]
  clear hls
  have hL : p_L ls 4 [(0, .ref (ad a0)), (1, .int x1)] := hL
  have b35 : ∀ K : PH → Nat → Int32 → Int32 → Int32 → Option (Int32), (∀ (H : Heap) (locs : List Loc) (ls : Array Slot) (h1 : PH) (a0 : Nat) (x1 : Int32) (x2 : Int32) (x3 : Int32), p_Q D ad p_tt s h1 H → va_S p_no s.heap H locs → p_L ls 4 [(0, .ref (ad a0)), (1, .int x1), (2, .int x2), (3, .int x3)] → K h1 a0 x1 x2 x3 = some r → W p l e rX4_isShown s m args below meth c H locs 0 0 (MQ below (p_Ri r) args s 0 0 p_no) (F0 m 4 ls [])) → ∀ (H : Heap) (locs : List Loc) (ls : Array Slot) (h1 : PH) (a0 : Nat) (x1 : Int32) (x3 : Int32) (sx0 : Int32), p_Q D ad p_tt s h1 H → va_S p_no s.heap H locs → p_L ls 4 [(0, .ref (ad a0)), (1, .int x1), (3, .int x3)] → fX4_isShown_35 K h1 a0 x1 x3 sx0 = some r → W p l e rX4_isShown s m args below meth c H locs 0 0 (MQ below (p_Ri r) args s 0 0 p_no) (F0 m 35 ls [.int sx0]) := by
    intro K ih H locs ls h1 a0 x1 x3 sx0 hQ hS hL hf
    rw [fX4_isShown_35] at hf
    refine p_istore_n (lv' := [(2, .int sx0), (0, .ref (ad a0)), (1, .int x1), (3, .int x3)]) hx hb dX4_isShown_35 rfl hL (by decide) rfl (fun ls hL => ?_)
    refine p_iinc (v := (x3 + 1)) (lv' := [(3, .int (x3 + 1)), (2, .int sx0), (0, .ref (ad a0)), (1, .int x1)]) hx hb dX4_isShown_36 hL (k := 3) rfl rfl (by decide) rfl (fun ls hL => ?_)
    refine lv_goto (tgt := 4) hx hb dX4_isShown_39 (by decide) ?_
    exact ih _ _ _ h1 a0 x1 sx0 (x3 + 1) hQ hS (hL.sub [2, 3, 1, 0] rfl) hf
  have b30 : ∀ K : PH → Nat → Int32 → Int32 → Int32 → Option (Int32), (∀ (H : Heap) (locs : List Loc) (ls : Array Slot) (h1 : PH) (a0 : Nat) (x1 : Int32) (x2 : Int32) (x3 : Int32), p_Q D ad p_tt s h1 H → va_S p_no s.heap H locs → p_L ls 4 [(0, .ref (ad a0)), (1, .int x1), (2, .int x2), (3, .int x3)] → K h1 a0 x1 x2 x3 = some r → W p l e rX4_isShown s m args below meth c H locs 0 0 (MQ below (p_Ri r) args s 0 0 p_no) (F0 m 4 ls [])) → ∀ (H : Heap) (locs : List Loc) (ls : Array Slot) (h1 : PH) (a0 : Nat) (x1 : Int32) (x3 : Int32), p_Q D ad p_tt s h1 H → va_S p_no s.heap H locs → p_L ls 4 [(0, .ref (ad a0)), (1, .int x1), (3, .int x3)] → fX4_isShown_30 K h1 a0 x1 x3 = some r → W p l e rX4_isShown s m args below meth c H locs 0 0 (MQ below (p_Ri r) args s 0 0 p_no) (F0 m 30 ls []) := by
    intro K ih H locs ls h1 a0 x1 x3 hQ hS hL hf
    rw [fX4_isShown_30] at hf
    refine lv_iconst (v := 1) hx hb dX4_isShown_30 (by decide) ?_
    refine lv_goto (tgt := 35) hx hb dX4_isShown_31 (by decide) ?_
    exact b35 K ih _ _ _ h1 a0 x1 x3 1 hQ hS (hL.sub [0, 1, 2] rfl) hf
  have b4 : ∀ n : Nat, ∀ (H : Heap) (locs : List Loc) (ls : Array Slot) (h1 : PH) (a0 : Nat) (x1 : Int32) (x2 : Int32) (x3 : Int32), p_Q D ad p_tt s h1 H → va_S p_no s.heap H locs → p_L ls 4 [(0, .ref (ad a0)), (1, .int x1), (2, .int x2), (3, .int x3)] → fX4_isShown_4 n h1 a0 x1 x2 x3 = some r → W p l e rX4_isShown s m args below meth c H locs 0 0 (MQ below (p_Ri r) args s 0 0 p_no) (F0 m 4 ls []) := by
    intro n
    induction n with
    | zero =>
      intro H locs ls h1 a0 x1 x2 x3 hQ hS hL hf
      simp [fX4_isShown_4] at hf
    | succ n ih =>
      intro H locs ls h1 a0 x1 x2 x3 hQ hS hL hf
      rw [fX4_isShown_4] at hf
      refine lv_iload_n hx hb dX4_isShown_4 rfl (lv_at hL.1 3 rfl) ?_
      refine lv_bipush (v := 48) hx hb dX4_isShown_5 (by decide) ?_
      refine lv_icmp_ge (tgt := 42) hx hb dX4_isShown_7 (by decide) (fun c1 => ?_) (fun c1 => ?_)
      · rw [if_pos c1] at hf
        refine lv_iload_n hx hb dX4_isShown_42 rfl (lv_at hL.1 2 rfl) ?_
        exact p_rRz hC hr hlocks hS hf dX4_isShown_43
      · rw [if_neg c1] at hf
        refine lv_iload_n hx hb dX4_isShown_10 rfl (lv_at hL.1 2 rfl) ?_
        refine lv_if_ne (tgt := 30) hx hb dX4_isShown_11 (by decide) (fun c2 => ?_) (fun c2 => ?_)
        · rw [if_neg c2] at hf
          exact b30 (fX4_isShown_4 n) ih _ _ _ h1 a0 x1 x3 hQ hS (hL.sub [0, 1, 3] rfl) hf
        · rw [if_pos c2] at hf
          refine lv_aload_n hx hb dX4_isShown_14 rfl (lv_at hL.1 0 rfl) ?_
          refine lv_iload_n hx hb dX4_isShown_15 rfl (lv_at hL.1 3 rfl) ?_
          refine lv_bipush (v := 8) hx hb dX4_isShown_16 (by decide) ?_
          refine lv_irem hx hb dX4_isShown_18 (by decide) ?_
          refine lv_iload_n hx hb dX4_isShown_19 rfl (lv_at hL.1 3 rfl) ?_
          refine lv_bipush (v := 8) hx hb dX4_isShown_20 (by decide) ?_
          refine lv_idiv hx hb dX4_isShown_22 (by decide) ?_
          obtain ⟨u3, e4, hf⟩ := p_b hf
          obtain ⟨v5, e6, hf⟩ := p_b hf
          refine p_cRi (va_runV (As := [.int (x3 - x3 / 8 * 8), .int (x3 / 8)]) (rest := []) hC (kX4_shownAt l D ad h1 a0 (x3 - x3 / 8 * 8) (x3 / 8) v5 e6) (cwV 2 hts gX4_isShown_X4_shownAt rfl rfl rfl (by decide +kernel) ⟨Nat.le_of_ble_eq_true rfl, Nat.le_of_ble_eq_true rfl⟩) (p_preV hK hQ.tt e4 rfl) rfl rfl hL.1.1 rfl (lv_room (Nat.le_of_ble_eq_true rfl)) dX4_isShown_23 ⟨Nat.le_of_ble_eq_true rfl, Nat.le_of_ble_eq_true rfl⟩) hQ hS (fun H locs hQ hS => ?_)
          refine lv_iload_n hx hb dX4_isShown_26 rfl (lv_at hL.1 1 rfl) ?_
          refine lv_icmp_ne (tgt := 34) hx hb dX4_isShown_27 (by decide) (fun c7 => ?_) (fun c7 => ?_)
          · rw [if_neg c7] at hf
            refine lv_iconst (v := 0) hx hb dX4_isShown_34 (by decide) ?_
            exact b35 (fX4_isShown_4 n) ih _ _ _ h1 a0 x1 x3 0 hQ hS (hL.sub [0, 1, 3] rfl) hf
          · rw [if_pos c7] at hf
            exact b30 (fX4_isShown_4 n) ih _ _ _ h1 a0 x1 x3 hQ hS (hL.sub [0, 1, 3] rfl) hf
  rw [fX4_isShown] at hf
  refine lv_iconst (v := 0) hx hb dX4_isShown_0 (by decide) ?_
  refine p_istore_n (lv' := [(2, .int 0), (0, .ref (ad a0)), (1, .int x1)]) hx hb dX4_isShown_1 rfl hL (by decide) rfl (fun ls hL => ?_)
  refine lv_iconst (v := 0) hx hb dX4_isShown_2 (by decide) ?_
  refine p_istore_n (lv' := [(3, .int 0), (2, .int 0), (0, .ref (ad a0)), (1, .int x1)]) hx hb dX4_isShown_3 rfl hL (by decide) rfl (fun ls hL => ?_)
  exact b4 64 _ _ _ h a0 x1 0 0 hQ hS (hL.sub [2, 3, 1, 0] rfl) hf
-- X4_need
abbrev rX4_need : Room := { frames := 0, cells := 0, slots := 0, locals := 0 }
set_option maxHeartbeats 4000000 in
set_option maxRecDepth 100000 in
theorem kX4_need (l : Launch) (D : va_G) (ad : Nat → Nat) (h : PH) (a0 : Nat) (x1 : Int32)  (r : Int32) (hf : fX4_need h a0 x1  = some r) : Met l yX4_need wsX4_need rX4_need (p_pre D ad p_tt h [.ref (ad a0), .int x1]) (p_Ri r) 0 0 p_no := by
  refine Met.ofW (cc := cX4_need) (maxL := 2) (ret := (some .int)) (by decide) rfl ?_
  intro p e s m args below meth c s₁ B hml hv
  obtain ⟨hargs, hK, hQ⟩ := hv
  have hx := B.exec
  have hb := B.bytes
  have hr := B.returns
  have hts := atoms_spec (ws := wsX4_need) B.pre
  have hown : s.vm.findClass RX4 = some m.cls := findClass_of_methodNamed B.named
  have hlocks := B.notSynchronized
  have hC : CallFix p m c cX4_need 2 s args wsX4_need RX4 := ⟨hx, hb, hml, hown, hts⟩
  have hS : va_S p_no s.heap s.heap [] := va_S.rf
  have hi4 : ∀ w ∈ u_ws RX4 TX4 22, w ∈ wsX4_need := fun w hw => List.mem_cons_of_mem _ (List.mem_append_right _ hw)
  obtain ⟨ls, hls, hL⟩ := p_start (n := 2) hargs (by simp [p_cat, p_ci, p_cr, p_cn]) (Nat.le_of_ble_eq_true rfl)
  show W p l e rX4_need s m args below meth c s.heap [] 0 0 (MQ below (p_Ri r) args s 0 0 p_no) (entryFrame m args 2)
  rw [hls]
  clear hls
  have hL : p_L ls 2 [(0, .ref (ad a0)), (1, .int x1)] := hL
  rw [fX4_need] at hf
  refine lv_aload_n hx hb dX4_need_0 rfl (lv_at hL.1 0 rfl) ?_
  obtain ⟨a_1, e2, hf⟩ := p_b hf
  refine p_getR hC hi4 hK hQ e2 rfl (by decide) (by decide +kernel) dX4_need_1 ?_
  refine lv_iload_n hx hb dX4_need_4 rfl (lv_at hL.1 1 rfl) ?_
  obtain ⟨v4, e3, hf⟩ := p_b hf
  refine p_iald hC hQ e3 dX4_need_5 ?_
  refine lv_aload_n hx hb dX4_need_6 rfl (lv_at hL.1 0 rfl) ?_
  obtain ⟨a_5, e6, hf⟩ := p_b hf
  refine p_getR hC hi4 hK hQ e6 rfl (by decide) (by decide +kernel) dX4_need_7 ?_
  refine lv_iload_n hx hb dX4_need_10 rfl (lv_at hL.1 1 rfl) ?_
  obtain ⟨v8, e7, hf⟩ := p_b hf
  refine p_iald hC hQ e7 dX4_need_11 ?_
  refine lv_imul hx hb dX4_need_12 ?_
  refine lv_iconst (v := 3) hx hb dX4_need_13 (by decide) ?_
  refine lv_iadd hx hb dX4_need_14 ?_
  refine lv_iconst (v := 4) hx hb dX4_need_15 (by decide) ?_
  refine lv_idiv hx hb dX4_need_16 (by decide) ?_
  exact p_rRi hC hr hlocks hS hf dX4_need_17
-- X4_freePages
abbrev rX4_freePages : Room := { frames := 1, cells := 0, slots := 0, locals := 21 }
set_option maxHeartbeats 4000000 in
set_option maxRecDepth 100000 in
theorem kX4_freePages (l : Launch) (D : va_G) (ad : Nat → Nat) (h : PH) (a0 : Nat)  (r : Int32) (hf : fX4_freePages h a0  = some r) : Met l yX4_freePages wsX4_freePages rX4_freePages (p_pre D ad p_tt h [.ref (ad a0)]) (p_Ri r) 0 0 p_no := by
  refine Met.ofW (cc := cX4_freePages) (maxL := 3) (ret := (some .int)) (by decide) rfl ?_
  intro p e s m args below meth c s₁ B hml hv
  obtain ⟨hargs, hK, hQ⟩ := hv
  have hx := B.exec
  have hb := B.bytes
  have hr := B.returns
  have hts := atoms_spec (ws := wsX4_freePages) B.pre
  have hown : s.vm.findClass RX4 = some m.cls := findClass_of_methodNamed B.named
  have hlocks := B.notSynchronized
  have hC : CallFix p m c cX4_freePages 3 s args wsX4_freePages RX4 := ⟨hx, hb, hml, hown, hts⟩
  have hS : va_S p_no s.heap s.heap [] := va_S.rf
  have hi4 : ∀ w ∈ u_ws RX4 TX4 22, w ∈ wsX4_freePages := fun w hw => List.mem_cons_of_mem _ (List.mem_append_right _ hw)
  obtain ⟨ls, hls, hL⟩ := p_start (n := 3) hargs (by simp [p_cat, p_ci, p_cr, p_cn]) (Nat.le_of_ble_eq_true rfl)
  show W p l e rX4_freePages s m args below meth c s.heap [] 0 0 (MQ below (p_Ri r) args s 0 0 p_no) (entryFrame m args 3)
  rw [hls]
  clear hls
  have hL : p_L ls 3 [(0, .ref (ad a0))] := hL
  have b42 : ∀ K : PH → Nat → Int32 → Int32 → Option (Int32), (∀ (H : Heap) (locs : List Loc) (ls : Array Slot) (h1 : PH) (a0 : Nat) (x1 : Int32) (x2 : Int32), p_Q D ad p_tt s h1 H → va_S p_no s.heap H locs → p_L ls 3 [(0, .ref (ad a0)), (1, .int x1), (2, .int x2)] → K h1 a0 x1 x2 = some r → W p l e rX4_freePages s m args below meth c H locs 0 0 (MQ below (p_Ri r) args s 0 0 p_no) (F0 m 5 ls [])) → ∀ (H : Heap) (locs : List Loc) (ls : Array Slot) (h1 : PH) (a0 : Nat) (x2 : Int32) (sx0 : Int32) (sx1 : Int32), p_Q D ad p_tt s h1 H → va_S p_no s.heap H locs → p_L ls 3 [(0, .ref (ad a0)), (2, .int x2)] → fX4_freePages_42 K h1 a0 x2 sx0 sx1 = some r → W p l e rX4_freePages s m args below meth c H locs 0 0 (MQ below (p_Ri r) args s 0 0 p_no) (F0 m 42 ls [.int sx0, .int sx1]) := by
    intro K ih H locs ls h1 a0 x2 sx0 sx1 hQ hS hL hf
    rw [fX4_freePages_42] at hf
    refine lv_isub hx hb dX4_freePages_42 ?_
    refine p_istore_n (lv' := [(1, .int (sx1 - sx0)), (0, .ref (ad a0)), (2, .int x2)]) hx hb dX4_freePages_43 rfl hL (by decide) rfl (fun ls hL => ?_)
    refine p_iinc (v := (x2 + 1)) (lv' := [(2, .int (x2 + 1)), (1, .int (sx1 - sx0)), (0, .ref (ad a0))]) hx hb dX4_freePages_44 hL (k := 2) rfl rfl (by decide) rfl (fun ls hL => ?_)
    refine lv_goto (tgt := 5) hx hb dX4_freePages_47 (by decide) ?_
    exact ih _ _ _ h1 a0 (sx1 - sx0) (x2 + 1) hQ hS (hL.sub [2, 1, 0] rfl) hf
  have b5 : ∀ n : Nat, ∀ (H : Heap) (locs : List Loc) (ls : Array Slot) (h1 : PH) (a0 : Nat) (x1 : Int32) (x2 : Int32), p_Q D ad p_tt s h1 H → va_S p_no s.heap H locs → p_L ls 3 [(0, .ref (ad a0)), (1, .int x1), (2, .int x2)] → fX4_freePages_5 n h1 a0 x1 x2 = some r → W p l e rX4_freePages s m args below meth c H locs 0 0 (MQ below (p_Ri r) args s 0 0 p_no) (F0 m 5 ls []) := by
    intro n
    induction n with
    | zero =>
      intro H locs ls h1 a0 x1 x2 hQ hS hL hf
      simp [fX4_freePages_5] at hf
    | succ n ih =>
      intro H locs ls h1 a0 x1 x2 hQ hS hL hf
      rw [fX4_freePages_5] at hf
      refine lv_iload_n hx hb dX4_freePages_5 rfl (lv_at hL.1 2 rfl) ?_
      refine lv_aload_n hx hb dX4_freePages_6 rfl (lv_at hL.1 0 rfl) ?_
      obtain ⟨v1, e2, hf⟩ := p_b hf
      refine p_getI hC hi4 hK hQ e2 rfl (by decide) (by decide +kernel) dX4_freePages_7 ?_
      refine lv_icmp_ge (tgt := 50) hx hb dX4_freePages_10 (by decide) (fun c3 => ?_) (fun c3 => ?_)
      · rw [if_pos c3] at hf
        refine lv_iload_n hx hb dX4_freePages_50 rfl (lv_at hL.1 1 rfl) ?_
        exact p_rRi hC hr hlocks hS hf dX4_freePages_51
      · rw [if_neg c3] at hf
        refine lv_iload_n hx hb dX4_freePages_13 rfl (lv_at hL.1 1 rfl) ?_
        refine lv_aload_n hx hb dX4_freePages_14 rfl (lv_at hL.1 0 rfl) ?_
        obtain ⟨a_4, e5, hf⟩ := p_b hf
        refine p_getR hC hi4 hK hQ e5 rfl (by decide) (by decide +kernel) dX4_freePages_15 ?_
        refine lv_aload_n hx hb dX4_freePages_18 rfl (lv_at hL.1 0 rfl) ?_
        obtain ⟨a_6, e7, hf⟩ := p_b hf
        refine p_getR hC hi4 hK hQ e7 rfl (by decide) (by decide +kernel) dX4_freePages_19 ?_
        refine lv_iload_n hx hb dX4_freePages_22 rfl (lv_at hL.1 2 rfl) ?_
        obtain ⟨v9, e8, hf⟩ := p_b hf
        refine p_iald hC hQ e8 dX4_freePages_23 ?_
        obtain ⟨v11, e10, hf⟩ := p_b hf
        refine p_zald hC hQ e10 dX4_freePages_24 ?_
        refine lv_if_eq (tgt := 41) hx hb dX4_freePages_25 (by decide) (fun c12 => ?_) (fun c12 => ?_)
        · rw [if_pos c12] at hf
          refine lv_iconst (v := 0) hx hb dX4_freePages_41 (by decide) ?_
          exact b42 (fX4_freePages_5 n) ih _ _ _ h1 a0 x2 0 x1 hQ hS (hL.sub [0, 2] rfl) hf
        · rw [if_neg c12] at hf
          refine lv_aload_n hx hb dX4_freePages_28 rfl (lv_at hL.1 0 rfl) ?_
          refine lv_aload_n hx hb dX4_freePages_29 rfl (lv_at hL.1 0 rfl) ?_
          obtain ⟨a_13, e14, hf⟩ := p_b hf
          refine p_getR hC hi4 hK hQ e14 rfl (by decide) (by decide +kernel) dX4_freePages_30 ?_
          refine lv_iload_n hx hb dX4_freePages_33 rfl (lv_at hL.1 2 rfl) ?_
          obtain ⟨v16, e15, hf⟩ := p_b hf
          refine p_iald hC hQ e15 dX4_freePages_34 ?_
          obtain ⟨u17, e18, hf⟩ := p_b hf
          obtain ⟨v19, e20, hf⟩ := p_b hf
          refine p_cRi (va_runV (As := [.int v16]) (rest := [.int x1]) hC (kX4_need l D ad h1 a0 v16 v19 e20) (cwV 1 hts gX4_freePages_X4_need rfl rfl rfl (by decide +kernel) ⟨Nat.le_of_ble_eq_true rfl, Nat.le_of_ble_eq_true rfl⟩) (p_preV hK hQ.tt e18 rfl) rfl rfl hL.1.1 rfl (lv_room (Nat.le_of_ble_eq_true rfl)) dX4_freePages_35 ⟨Nat.le_of_ble_eq_true rfl, Nat.le_of_ble_eq_true rfl⟩) hQ hS (fun H locs hQ hS => ?_)
          refine lv_goto (tgt := 42) hx hb dX4_freePages_38 (by decide) ?_
          exact b42 (fX4_freePages_5 n) ih _ _ _ h1 a0 x2 v19 x1 hQ hS (hL.sub [0, 2] rfl) hf
  rw [fX4_freePages] at hf
  refine lv_bipush (v := 24) hx hb dX4_freePages_0 (by decide) ?_
  refine p_istore_n (lv' := [(1, .int 24), (0, .ref (ad a0))]) hx hb dX4_freePages_2 rfl hL (by decide) rfl (fun ls hL => ?_)
  refine lv_iconst (v := 0) hx hb dX4_freePages_3 (by decide) ?_
  refine p_istore_n (lv' := [(2, .int 0), (1, .int 24), (0, .ref (ad a0))]) hx hb dX4_freePages_4 rfl hL (by decide) rfl (fun ls hL => ?_)
  exact b5 64 _ _ _ h a0 24 0 hQ hS (hL.sub [2, 1, 0] rfl) hf
-- X4_drop
abbrev rX4_drop : Room := { frames := 0, cells := 0, slots := 0, locals := 0 }
set_option maxHeartbeats 4000000 in
set_option maxRecDepth 100000 in
theorem kX4_drop (l : Launch) (D : va_G) (ad : Nat → Nat) (h : PH) (a0 : Nat) (x1 : Int32)  (r : PH) (hf : fX4_drop h a0 x1  = some r) : Met l yX4_drop wsX4_drop rX4_drop (p_pre D ad (p_A ad h) h [.ref (ad a0), .int x1]) (p_Mv D ad (p_A ad h) r) 0 0 (p_A ad h) := by
  refine Met.ofW (cc := cX4_drop) (maxL := 2) (ret := none) (by decide) rfl ?_
  intro p e s m args below meth c s₁ B hml hv
  obtain ⟨hargs, hK, hQ⟩ := hv
  have hx := B.exec
  have hb := B.bytes
  have hr := B.returns
  have hts := atoms_spec (ws := wsX4_drop) B.pre
  have hown : s.vm.findClass RX4 = some m.cls := findClass_of_methodNamed B.named
  have hlocks := B.notSynchronized
  have hC : CallFix p m c cX4_drop 2 s args wsX4_drop RX4 := ⟨hx, hb, hml, hown, hts⟩
  have hS : va_S (p_A ad h) s.heap s.heap [] := va_S.rf
  have hi4 : ∀ w ∈ u_ws RX4 TX4 22, w ∈ wsX4_drop := fun w hw => List.mem_cons_of_mem _ (List.mem_append_right _ hw)
  obtain ⟨ls, hls, hL⟩ := p_start (n := 2) hargs (by simp [p_cat, p_ci, p_cr, p_cn]) (Nat.le_of_ble_eq_true rfl)
  show W p l e rX4_drop s m args below meth c s.heap [] 0 0 (MQ below (p_Mv D ad (p_A ad h) r) args s 0 0 (p_A ad h)) (entryFrame m args 2)
  rw [hls]
  clear hls
  have hL : p_L ls 2 [(0, .ref (ad a0)), (1, .int x1)] := hL
  have b27 : ∀ (H : Heap) (locs : List Loc) (ls : Array Slot) (h1 : PH) , p_Q D ad (p_A ad h) s h1 H → va_S (p_A ad h) s.heap H locs → p_L ls 2 [] → fX4_drop_27 h1  = some r → W p l e rX4_drop s m args below meth c H locs 0 0 (MQ below (p_Mv D ad (p_A ad h) r) args s 0 0 (p_A ad h)) (F0 m 27 ls []) := by
    intro H locs ls h1  hQ hS hL hf
    rw [fX4_drop_27] at hf
    exact p_rMv hC hr hlocks hQ hS hf dX4_drop_27
  rw [fX4_drop] at hf
  refine lv_aload_n hx hb dX4_drop_0 rfl (lv_at hL.1 0 rfl) ?_
  obtain ⟨a_1, e2, hf⟩ := p_b hf
  refine p_getR hC hi4 hK hQ e2 rfl (by decide) (by decide +kernel) dX4_drop_1 ?_
  refine lv_iload_n hx hb dX4_drop_4 rfl (lv_at hL.1 1 rfl) ?_
  obtain ⟨v4, e3, hf⟩ := p_b hf
  refine p_iald hC hQ e3 dX4_drop_5 ?_
  refine lv_iconst (v := -1) hx hb dX4_drop_6 (by decide) ?_
  refine lv_icmp_eq (tgt := 27) hx hb dX4_drop_7 (by decide) (fun c5 => ?_) (fun c5 => ?_)
  · rw [if_pos c5] at hf
    exact b27 _ _ _ h  hQ hS (hL.sub [] rfl) hf
  · rw [if_neg c5] at hf
    refine lv_aload_n hx hb dX4_drop_10 rfl (lv_at hL.1 0 rfl) ?_
    obtain ⟨a_6, e7, hf⟩ := p_b hf
    refine p_getR hC hi4 hK hQ e7 rfl (by decide) (by decide +kernel) dX4_drop_11 ?_
    refine lv_iload_n hx hb dX4_drop_14 rfl (lv_at hL.1 1 rfl) ?_
    refine lv_iconst (v := -1) hx hb dX4_drop_15 (by decide) ?_
    obtain ⟨h_8, e9, hf⟩ := p_b hf
    refine p_iast hC hQ hS e9 dX4_drop_16 (fun H locs hQ hS => ?_)
    refine lv_aload_n hx hb dX4_drop_17 rfl (lv_at hL.1 0 rfl) ?_
    obtain ⟨a_10, e11, hf⟩ := p_b hf
    refine p_getR hC hi4 hK hQ e11 rfl (by decide) (by decide +kernel) dX4_drop_18 ?_
    refine lv_iload_n hx hb dX4_drop_21 rfl (lv_at hL.1 1 rfl) ?_
    refine lv_aload_n hx hb dX4_drop_22 rfl (lv_at hL.1 0 rfl) ?_
    obtain ⟨v12, e13, hf⟩ := p_b hf
    refine p_getI hC hi4 hK hQ e13 rfl (by decide) (by decide +kernel) dX4_drop_23 ?_
    obtain ⟨h_14, e15, hf⟩ := p_b hf
    refine p_iast hC hQ hS e15 dX4_drop_26 (fun H locs hQ hS => ?_)
    exact b27 _ _ _ h_14  hQ hS (hL.sub [] rfl) hf
-- X4_lose
abbrev rX4_lose : Room := { frames := 1, cells := 0, slots := 0, locals := 21 }
set_option maxHeartbeats 4000000 in
set_option maxRecDepth 100000 in
theorem kX4_lose (l : Launch) (D : va_G) (ad : Nat → Nat) (h : PH) (a0 : Nat) (x1 : Int32)  (r : PH) (hf : fX4_lose h a0 x1  = some r) : Met l yX4_lose wsX4_lose rX4_lose (p_pre D ad (p_A ad h) h [.ref (ad a0), .int x1]) (p_Mv D ad (p_A ad h) r) 0 0 (p_A ad h) := by
  refine Met.ofW (cc := cX4_lose) (maxL := 2) (ret := none) (by decide) rfl ?_
  intro p e s m args below meth c s₁ B hml hv
  obtain ⟨hargs, hK, hQ⟩ := hv
  have hx := B.exec
  have hb := B.bytes
  have hr := B.returns
  have hts := atoms_spec (ws := wsX4_lose) B.pre
  have hown : s.vm.findClass RX4 = some m.cls := findClass_of_methodNamed B.named
  have hlocks := B.notSynchronized
  have hC : CallFix p m c cX4_lose 2 s args wsX4_lose RX4 := ⟨hx, hb, hml, hown, hts⟩
  have hS : va_S (p_A ad h) s.heap s.heap [] := va_S.rf
  have hi4 : ∀ w ∈ u_ws RX4 TX4 22, w ∈ wsX4_lose := fun w hw => List.mem_cons_of_mem _ (List.mem_append_right _ hw)
  obtain ⟨ls, hls, hL⟩ := p_start (n := 2) hargs (by simp [p_cat, p_ci, p_cr, p_cn]) (Nat.le_of_ble_eq_true rfl)
  show W p l e rX4_lose s m args below meth c s.heap [] 0 0 (MQ below (p_Mv D ad (p_A ad h) r) args s 0 0 (p_A ad h)) (entryFrame m args 2)
  rw [hls]
  clear hls
  have hL : p_L ls 2 [(0, .ref (ad a0)), (1, .int x1)] := hL
  rw [fX4_lose] at hf
  refine lv_aload_n hx hb dX4_lose_0 rfl (lv_at hL.1 0 rfl) ?_
  obtain ⟨a_1, e2, hf⟩ := p_b hf
  refine p_getR hC hi4 hK hQ e2 rfl (by decide) (by decide +kernel) dX4_lose_1 ?_
  refine lv_iload_n hx hb dX4_lose_4 rfl (lv_at hL.1 1 rfl) ?_
  refine lv_iconst (v := 0) hx hb dX4_lose_5 (by decide) ?_
  obtain ⟨h_3, e4, hf⟩ := p_b hf
  refine p_zast hC hQ hS e4 dX4_lose_6 (fun H locs hQ hS => ?_)
  refine lv_aload_n hx hb dX4_lose_7 rfl (lv_at hL.1 0 rfl) ?_
  obtain ⟨a_5, e6, hf⟩ := p_b hf
  refine p_getR hC hi4 hK hQ e6 rfl (by decide) (by decide +kernel) dX4_lose_8 ?_
  refine lv_iload_n hx hb dX4_lose_11 rfl (lv_at hL.1 1 rfl) ?_
  refine lv_iconst (v := 0) hx hb dX4_lose_12 (by decide) ?_
  obtain ⟨h_7, e8, hf⟩ := p_b hf
  refine p_iast hC hQ hS e8 dX4_lose_13 (fun H locs hQ hS => ?_)
  refine lv_aload_n hx hb dX4_lose_14 rfl (lv_at hL.1 0 rfl) ?_
  refine lv_iload_n hx hb dX4_lose_15 rfl (lv_at hL.1 1 rfl) ?_
  obtain ⟨u9, e10, hf⟩ := p_b hf
  obtain ⟨h_11, e12, hf⟩ := p_b hf
  refine p_cMv (va_runV (As := [.int x1]) (rest := []) hC (kX4_drop l D ad h_7 a0 x1 h_11 e12) (cwV 1 hts gX4_lose_X4_drop rfl rfl rfl (by decide +kernel) ⟨Nat.le_of_ble_eq_true rfl, Nat.le_of_ble_eq_true rfl⟩) (p_preV hK hQ.self e10 rfl) rfl rfl hL.1.1 rfl (lv_room (Nat.le_of_ble_eq_true rfl)) dX4_lose_16 ⟨Nat.le_of_ble_eq_true rfl, Nat.le_of_ble_eq_true rfl⟩) hQ hS (fun H locs hQ hS => ?_)
  exact p_rMv hC hr hlocks hQ hS hf dX4_lose_19
-- X4_canLose
abbrev rX4_canLose : Room := { frames := 4, cells := 0, slots := 0, locals := 92 }
set_option maxHeartbeats 4000000 in
set_option maxRecDepth 100000 in
theorem kX4_canLose (l : Launch) (D : va_G) (ad : Nat → Nat) (h : PH) (a0 : Nat) (x1 : Int32) (x2 : Int32)  (r : Int32) (hf : fX4_canLose h a0 x1 x2  = some r) : Met l yX4_canLose wsX4_canLose rX4_canLose (p_pre D ad p_tt h [.ref (ad a0), .int x1, .int x2]) (p_Ri r) 0 0 p_no := by
  refine Met.ofW (cc := cX4_canLose) (maxL := 3) (ret := (some .boolean)) (by decide) rfl ?_
  intro p e s m args below meth c s₁ B hml hv
  obtain ⟨hargs, hK, hQ⟩ := hv
  have hx := B.exec
  have hb := B.bytes
  have hr := B.returns
  have hts := atoms_spec (ws := wsX4_canLose) B.pre
  have hown : s.vm.findClass RX4 = some m.cls := findClass_of_methodNamed B.named
  have hlocks := B.notSynchronized
  have hC : CallFix p m c cX4_canLose 3 s args wsX4_canLose RX4 := ⟨hx, hb, hml, hown, hts⟩
  have hS : va_S p_no s.heap s.heap [] := va_S.rf
  have hi4 : ∀ w ∈ u_ws RX4 TX4 22, w ∈ wsX4_canLose := fun w hw => List.mem_cons_of_mem _ (List.mem_append_right _ hw)
  obtain ⟨ls, hls, hL⟩ := p_start (n := 3) hargs (by simp [p_cat, p_ci, p_cr, p_cn]) (Nat.le_of_ble_eq_true rfl)
  show W p l e rX4_canLose s m args below meth c s.heap [] 0 0 (MQ below (p_Ri r) args s 0 0 p_no) (entryFrame m args 3)
  rw [hls]
  clear hls
  have hL : p_L ls 3 [(0, .ref (ad a0)), (1, .int x1), (2, .int x2)] := hL
  have b27 : ∀ (H : Heap) (locs : List Loc) (ls : Array Slot) (h1 : PH) (sx0 : Int32), p_Q D ad p_tt s h1 H → va_S p_no s.heap H locs → p_L ls 3 [] → fX4_canLose_27 h1 sx0 = some r → W p l e rX4_canLose s m args below meth c H locs 0 0 (MQ below (p_Ri r) args s 0 0 p_no) (F0 m 27 ls [.int sx0]) := by
    intro H locs ls h1 sx0 hQ hS hL hf
    rw [fX4_canLose_27] at hf
    exact p_rRz hC hr hlocks hS hf dX4_canLose_27
  have b26 : ∀ (H : Heap) (locs : List Loc) (ls : Array Slot) (h1 : PH) , p_Q D ad p_tt s h1 H → va_S p_no s.heap H locs → p_L ls 3 [] → fX4_canLose_26 h1  = some r → W p l e rX4_canLose s m args below meth c H locs 0 0 (MQ below (p_Ri r) args s 0 0 p_no) (F0 m 26 ls []) := by
    intro H locs ls h1  hQ hS hL hf
    rw [fX4_canLose_26] at hf
    refine lv_iconst (v := 0) hx hb dX4_canLose_26 (by decide) ?_
    exact b27 _ _ _ h1 0 hQ hS (hL.sub [] rfl) hf
  rw [fX4_canLose] at hf
  refine lv_iload_n hx hb dX4_canLose_0 rfl (lv_at hL.1 1 rfl) ?_
  refine lv_iload_n hx hb dX4_canLose_1 rfl (lv_at hL.1 2 rfl) ?_
  refine lv_icmp_eq (tgt := 26) hx hb dX4_canLose_2 (by decide) (fun c1 => ?_) (fun c1 => ?_)
  · rw [if_pos c1] at hf
    exact b26 _ _ _ h  hQ hS (hL.sub [] rfl) hf
  · rw [if_neg c1] at hf
    refine lv_aload_n hx hb dX4_canLose_5 rfl (lv_at hL.1 0 rfl) ?_
    obtain ⟨a_2, e3, hf⟩ := p_b hf
    refine p_getR hC hi4 hK hQ e3 rfl (by decide) (by decide +kernel) dX4_canLose_6 ?_
    refine lv_iload_n hx hb dX4_canLose_9 rfl (lv_at hL.1 1 rfl) ?_
    obtain ⟨v5, e4, hf⟩ := p_b hf
    refine p_zald hC hQ e4 dX4_canLose_10 ?_
    refine lv_if_eq (tgt := 26) hx hb dX4_canLose_11 (by decide) (fun c6 => ?_) (fun c6 => ?_)
    · rw [if_pos c6] at hf
      exact b26 _ _ _ h  hQ hS (hL.sub [] rfl) hf
    · rw [if_neg c6] at hf
      refine lv_aload_n hx hb dX4_canLose_14 rfl (lv_at hL.1 0 rfl) ?_
      refine lv_iload_n hx hb dX4_canLose_15 rfl (lv_at hL.1 1 rfl) ?_
      obtain ⟨u7, e8, hf⟩ := p_b hf
      obtain ⟨v9, e10, hf⟩ := p_b hf
      refine p_cRi (va_runV (As := [.int x1]) (rest := []) hC (kX4_isShown l D ad h a0 x1 v9 e10) (cwV 1 hts gX4_canLose_X4_isShown rfl rfl rfl (by decide +kernel) ⟨Nat.le_of_ble_eq_true rfl, Nat.le_of_ble_eq_true rfl⟩) (p_preV hK hQ.tt e8 rfl) rfl rfl hL.1.1 rfl (lv_room (Nat.le_of_ble_eq_true rfl)) dX4_canLose_16 ⟨Nat.le_of_ble_eq_true rfl, Nat.le_of_ble_eq_true rfl⟩) hQ hS (fun H locs hQ hS => ?_)
      refine lv_if_ne (tgt := 26) hx hb dX4_canLose_19 (by decide) (fun c11 => ?_) (fun c11 => ?_)
      · rw [if_neg c11] at hf
        exact b26 _ _ _ h  hQ hS (hL.sub [] rfl) hf
      · rw [if_pos c11] at hf
        refine lv_iconst (v := 1) hx hb dX4_canLose_22 (by decide) ?_
        refine lv_goto (tgt := 27) hx hb dX4_canLose_23 (by decide) ?_
        exact b27 _ _ _ h 1 hQ hS (hL.sub [] rfl) hf
-- X4_lend
abbrev rX4_lend : Room := { frames := 5, cells := 0, slots := 0, locals := 114 }
set_option maxHeartbeats 4000000 in
set_option maxRecDepth 100000 in
theorem kX4_lend (l : Launch) (D : va_G) (ad : Nat → Nat) (h : PH) (a0 : Nat) (x1 : Int32)  (r : Int32 × PH) (hf : fX4_lend h a0 x1  = some r) : Met l yX4_lend wsX4_lend rX4_lend (p_pre D ad (p_A ad h) h [.ref (ad a0), .int x1]) (p_Mi D ad (p_A ad h) r) 0 0 (p_A ad h) := by
  refine Met.ofW (cc := cX4_lend) (maxL := 4) (ret := (some .boolean)) (by decide) rfl ?_
  intro p e s m args below meth c s₁ B hml hv
  obtain ⟨hargs, hK, hQ⟩ := hv
  have hx := B.exec
  have hb := B.bytes
  have hr := B.returns
  have hts := atoms_spec (ws := wsX4_lend) B.pre
  have hown : s.vm.findClass RX4 = some m.cls := findClass_of_methodNamed B.named
  have hlocks := B.notSynchronized
  have hC : CallFix p m c cX4_lend 4 s args wsX4_lend RX4 := ⟨hx, hb, hml, hown, hts⟩
  have hS : va_S (p_A ad h) s.heap s.heap [] := va_S.rf
  have hi4 : ∀ w ∈ u_ws RX4 TX4 22, w ∈ wsX4_lend := fun w hw => List.mem_cons_of_mem _ (List.mem_append_right _ hw)
  obtain ⟨ls, hls, hL⟩ := p_start (n := 4) hargs (by simp [p_cat, p_ci, p_cr, p_cn]) (Nat.le_of_ble_eq_true rfl)
  show W p l e rX4_lend s m args below meth c s.heap [] 0 0 (MQ below (p_Mi D ad (p_A ad h) r) args s 0 0 (p_A ad h)) (entryFrame m args 4)
  rw [hls]
  clear hls
  have hL : p_L ls 4 [(0, .ref (ad a0)), (1, .int x1)] := hL
  have b115 : ∀ (H : Heap) (locs : List Loc) (ls : Array Slot) (h1 : PH) (a0 : Nat) (x1 : Int32), p_Q D ad (p_A ad h) s h1 H → va_S (p_A ad h) s.heap H locs → p_L ls 4 [(0, .ref (ad a0)), (1, .int x1)] → fX4_lend_115 h1 a0 x1 = some r → W p l e rX4_lend s m args below meth c H locs 0 0 (MQ below (p_Mi D ad (p_A ad h) r) args s 0 0 (p_A ad h)) (F0 m 115 ls []) := by
    intro H locs ls h1 a0 x1 hQ hS hL hf
    rw [fX4_lend_115] at hf
    refine lv_aload_n hx hb dX4_lend_115 rfl (lv_at hL.1 0 rfl) ?_
    obtain ⟨a_1, e2, hf⟩ := p_b hf
    refine p_getR hC hi4 hK hQ e2 rfl (by decide) (by decide +kernel) dX4_lend_116 ?_
    refine lv_iload_n hx hb dX4_lend_119 rfl (lv_at hL.1 1 rfl) ?_
    refine lv_iconst (v := 1) hx hb dX4_lend_120 (by decide) ?_
    obtain ⟨h_3, e4, hf⟩ := p_b hf
    refine p_zast hC hQ hS e4 dX4_lend_121 (fun H locs hQ hS => ?_)
    refine lv_iconst (v := 1) hx hb dX4_lend_122 (by decide) ?_
    exact p_rMz hC hr hlocks hQ hS hf dX4_lend_123
  have b109 : ∀ K : PH → Nat → Int32 → Int32 → Option (Int32 × PH), (∀ (H : Heap) (locs : List Loc) (ls : Array Slot) (h1 : PH) (a0 : Nat) (x1 : Int32) (x3 : Int32), p_Q D ad (p_A ad h) s h1 H → va_S (p_A ad h) s.heap H locs → p_L ls 4 [(0, .ref (ad a0)), (1, .int x1), (3, .int x3)] → K h1 a0 x1 x3 = some r → W p l e rX4_lend s m args below meth c H locs 0 0 (MQ below (p_Mi D ad (p_A ad h) r) args s 0 0 (p_A ad h)) (F0 m 65 ls [])) → ∀ (H : Heap) (locs : List Loc) (ls : Array Slot) (h1 : PH) (a0 : Nat) (x1 : Int32) (x3 : Int32), p_Q D ad (p_A ad h) s h1 H → va_S (p_A ad h) s.heap H locs → p_L ls 4 [(0, .ref (ad a0)), (1, .int x1), (3, .int x3)] → fX4_lend_109 K h1 a0 x1 x3 = some r → W p l e rX4_lend s m args below meth c H locs 0 0 (MQ below (p_Mi D ad (p_A ad h) r) args s 0 0 (p_A ad h)) (F0 m 109 ls []) := by
    intro K ih H locs ls h1 a0 x1 x3 hQ hS hL hf
    rw [fX4_lend_109] at hf
    refine p_iinc (v := (x3 + 1)) (lv' := [(3, .int (x3 + 1)), (0, .ref (ad a0)), (1, .int x1)]) hx hb dX4_lend_109 hL (k := 2) rfl rfl (by decide) rfl (fun ls hL => ?_)
    refine lv_goto (tgt := 65) hx hb dX4_lend_112 (by decide) ?_
    exact ih _ _ _ h1 a0 x1 (x3 + 1) hQ hS (hL.sub [1, 2, 0] rfl) hf
  have b65 : ∀ n : Nat, ∀ (H : Heap) (locs : List Loc) (ls : Array Slot) (h1 : PH) (a0 : Nat) (x1 : Int32) (x3 : Int32), p_Q D ad (p_A ad h) s h1 H → va_S (p_A ad h) s.heap H locs → p_L ls 4 [(0, .ref (ad a0)), (1, .int x1), (3, .int x3)] → fX4_lend_65 n h1 a0 x1 x3 = some r → W p l e rX4_lend s m args below meth c H locs 0 0 (MQ below (p_Mi D ad (p_A ad h) r) args s 0 0 (p_A ad h)) (F0 m 65 ls []) := by
    intro n
    induction n with
    | zero =>
      intro H locs ls h1 a0 x1 x3 hQ hS hL hf
      simp [fX4_lend_65] at hf
    | succ n ih =>
      intro H locs ls h1 a0 x1 x3 hQ hS hL hf
      rw [fX4_lend_65] at hf
      refine lv_iload_n hx hb dX4_lend_65 rfl (lv_at hL.1 2 rfl) ?_
      refine lv_aload_n hx hb dX4_lend_66 rfl (lv_at hL.1 0 rfl) ?_
      obtain ⟨v5, e6, hf⟩ := p_b hf
      refine p_getI hC hi4 hK hQ e6 rfl (by decide) (by decide +kernel) dX4_lend_67 ?_
      refine lv_icmp_ge (tgt := 115) hx hb dX4_lend_70 (by decide) (fun c7 => ?_) (fun c7 => ?_)
      · rw [if_pos c7] at hf
        exact b115 _ _ _ h1 a0 x1 hQ hS (hL.sub [0, 1] rfl) hf
      · rw [if_neg c7] at hf
        refine lv_aload_n hx hb dX4_lend_73 rfl (lv_at hL.1 0 rfl) ?_
        obtain ⟨u8, e9, hf⟩ := p_b hf
        obtain ⟨v10, e11, hf⟩ := p_b hf
        refine p_cRi (va_runV (As := []) (rest := []) hC (kX4_freePages l D ad h1 a0 v10 e11) (cwV 0 hts gX4_lend_X4_freePages rfl rfl rfl (by decide +kernel) ⟨Nat.le_of_ble_eq_true rfl, Nat.le_of_ble_eq_true rfl⟩) (p_preV hK hQ.tt e9 rfl) rfl rfl hL.1.1 rfl (lv_room (Nat.le_of_ble_eq_true rfl)) dX4_lend_74 ⟨Nat.le_of_ble_eq_true rfl, Nat.le_of_ble_eq_true rfl⟩) hQ hS (fun H locs hQ hS => ?_)
        refine lv_aload_n hx hb dX4_lend_77 rfl (lv_at hL.1 0 rfl) ?_
        refine lv_iload_n hx hb dX4_lend_78 rfl (lv_at hL.1 1 rfl) ?_
        obtain ⟨u12, e13, hf⟩ := p_b hf
        obtain ⟨v14, e15, hf⟩ := p_b hf
        refine p_cRi (va_runV (As := [.int x1]) (rest := [.int v10]) hC (kX4_need l D ad h1 a0 x1 v14 e15) (cwV 1 hts gX4_lend_X4_need rfl rfl rfl (by decide +kernel) ⟨Nat.le_of_ble_eq_true rfl, Nat.le_of_ble_eq_true rfl⟩) (p_preV hK hQ.tt e13 rfl) rfl rfl hL.1.1 rfl (lv_room (Nat.le_of_ble_eq_true rfl)) dX4_lend_79 ⟨Nat.le_of_ble_eq_true rfl, Nat.le_of_ble_eq_true rfl⟩) hQ hS (fun H locs hQ hS => ?_)
        refine lv_icmp_ge (tgt := 115) hx hb dX4_lend_82 (by decide) (fun c16 => ?_) (fun c16 => ?_)
        · rw [if_pos c16] at hf
          exact b115 _ _ _ h1 a0 x1 hQ hS (hL.sub [0, 1] rfl) hf
        · rw [if_neg c16] at hf
          refine lv_aload_n hx hb dX4_lend_85 rfl (lv_at hL.1 0 rfl) ?_
          refine lv_aload_n hx hb dX4_lend_86 rfl (lv_at hL.1 0 rfl) ?_
          obtain ⟨a_17, e18, hf⟩ := p_b hf
          refine p_getR hC hi4 hK hQ e18 rfl (by decide) (by decide +kernel) dX4_lend_87 ?_
          refine lv_iload_n hx hb dX4_lend_90 rfl (lv_at hL.1 2 rfl) ?_
          obtain ⟨v20, e19, hf⟩ := p_b hf
          refine p_iald hC hQ e19 dX4_lend_91 ?_
          refine lv_iload_n hx hb dX4_lend_92 rfl (lv_at hL.1 1 rfl) ?_
          obtain ⟨u21, e22, hf⟩ := p_b hf
          obtain ⟨v23, e24, hf⟩ := p_b hf
          refine p_cRi (va_runV (As := [.int v20, .int x1]) (rest := []) hC (kX4_canLose l D ad h1 a0 v20 x1 v23 e24) (cwV 2 hts gX4_lend_X4_canLose rfl rfl rfl (by decide +kernel) ⟨Nat.le_of_ble_eq_true rfl, Nat.le_of_ble_eq_true rfl⟩) (p_preV hK hQ.tt e22 rfl) rfl rfl hL.1.1 rfl (lv_room (Nat.le_of_ble_eq_true rfl)) dX4_lend_93 ⟨Nat.le_of_ble_eq_true rfl, Nat.le_of_ble_eq_true rfl⟩) hQ hS (fun H locs hQ hS => ?_)
          refine lv_if_eq (tgt := 109) hx hb dX4_lend_96 (by decide) (fun c25 => ?_) (fun c25 => ?_)
          · rw [if_pos c25] at hf
            exact b109 (fX4_lend_65 n) ih _ _ _ h1 a0 x1 x3 hQ hS (hL.sub [0, 1, 2] rfl) hf
          · rw [if_neg c25] at hf
            refine lv_aload_n hx hb dX4_lend_99 rfl (lv_at hL.1 0 rfl) ?_
            refine lv_aload_n hx hb dX4_lend_100 rfl (lv_at hL.1 0 rfl) ?_
            obtain ⟨a_26, e27, hf⟩ := p_b hf
            refine p_getR hC hi4 hK hQ e27 rfl (by decide) (by decide +kernel) dX4_lend_101 ?_
            refine lv_iload_n hx hb dX4_lend_104 rfl (lv_at hL.1 2 rfl) ?_
            obtain ⟨v29, e28, hf⟩ := p_b hf
            refine p_iald hC hQ e28 dX4_lend_105 ?_
            obtain ⟨u30, e31, hf⟩ := p_b hf
            obtain ⟨h_32, e33, hf⟩ := p_b hf
            refine p_cMv (va_runV (As := [.int v29]) (rest := []) hC (kX4_lose l D ad h1 a0 v29 h_32 e33) (cwV 1 hts gX4_lend_X4_lose rfl rfl rfl (by decide +kernel) ⟨Nat.le_of_ble_eq_true rfl, Nat.le_of_ble_eq_true rfl⟩) (p_preV hK hQ.self e31 rfl) rfl rfl hL.1.1 rfl (lv_room (Nat.le_of_ble_eq_true rfl)) dX4_lend_106 ⟨Nat.le_of_ble_eq_true rfl, Nat.le_of_ble_eq_true rfl⟩) hQ hS (fun H locs hQ hS => ?_)
            exact b109 (fX4_lend_65 n) ih _ _ _ h_32 a0 x1 x3 hQ hS (hL.sub [0, 1, 2] rfl) hf
  have b44 : ∀ K : PH → Nat → Int32 → Int32 → Int32 → Option (Int32 × PH), (∀ (H : Heap) (locs : List Loc) (ls : Array Slot) (h1 : PH) (a0 : Nat) (x1 : Int32) (x2 : Int32) (x3 : Int32), p_Q D ad (p_A ad h) s h1 H → va_S (p_A ad h) s.heap H locs → p_L ls 4 [(0, .ref (ad a0)), (1, .int x1), (2, .int x2), (3, .int x3)] → K h1 a0 x1 x2 x3 = some r → W p l e rX4_lend s m args below meth c H locs 0 0 (MQ below (p_Mi D ad (p_A ad h) r) args s 0 0 (p_A ad h)) (F0 m 7 ls [])) → ∀ (H : Heap) (locs : List Loc) (ls : Array Slot) (h1 : PH) (a0 : Nat) (x1 : Int32) (x3 : Int32) (sx0 : Int32) (sx1 : Int32), p_Q D ad (p_A ad h) s h1 H → va_S (p_A ad h) s.heap H locs → p_L ls 4 [(0, .ref (ad a0)), (1, .int x1), (3, .int x3)] → fX4_lend_44 K h1 a0 x1 x3 sx0 sx1 = some r → W p l e rX4_lend s m args below meth c H locs 0 0 (MQ below (p_Mi D ad (p_A ad h) r) args s 0 0 (p_A ad h)) (F0 m 44 ls [.int sx0, .int sx1]) := by
    intro K ih H locs ls h1 a0 x1 x3 sx0 sx1 hQ hS hL hf
    rw [fX4_lend_44] at hf
    refine lv_iadd hx hb dX4_lend_44 ?_
    refine p_istore_n (lv' := [(2, .int (sx1 + sx0)), (0, .ref (ad a0)), (1, .int x1), (3, .int x3)]) hx hb dX4_lend_45 rfl hL (by decide) rfl (fun ls hL => ?_)
    refine p_iinc (v := (x3 + 1)) (lv' := [(3, .int (x3 + 1)), (2, .int (sx1 + sx0)), (0, .ref (ad a0)), (1, .int x1)]) hx hb dX4_lend_46 hL (k := 3) rfl rfl (by decide) rfl (fun ls hL => ?_)
    refine lv_goto (tgt := 7) hx hb dX4_lend_49 (by decide) ?_
    exact ih _ _ _ h1 a0 x1 (sx1 + sx0) (x3 + 1) hQ hS (hL.sub [2, 3, 1, 0] rfl) hf
  have b7 : ∀ n : Nat, ∀ (H : Heap) (locs : List Loc) (ls : Array Slot) (h1 : PH) (a0 : Nat) (x1 : Int32) (x2 : Int32) (x3 : Int32), p_Q D ad (p_A ad h) s h1 H → va_S (p_A ad h) s.heap H locs → p_L ls 4 [(0, .ref (ad a0)), (1, .int x1), (2, .int x2), (3, .int x3)] → fX4_lend_7 n h1 a0 x1 x2 x3 = some r → W p l e rX4_lend s m args below meth c H locs 0 0 (MQ below (p_Mi D ad (p_A ad h) r) args s 0 0 (p_A ad h)) (F0 m 7 ls []) := by
    intro n
    induction n with
    | zero =>
      intro H locs ls h1 a0 x1 x2 x3 hQ hS hL hf
      simp [fX4_lend_7] at hf
    | succ n ih =>
      intro H locs ls h1 a0 x1 x2 x3 hQ hS hL hf
      rw [fX4_lend_7] at hf
      refine lv_iload_n hx hb dX4_lend_7 rfl (lv_at hL.1 3 rfl) ?_
      refine lv_aload_n hx hb dX4_lend_8 rfl (lv_at hL.1 0 rfl) ?_
      obtain ⟨v34, e35, hf⟩ := p_b hf
      refine p_getI hC hi4 hK hQ e35 rfl (by decide) (by decide +kernel) dX4_lend_9 ?_
      refine lv_icmp_ge (tgt := 52) hx hb dX4_lend_12 (by decide) (fun c36 => ?_) (fun c36 => ?_)
      · rw [if_pos c36] at hf
        refine lv_iload_n hx hb dX4_lend_52 rfl (lv_at hL.1 2 rfl) ?_
        refine lv_aload_n hx hb dX4_lend_53 rfl (lv_at hL.1 0 rfl) ?_
        refine lv_iload_n hx hb dX4_lend_54 rfl (lv_at hL.1 1 rfl) ?_
        obtain ⟨u37, e38, hf⟩ := p_b hf
        obtain ⟨v39, e40, hf⟩ := p_b hf
        refine p_cRi (va_runV (As := [.int x1]) (rest := [.int x2]) hC (kX4_need l D ad h1 a0 x1 v39 e40) (cwV 1 hts gX4_lend_X4_need rfl rfl rfl (by decide +kernel) ⟨Nat.le_of_ble_eq_true rfl, Nat.le_of_ble_eq_true rfl⟩) (p_preV hK hQ.tt e38 rfl) rfl rfl hL.1.1 rfl (lv_room (Nat.le_of_ble_eq_true rfl)) dX4_lend_55 ⟨Nat.le_of_ble_eq_true rfl, Nat.le_of_ble_eq_true rfl⟩) hQ hS (fun H locs hQ hS => ?_)
        refine lv_icmp_ge (tgt := 63) hx hb dX4_lend_58 (by decide) (fun c41 => ?_) (fun c41 => ?_)
        · rw [if_pos c41] at hf
          refine lv_iconst (v := 0) hx hb dX4_lend_63 (by decide) ?_
          refine p_istore_n (lv' := [(3, .int 0), (0, .ref (ad a0)), (1, .int x1), (2, .int x2)]) hx hb dX4_lend_64 rfl hL (by decide) rfl (fun ls hL => ?_)
          exact b65 64 _ _ _ h1 a0 x1 0 hQ hS (hL.sub [1, 2, 0] rfl) hf
        · rw [if_neg c41] at hf
          refine lv_iconst (v := 0) hx hb dX4_lend_61 (by decide) ?_
          exact p_rMz hC hr hlocks hQ hS hf dX4_lend_62
      · rw [if_neg c36] at hf
        refine lv_iload_n hx hb dX4_lend_15 rfl (lv_at hL.1 2 rfl) ?_
        refine lv_aload_n hx hb dX4_lend_16 rfl (lv_at hL.1 0 rfl) ?_
        refine lv_aload_n hx hb dX4_lend_17 rfl (lv_at hL.1 0 rfl) ?_
        obtain ⟨a_42, e43, hf⟩ := p_b hf
        refine p_getR hC hi4 hK hQ e43 rfl (by decide) (by decide +kernel) dX4_lend_18 ?_
        refine lv_iload_n hx hb dX4_lend_21 rfl (lv_at hL.1 3 rfl) ?_
        obtain ⟨v45, e44, hf⟩ := p_b hf
        refine p_iald hC hQ e44 dX4_lend_22 ?_
        refine lv_iload_n hx hb dX4_lend_23 rfl (lv_at hL.1 1 rfl) ?_
        obtain ⟨u46, e47, hf⟩ := p_b hf
        obtain ⟨v48, e49, hf⟩ := p_b hf
        refine p_cRi (va_runV (As := [.int v45, .int x1]) (rest := [.int x2]) hC (kX4_canLose l D ad h1 a0 v45 x1 v48 e49) (cwV 2 hts gX4_lend_X4_canLose rfl rfl rfl (by decide +kernel) ⟨Nat.le_of_ble_eq_true rfl, Nat.le_of_ble_eq_true rfl⟩) (p_preV hK hQ.tt e47 rfl) rfl rfl hL.1.1 rfl (lv_room (Nat.le_of_ble_eq_true rfl)) dX4_lend_24 ⟨Nat.le_of_ble_eq_true rfl, Nat.le_of_ble_eq_true rfl⟩) hQ hS (fun H locs hQ hS => ?_)
        refine lv_if_eq (tgt := 43) hx hb dX4_lend_27 (by decide) (fun c50 => ?_) (fun c50 => ?_)
        · rw [if_pos c50] at hf
          refine lv_iconst (v := 0) hx hb dX4_lend_43 (by decide) ?_
          exact b44 (fX4_lend_7 n) ih _ _ _ h1 a0 x1 x3 0 x2 hQ hS (hL.sub [0, 1, 3] rfl) hf
        · rw [if_neg c50] at hf
          refine lv_aload_n hx hb dX4_lend_30 rfl (lv_at hL.1 0 rfl) ?_
          refine lv_aload_n hx hb dX4_lend_31 rfl (lv_at hL.1 0 rfl) ?_
          obtain ⟨a_51, e52, hf⟩ := p_b hf
          refine p_getR hC hi4 hK hQ e52 rfl (by decide) (by decide +kernel) dX4_lend_32 ?_
          refine lv_iload_n hx hb dX4_lend_35 rfl (lv_at hL.1 3 rfl) ?_
          obtain ⟨v54, e53, hf⟩ := p_b hf
          refine p_iald hC hQ e53 dX4_lend_36 ?_
          obtain ⟨u55, e56, hf⟩ := p_b hf
          obtain ⟨v57, e58, hf⟩ := p_b hf
          refine p_cRi (va_runV (As := [.int v54]) (rest := [.int x2]) hC (kX4_need l D ad h1 a0 v54 v57 e58) (cwV 1 hts gX4_lend_X4_need rfl rfl rfl (by decide +kernel) ⟨Nat.le_of_ble_eq_true rfl, Nat.le_of_ble_eq_true rfl⟩) (p_preV hK hQ.tt e56 rfl) rfl rfl hL.1.1 rfl (lv_room (Nat.le_of_ble_eq_true rfl)) dX4_lend_37 ⟨Nat.le_of_ble_eq_true rfl, Nat.le_of_ble_eq_true rfl⟩) hQ hS (fun H locs hQ hS => ?_)
          refine lv_goto (tgt := 44) hx hb dX4_lend_40 (by decide) ?_
          exact b44 (fX4_lend_7 n) ih _ _ _ h1 a0 x1 x3 v57 x2 hQ hS (hL.sub [0, 1, 3] rfl) hf
  rw [fX4_lend] at hf
  refine lv_aload_n hx hb dX4_lend_0 rfl (lv_at hL.1 0 rfl) ?_
  obtain ⟨u59, e60, hf⟩ := p_b hf
  obtain ⟨v61, e62, hf⟩ := p_b hf
  refine p_cRi (va_runV (As := []) (rest := []) hC (kX4_freePages l D ad h a0 v61 e62) (cwV 0 hts gX4_lend_X4_freePages rfl rfl rfl (by decide +kernel) ⟨Nat.le_of_ble_eq_true rfl, Nat.le_of_ble_eq_true rfl⟩) (p_preV hK hQ.tt e60 rfl) rfl rfl hL.1.1 rfl (lv_room (Nat.le_of_ble_eq_true rfl)) dX4_lend_1 ⟨Nat.le_of_ble_eq_true rfl, Nat.le_of_ble_eq_true rfl⟩) hQ hS (fun H locs hQ hS => ?_)
  refine p_istore_n (lv' := [(2, .int v61), (0, .ref (ad a0)), (1, .int x1)]) hx hb dX4_lend_4 rfl hL (by decide) rfl (fun ls hL => ?_)
  refine lv_iconst (v := 0) hx hb dX4_lend_5 (by decide) ?_
  refine p_istore_n (lv' := [(3, .int 0), (2, .int v61), (0, .ref (ad a0)), (1, .int x1)]) hx hb dX4_lend_6 rfl hL (by decide) rfl (fun ls hL => ?_)
  exact b7 64 _ _ _ h a0 x1 v61 0 hQ hS (hL.sub [2, 3, 1, 0] rfl) hf
-- X4_lendAll
abbrev rX4_lendAll : Room := { frames := 6, cells := 0, slots := 0, locals := 137 }
set_option maxHeartbeats 4000000 in
set_option maxRecDepth 100000 in
theorem kX4_lendAll (l : Launch) (D : va_G) (ad : Nat → Nat) (h : PH) (a0 : Nat)  (r : PH) (hf : fX4_lendAll h a0  = some r) : Met l yX4_lendAll wsX4_lendAll rX4_lendAll (p_pre D ad (p_A ad h) h [.ref (ad a0)]) (p_Mv D ad (p_A ad h) r) 0 0 (p_A ad h) := by
  refine Met.ofW (cc := cX4_lendAll) (maxL := 2) (ret := none) (by decide) rfl ?_
  intro p e s m args below meth c s₁ B hml hv
  obtain ⟨hargs, hK, hQ⟩ := hv
  have hx := B.exec
  have hb := B.bytes
  have hr := B.returns
  have hts := atoms_spec (ws := wsX4_lendAll) B.pre
  have hown : s.vm.findClass RX4 = some m.cls := findClass_of_methodNamed B.named
  have hlocks := B.notSynchronized
  have hC : CallFix p m c cX4_lendAll 2 s args wsX4_lendAll RX4 := ⟨hx, hb, hml, hown, hts⟩
  have hS : va_S (p_A ad h) s.heap s.heap [] := va_S.rf
  have hi4 : ∀ w ∈ u_ws RX4 TX4 22, w ∈ wsX4_lendAll := fun w hw => List.mem_cons_of_mem _ (List.mem_append_right _ hw)
  obtain ⟨ls, hls, hL⟩ := p_start (n := 2) hargs (by simp [p_cat, p_ci, p_cr, p_cn]) (Nat.le_of_ble_eq_true rfl)
  show W p l e rX4_lendAll s m args below meth c s.heap [] 0 0 (MQ below (p_Mv D ad (p_A ad h) r) args s 0 0 (p_A ad h)) (entryFrame m args 2)
  rw [hls]
  clear hls
  have hL : p_L ls 2 [(0, .ref (ad a0))] := hL
  have b49 : ∀ K : PH → Nat → Int32 → Option (PH), (∀ (H : Heap) (locs : List Loc) (ls : Array Slot) (h1 : PH) (a0 : Nat) (x1 : Int32), p_Q D ad (p_A ad h) s h1 H → va_S (p_A ad h) s.heap H locs → p_L ls 2 [(0, .ref (ad a0)), (1, .int x1)] → K h1 a0 x1 = some r → W p l e rX4_lendAll s m args below meth c H locs 0 0 (MQ below (p_Mv D ad (p_A ad h) r) args s 0 0 (p_A ad h)) (F0 m 7 ls [])) → ∀ (H : Heap) (locs : List Loc) (ls : Array Slot) (h1 : PH) (a0 : Nat) (x1 : Int32), p_Q D ad (p_A ad h) s h1 H → va_S (p_A ad h) s.heap H locs → p_L ls 2 [(0, .ref (ad a0)), (1, .int x1)] → fX4_lendAll_49 K h1 a0 x1 = some r → W p l e rX4_lendAll s m args below meth c H locs 0 0 (MQ below (p_Mv D ad (p_A ad h) r) args s 0 0 (p_A ad h)) (F0 m 49 ls []) := by
    intro K ih H locs ls h1 a0 x1 hQ hS hL hf
    rw [fX4_lendAll_49] at hf
    refine p_iinc (v := (x1 + (-1))) (lv' := [(1, .int (x1 + (-1))), (0, .ref (ad a0))]) hx hb dX4_lendAll_49 hL (k := 1) rfl rfl (by decide) rfl (fun ls hL => ?_)
    refine lv_goto (tgt := 7) hx hb dX4_lendAll_52 (by decide) ?_
    exact ih _ _ _ h1 a0 (x1 + (-1)) hQ hS (hL.sub [1, 0] rfl) hf
  have b7 : ∀ n : Nat, ∀ (H : Heap) (locs : List Loc) (ls : Array Slot) (h1 : PH) (a0 : Nat) (x1 : Int32), p_Q D ad (p_A ad h) s h1 H → va_S (p_A ad h) s.heap H locs → p_L ls 2 [(0, .ref (ad a0)), (1, .int x1)] → fX4_lendAll_7 n h1 a0 x1 = some r → W p l e rX4_lendAll s m args below meth c H locs 0 0 (MQ below (p_Mv D ad (p_A ad h) r) args s 0 0 (p_A ad h)) (F0 m 7 ls []) := by
    intro n
    induction n with
    | zero =>
      intro H locs ls h1 a0 x1 hQ hS hL hf
      simp [fX4_lendAll_7] at hf
    | succ n ih =>
      intro H locs ls h1 a0 x1 hQ hS hL hf
      rw [fX4_lendAll_7] at hf
      refine lv_iload_n hx hb dX4_lendAll_7 rfl (lv_at hL.1 1 rfl) ?_
      refine lv_if_lt (tgt := 55) hx hb dX4_lendAll_8 (by decide) (fun c1 => ?_) (fun c1 => ?_)
      · rw [if_pos c1] at hf
        exact p_rMv hC hr hlocks hQ hS hf dX4_lendAll_55
      · rw [if_neg c1] at hf
        refine lv_aload_n hx hb dX4_lendAll_11 rfl (lv_at hL.1 0 rfl) ?_
        obtain ⟨a_2, e3, hf⟩ := p_b hf
        refine p_getR hC hi4 hK hQ e3 rfl (by decide) (by decide +kernel) dX4_lendAll_12 ?_
        refine lv_aload_n hx hb dX4_lendAll_15 rfl (lv_at hL.1 0 rfl) ?_
        obtain ⟨a_4, e5, hf⟩ := p_b hf
        refine p_getR hC hi4 hK hQ e5 rfl (by decide) (by decide +kernel) dX4_lendAll_16 ?_
        refine lv_iload_n hx hb dX4_lendAll_19 rfl (lv_at hL.1 1 rfl) ?_
        obtain ⟨v7, e6, hf⟩ := p_b hf
        refine p_iald hC hQ e6 dX4_lendAll_20 ?_
        obtain ⟨v9, e8, hf⟩ := p_b hf
        refine p_zald hC hQ e8 dX4_lendAll_21 ?_
        refine lv_if_ne (tgt := 49) hx hb dX4_lendAll_22 (by decide) (fun c10 => ?_) (fun c10 => ?_)
        · rw [if_neg c10] at hf
          exact b49 (fX4_lendAll_7 n) ih _ _ _ h1 a0 x1 hQ hS (hL.sub [0, 1] rfl) hf
        · rw [if_pos c10] at hf
          refine lv_aload_n hx hb dX4_lendAll_25 rfl (lv_at hL.1 0 rfl) ?_
          refine lv_aload_n hx hb dX4_lendAll_26 rfl (lv_at hL.1 0 rfl) ?_
          obtain ⟨a_11, e12, hf⟩ := p_b hf
          refine p_getR hC hi4 hK hQ e12 rfl (by decide) (by decide +kernel) dX4_lendAll_27 ?_
          refine lv_iload_n hx hb dX4_lendAll_30 rfl (lv_at hL.1 1 rfl) ?_
          obtain ⟨v14, e13, hf⟩ := p_b hf
          refine p_iald hC hQ e13 dX4_lendAll_31 ?_
          obtain ⟨u15, e16, hf⟩ := p_b hf
          obtain ⟨v17, e18, hf⟩ := p_b hf
          refine p_cRi (va_runV (As := [.int v14]) (rest := []) hC (kX4_isShown l D ad h1 a0 v14 v17 e18) (cwV 1 hts gX4_lendAll_X4_isShown rfl rfl rfl (by decide +kernel) ⟨Nat.le_of_ble_eq_true rfl, Nat.le_of_ble_eq_true rfl⟩) (p_preV hK hQ.tt e16 rfl) rfl rfl hL.1.1 rfl (lv_room (Nat.le_of_ble_eq_true rfl)) dX4_lendAll_32 ⟨Nat.le_of_ble_eq_true rfl, Nat.le_of_ble_eq_true rfl⟩) hQ hS (fun H locs hQ hS => ?_)
          refine lv_if_eq (tgt := 49) hx hb dX4_lendAll_35 (by decide) (fun c19 => ?_) (fun c19 => ?_)
          · rw [if_pos c19] at hf
            exact b49 (fX4_lendAll_7 n) ih _ _ _ h1 a0 x1 hQ hS (hL.sub [0, 1] rfl) hf
          · rw [if_neg c19] at hf
            refine lv_aload_n hx hb dX4_lendAll_38 rfl (lv_at hL.1 0 rfl) ?_
            refine lv_aload_n hx hb dX4_lendAll_39 rfl (lv_at hL.1 0 rfl) ?_
            obtain ⟨a_20, e21, hf⟩ := p_b hf
            refine p_getR hC hi4 hK hQ e21 rfl (by decide) (by decide +kernel) dX4_lendAll_40 ?_
            refine lv_iload_n hx hb dX4_lendAll_43 rfl (lv_at hL.1 1 rfl) ?_
            obtain ⟨v23, e22, hf⟩ := p_b hf
            refine p_iald hC hQ e22 dX4_lendAll_44 ?_
            obtain ⟨u24, e25, hf⟩ := p_b hf
            obtain ⟨y26, e27, hf⟩ := p_b hf
            refine p_cMi (va_runV (As := [.int v23]) (rest := []) hC (kX4_lend l D ad h1 a0 v23 y26 e27) (cwV 1 hts gX4_lendAll_X4_lend rfl rfl rfl (by decide +kernel) ⟨Nat.le_of_ble_eq_true rfl, Nat.le_of_ble_eq_true rfl⟩) (p_preV hK hQ.self e25 rfl) rfl rfl hL.1.1 rfl (lv_room (Nat.le_of_ble_eq_true rfl)) dX4_lendAll_45 ⟨Nat.le_of_ble_eq_true rfl, Nat.le_of_ble_eq_true rfl⟩) hQ hS (fun H locs hQ hS => ?_)
            refine lv_pop hx hb dX4_lendAll_48 rfl ?_
            exact b49 (fX4_lendAll_7 n) ih _ _ _ y26.2 a0 x1 hQ hS (hL.sub [0, 1] rfl) hf
  rw [fX4_lendAll] at hf
  refine lv_aload_n hx hb dX4_lendAll_0 rfl (lv_at hL.1 0 rfl) ?_
  obtain ⟨v28, e29, hf⟩ := p_b hf
  refine p_getI hC hi4 hK hQ e29 rfl (by decide) (by decide +kernel) dX4_lendAll_1 ?_
  refine lv_iconst (v := 1) hx hb dX4_lendAll_4 (by decide) ?_
  refine lv_isub hx hb dX4_lendAll_5 ?_
  refine p_istore_n (lv' := [(1, .int (v28 - 1)), (0, .ref (ad a0))]) hx hb dX4_lendAll_6 rfl hL (by decide) rfl (fun ls hL => ?_)
  exact b7 64 _ _ _ h a0 (v28 - 1) hQ hS (hL.sub [1, 0] rfl) hf
-- X4_frame
abbrev rX4_frame : Room := { frames := 0, cells := 0, slots := 0, locals := 0 }
set_option maxHeartbeats 4000000 in
set_option maxRecDepth 100000 in
theorem kX4_frame (l : Launch) (D : va_G) (ad : Nat → Nat) (h : PH) (a0 : Nat) (x1 : Int32) (x2 : Int32) (x3 : Int32) (x4 : Int32)  (r : PH) (hf : fX4_frame h a0 x1 x2 x3 x4  = some r) : Met l yX4_frame wsX4_frame rX4_frame (p_pre D ad (p_A ad h) h [.ref (ad a0), .int x1, .int x2, .int x3, .int x4]) (p_Mv D ad (p_A ad h) r) 0 0 (p_A ad h) := by
  refine Met.ofW (cc := cX4_frame) (maxL := 5) (ret := none) (by decide) rfl ?_
  intro p e s m args below meth c s₁ B hml hv
  obtain ⟨hargs, hK, hQ⟩ := hv
  have hx := B.exec
  have hb := B.bytes
  have hr := B.returns
  have hts := atoms_spec (ws := wsX4_frame) B.pre
  have hown : s.vm.findClass RX4 = some m.cls := findClass_of_methodNamed B.named
  have hlocks := B.notSynchronized
  have hC : CallFix p m c cX4_frame 5 s args wsX4_frame RX4 := ⟨hx, hb, hml, hown, hts⟩
  have hS : va_S (p_A ad h) s.heap s.heap [] := va_S.rf
  have hi4 : ∀ w ∈ u_ws RX4 TX4 22, w ∈ wsX4_frame := fun w hw => List.mem_cons_of_mem _ (List.mem_append_right _ hw)
  obtain ⟨ls, hls, hL⟩ := p_start (n := 5) hargs (by simp [p_cat, p_ci, p_cr, p_cn]) (Nat.le_of_ble_eq_true rfl)
  show W p l e rX4_frame s m args below meth c s.heap [] 0 0 (MQ below (p_Mv D ad (p_A ad h) r) args s 0 0 (p_A ad h)) (entryFrame m args 5)
  rw [hls]
  clear hls
  have hL : p_L ls 5 [(0, .ref (ad a0)), (1, .int x1), (2, .int x2), (3, .int x3), (4, .int x4)] := hL
  rw [fX4_frame] at hf
  refine lv_aload_n hx hb dX4_frame_0 rfl (lv_at hL.1 0 rfl) ?_
  obtain ⟨a_1, e2, hf⟩ := p_b hf
  refine p_getR hC hi4 hK hQ e2 rfl (by decide) (by decide +kernel) dX4_frame_1 ?_
  refine lv_aload_n hx hb dX4_frame_4 rfl (lv_at hL.1 0 rfl) ?_
  obtain ⟨v3, e4, hf⟩ := p_b hf
  refine p_getI hC hi4 hK hQ e4 rfl (by decide) (by decide +kernel) dX4_frame_5 ?_
  refine lv_iload_n hx hb dX4_frame_8 rfl (lv_at hL.1 1 rfl) ?_
  obtain ⟨h_5, e6, hf⟩ := p_b hf
  refine p_iast hC hQ hS e6 dX4_frame_9 (fun H locs hQ hS => ?_)
  refine lv_aload_n hx hb dX4_frame_10 rfl (lv_at hL.1 0 rfl) ?_
  obtain ⟨a_7, e8, hf⟩ := p_b hf
  refine p_getR hC hi4 hK hQ e8 rfl (by decide) (by decide +kernel) dX4_frame_11 ?_
  refine lv_aload_n hx hb dX4_frame_14 rfl (lv_at hL.1 0 rfl) ?_
  obtain ⟨v9, e10, hf⟩ := p_b hf
  refine p_getI hC hi4 hK hQ e10 rfl (by decide) (by decide +kernel) dX4_frame_15 ?_
  refine lv_iload_n hx hb dX4_frame_18 rfl (lv_at hL.1 2 rfl) ?_
  obtain ⟨h_11, e12, hf⟩ := p_b hf
  refine p_iast hC hQ hS e12 dX4_frame_19 (fun H locs hQ hS => ?_)
  refine lv_aload_n hx hb dX4_frame_20 rfl (lv_at hL.1 0 rfl) ?_
  obtain ⟨a_13, e14, hf⟩ := p_b hf
  refine p_getR hC hi4 hK hQ e14 rfl (by decide) (by decide +kernel) dX4_frame_21 ?_
  refine lv_aload_n hx hb dX4_frame_24 rfl (lv_at hL.1 0 rfl) ?_
  obtain ⟨v15, e16, hf⟩ := p_b hf
  refine p_getI hC hi4 hK hQ e16 rfl (by decide) (by decide +kernel) dX4_frame_25 ?_
  refine lv_iload_n hx hb dX4_frame_28 rfl (lv_at hL.1 3 rfl) ?_
  obtain ⟨h_17, e18, hf⟩ := p_b hf
  refine p_iast hC hQ hS e18 dX4_frame_29 (fun H locs hQ hS => ?_)
  refine lv_aload_n hx hb dX4_frame_30 rfl (lv_at hL.1 0 rfl) ?_
  obtain ⟨a_19, e20, hf⟩ := p_b hf
  refine p_getR hC hi4 hK hQ e20 rfl (by decide) (by decide +kernel) dX4_frame_31 ?_
  refine lv_aload_n hx hb dX4_frame_34 rfl (lv_at hL.1 0 rfl) ?_
  obtain ⟨v21, e22, hf⟩ := p_b hf
  refine p_getI hC hi4 hK hQ e22 rfl (by decide) (by decide +kernel) dX4_frame_35 ?_
  refine lv_iload hx hb dX4_frame_38 (lv_at hL.1 4 rfl) ?_
  obtain ⟨h_23, e24, hf⟩ := p_b hf
  refine p_iast hC hQ hS e24 dX4_frame_40 (fun H locs hQ hS => ?_)
  exact p_rMv hC hr hlocks hQ hS hf dX4_frame_41
-- X4_open
abbrev rX4_open : Room := { frames := 7, cells := 0, slots := 0, locals := 158 }
set_option maxHeartbeats 4000000 in
set_option maxRecDepth 100000 in
theorem kX4_open (l : Launch) (D : va_G) (ad : Nat → Nat) (h : PH) (a0 : Nat) (x1 : Int32) (x2 : Int32) (x3 : Int32) (x4 : Int32) (x5 : Int32) (x6 : Int32) (x7 : Int32)  (r : Int32 × PH) (hf : fX4_open h a0 x1 x2 x3 x4 x5 x6 x7  = some r) : Met l yX4_open wsX4_open rX4_open (p_pre D ad (p_A ad h) h [.ref (ad a0), .int x1, .int x2, .int x3, .int x4, .int x5, .int x6, .int x7]) (p_Mi D ad (p_A ad h) r) 0 0 (p_A ad h) := by
  refine Met.ofW (cc := cX4_open) (maxL := 11) (ret := (some .int)) (by decide) rfl ?_
  intro p e s m args below meth c s₁ B hml hv
  obtain ⟨hargs, hK, hQ⟩ := hv
  have hx := B.exec
  have hb := B.bytes
  have hr := B.returns
  have hts := atoms_spec (ws := wsX4_open) B.pre
  have hown : s.vm.findClass RX4 = some m.cls := findClass_of_methodNamed B.named
  have hlocks := B.notSynchronized
  have hC : CallFix p m c cX4_open 11 s args wsX4_open RX4 := ⟨hx, hb, hml, hown, hts⟩
  have hS : va_S (p_A ad h) s.heap s.heap [] := va_S.rf
  have hi4 : ∀ w ∈ u_ws RX4 TX4 22, w ∈ wsX4_open := fun w hw => List.mem_cons_of_mem _ (List.mem_append_right _ hw)
  obtain ⟨ls, hls, hL⟩ := p_start (n := 11) hargs (by simp [p_cat, p_ci, p_cr, p_cn]) (Nat.le_of_ble_eq_true rfl)
  show W p l e rX4_open s m args below meth c s.heap [] 0 0 (MQ below (p_Mi D ad (p_A ad h) r) args s 0 0 (p_A ad h)) (entryFrame m args 11)
  rw [hls]
  clear hls
  have hL : p_L ls 11 [(0, .ref (ad a0)), (1, .int x1), (2, .int x2), (3, .int x3), (4, .int x4), (5, .int x5), (6, .int x6), (7, .int x7)] := hL
  have b212 : ∀ (H : Heap) (locs : List Loc) (ls : Array Slot) (h1 : PH) (a0 : Nat) (x6 : Int32) (x7 : Int32) (sx0 : Int32) (sa1 : Nat), p_Q D ad (p_A ad h) s h1 H → va_S (p_A ad h) s.heap H locs → p_L ls 11 [(0, .ref (ad a0)), (6, .int x6), (7, .int x7)] → fX4_open_212 h1 a0 x6 x7 sx0 sa1 = some r → W p l e rX4_open s m args below meth c H locs 0 0 (MQ below (p_Mi D ad (p_A ad h) r) args s 0 0 (p_A ad h)) (F0 m 212 ls [.int sx0, .ref (ad sa1)]) := by
    intro H locs ls h1 a0 x6 x7 sx0 sa1 hQ hS hL hf
    rw [fX4_open_212] at hf
    obtain ⟨u1, e2, hf⟩ := p_b hf
    obtain ⟨y3, e4, hf⟩ := p_b hf
    refine p_cMi (va_runV (As := [.int sx0]) (rest := []) hC (kX4_refused l D ad h1 sa1 sx0 y3 e4) (cwV 1 hts gX4_open_X4_refused rfl rfl rfl (by decide +kernel) ⟨Nat.le_of_ble_eq_true rfl, Nat.le_of_ble_eq_true rfl⟩) (p_preV hK hQ.self e2 rfl) rfl rfl hL.1.1 rfl (lv_room (Nat.le_of_ble_eq_true rfl)) dX4_open_212 ⟨Nat.le_of_ble_eq_true rfl, Nat.le_of_ble_eq_true rfl⟩) hQ hS (fun H locs hQ hS => ?_)
    refine lv_if_eq (tgt := 220) hx hb dX4_open_215 (by decide) (fun c5 => ?_) (fun c5 => ?_)
    · rw [if_pos c5] at hf
      refine lv_aload_n hx hb dX4_open_220 rfl (lv_at hL.1 0 rfl) ?_
      obtain ⟨a_6, e7, hf⟩ := p_b hf
      refine p_getR hC hi4 hK hQ e7 rfl (by decide) (by decide +kernel) dX4_open_221 ?_
      refine lv_aload_n hx hb dX4_open_224 rfl (lv_at hL.1 0 rfl) ?_
      obtain ⟨v8, e9, hf⟩ := p_b hf
      refine p_getI hC hi4 hK hQ e9 rfl (by decide) (by decide +kernel) dX4_open_225 ?_
      refine lv_iload hx hb dX4_open_228 (lv_at hL.1 1 rfl) ?_
      obtain ⟨h_10, e11, hf⟩ := p_b hf
      refine p_iast hC hQ hS e11 dX4_open_230 (fun H locs hQ hS => ?_)
      refine lv_aload_n hx hb dX4_open_231 rfl (lv_at hL.1 0 rfl) ?_
      obtain ⟨a_12, e13, hf⟩ := p_b hf
      refine p_getR hC hi4 hK hQ e13 rfl (by decide) (by decide +kernel) dX4_open_232 ?_
      refine lv_aload_n hx hb dX4_open_235 rfl (lv_at hL.1 0 rfl) ?_
      obtain ⟨v14, e15, hf⟩ := p_b hf
      refine p_getI hC hi4 hK hQ e15 rfl (by decide) (by decide +kernel) dX4_open_236 ?_
      refine lv_iload hx hb dX4_open_239 (lv_at hL.1 2 rfl) ?_
      obtain ⟨h_16, e17, hf⟩ := p_b hf
      refine p_iast hC hQ hS e17 dX4_open_241 (fun H locs hQ hS => ?_)
      refine lv_aload_n hx hb dX4_open_242 rfl (lv_at hL.1 0 rfl) ?_
      obtain ⟨a_18, e19, hf⟩ := p_b hf
      refine p_getR hC hi4 hK hQ e19 rfl (by decide) (by decide +kernel) dX4_open_243 ?_
      refine lv_aload_n hx hb dX4_open_246 rfl (lv_at hL.1 0 rfl) ?_
      obtain ⟨v20, e21, hf⟩ := p_b hf
      refine p_getI hC hi4 hK hQ e21 rfl (by decide) (by decide +kernel) dX4_open_247 ?_
      refine lv_iconst (v := 1) hx hb dX4_open_250 (by decide) ?_
      obtain ⟨h_22, e23, hf⟩ := p_b hf
      refine p_iast hC hQ hS e23 dX4_open_251 (fun H locs hQ hS => ?_)
      refine lv_aload_n hx hb dX4_open_252 rfl (lv_at hL.1 0 rfl) ?_
      obtain ⟨a_24, e25, hf⟩ := p_b hf
      refine p_getR hC hi4 hK hQ e25 rfl (by decide) (by decide +kernel) dX4_open_253 ?_
      refine lv_aload_n hx hb dX4_open_256 rfl (lv_at hL.1 0 rfl) ?_
      obtain ⟨v26, e27, hf⟩ := p_b hf
      refine p_getI hC hi4 hK hQ e27 rfl (by decide) (by decide +kernel) dX4_open_257 ?_
      refine lv_aload_n hx hb dX4_open_260 rfl (lv_at hL.1 0 rfl) ?_
      obtain ⟨v28, e29, hf⟩ := p_b hf
      refine p_getI hC hi4 hK hQ e29 rfl (by decide) (by decide +kernel) dX4_open_261 ?_
      obtain ⟨h_30, e31, hf⟩ := p_b hf
      refine p_iast hC hQ hS e31 dX4_open_264 (fun H locs hQ hS => ?_)
      refine lv_aload_n hx hb dX4_open_265 rfl (lv_at hL.1 0 rfl) ?_
      obtain ⟨a_32, e33, hf⟩ := p_b hf
      refine p_getR hC hi4 hK hQ e33 rfl (by decide) (by decide +kernel) dX4_open_266 ?_
      refine lv_aload_n hx hb dX4_open_269 rfl (lv_at hL.1 0 rfl) ?_
      obtain ⟨v34, e35, hf⟩ := p_b hf
      refine p_getI hC hi4 hK hQ e35 rfl (by decide) (by decide +kernel) dX4_open_270 ?_
      refine lv_iconst (v := -1) hx hb dX4_open_273 (by decide) ?_
      obtain ⟨h_36, e37, hf⟩ := p_b hf
      refine p_iast hC hQ hS e37 dX4_open_274 (fun H locs hQ hS => ?_)
      refine lv_aload_n hx hb dX4_open_275 rfl (lv_at hL.1 0 rfl) ?_
      refine lv_dup hx hb dX4_open_276 rfl ?_
      obtain ⟨v38, e39, hf⟩ := p_b hf
      refine p_getI hC hi4 hK hQ e39 rfl (by decide) (by decide +kernel) dX4_open_277 ?_
      refine lv_iconst (v := 1) hx hb dX4_open_280 (by decide) ?_
      refine lv_iadd hx hb dX4_open_281 ?_
      obtain ⟨h_40, e41, hf⟩ := p_b hf
      refine p_putI hC hi4 tyX4_ok nmX4 hK hQ hS e41 rfl (by decide) rfl rfl (by decide +kernel) dX4_open_282 (fun H locs hQ hS => ?_)
      refine lv_aload_n hx hb dX4_open_285 rfl (lv_at hL.1 0 rfl) ?_
      obtain ⟨u42, e43, hf⟩ := p_b hf
      obtain ⟨h_44, e45, hf⟩ := p_b hf
      refine p_cMv (va_runV (As := []) (rest := []) hC (kX4_lendAll l D ad h_40 a0 h_44 e45) (cwV 0 hts gX4_open_X4_lendAll rfl rfl rfl (by decide +kernel) ⟨Nat.le_of_ble_eq_true rfl, Nat.le_of_ble_eq_true rfl⟩) (p_preV hK hQ.self e43 rfl) rfl rfl hL.1.1 rfl (lv_room (Nat.le_of_ble_eq_true rfl)) dX4_open_286 ⟨Nat.le_of_ble_eq_true rfl, Nat.le_of_ble_eq_true rfl⟩) hQ hS (fun H locs hQ hS => ?_)
      refine lv_aload_n hx hb dX4_open_289 rfl (lv_at hL.1 0 rfl) ?_
      obtain ⟨v46, e47, hf⟩ := p_b hf
      refine p_getI hC hi4 hK hQ e47 rfl (by decide) (by decide +kernel) dX4_open_290 ?_
      refine lv_iconst (v := 1) hx hb dX4_open_293 (by decide) ?_
      refine lv_isub hx hb dX4_open_294 ?_
      exact p_rMi hC hr hlocks hQ hS hf dX4_open_295
    · rw [if_neg c5] at hf
      refine lv_iconst (v := 0) hx hb dX4_open_218 (by decide) ?_
      exact p_rMi hC hr hlocks hQ hS hf dX4_open_219
  have b192 : ∀ (H : Heap) (locs : List Loc) (ls : Array Slot) (h1 : PH) (a0 : Nat) (x6 : Int32) (x7 : Int32) (x9 : Int32) (x10 : Int32), p_Q D ad (p_A ad h) s h1 H → va_S (p_A ad h) s.heap H locs → p_L ls 11 [(0, .ref (ad a0)), (6, .int x6), (7, .int x7), (9, .int x9), (10, .int x10)] → fX4_open_192 h1 a0 x6 x7 x9 x10 = some r → W p l e rX4_open s m args below meth c H locs 0 0 (MQ below (p_Mi D ad (p_A ad h) r) args s 0 0 (p_A ad h)) (F0 m 192 ls []) := by
    intro H locs ls h1 a0 x6 x7 x9 x10 hQ hS hL hf
    rw [fX4_open_192] at hf
    refine lv_aload_n hx hb dX4_open_192 rfl (lv_at hL.1 0 rfl) ?_
    refine lv_iload hx hb dX4_open_193 (lv_at hL.1 3 rfl) ?_
    refine lv_if_ne (tgt := 202) hx hb dX4_open_195 (by decide) (fun c48 => ?_) (fun c48 => ?_)
    · rw [if_neg c48] at hf
      refine lv_iload hx hb dX4_open_202 (lv_at hL.1 4 rfl) ?_
      refine lv_if_eq (tgt := 211) hx hb dX4_open_204 (by decide) (fun c49 => ?_) (fun c49 => ?_)
      · rw [if_pos c49] at hf
        refine lv_iconst (v := 2) hx hb dX4_open_211 (by decide) ?_
        exact b212 _ _ _ h1 a0 x6 x7 2 a0 hQ hS (hL.sub [0, 1, 2] rfl) hf
      · rw [if_neg c49] at hf
        refine lv_iconst (v := 0) hx hb dX4_open_207 (by decide) ?_
        refine lv_goto (tgt := 212) hx hb dX4_open_208 (by decide) ?_
        exact b212 _ _ _ h1 a0 x6 x7 0 a0 hQ hS (hL.sub [0, 1, 2] rfl) hf
    · rw [if_pos c48] at hf
      refine lv_iconst (v := 1) hx hb dX4_open_198 (by decide) ?_
      refine lv_goto (tgt := 212) hx hb dX4_open_199 (by decide) ?_
      exact b212 _ _ _ h1 a0 x6 x7 1 a0 hQ hS (hL.sub [0, 1, 2] rfl) hf
  have b188 : ∀ (H : Heap) (locs : List Loc) (ls : Array Slot) (h1 : PH) (a0 : Nat) (x6 : Int32) (x7 : Int32) (x9 : Int32) (x10 : Int32) (sx0 : Int32) (sx1 : Int32) (sa2 : Nat), p_Q D ad (p_A ad h) s h1 H → va_S (p_A ad h) s.heap H locs → p_L ls 11 [(0, .ref (ad a0)), (6, .int x6), (7, .int x7), (9, .int x9), (10, .int x10)] → fX4_open_188 h1 a0 x6 x7 x9 x10 sx0 sx1 sa2 = some r → W p l e rX4_open s m args below meth c H locs 0 0 (MQ below (p_Mi D ad (p_A ad h) r) args s 0 0 (p_A ad h)) (F0 m 188 ls [.int sx0, .int sx1, .ref (ad sa2)]) := by
    intro H locs ls h1 a0 x6 x7 x9 x10 sx0 sx1 sa2 hQ hS hL hf
    rw [fX4_open_188] at hf
    refine lv_isub hx hb dX4_open_188 ?_
    obtain ⟨h_50, e51, hf⟩ := p_b hf
    refine p_putI hC hi4 tyX4_ok nmX4 hK hQ hS e51 rfl (by decide) rfl rfl (by decide +kernel) dX4_open_189 (fun H locs hQ hS => ?_)
    exact b192 _ _ _ h_50 a0 x6 x7 x9 x10 hQ hS (hL.sub [0, 1, 2, 3, 4] rfl) hf
  have b113 : ∀ (H : Heap) (locs : List Loc) (ls : Array Slot) (h1 : PH) (a0 : Nat) (x1 : Int32) (x2 : Int32) (x3 : Int32) (x4 : Int32) (x5 : Int32) (x6 : Int32) (x7 : Int32) (x9 : Int32) (sx0 : Int32), p_Q D ad (p_A ad h) s h1 H → va_S (p_A ad h) s.heap H locs → p_L ls 11 [(0, .ref (ad a0)), (1, .int x1), (2, .int x2), (3, .int x3), (4, .int x4), (5, .int x5), (6, .int x6), (7, .int x7), (9, .int x9)] → fX4_open_113 h1 a0 x1 x2 x3 x4 x5 x6 x7 x9 sx0 = some r → W p l e rX4_open s m args below meth c H locs 0 0 (MQ below (p_Mi D ad (p_A ad h) r) args s 0 0 (p_A ad h)) (F0 m 113 ls [.int sx0]) := by
    intro H locs ls h1 a0 x1 x2 x3 x4 x5 x6 x7 x9 sx0 hQ hS hL hf
    rw [fX4_open_113] at hf
    refine p_istore (lv' := [(10, .int sx0), (0, .ref (ad a0)), (1, .int x1), (2, .int x2), (3, .int x3), (4, .int x4), (5, .int x5), (6, .int x6), (7, .int x7), (9, .int x9)]) hx hb dX4_open_113 hL (by decide) rfl (fun ls hL => ?_)
    refine lv_iload hx hb dX4_open_115 (lv_at hL.1 0 rfl) ?_
    refine lv_if_eq (tgt := 192) hx hb dX4_open_117 (by decide) (fun c52 => ?_) (fun c52 => ?_)
    · rw [if_pos c52] at hf
      exact b192 _ _ _ h1 a0 x6 x7 x9 sx0 hQ hS (hL.sub [1, 7, 8, 9, 0] rfl) hf
    · rw [if_neg c52] at hf
      refine lv_aload_n hx hb dX4_open_120 rfl (lv_at hL.1 1 rfl) ?_
      refine lv_iload_n hx hb dX4_open_121 rfl (lv_at hL.1 2 rfl) ?_
      refine lv_iload_n hx hb dX4_open_122 rfl (lv_at hL.1 3 rfl) ?_
      refine lv_iload_n hx hb dX4_open_123 rfl (lv_at hL.1 4 rfl) ?_
      refine lv_iload hx hb dX4_open_124 (lv_at hL.1 5 rfl) ?_
      obtain ⟨u53, e54, hf⟩ := p_b hf
      obtain ⟨h_55, e56, hf⟩ := p_b hf
      refine p_cMv (va_runV (As := [.int x1, .int x2, .int x3, .int x4]) (rest := []) hC (kX4_frame l D ad h1 a0 x1 x2 x3 x4 h_55 e56) (cwV 4 hts gX4_open_X4_frame rfl rfl rfl (by decide +kernel) ⟨Nat.le_of_ble_eq_true rfl, Nat.le_of_ble_eq_true rfl⟩) (p_preV hK hQ.self e54 rfl) rfl rfl hL.1.1 rfl (lv_room (Nat.le_of_ble_eq_true rfl)) dX4_open_126 ⟨Nat.le_of_ble_eq_true rfl, Nat.le_of_ble_eq_true rfl⟩) hQ hS (fun H locs hQ hS => ?_)
      refine lv_aload_n hx hb dX4_open_129 rfl (lv_at hL.1 1 rfl) ?_
      obtain ⟨a_57, e58, hf⟩ := p_b hf
      refine p_getR hC hi4 hK hQ e58 rfl (by decide) (by decide +kernel) dX4_open_130 ?_
      refine lv_aload_n hx hb dX4_open_133 rfl (lv_at hL.1 1 rfl) ?_
      obtain ⟨v59, e60, hf⟩ := p_b hf
      refine p_getI hC hi4 hK hQ e60 rfl (by decide) (by decide +kernel) dX4_open_134 ?_
      refine lv_iload hx hb dX4_open_137 (lv_at hL.1 6 rfl) ?_
      obtain ⟨h_61, e62, hf⟩ := p_b hf
      refine p_zast hC hQ hS e62 dX4_open_139 (fun H locs hQ hS => ?_)
      refine lv_aload_n hx hb dX4_open_140 rfl (lv_at hL.1 1 rfl) ?_
      obtain ⟨a_63, e64, hf⟩ := p_b hf
      refine p_getR hC hi4 hK hQ e64 rfl (by decide) (by decide +kernel) dX4_open_141 ?_
      refine lv_aload_n hx hb dX4_open_144 rfl (lv_at hL.1 1 rfl) ?_
      obtain ⟨v65, e66, hf⟩ := p_b hf
      refine p_getI hC hi4 hK hQ e66 rfl (by decide) (by decide +kernel) dX4_open_145 ?_
      refine lv_aload_n hx hb dX4_open_148 rfl (lv_at hL.1 1 rfl) ?_
      obtain ⟨v67, e68, hf⟩ := p_b hf
      refine p_getI hC hi4 hK hQ e68 rfl (by decide) (by decide +kernel) dX4_open_149 ?_
      obtain ⟨h_69, e70, hf⟩ := p_b hf
      refine p_iast hC hQ hS e70 dX4_open_152 (fun H locs hQ hS => ?_)
      refine lv_aload_n hx hb dX4_open_153 rfl (lv_at hL.1 1 rfl) ?_
      refine lv_dup hx hb dX4_open_154 rfl ?_
      obtain ⟨v71, e72, hf⟩ := p_b hf
      refine p_getI hC hi4 hK hQ e72 rfl (by decide) (by decide +kernel) dX4_open_155 ?_
      refine lv_iconst (v := 1) hx hb dX4_open_158 (by decide) ?_
      refine lv_iadd hx hb dX4_open_159 ?_
      obtain ⟨h_73, e74, hf⟩ := p_b hf
      refine p_putI hC hi4 tyX4_ok nmX4 hK hQ hS e74 rfl (by decide) rfl rfl (by decide +kernel) dX4_open_160 (fun H locs hQ hS => ?_)
      refine lv_aload_n hx hb dX4_open_163 rfl (lv_at hL.1 1 rfl) ?_
      refine lv_aload_n hx hb dX4_open_164 rfl (lv_at hL.1 1 rfl) ?_
      obtain ⟨v75, e76, hf⟩ := p_b hf
      refine p_getI hC hi4 hK hQ e76 rfl (by decide) (by decide +kernel) dX4_open_165 ?_
      obtain ⟨u77, e78, hf⟩ := p_b hf
      obtain ⟨y79, e80, hf⟩ := p_b hf
      refine p_cMi (va_runV (As := [.int v75]) (rest := []) hC (kX4_lend l D ad h_73 a0 v75 y79 e80) (cwV 1 hts gX4_open_X4_lend rfl rfl rfl (by decide +kernel) ⟨Nat.le_of_ble_eq_true rfl, Nat.le_of_ble_eq_true rfl⟩) (p_preV hK hQ.self e78 rfl) rfl rfl hL.1.1 rfl (lv_room (Nat.le_of_ble_eq_true rfl)) dX4_open_168 ⟨Nat.le_of_ble_eq_true rfl, Nat.le_of_ble_eq_true rfl⟩) hQ hS (fun H locs hQ hS => ?_)
      refine p_istore (lv' := [(10, .int y79.1), (0, .ref (ad a0)), (1, .int x1), (2, .int x2), (3, .int x3), (4, .int x4), (5, .int x5), (6, .int x6), (7, .int x7), (9, .int x9)]) hx hb dX4_open_171 hL (by decide) rfl (fun ls hL => ?_)
      refine lv_aload_n hx hb dX4_open_173 rfl (lv_at hL.1 1 rfl) ?_
      refine lv_dup hx hb dX4_open_174 rfl ?_
      obtain ⟨v81, e82, hf⟩ := p_b hf
      refine p_getI hC hi4 hK hQ e82 rfl (by decide) (by decide +kernel) dX4_open_175 ?_
      refine lv_iload hx hb dX4_open_178 (lv_at hL.1 0 rfl) ?_
      refine lv_if_eq (tgt := 187) hx hb dX4_open_180 (by decide) (fun c83 => ?_) (fun c83 => ?_)
      · rw [if_pos c83] at hf
        refine lv_iconst (v := 1) hx hb dX4_open_187 (by decide) ?_
        exact b188 _ _ _ y79.2 a0 x6 x7 x9 y79.1 1 v81 a0 hQ hS (hL.sub [1, 7, 8, 9, 0] rfl) hf
      · rw [if_neg c83] at hf
        refine lv_iconst (v := 0) hx hb dX4_open_183 (by decide) ?_
        refine lv_goto (tgt := 188) hx hb dX4_open_184 (by decide) ?_
        exact b188 _ _ _ y79.2 a0 x6 x7 x9 y79.1 0 v81 a0 hQ hS (hL.sub [1, 7, 8, 9, 0] rfl) hf
  have b112 : ∀ (H : Heap) (locs : List Loc) (ls : Array Slot) (h1 : PH) (a0 : Nat) (x1 : Int32) (x2 : Int32) (x3 : Int32) (x4 : Int32) (x5 : Int32) (x6 : Int32) (x7 : Int32) (x9 : Int32), p_Q D ad (p_A ad h) s h1 H → va_S (p_A ad h) s.heap H locs → p_L ls 11 [(0, .ref (ad a0)), (1, .int x1), (2, .int x2), (3, .int x3), (4, .int x4), (5, .int x5), (6, .int x6), (7, .int x7), (9, .int x9)] → fX4_open_112 h1 a0 x1 x2 x3 x4 x5 x6 x7 x9 = some r → W p l e rX4_open s m args below meth c H locs 0 0 (MQ below (p_Mi D ad (p_A ad h) r) args s 0 0 (p_A ad h)) (F0 m 112 ls []) := by
    intro H locs ls h1 a0 x1 x2 x3 x4 x5 x6 x7 x9 hQ hS hL hf
    rw [fX4_open_112] at hf
    refine lv_iconst (v := 0) hx hb dX4_open_112 (by decide) ?_
    exact b113 _ _ _ h1 a0 x1 x2 x3 x4 x5 x6 x7 x9 0 hQ hS (hL.sub [0, 1, 2, 3, 4, 5, 6, 7, 8] rfl) hf
  have b83 : ∀ (H : Heap) (locs : List Loc) (ls : Array Slot) (h1 : PH) (a0 : Nat) (x1 : Int32) (x2 : Int32) (x3 : Int32) (x4 : Int32) (x5 : Int32) (x6 : Int32) (x7 : Int32) (sx0 : Int32), p_Q D ad (p_A ad h) s h1 H → va_S (p_A ad h) s.heap H locs → p_L ls 11 [(0, .ref (ad a0)), (1, .int x1), (2, .int x2), (3, .int x3), (4, .int x4), (5, .int x5), (6, .int x6), (7, .int x7)] → fX4_open_83 h1 a0 x1 x2 x3 x4 x5 x6 x7 sx0 = some r → W p l e rX4_open s m args below meth c H locs 0 0 (MQ below (p_Mi D ad (p_A ad h) r) args s 0 0 (p_A ad h)) (F0 m 83 ls [.int sx0]) := by
    intro H locs ls h1 a0 x1 x2 x3 x4 x5 x6 x7 sx0 hQ hS hL hf
    rw [fX4_open_83] at hf
    refine p_istore (lv' := [(9, .int sx0), (0, .ref (ad a0)), (1, .int x1), (2, .int x2), (3, .int x3), (4, .int x4), (5, .int x5), (6, .int x6), (7, .int x7)]) hx hb dX4_open_83 hL (by decide) rfl (fun ls hL => ?_)
    refine lv_iload hx hb dX4_open_85 (lv_at hL.1 0 rfl) ?_
    refine lv_if_eq (tgt := 112) hx hb dX4_open_87 (by decide) (fun c84 => ?_) (fun c84 => ?_)
    · rw [if_pos c84] at hf
      exact b112 _ _ _ h1 a0 x1 x2 x3 x4 x5 x6 x7 sx0 hQ hS (hL.sub [1, 2, 3, 4, 5, 6, 7, 8, 0] rfl) hf
    · rw [if_neg c84] at hf
      refine lv_aload_n hx hb dX4_open_90 rfl (lv_at hL.1 1 rfl) ?_
      obtain ⟨v85, e86, hf⟩ := p_b hf
      refine p_getI hC hi4 hK hQ e86 rfl (by decide) (by decide +kernel) dX4_open_91 ?_
      refine lv_bipush (v := 8) hx hb dX4_open_94 (by decide) ?_
      refine lv_icmp_ge (tgt := 112) hx hb dX4_open_96 (by decide) (fun c87 => ?_) (fun c87 => ?_)
      · rw [if_pos c87] at hf
        exact b112 _ _ _ h1 a0 x1 x2 x3 x4 x5 x6 x7 sx0 hQ hS (hL.sub [1, 2, 3, 4, 5, 6, 7, 8, 0] rfl) hf
      · rw [if_neg c87] at hf
        refine lv_aload_n hx hb dX4_open_99 rfl (lv_at hL.1 1 rfl) ?_
        obtain ⟨v88, e89, hf⟩ := p_b hf
        refine p_getI hC hi4 hK hQ e89 rfl (by decide) (by decide +kernel) dX4_open_100 ?_
        refine lv_bipush (v := 40) hx hb dX4_open_103 (by decide) ?_
        refine lv_icmp_ge (tgt := 112) hx hb dX4_open_105 (by decide) (fun c90 => ?_) (fun c90 => ?_)
        · rw [if_pos c90] at hf
          exact b112 _ _ _ h1 a0 x1 x2 x3 x4 x5 x6 x7 sx0 hQ hS (hL.sub [1, 2, 3, 4, 5, 6, 7, 8, 0] rfl) hf
        · rw [if_neg c90] at hf
          refine lv_iconst (v := 1) hx hb dX4_open_108 (by decide) ?_
          refine lv_goto (tgt := 113) hx hb dX4_open_109 (by decide) ?_
          exact b113 _ _ _ h1 a0 x1 x2 x3 x4 x5 x6 x7 sx0 1 hQ hS (hL.sub [1, 2, 3, 4, 5, 6, 7, 8, 0] rfl) hf
  have b82 : ∀ (H : Heap) (locs : List Loc) (ls : Array Slot) (h1 : PH) (a0 : Nat) (x1 : Int32) (x2 : Int32) (x3 : Int32) (x4 : Int32) (x5 : Int32) (x6 : Int32) (x7 : Int32), p_Q D ad (p_A ad h) s h1 H → va_S (p_A ad h) s.heap H locs → p_L ls 11 [(0, .ref (ad a0)), (1, .int x1), (2, .int x2), (3, .int x3), (4, .int x4), (5, .int x5), (6, .int x6), (7, .int x7)] → fX4_open_82 h1 a0 x1 x2 x3 x4 x5 x6 x7 = some r → W p l e rX4_open s m args below meth c H locs 0 0 (MQ below (p_Mi D ad (p_A ad h) r) args s 0 0 (p_A ad h)) (F0 m 82 ls []) := by
    intro H locs ls h1 a0 x1 x2 x3 x4 x5 x6 x7 hQ hS hL hf
    rw [fX4_open_82] at hf
    refine lv_iconst (v := 0) hx hb dX4_open_82 (by decide) ?_
    exact b83 _ _ _ h1 a0 x1 x2 x3 x4 x5 x6 x7 0 hQ hS (hL.sub [0, 1, 2, 3, 4, 5, 6, 7] rfl) hf
  have b24 : ∀ (H : Heap) (locs : List Loc) (ls : Array Slot) (h1 : PH) (a0 : Nat) (x1 : Int32) (x2 : Int32) (x3 : Int32) (x4 : Int32) (x5 : Int32) (x6 : Int32) (x7 : Int32) (sx0 : Int32), p_Q D ad (p_A ad h) s h1 H → va_S (p_A ad h) s.heap H locs → p_L ls 11 [(0, .ref (ad a0)), (1, .int x1), (2, .int x2), (3, .int x3), (4, .int x4), (5, .int x5), (6, .int x6), (7, .int x7)] → fX4_open_24 h1 a0 x1 x2 x3 x4 x5 x6 x7 sx0 = some r → W p l e rX4_open s m args below meth c H locs 0 0 (MQ below (p_Mi D ad (p_A ad h) r) args s 0 0 (p_A ad h)) (F0 m 24 ls [.int sx0]) := by
    intro H locs ls h1 a0 x1 x2 x3 x4 x5 x6 x7 sx0 hQ hS hL hf
    rw [fX4_open_24] at hf
    refine p_istore (lv' := [(8, .int sx0), (0, .ref (ad a0)), (1, .int x1), (2, .int x2), (3, .int x3), (4, .int x4), (5, .int x5), (6, .int x6), (7, .int x7)]) hx hb dX4_open_24 hL (by decide) rfl (fun ls hL => ?_)
    refine lv_iload hx hb dX4_open_26 (lv_at hL.1 0 rfl) ?_
    refine lv_if_eq (tgt := 82) hx hb dX4_open_28 (by decide) (fun c91 => ?_) (fun c91 => ?_)
    · rw [if_pos c91] at hf
      exact b82 _ _ _ h1 a0 x1 x2 x3 x4 x5 x6 x7 hQ hS (hL.sub [1, 2, 3, 4, 5, 6, 7, 8] rfl) hf
    · rw [if_neg c91] at hf
      refine lv_iload_n hx hb dX4_open_31 rfl (lv_at hL.1 4 rfl) ?_
      refine lv_iconst (v := 1) hx hb dX4_open_32 (by decide) ?_
      refine lv_bipush (v := 8) hx hb dX4_open_33 (by decide) ?_
      refine lv_iload_n hx hb dX4_open_35 rfl (lv_at hL.1 2 rfl) ?_
      refine lv_isub hx hb dX4_open_36 ?_
      obtain ⟨v92, e93, hf⟩ := p_b hf
      refine p_cRi (va_runS (As := [.int x3, .int 1, .int (8 - x1)]) (rest := []) hC (kX4_in l D ad h1 x3 1 (8 - x1) v92 e93) (cwS 3 hts gX4_open_X4_in rfl rfl rfl (by decide +kernel) ⟨Nat.le_of_ble_eq_true rfl, Nat.le_of_ble_eq_true rfl⟩) (p_preS hK hQ.tt) rfl rfl hL.1.1 rfl (lv_room (Nat.le_of_ble_eq_true rfl)) dX4_open_37 ⟨Nat.le_of_ble_eq_true rfl, Nat.le_of_ble_eq_true rfl⟩) hQ hS (fun H locs hQ hS => ?_)
      refine lv_if_eq (tgt := 82) hx hb dX4_open_40 (by decide) (fun c94 => ?_) (fun c94 => ?_)
      · rw [if_pos c94] at hf
        exact b82 _ _ _ h1 a0 x1 x2 x3 x4 x5 x6 x7 hQ hS (hL.sub [1, 2, 3, 4, 5, 6, 7, 8] rfl) hf
      · rw [if_neg c94] at hf
        refine lv_iload hx hb dX4_open_43 (lv_at hL.1 5 rfl) ?_
        refine lv_iconst (v := 1) hx hb dX4_open_45 (by decide) ?_
        refine lv_bipush (v := 6) hx hb dX4_open_46 (by decide) ?_
        refine lv_iload_n hx hb dX4_open_48 rfl (lv_at hL.1 3 rfl) ?_
        refine lv_isub hx hb dX4_open_49 ?_
        obtain ⟨v95, e96, hf⟩ := p_b hf
        refine p_cRi (va_runS (As := [.int x4, .int 1, .int (6 - x2)]) (rest := []) hC (kX4_in l D ad h1 x4 1 (6 - x2) v95 e96) (cwS 3 hts gX4_open_X4_in rfl rfl rfl (by decide +kernel) ⟨Nat.le_of_ble_eq_true rfl, Nat.le_of_ble_eq_true rfl⟩) (p_preS hK hQ.tt) rfl rfl hL.1.1 rfl (lv_room (Nat.le_of_ble_eq_true rfl)) dX4_open_50 ⟨Nat.le_of_ble_eq_true rfl, Nat.le_of_ble_eq_true rfl⟩) hQ hS (fun H locs hQ hS => ?_)
        refine lv_if_eq (tgt := 82) hx hb dX4_open_53 (by decide) (fun c97 => ?_) (fun c97 => ?_)
        · rw [if_pos c97] at hf
          exact b82 _ _ _ h1 a0 x1 x2 x3 x4 x5 x6 x7 hQ hS (hL.sub [1, 2, 3, 4, 5, 6, 7, 8] rfl) hf
        · rw [if_neg c97] at hf
          refine lv_iload hx hb dX4_open_56 (lv_at hL.1 7 rfl) ?_
          refine lv_iconst (v := 1) hx hb dX4_open_58 (by decide) ?_
          refine lv_bipush (v := 100) hx hb dX4_open_59 (by decide) ?_
          obtain ⟨v98, e99, hf⟩ := p_b hf
          refine p_cRi (va_runS (As := [.int x6, .int 1, .int 100]) (rest := []) hC (kX4_in l D ad h1 x6 1 100 v98 e99) (cwS 3 hts gX4_open_X4_in rfl rfl rfl (by decide +kernel) ⟨Nat.le_of_ble_eq_true rfl, Nat.le_of_ble_eq_true rfl⟩) (p_preS hK hQ.tt) rfl rfl hL.1.1 rfl (lv_room (Nat.le_of_ble_eq_true rfl)) dX4_open_61 ⟨Nat.le_of_ble_eq_true rfl, Nat.le_of_ble_eq_true rfl⟩) hQ hS (fun H locs hQ hS => ?_)
          refine lv_if_eq (tgt := 82) hx hb dX4_open_64 (by decide) (fun c100 => ?_) (fun c100 => ?_)
          · rw [if_pos c100] at hf
            exact b82 _ _ _ h1 a0 x1 x2 x3 x4 x5 x6 x7 hQ hS (hL.sub [1, 2, 3, 4, 5, 6, 7, 8] rfl) hf
          · rw [if_neg c100] at hf
            refine lv_iload hx hb dX4_open_67 (lv_at hL.1 8 rfl) ?_
            refine lv_iconst (v := 1) hx hb dX4_open_69 (by decide) ?_
            refine lv_bipush (v := 20) hx hb dX4_open_70 (by decide) ?_
            obtain ⟨v101, e102, hf⟩ := p_b hf
            refine p_cRi (va_runS (As := [.int x7, .int 1, .int 20]) (rest := []) hC (kX4_in l D ad h1 x7 1 20 v101 e102) (cwS 3 hts gX4_open_X4_in rfl rfl rfl (by decide +kernel) ⟨Nat.le_of_ble_eq_true rfl, Nat.le_of_ble_eq_true rfl⟩) (p_preS hK hQ.tt) rfl rfl hL.1.1 rfl (lv_room (Nat.le_of_ble_eq_true rfl)) dX4_open_72 ⟨Nat.le_of_ble_eq_true rfl, Nat.le_of_ble_eq_true rfl⟩) hQ hS (fun H locs hQ hS => ?_)
            refine lv_if_eq (tgt := 82) hx hb dX4_open_75 (by decide) (fun c103 => ?_) (fun c103 => ?_)
            · rw [if_pos c103] at hf
              exact b82 _ _ _ h1 a0 x1 x2 x3 x4 x5 x6 x7 hQ hS (hL.sub [1, 2, 3, 4, 5, 6, 7, 8] rfl) hf
            · rw [if_neg c103] at hf
              refine lv_iconst (v := 1) hx hb dX4_open_78 (by decide) ?_
              refine lv_goto (tgt := 83) hx hb dX4_open_79 (by decide) ?_
              exact b83 _ _ _ h1 a0 x1 x2 x3 x4 x5 x6 x7 1 hQ hS (hL.sub [1, 2, 3, 4, 5, 6, 7, 8] rfl) hf
  have b23 : ∀ (H : Heap) (locs : List Loc) (ls : Array Slot) (h1 : PH) (a0 : Nat) (x1 : Int32) (x2 : Int32) (x3 : Int32) (x4 : Int32) (x5 : Int32) (x6 : Int32) (x7 : Int32), p_Q D ad (p_A ad h) s h1 H → va_S (p_A ad h) s.heap H locs → p_L ls 11 [(0, .ref (ad a0)), (1, .int x1), (2, .int x2), (3, .int x3), (4, .int x4), (5, .int x5), (6, .int x6), (7, .int x7)] → fX4_open_23 h1 a0 x1 x2 x3 x4 x5 x6 x7 = some r → W p l e rX4_open s m args below meth c H locs 0 0 (MQ below (p_Mi D ad (p_A ad h) r) args s 0 0 (p_A ad h)) (F0 m 23 ls []) := by
    intro H locs ls h1 a0 x1 x2 x3 x4 x5 x6 x7 hQ hS hL hf
    rw [fX4_open_23] at hf
    refine lv_iconst (v := 0) hx hb dX4_open_23 (by decide) ?_
    exact b24 _ _ _ h1 a0 x1 x2 x3 x4 x5 x6 x7 0 hQ hS (hL.sub [0, 1, 2, 3, 4, 5, 6, 7] rfl) hf
  rw [fX4_open] at hf
  refine lv_iload_n hx hb dX4_open_0 rfl (lv_at hL.1 1 rfl) ?_
  refine lv_iconst (v := 0) hx hb dX4_open_1 (by decide) ?_
  refine lv_bipush (v := 7) hx hb dX4_open_2 (by decide) ?_
  obtain ⟨v104, e105, hf⟩ := p_b hf
  refine p_cRi (va_runS (As := [.int x1, .int 0, .int 7]) (rest := []) hC (kX4_in l D ad h x1 0 7 v104 e105) (cwS 3 hts gX4_open_X4_in rfl rfl rfl (by decide +kernel) ⟨Nat.le_of_ble_eq_true rfl, Nat.le_of_ble_eq_true rfl⟩) (p_preS hK hQ.tt) rfl rfl hL.1.1 rfl (lv_room (Nat.le_of_ble_eq_true rfl)) dX4_open_4 ⟨Nat.le_of_ble_eq_true rfl, Nat.le_of_ble_eq_true rfl⟩) hQ hS (fun H locs hQ hS => ?_)
  refine lv_if_eq (tgt := 23) hx hb dX4_open_7 (by decide) (fun c106 => ?_) (fun c106 => ?_)
  · rw [if_pos c106] at hf
    exact b23 _ _ _ h a0 x1 x2 x3 x4 x5 x6 x7 hQ hS (hL.sub [0, 1, 2, 3, 4, 5, 6, 7] rfl) hf
  · rw [if_neg c106] at hf
    refine lv_iload_n hx hb dX4_open_10 rfl (lv_at hL.1 2 rfl) ?_
    refine lv_iconst (v := 0) hx hb dX4_open_11 (by decide) ?_
    refine lv_iconst (v := 5) hx hb dX4_open_12 (by decide) ?_
    obtain ⟨v107, e108, hf⟩ := p_b hf
    refine p_cRi (va_runS (As := [.int x2, .int 0, .int 5]) (rest := []) hC (kX4_in l D ad h x2 0 5 v107 e108) (cwS 3 hts gX4_open_X4_in rfl rfl rfl (by decide +kernel) ⟨Nat.le_of_ble_eq_true rfl, Nat.le_of_ble_eq_true rfl⟩) (p_preS hK hQ.tt) rfl rfl hL.1.1 rfl (lv_room (Nat.le_of_ble_eq_true rfl)) dX4_open_13 ⟨Nat.le_of_ble_eq_true rfl, Nat.le_of_ble_eq_true rfl⟩) hQ hS (fun H locs hQ hS => ?_)
    refine lv_if_eq (tgt := 23) hx hb dX4_open_16 (by decide) (fun c109 => ?_) (fun c109 => ?_)
    · rw [if_pos c109] at hf
      exact b23 _ _ _ h a0 x1 x2 x3 x4 x5 x6 x7 hQ hS (hL.sub [0, 1, 2, 3, 4, 5, 6, 7] rfl) hf
    · rw [if_neg c109] at hf
      refine lv_iconst (v := 1) hx hb dX4_open_19 (by decide) ?_
      refine lv_goto (tgt := 24) hx hb dX4_open_20 (by decide) ?_
      exact b24 _ _ _ h a0 x1 x2 x3 x4 x5 x6 x7 1 hQ hS (hL.sub [0, 1, 2, 3, 4, 5, 6, 7] rfl) hf
-- X4_close
abbrev rX4_close : Room := { frames := 7, cells := 0, slots := 0, locals := 158 }
set_option maxHeartbeats 4000000 in
set_option maxRecDepth 100000 in
theorem kX4_close (l : Launch) (D : va_G) (ad : Nat → Nat) (h : PH) (a0 : Nat) (x1 : Int32)  (r : Int32 × PH) (hf : fX4_close h a0 x1  = some r) : Met l yX4_close wsX4_close rX4_close (p_pre D ad (p_A ad h) h [.ref (ad a0), .int x1]) (p_Mi D ad (p_A ad h) r) 0 0 (p_A ad h) := by
  refine Met.ofW (cc := cX4_close) (maxL := 3) (ret := (some .int)) (by decide) rfl ?_
  intro p e s m args below meth c s₁ B hml hv
  obtain ⟨hargs, hK, hQ⟩ := hv
  have hx := B.exec
  have hb := B.bytes
  have hr := B.returns
  have hts := atoms_spec (ws := wsX4_close) B.pre
  have hown : s.vm.findClass RX4 = some m.cls := findClass_of_methodNamed B.named
  have hlocks := B.notSynchronized
  have hC : CallFix p m c cX4_close 3 s args wsX4_close RX4 := ⟨hx, hb, hml, hown, hts⟩
  have hS : va_S (p_A ad h) s.heap s.heap [] := va_S.rf
  have hi4 : ∀ w ∈ u_ws RX4 TX4 22, w ∈ wsX4_close := fun w hw => List.mem_cons_of_mem _ (List.mem_append_right _ hw)
  obtain ⟨ls, hls, hL⟩ := p_start (n := 3) hargs (by simp [p_cat, p_ci, p_cr, p_cn]) (Nat.le_of_ble_eq_true rfl)
  show W p l e rX4_close s m args below meth c s.heap [] 0 0 (MQ below (p_Mi D ad (p_A ad h) r) args s 0 0 (p_A ad h)) (entryFrame m args 3)
  rw [hls]
  clear hls
  have hL : p_L ls 3 [(0, .ref (ad a0)), (1, .int x1)] := hL
  have b16 : ∀ n : Nat, ∀ (H : Heap) (locs : List Loc) (ls : Array Slot) (h1 : PH) (a0 : Nat) (x2 : Int32), p_Q D ad (p_A ad h) s h1 H → va_S (p_A ad h) s.heap H locs → p_L ls 3 [(0, .ref (ad a0)), (2, .int x2)] → fX4_close_16 n h1 a0 x2 = some r → W p l e rX4_close s m args below meth c H locs 0 0 (MQ below (p_Mi D ad (p_A ad h) r) args s 0 0 (p_A ad h)) (F0 m 16 ls []) := by
    intro n
    induction n with
    | zero =>
      intro H locs ls h1 a0 x2 hQ hS hL hf
      simp [fX4_close_16] at hf
    | succ n ih =>
      intro H locs ls h1 a0 x2 hQ hS hL hf
      rw [fX4_close_16] at hf
      refine lv_iload_n hx hb dX4_close_16 rfl (lv_at hL.1 1 rfl) ?_
      refine lv_iconst (v := 1) hx hb dX4_close_17 (by decide) ?_
      refine lv_iadd hx hb dX4_close_18 ?_
      refine lv_aload_n hx hb dX4_close_19 rfl (lv_at hL.1 0 rfl) ?_
      obtain ⟨v1, e2, hf⟩ := p_b hf
      refine p_getI hC hi4 hK hQ e2 rfl (by decide) (by decide +kernel) dX4_close_20 ?_
      refine lv_icmp_ge (tgt := 46) hx hb dX4_close_23 (by decide) (fun c3 => ?_) (fun c3 => ?_)
      · rw [if_pos c3] at hf
        refine lv_aload_n hx hb dX4_close_46 rfl (lv_at hL.1 0 rfl) ?_
        refine lv_dup hx hb dX4_close_47 rfl ?_
        obtain ⟨v4, e5, hf⟩ := p_b hf
        refine p_getI hC hi4 hK hQ e5 rfl (by decide) (by decide +kernel) dX4_close_48 ?_
        refine lv_iconst (v := 1) hx hb dX4_close_51 (by decide) ?_
        refine lv_isub hx hb dX4_close_52 ?_
        obtain ⟨h_6, e7, hf⟩ := p_b hf
        refine p_putI hC hi4 tyX4_ok nmX4 hK hQ hS e7 rfl (by decide) rfl rfl (by decide +kernel) dX4_close_53 (fun H locs hQ hS => ?_)
        refine lv_aload_n hx hb dX4_close_56 rfl (lv_at hL.1 0 rfl) ?_
        obtain ⟨u8, e9, hf⟩ := p_b hf
        obtain ⟨h_10, e11, hf⟩ := p_b hf
        refine p_cMv (va_runV (As := []) (rest := []) hC (kX4_lendAll l D ad h_6 a0 h_10 e11) (cwV 0 hts gX4_close_X4_lendAll rfl rfl rfl (by decide +kernel) ⟨Nat.le_of_ble_eq_true rfl, Nat.le_of_ble_eq_true rfl⟩) (p_preV hK hQ.self e9 rfl) rfl rfl hL.1.1 rfl (lv_room (Nat.le_of_ble_eq_true rfl)) dX4_close_57 ⟨Nat.le_of_ble_eq_true rfl, Nat.le_of_ble_eq_true rfl⟩) hQ hS (fun H locs hQ hS => ?_)
        refine lv_aload_n hx hb dX4_close_60 rfl (lv_at hL.1 0 rfl) ?_
        obtain ⟨v12, e13, hf⟩ := p_b hf
        refine p_getI hC hi4 hK hQ e13 rfl (by decide) (by decide +kernel) dX4_close_61 ?_
        exact p_rMi hC hr hlocks hQ hS hf dX4_close_64
      · rw [if_neg c3] at hf
        refine lv_aload_n hx hb dX4_close_26 rfl (lv_at hL.1 0 rfl) ?_
        obtain ⟨a_14, e15, hf⟩ := p_b hf
        refine p_getR hC hi4 hK hQ e15 rfl (by decide) (by decide +kernel) dX4_close_27 ?_
        refine lv_iload_n hx hb dX4_close_30 rfl (lv_at hL.1 1 rfl) ?_
        refine lv_aload_n hx hb dX4_close_31 rfl (lv_at hL.1 0 rfl) ?_
        obtain ⟨a_16, e17, hf⟩ := p_b hf
        refine p_getR hC hi4 hK hQ e17 rfl (by decide) (by decide +kernel) dX4_close_32 ?_
        refine lv_iload_n hx hb dX4_close_35 rfl (lv_at hL.1 1 rfl) ?_
        refine lv_iconst (v := 1) hx hb dX4_close_36 (by decide) ?_
        refine lv_iadd hx hb dX4_close_37 ?_
        obtain ⟨v19, e18, hf⟩ := p_b hf
        refine p_iald hC hQ e18 dX4_close_38 ?_
        obtain ⟨h_20, e21, hf⟩ := p_b hf
        refine p_iast hC hQ hS e21 dX4_close_39 (fun H locs hQ hS => ?_)
        refine p_iinc (v := (x2 + 1)) (lv' := [(2, .int (x2 + 1)), (0, .ref (ad a0))]) hx hb dX4_close_40 hL (k := 1) rfl rfl (by decide) rfl (fun ls hL => ?_)
        refine lv_goto (tgt := 16) hx hb dX4_close_43 (by decide) ?_
        exact ih _ _ _ h_20 a0 (x2 + 1) hQ hS (hL.sub [1, 0] rfl) hf
  rw [fX4_close] at hf
  refine lv_aload_n hx hb dX4_close_0 rfl (lv_at hL.1 0 rfl) ?_
  refine lv_iload_n hx hb dX4_close_1 rfl (lv_at hL.1 1 rfl) ?_
  obtain ⟨u22, e23, hf⟩ := p_b hf
  obtain ⟨y24, e25, hf⟩ := p_b hf
  refine p_cMi (va_runV (As := [.int x1]) (rest := []) hC (kX4_noWindow l D ad h a0 x1 y24 e25) (cwV 1 hts gX4_close_X4_noWindow rfl rfl rfl (by decide +kernel) ⟨Nat.le_of_ble_eq_true rfl, Nat.le_of_ble_eq_true rfl⟩) (p_preV hK hQ.self e23 rfl) rfl rfl hL.1.1 rfl (lv_room (Nat.le_of_ble_eq_true rfl)) dX4_close_2 ⟨Nat.le_of_ble_eq_true rfl, Nat.le_of_ble_eq_true rfl⟩) hQ hS (fun H locs hQ hS => ?_)
  refine lv_if_eq (tgt := 10) hx hb dX4_close_5 (by decide) (fun c26 => ?_) (fun c26 => ?_)
  · rw [if_pos c26] at hf
    refine lv_aload_n hx hb dX4_close_10 rfl (lv_at hL.1 0 rfl) ?_
    refine lv_iload_n hx hb dX4_close_11 rfl (lv_at hL.1 1 rfl) ?_
    obtain ⟨u27, e28, hf⟩ := p_b hf
    obtain ⟨v29, e30, hf⟩ := p_b hf
    refine p_cRi (va_runV (As := [.int x1]) (rest := []) hC (kX4_placeIn l D ad y24.2 a0 x1 v29 e30) (cwV 1 hts gX4_close_X4_placeIn rfl rfl rfl (by decide +kernel) ⟨Nat.le_of_ble_eq_true rfl, Nat.le_of_ble_eq_true rfl⟩) (p_preV hK hQ.tt e28 rfl) rfl rfl hL.1.1 rfl (lv_room (Nat.le_of_ble_eq_true rfl)) dX4_close_12 ⟨Nat.le_of_ble_eq_true rfl, Nat.le_of_ble_eq_true rfl⟩) hQ hS (fun H locs hQ hS => ?_)
    refine p_istore_n (lv' := [(2, .int v29), (0, .ref (ad a0)), (1, .int x1)]) hx hb dX4_close_15 rfl hL (by decide) rfl (fun ls hL => ?_)
    exact b16 64 _ _ _ y24.2 a0 v29 hQ hS (hL.sub [1, 0] rfl) hf
  · rw [if_neg c26] at hf
    refine lv_iconst (v := 0) hx hb dX4_close_8 (by decide) ?_
    exact p_rMi hC hr hlocks hQ hS hf dX4_close_9
-- X4_move
abbrev rX4_move : Room := { frames := 7, cells := 0, slots := 0, locals := 158 }
set_option maxHeartbeats 4000000 in
set_option maxRecDepth 100000 in
theorem kX4_move (l : Launch) (D : va_G) (ad : Nat → Nat) (h : PH) (a0 : Nat) (x1 : Int32) (x2 : Int32) (x3 : Int32)  (r : PH) (hf : fX4_move h a0 x1 x2 x3  = some r) : Met l yX4_move wsX4_move rX4_move (p_pre D ad (p_A ad h) h [.ref (ad a0), .int x1, .int x2, .int x3]) (p_Mv D ad (p_A ad h) r) 0 0 (p_A ad h) := by
  refine Met.ofW (cc := cX4_move) (maxL := 6) (ret := none) (by decide) rfl ?_
  intro p e s m args below meth c s₁ B hml hv
  obtain ⟨hargs, hK, hQ⟩ := hv
  have hx := B.exec
  have hb := B.bytes
  have hr := B.returns
  have hts := atoms_spec (ws := wsX4_move) B.pre
  have hown : s.vm.findClass RX4 = some m.cls := findClass_of_methodNamed B.named
  have hlocks := B.notSynchronized
  have hC : CallFix p m c cX4_move 6 s args wsX4_move RX4 := ⟨hx, hb, hml, hown, hts⟩
  have hS : va_S (p_A ad h) s.heap s.heap [] := va_S.rf
  have hi4 : ∀ w ∈ u_ws RX4 TX4 22, w ∈ wsX4_move := fun w hw => List.mem_cons_of_mem _ (List.mem_append_right _ hw)
  obtain ⟨ls, hls, hL⟩ := p_start (n := 6) hargs (by simp [p_cat, p_ci, p_cr, p_cn]) (Nat.le_of_ble_eq_true rfl)
  show W p l e rX4_move s m args below meth c s.heap [] 0 0 (MQ below (p_Mv D ad (p_A ad h) r) args s 0 0 (p_A ad h)) (entryFrame m args 6)
  rw [hls]
  clear hls
  have hL : p_L ls 6 [(0, .ref (ad a0)), (1, .int x1), (2, .int x2), (3, .int x3)] := hL
  have b106 : ∀ (H : Heap) (locs : List Loc) (ls : Array Slot) (h1 : PH) , p_Q D ad (p_A ad h) s h1 H → va_S (p_A ad h) s.heap H locs → p_L ls 6 [] → fX4_move_106 h1  = some r → W p l e rX4_move s m args below meth c H locs 0 0 (MQ below (p_Mv D ad (p_A ad h) r) args s 0 0 (p_A ad h)) (F0 m 106 ls []) := by
    intro H locs ls h1  hQ hS hL hf
    rw [fX4_move_106] at hf
    exact p_rMv hC hr hlocks hQ hS hf dX4_move_106
  have b82 : ∀ (H : Heap) (locs : List Loc) (ls : Array Slot) (h1 : PH) (a0 : Nat) (x1 : Int32) (x2 : Int32) (x3 : Int32) (sx0 : Int32) (sa1 : Nat), p_Q D ad (p_A ad h) s h1 H → va_S (p_A ad h) s.heap H locs → p_L ls 6 [(0, .ref (ad a0)), (1, .int x1), (2, .int x2), (3, .int x3)] → fX4_move_82 h1 a0 x1 x2 x3 sx0 sa1 = some r → W p l e rX4_move s m args below meth c H locs 0 0 (MQ below (p_Mv D ad (p_A ad h) r) args s 0 0 (p_A ad h)) (F0 m 82 ls [.int sx0, .ref (ad sa1)]) := by
    intro H locs ls h1 a0 x1 x2 x3 sx0 sa1 hQ hS hL hf
    rw [fX4_move_82] at hf
    obtain ⟨u1, e2, hf⟩ := p_b hf
    obtain ⟨y3, e4, hf⟩ := p_b hf
    refine p_cMi (va_runV (As := [.int sx0]) (rest := []) hC (kX4_refused l D ad h1 sa1 sx0 y3 e4) (cwV 1 hts gX4_move_X4_refused rfl rfl rfl (by decide +kernel) ⟨Nat.le_of_ble_eq_true rfl, Nat.le_of_ble_eq_true rfl⟩) (p_preV hK hQ.self e2 rfl) rfl rfl hL.1.1 rfl (lv_room (Nat.le_of_ble_eq_true rfl)) dX4_move_82 ⟨Nat.le_of_ble_eq_true rfl, Nat.le_of_ble_eq_true rfl⟩) hQ hS (fun H locs hQ hS => ?_)
    refine lv_if_ne (tgt := 106) hx hb dX4_move_85 (by decide) (fun c5 => ?_) (fun c5 => ?_)
    · rw [if_neg c5] at hf
      exact b106 _ _ _ y3.2  hQ hS (hL.sub [] rfl) hf
    · rw [if_pos c5] at hf
      refine lv_aload_n hx hb dX4_move_88 rfl (lv_at hL.1 0 rfl) ?_
      obtain ⟨a_6, e7, hf⟩ := p_b hf
      refine p_getR hC hi4 hK hQ e7 rfl (by decide) (by decide +kernel) dX4_move_89 ?_
      refine lv_iload_n hx hb dX4_move_92 rfl (lv_at hL.1 1 rfl) ?_
      refine lv_iload_n hx hb dX4_move_93 rfl (lv_at hL.1 2 rfl) ?_
      obtain ⟨h_8, e9, hf⟩ := p_b hf
      refine p_iast hC hQ hS e9 dX4_move_94 (fun H locs hQ hS => ?_)
      refine lv_aload_n hx hb dX4_move_95 rfl (lv_at hL.1 0 rfl) ?_
      obtain ⟨a_10, e11, hf⟩ := p_b hf
      refine p_getR hC hi4 hK hQ e11 rfl (by decide) (by decide +kernel) dX4_move_96 ?_
      refine lv_iload_n hx hb dX4_move_99 rfl (lv_at hL.1 1 rfl) ?_
      refine lv_iload_n hx hb dX4_move_100 rfl (lv_at hL.1 3 rfl) ?_
      obtain ⟨h_12, e13, hf⟩ := p_b hf
      refine p_iast hC hQ hS e13 dX4_move_101 (fun H locs hQ hS => ?_)
      refine lv_aload_n hx hb dX4_move_102 rfl (lv_at hL.1 0 rfl) ?_
      obtain ⟨u14, e15, hf⟩ := p_b hf
      obtain ⟨h_16, e17, hf⟩ := p_b hf
      refine p_cMv (va_runV (As := []) (rest := []) hC (kX4_lendAll l D ad h_12 a0 h_16 e17) (cwV 0 hts gX4_move_X4_lendAll rfl rfl rfl (by decide +kernel) ⟨Nat.le_of_ble_eq_true rfl, Nat.le_of_ble_eq_true rfl⟩) (p_preV hK hQ.self e15 rfl) rfl rfl hL.1.1 rfl (lv_room (Nat.le_of_ble_eq_true rfl)) dX4_move_103 ⟨Nat.le_of_ble_eq_true rfl, Nat.le_of_ble_eq_true rfl⟩) hQ hS (fun H locs hQ hS => ?_)
      exact b106 _ _ _ h_16  hQ hS (hL.sub [] rfl) hf
  have b60 : ∀ (H : Heap) (locs : List Loc) (ls : Array Slot) (h1 : PH) (a0 : Nat) (x1 : Int32) (x2 : Int32) (x3 : Int32) (x4 : Int32) (sx0 : Int32), p_Q D ad (p_A ad h) s h1 H → va_S (p_A ad h) s.heap H locs → p_L ls 6 [(0, .ref (ad a0)), (1, .int x1), (2, .int x2), (3, .int x3), (4, .int x4)] → fX4_move_60 h1 a0 x1 x2 x3 x4 sx0 = some r → W p l e rX4_move s m args below meth c H locs 0 0 (MQ below (p_Mv D ad (p_A ad h) r) args s 0 0 (p_A ad h)) (F0 m 60 ls [.int sx0]) := by
    intro H locs ls h1 a0 x1 x2 x3 x4 sx0 hQ hS hL hf
    rw [fX4_move_60] at hf
    refine p_istore (lv' := [(5, .int sx0), (0, .ref (ad a0)), (1, .int x1), (2, .int x2), (3, .int x3), (4, .int x4)]) hx hb dX4_move_60 hL (by decide) rfl (fun ls hL => ?_)
    refine lv_aload_n hx hb dX4_move_62 rfl (lv_at hL.1 1 rfl) ?_
    refine lv_iload hx hb dX4_move_63 (lv_at hL.1 5 rfl) ?_
    refine lv_if_ne (tgt := 72) hx hb dX4_move_65 (by decide) (fun c18 => ?_) (fun c18 => ?_)
    · rw [if_neg c18] at hf
      refine lv_iload hx hb dX4_move_72 (lv_at hL.1 0 rfl) ?_
      refine lv_if_eq (tgt := 81) hx hb dX4_move_74 (by decide) (fun c19 => ?_) (fun c19 => ?_)
      · rw [if_pos c19] at hf
        refine lv_iconst (v := 2) hx hb dX4_move_81 (by decide) ?_
        exact b82 _ _ _ h1 a0 x1 x2 x3 2 a0 hQ hS (hL.sub [1, 2, 3, 4] rfl) hf
      · rw [if_neg c19] at hf
        refine lv_iconst (v := 0) hx hb dX4_move_77 (by decide) ?_
        refine lv_goto (tgt := 82) hx hb dX4_move_78 (by decide) ?_
        exact b82 _ _ _ h1 a0 x1 x2 x3 0 a0 hQ hS (hL.sub [1, 2, 3, 4] rfl) hf
    · rw [if_pos c18] at hf
      refine lv_iconst (v := 1) hx hb dX4_move_68 (by decide) ?_
      refine lv_goto (tgt := 82) hx hb dX4_move_69 (by decide) ?_
      exact b82 _ _ _ h1 a0 x1 x2 x3 1 a0 hQ hS (hL.sub [1, 2, 3, 4] rfl) hf
  have b59 : ∀ (H : Heap) (locs : List Loc) (ls : Array Slot) (h1 : PH) (a0 : Nat) (x1 : Int32) (x2 : Int32) (x3 : Int32) (x4 : Int32), p_Q D ad (p_A ad h) s h1 H → va_S (p_A ad h) s.heap H locs → p_L ls 6 [(0, .ref (ad a0)), (1, .int x1), (2, .int x2), (3, .int x3), (4, .int x4)] → fX4_move_59 h1 a0 x1 x2 x3 x4 = some r → W p l e rX4_move s m args below meth c H locs 0 0 (MQ below (p_Mv D ad (p_A ad h) r) args s 0 0 (p_A ad h)) (F0 m 59 ls []) := by
    intro H locs ls h1 a0 x1 x2 x3 x4 hQ hS hL hf
    rw [fX4_move_59] at hf
    refine lv_iconst (v := 0) hx hb dX4_move_59 (by decide) ?_
    exact b60 _ _ _ h1 a0 x1 x2 x3 x4 0 hQ hS (hL.sub [0, 1, 2, 3, 4] rfl) hf
  have b14 : ∀ (H : Heap) (locs : List Loc) (ls : Array Slot) (h1 : PH) (a0 : Nat) (x1 : Int32) (x2 : Int32) (x3 : Int32) (sx0 : Int32), p_Q D ad (p_A ad h) s h1 H → va_S (p_A ad h) s.heap H locs → p_L ls 6 [(0, .ref (ad a0)), (1, .int x1), (2, .int x2), (3, .int x3)] → fX4_move_14 h1 a0 x1 x2 x3 sx0 = some r → W p l e rX4_move s m args below meth c H locs 0 0 (MQ below (p_Mv D ad (p_A ad h) r) args s 0 0 (p_A ad h)) (F0 m 14 ls [.int sx0]) := by
    intro H locs ls h1 a0 x1 x2 x3 sx0 hQ hS hL hf
    rw [fX4_move_14] at hf
    refine p_istore (lv' := [(4, .int sx0), (0, .ref (ad a0)), (1, .int x1), (2, .int x2), (3, .int x3)]) hx hb dX4_move_14 hL (by decide) rfl (fun ls hL => ?_)
    refine lv_iload hx hb dX4_move_16 (lv_at hL.1 0 rfl) ?_
    refine lv_if_eq (tgt := 59) hx hb dX4_move_18 (by decide) (fun c20 => ?_) (fun c20 => ?_)
    · rw [if_pos c20] at hf
      exact b59 _ _ _ h1 a0 x1 x2 x3 sx0 hQ hS (hL.sub [1, 2, 3, 4, 0] rfl) hf
    · rw [if_neg c20] at hf
      refine lv_iload_n hx hb dX4_move_21 rfl (lv_at hL.1 3 rfl) ?_
      refine lv_iconst (v := 0) hx hb dX4_move_22 (by decide) ?_
      refine lv_bipush (v := 8) hx hb dX4_move_23 (by decide) ?_
      refine lv_aload_n hx hb dX4_move_25 rfl (lv_at hL.1 1 rfl) ?_
      obtain ⟨a_21, e22, hf⟩ := p_b hf
      refine p_getR hC hi4 hK hQ e22 rfl (by decide) (by decide +kernel) dX4_move_26 ?_
      refine lv_iload_n hx hb dX4_move_29 rfl (lv_at hL.1 2 rfl) ?_
      obtain ⟨v24, e23, hf⟩ := p_b hf
      refine p_iald hC hQ e23 dX4_move_30 ?_
      refine lv_isub hx hb dX4_move_31 ?_
      obtain ⟨v25, e26, hf⟩ := p_b hf
      refine p_cRi (va_runS (As := [.int x2, .int 0, .int (8 - v24)]) (rest := []) hC (kX4_in l D ad h1 x2 0 (8 - v24) v25 e26) (cwS 3 hts gX4_move_X4_in rfl rfl rfl (by decide +kernel) ⟨Nat.le_of_ble_eq_true rfl, Nat.le_of_ble_eq_true rfl⟩) (p_preS hK hQ.tt) rfl rfl hL.1.1 rfl (lv_room (Nat.le_of_ble_eq_true rfl)) dX4_move_32 ⟨Nat.le_of_ble_eq_true rfl, Nat.le_of_ble_eq_true rfl⟩) hQ hS (fun H locs hQ hS => ?_)
      refine lv_if_eq (tgt := 59) hx hb dX4_move_35 (by decide) (fun c27 => ?_) (fun c27 => ?_)
      · rw [if_pos c27] at hf
        exact b59 _ _ _ h1 a0 x1 x2 x3 sx0 hQ hS (hL.sub [1, 2, 3, 4, 0] rfl) hf
      · rw [if_neg c27] at hf
        refine lv_iload_n hx hb dX4_move_38 rfl (lv_at hL.1 4 rfl) ?_
        refine lv_iconst (v := 0) hx hb dX4_move_39 (by decide) ?_
        refine lv_bipush (v := 6) hx hb dX4_move_40 (by decide) ?_
        refine lv_aload_n hx hb dX4_move_42 rfl (lv_at hL.1 1 rfl) ?_
        obtain ⟨a_28, e29, hf⟩ := p_b hf
        refine p_getR hC hi4 hK hQ e29 rfl (by decide) (by decide +kernel) dX4_move_43 ?_
        refine lv_iload_n hx hb dX4_move_46 rfl (lv_at hL.1 2 rfl) ?_
        obtain ⟨v31, e30, hf⟩ := p_b hf
        refine p_iald hC hQ e30 dX4_move_47 ?_
        refine lv_isub hx hb dX4_move_48 ?_
        obtain ⟨v32, e33, hf⟩ := p_b hf
        refine p_cRi (va_runS (As := [.int x3, .int 0, .int (6 - v31)]) (rest := []) hC (kX4_in l D ad h1 x3 0 (6 - v31) v32 e33) (cwS 3 hts gX4_move_X4_in rfl rfl rfl (by decide +kernel) ⟨Nat.le_of_ble_eq_true rfl, Nat.le_of_ble_eq_true rfl⟩) (p_preS hK hQ.tt) rfl rfl hL.1.1 rfl (lv_room (Nat.le_of_ble_eq_true rfl)) dX4_move_49 ⟨Nat.le_of_ble_eq_true rfl, Nat.le_of_ble_eq_true rfl⟩) hQ hS (fun H locs hQ hS => ?_)
        refine lv_if_eq (tgt := 59) hx hb dX4_move_52 (by decide) (fun c34 => ?_) (fun c34 => ?_)
        · rw [if_pos c34] at hf
          exact b59 _ _ _ h1 a0 x1 x2 x3 sx0 hQ hS (hL.sub [1, 2, 3, 4, 0] rfl) hf
        · rw [if_neg c34] at hf
          refine lv_iconst (v := 1) hx hb dX4_move_55 (by decide) ?_
          refine lv_goto (tgt := 60) hx hb dX4_move_56 (by decide) ?_
          exact b60 _ _ _ h1 a0 x1 x2 x3 sx0 1 hQ hS (hL.sub [1, 2, 3, 4, 0] rfl) hf
  rw [fX4_move] at hf
  refine lv_aload_n hx hb dX4_move_0 rfl (lv_at hL.1 0 rfl) ?_
  refine lv_iload_n hx hb dX4_move_1 rfl (lv_at hL.1 1 rfl) ?_
  obtain ⟨u35, e36, hf⟩ := p_b hf
  obtain ⟨v37, e38, hf⟩ := p_b hf
  refine p_cRi (va_runV (As := [.int x1]) (rest := []) hC (kX4_placeIn l D ad h a0 x1 v37 e38) (cwV 1 hts gX4_move_X4_placeIn rfl rfl rfl (by decide +kernel) ⟨Nat.le_of_ble_eq_true rfl, Nat.le_of_ble_eq_true rfl⟩) (p_preV hK hQ.tt e36 rfl) rfl rfl hL.1.1 rfl (lv_room (Nat.le_of_ble_eq_true rfl)) dX4_move_2 ⟨Nat.le_of_ble_eq_true rfl, Nat.le_of_ble_eq_true rfl⟩) hQ hS (fun H locs hQ hS => ?_)
  refine lv_iconst (v := -1) hx hb dX4_move_5 (by decide) ?_
  refine lv_icmp_eq (tgt := 13) hx hb dX4_move_6 (by decide) (fun c39 => ?_) (fun c39 => ?_)
  · rw [if_pos c39] at hf
    refine lv_iconst (v := 0) hx hb dX4_move_13 (by decide) ?_
    exact b14 _ _ _ h a0 x1 x2 x3 0 hQ hS (hL.sub [0, 1, 2, 3] rfl) hf
  · rw [if_neg c39] at hf
    refine lv_iconst (v := 1) hx hb dX4_move_9 (by decide) ?_
    refine lv_goto (tgt := 14) hx hb dX4_move_10 (by decide) ?_
    exact b14 _ _ _ h a0 x1 x2 x3 1 hQ hS (hL.sub [0, 1, 2, 3] rfl) hf
-- X4_lay
abbrev rX4_lay : Room := { frames := 7, cells := 0, slots := 0, locals := 158 }
set_option maxHeartbeats 4000000 in
set_option maxRecDepth 100000 in
theorem kX4_lay (l : Launch) (D : va_G) (ad : Nat → Nat) (h : PH) (a0 : Nat) (x1 : Int32) (x2 : Int32)  (r : Int32 × PH) (hf : fX4_lay h a0 x1 x2  = some r) : Met l yX4_lay wsX4_lay rX4_lay (p_pre D ad (p_A ad h) h [.ref (ad a0), .int x1, .int x2]) (p_Mi D ad (p_A ad h) r) 0 0 (p_A ad h) := by
  refine Met.ofW (cc := cX4_lay) (maxL := 7) (ret := (some .int)) (by decide) rfl ?_
  intro p e s m args below meth c s₁ B hml hv
  obtain ⟨hargs, hK, hQ⟩ := hv
  have hx := B.exec
  have hb := B.bytes
  have hr := B.returns
  have hts := atoms_spec (ws := wsX4_lay) B.pre
  have hown : s.vm.findClass RX4 = some m.cls := findClass_of_methodNamed B.named
  have hlocks := B.notSynchronized
  have hC : CallFix p m c cX4_lay 7 s args wsX4_lay RX4 := ⟨hx, hb, hml, hown, hts⟩
  have hS : va_S (p_A ad h) s.heap s.heap [] := va_S.rf
  have hi4 : ∀ w ∈ u_ws RX4 TX4 22, w ∈ wsX4_lay := fun w hw => List.mem_cons_of_mem _ (List.mem_append_right _ hw)
  obtain ⟨ls, hls, hL⟩ := p_start (n := 7) hargs (by simp [p_cat, p_ci, p_cr, p_cn]) (Nat.le_of_ble_eq_true rfl)
  show W p l e rX4_lay s m args below meth c s.heap [] 0 0 (MQ below (p_Mi D ad (p_A ad h) r) args s 0 0 (p_A ad h)) (entryFrame m args 7)
  rw [hls]
  clear hls
  have hL : p_L ls 7 [(0, .ref (ad a0)), (1, .int x1), (2, .int x2)] := hL
  have b46 : ∀ n : Nat, ∀ (H : Heap) (locs : List Loc) (ls : Array Slot) (h1 : PH) (a0 : Nat) (x1 : Int32) (x3 : Int32) (x4 : Int32) (x5 : Int32) (x6 : Int32), p_Q D ad (p_A ad h) s h1 H → va_S (p_A ad h) s.heap H locs → p_L ls 7 [(0, .ref (ad a0)), (1, .int x1), (3, .int x3), (4, .int x4), (5, .int x5), (6, .int x6)] → fX4_lay_46 n h1 a0 x1 x3 x4 x5 x6 = some r → W p l e rX4_lay s m args below meth c H locs 0 0 (MQ below (p_Mi D ad (p_A ad h) r) args s 0 0 (p_A ad h)) (F0 m 46 ls []) := by
    intro n
    induction n with
    | zero =>
      intro H locs ls h1 a0 x1 x3 x4 x5 x6 hQ hS hL hf
      simp [fX4_lay_46] at hf
    | succ n ih =>
      intro H locs ls h1 a0 x1 x3 x4 x5 x6 hQ hS hL hf
      rw [fX4_lay_46] at hf
      refine lv_iload hx hb dX4_lay_46 (lv_at hL.1 5 rfl) ?_
      refine lv_iload hx hb dX4_lay_48 (lv_at hL.1 3 rfl) ?_
      refine lv_icmp_eq (tgt := 80) hx hb dX4_lay_50 (by decide) (fun c1 => ?_) (fun c1 => ?_)
      · rw [if_pos c1] at hf
        refine lv_aload_n hx hb dX4_lay_80 rfl (lv_at hL.1 0 rfl) ?_
        obtain ⟨a_2, e3, hf⟩ := p_b hf
        refine p_getR hC hi4 hK hQ e3 rfl (by decide) (by decide +kernel) dX4_lay_81 ?_
        refine lv_iload hx hb dX4_lay_84 (lv_at hL.1 3 rfl) ?_
        refine lv_iload_n hx hb dX4_lay_86 rfl (lv_at hL.1 1 rfl) ?_
        obtain ⟨h_4, e5, hf⟩ := p_b hf
        refine p_iast hC hQ hS e5 dX4_lay_87 (fun H locs hQ hS => ?_)
        refine lv_aload_n hx hb dX4_lay_88 rfl (lv_at hL.1 0 rfl) ?_
        obtain ⟨u6, e7, hf⟩ := p_b hf
        obtain ⟨h_8, e9, hf⟩ := p_b hf
        refine p_cMv (va_runV (As := []) (rest := []) hC (kX4_lendAll l D ad h_4 a0 h_8 e9) (cwV 0 hts gX4_lay_X4_lendAll rfl rfl rfl (by decide +kernel) ⟨Nat.le_of_ble_eq_true rfl, Nat.le_of_ble_eq_true rfl⟩) (p_preV hK hQ.self e7 rfl) rfl rfl hL.1.1 rfl (lv_room (Nat.le_of_ble_eq_true rfl)) dX4_lay_89 ⟨Nat.le_of_ble_eq_true rfl, Nat.le_of_ble_eq_true rfl⟩) hQ hS (fun H locs hQ hS => ?_)
        refine lv_iload_n hx hb dX4_lay_92 rfl (lv_at hL.1 2 rfl) ?_
        exact p_rMi hC hr hlocks hQ hS hf dX4_lay_93
      · rw [if_neg c1] at hf
        refine lv_aload_n hx hb dX4_lay_53 rfl (lv_at hL.1 0 rfl) ?_
        obtain ⟨a_10, e11, hf⟩ := p_b hf
        refine p_getR hC hi4 hK hQ e11 rfl (by decide) (by decide +kernel) dX4_lay_54 ?_
        refine lv_iload hx hb dX4_lay_57 (lv_at hL.1 5 rfl) ?_
        refine lv_aload_n hx hb dX4_lay_59 rfl (lv_at hL.1 0 rfl) ?_
        obtain ⟨a_12, e13, hf⟩ := p_b hf
        refine p_getR hC hi4 hK hQ e13 rfl (by decide) (by decide +kernel) dX4_lay_60 ?_
        refine lv_iload hx hb dX4_lay_63 (lv_at hL.1 5 rfl) ?_
        refine lv_iload hx hb dX4_lay_65 (lv_at hL.1 4 rfl) ?_
        refine lv_iadd hx hb dX4_lay_67 ?_
        obtain ⟨v15, e14, hf⟩ := p_b hf
        refine p_iald hC hQ e14 dX4_lay_68 ?_
        obtain ⟨h_16, e17, hf⟩ := p_b hf
        refine p_iast hC hQ hS e17 dX4_lay_69 (fun H locs hQ hS => ?_)
        refine lv_iload hx hb dX4_lay_70 (lv_at hL.1 5 rfl) ?_
        refine lv_iload hx hb dX4_lay_72 (lv_at hL.1 4 rfl) ?_
        refine lv_iadd hx hb dX4_lay_74 ?_
        refine p_istore (lv' := [(6, .int (x6 + x5)), (0, .ref (ad a0)), (1, .int x1), (3, .int x3), (4, .int x4), (5, .int x5)]) hx hb dX4_lay_75 hL (by decide) rfl (fun ls hL => ?_)
        refine lv_goto (tgt := 46) hx hb dX4_lay_77 (by decide) ?_
        exact ih _ _ _ h_16 a0 x1 x3 x4 x5 (x6 + x5) hQ hS (hL.sub [1, 2, 3, 4, 5, 0] rfl) hf
  have b41 : ∀ (H : Heap) (locs : List Loc) (ls : Array Slot) (h1 : PH) (a0 : Nat) (x1 : Int32) (x3 : Int32) (x4 : Int32) (sx0 : Int32), p_Q D ad (p_A ad h) s h1 H → va_S (p_A ad h) s.heap H locs → p_L ls 7 [(0, .ref (ad a0)), (1, .int x1), (3, .int x3), (4, .int x4)] → fX4_lay_41 h1 a0 x1 x3 x4 sx0 = some r → W p l e rX4_lay s m args below meth c H locs 0 0 (MQ below (p_Mi D ad (p_A ad h) r) args s 0 0 (p_A ad h)) (F0 m 41 ls [.int sx0]) := by
    intro H locs ls h1 a0 x1 x3 x4 sx0 hQ hS hL hf
    rw [fX4_lay_41] at hf
    refine p_istore (lv' := [(5, .int sx0), (0, .ref (ad a0)), (1, .int x1), (3, .int x3), (4, .int x4)]) hx hb dX4_lay_41 hL (by decide) rfl (fun ls hL => ?_)
    refine lv_iload_n hx hb dX4_lay_43 rfl (lv_at hL.1 3 rfl) ?_
    refine p_istore (lv' := [(6, .int x3), (5, .int sx0), (0, .ref (ad a0)), (1, .int x1), (3, .int x3), (4, .int x4)]) hx hb dX4_lay_44 hL (by decide) rfl (fun ls hL => ?_)
    exact b46 64 _ _ _ h1 a0 x1 x3 x4 sx0 x3 hQ hS (hL.sub [2, 3, 4, 5, 1, 0] rfl) hf
  have b30 : ∀ (H : Heap) (locs : List Loc) (ls : Array Slot) (h1 : PH) (a0 : Nat) (x1 : Int32) (x2 : Int32) (x3 : Int32) (sx0 : Int32), p_Q D ad (p_A ad h) s h1 H → va_S (p_A ad h) s.heap H locs → p_L ls 7 [(0, .ref (ad a0)), (1, .int x1), (2, .int x2), (3, .int x3)] → fX4_lay_30 h1 a0 x1 x2 x3 sx0 = some r → W p l e rX4_lay s m args below meth c H locs 0 0 (MQ below (p_Mi D ad (p_A ad h) r) args s 0 0 (p_A ad h)) (F0 m 30 ls [.int sx0]) := by
    intro H locs ls h1 a0 x1 x2 x3 sx0 hQ hS hL hf
    rw [fX4_lay_30] at hf
    refine p_istore (lv' := [(4, .int sx0), (0, .ref (ad a0)), (1, .int x1), (2, .int x2), (3, .int x3)]) hx hb dX4_lay_30 hL (by decide) rfl (fun ls hL => ?_)
    refine lv_iload_n hx hb dX4_lay_32 rfl (lv_at hL.1 3 rfl) ?_
    refine lv_if_eq (tgt := 40) hx hb dX4_lay_33 (by decide) (fun c18 => ?_) (fun c18 => ?_)
    · rw [if_pos c18] at hf
      refine lv_iconst (v := -1) hx hb dX4_lay_40 (by decide) ?_
      exact b41 _ _ _ h1 a0 x1 x3 sx0 (-1) hQ hS (hL.sub [1, 2, 4, 0] rfl) hf
    · rw [if_neg c18] at hf
      refine lv_iconst (v := 1) hx hb dX4_lay_36 (by decide) ?_
      refine lv_goto (tgt := 41) hx hb dX4_lay_37 (by decide) ?_
      exact b41 _ _ _ h1 a0 x1 x3 sx0 1 hQ hS (hL.sub [1, 2, 4, 0] rfl) hf
  rw [fX4_lay] at hf
  refine lv_aload_n hx hb dX4_lay_0 rfl (lv_at hL.1 0 rfl) ?_
  refine lv_iload_n hx hb dX4_lay_1 rfl (lv_at hL.1 1 rfl) ?_
  obtain ⟨u19, e20, hf⟩ := p_b hf
  obtain ⟨y21, e22, hf⟩ := p_b hf
  refine p_cMi (va_runV (As := [.int x1]) (rest := []) hC (kX4_noWindow l D ad h a0 x1 y21 e22) (cwV 1 hts gX4_lay_X4_noWindow rfl rfl rfl (by decide +kernel) ⟨Nat.le_of_ble_eq_true rfl, Nat.le_of_ble_eq_true rfl⟩) (p_preV hK hQ.self e20 rfl) rfl rfl hL.1.1 rfl (lv_room (Nat.le_of_ble_eq_true rfl)) dX4_lay_2 ⟨Nat.le_of_ble_eq_true rfl, Nat.le_of_ble_eq_true rfl⟩) hQ hS (fun H locs hQ hS => ?_)
  refine lv_if_eq (tgt := 10) hx hb dX4_lay_5 (by decide) (fun c23 => ?_) (fun c23 => ?_)
  · rw [if_pos c23] at hf
    refine lv_aload_n hx hb dX4_lay_10 rfl (lv_at hL.1 0 rfl) ?_
    refine lv_iload_n hx hb dX4_lay_11 rfl (lv_at hL.1 1 rfl) ?_
    obtain ⟨u24, e25, hf⟩ := p_b hf
    obtain ⟨v26, e27, hf⟩ := p_b hf
    refine p_cRi (va_runV (As := [.int x1]) (rest := []) hC (kX4_placeIn l D ad y21.2 a0 x1 v26 e27) (cwV 1 hts gX4_lay_X4_placeIn rfl rfl rfl (by decide +kernel) ⟨Nat.le_of_ble_eq_true rfl, Nat.le_of_ble_eq_true rfl⟩) (p_preV hK hQ.tt e25 rfl) rfl rfl hL.1.1 rfl (lv_room (Nat.le_of_ble_eq_true rfl)) dX4_lay_12 ⟨Nat.le_of_ble_eq_true rfl, Nat.le_of_ble_eq_true rfl⟩) hQ hS (fun H locs hQ hS => ?_)
    refine p_istore_n (lv' := [(3, .int v26), (0, .ref (ad a0)), (1, .int x1), (2, .int x2)]) hx hb dX4_lay_15 rfl hL (by decide) rfl (fun ls hL => ?_)
    refine lv_iload_n hx hb dX4_lay_16 rfl (lv_at hL.1 3 rfl) ?_
    refine lv_if_eq (tgt := 29) hx hb dX4_lay_17 (by decide) (fun c28 => ?_) (fun c28 => ?_)
    · rw [if_pos c28] at hf
      refine lv_iconst (v := 0) hx hb dX4_lay_29 (by decide) ?_
      exact b30 _ _ _ y21.2 a0 x1 x2 v26 0 hQ hS (hL.sub [1, 2, 3, 0] rfl) hf
    · rw [if_neg c28] at hf
      refine lv_aload_n hx hb dX4_lay_20 rfl (lv_at hL.1 1 rfl) ?_
      obtain ⟨v29, e30, hf⟩ := p_b hf
      refine p_getI hC hi4 hK hQ e30 rfl (by decide) (by decide +kernel) dX4_lay_21 ?_
      refine lv_iconst (v := 1) hx hb dX4_lay_24 (by decide) ?_
      refine lv_isub hx hb dX4_lay_25 ?_
      refine lv_goto (tgt := 30) hx hb dX4_lay_26 (by decide) ?_
      exact b30 _ _ _ y21.2 a0 x1 x2 v26 (v29 - 1) hQ hS (hL.sub [1, 2, 3, 0] rfl) hf
  · rw [if_neg c23] at hf
    refine lv_iconst (v := 0) hx hb dX4_lay_8 (by decide) ?_
    exact p_rMi hC hr hlocks hQ hS hf dX4_lay_9
-- X4_begin
abbrev rX4_begin : Room := { frames := 0, cells := 0, slots := 0, locals := 0 }
set_option maxHeartbeats 4000000 in
set_option maxRecDepth 100000 in
theorem kX4_begin (l : Launch) (D : va_G) (ad : Nat → Nat) (h : PH) (a0 : Nat) (x1 : Int32) (x2 : Int32)  (r : PH) (hf : fX4_begin h a0 x1 x2  = some r) : Met l yX4_begin wsX4_begin rX4_begin (p_pre D ad (p_A ad h) h [.ref (ad a0), .int x1, .int x2]) (p_Mv D ad (p_A ad h) r) 0 0 (p_A ad h) := by
  refine Met.ofW (cc := cX4_begin) (maxL := 3) (ret := none) (by decide) rfl ?_
  intro p e s m args below meth c s₁ B hml hv
  obtain ⟨hargs, hK, hQ⟩ := hv
  have hx := B.exec
  have hb := B.bytes
  have hr := B.returns
  have hts := atoms_spec (ws := wsX4_begin) B.pre
  have hown : s.vm.findClass RX4 = some m.cls := findClass_of_methodNamed B.named
  have hlocks := B.notSynchronized
  have hC : CallFix p m c cX4_begin 3 s args wsX4_begin RX4 := ⟨hx, hb, hml, hown, hts⟩
  have hS : va_S (p_A ad h) s.heap s.heap [] := va_S.rf
  have hi4 : ∀ w ∈ u_ws RX4 TX4 22, w ∈ wsX4_begin := fun w hw => List.mem_cons_of_mem _ (List.mem_append_right _ hw)
  obtain ⟨ls, hls, hL⟩ := p_start (n := 3) hargs (by simp [p_cat, p_ci, p_cr, p_cn]) (Nat.le_of_ble_eq_true rfl)
  show W p l e rX4_begin s m args below meth c s.heap [] 0 0 (MQ below (p_Mv D ad (p_A ad h) r) args s 0 0 (p_A ad h)) (entryFrame m args 3)
  rw [hls]
  clear hls
  have hL : p_L ls 3 [(0, .ref (ad a0)), (1, .int x1), (2, .int x2)] := hL
  rw [fX4_begin] at hf
  refine lv_aload_n hx hb dX4_begin_0 rfl (lv_at hL.1 0 rfl) ?_
  obtain ⟨a_1, e2, hf⟩ := p_b hf
  refine p_getR hC hi4 hK hQ e2 rfl (by decide) (by decide +kernel) dX4_begin_1 ?_
  refine lv_iload_n hx hb dX4_begin_4 rfl (lv_at hL.1 1 rfl) ?_
  refine lv_iconst (v := 0) hx hb dX4_begin_5 (by decide) ?_
  obtain ⟨h_3, e4, hf⟩ := p_b hf
  refine p_iast hC hQ hS e4 dX4_begin_6 (fun H locs hQ hS => ?_)
  refine lv_aload_n hx hb dX4_begin_7 rfl (lv_at hL.1 0 rfl) ?_
  obtain ⟨a_5, e6, hf⟩ := p_b hf
  refine p_getR hC hi4 hK hQ e6 rfl (by decide) (by decide +kernel) dX4_begin_8 ?_
  refine lv_iload_n hx hb dX4_begin_11 rfl (lv_at hL.1 1 rfl) ?_
  refine lv_iload_n hx hb dX4_begin_12 rfl (lv_at hL.1 2 rfl) ?_
  obtain ⟨h_7, e8, hf⟩ := p_b hf
  refine p_iast hC hQ hS e8 dX4_begin_13 (fun H locs hQ hS => ?_)
  exact p_rMv hC hr hlocks hQ hS hf dX4_begin_14
-- X4_start
abbrev rX4_start : Room := { frames := 4, cells := 0, slots := 0, locals := 92 }
set_option maxHeartbeats 4000000 in
set_option maxRecDepth 100000 in
theorem kX4_start (l : Launch) (D : va_G) (ad : Nat → Nat) (h : PH) (a0 : Nat)  (r : PH) (hf : fX4_start h a0  = some r) : Met l yX4_start wsX4_start rX4_start (p_pre D ad (p_A ad h) h [.ref (ad a0)]) (p_Mv D ad (p_A ad h) r) 0 0 (p_A ad h) := by
  refine Met.ofW (cc := cX4_start) (maxL := 2) (ret := none) (by decide) rfl ?_
  intro p e s m args below meth c s₁ B hml hv
  obtain ⟨hargs, hK, hQ⟩ := hv
  have hx := B.exec
  have hb := B.bytes
  have hr := B.returns
  have hts := atoms_spec (ws := wsX4_start) B.pre
  have hown : s.vm.findClass RX4 = some m.cls := findClass_of_methodNamed B.named
  have hlocks := B.notSynchronized
  have hC : CallFix p m c cX4_start 2 s args wsX4_start RX4 := ⟨hx, hb, hml, hown, hts⟩
  have hS : va_S (p_A ad h) s.heap s.heap [] := va_S.rf
  have hi4 : ∀ w ∈ u_ws RX4 TX4 22, w ∈ wsX4_start := fun w hw => List.mem_cons_of_mem _ (List.mem_append_right _ hw)
  obtain ⟨ls, hls, hL⟩ := p_start (n := 2) hargs (by simp [p_cat, p_ci, p_cr, p_cn]) (Nat.le_of_ble_eq_true rfl)
  show W p l e rX4_start s m args below meth c s.heap [] 0 0 (MQ below (p_Mv D ad (p_A ad h) r) args s 0 0 (p_A ad h)) (entryFrame m args 2)
  rw [hls]
  clear hls
  have hL : p_L ls 2 [(0, .ref (ad a0))] := hL
  have b90 : ∀ K : PH → Nat → Int32 → Option (PH), (∀ (H : Heap) (locs : List Loc) (ls : Array Slot) (h1 : PH) (a0 : Nat) (x1 : Int32), p_Q D ad (p_A ad h) s h1 H → va_S (p_A ad h) s.heap H locs → p_L ls 2 [(0, .ref (ad a0)), (1, .int x1)] → K h1 a0 x1 = some r → W p l e rX4_start s m args below meth c H locs 0 0 (MQ below (p_Mv D ad (p_A ad h) r) args s 0 0 (p_A ad h)) (F0 m 2 ls [])) → ∀ (H : Heap) (locs : List Loc) (ls : Array Slot) (h1 : PH) (a0 : Nat) (x1 : Int32), p_Q D ad (p_A ad h) s h1 H → va_S (p_A ad h) s.heap H locs → p_L ls 2 [(0, .ref (ad a0)), (1, .int x1)] → fX4_start_90 K h1 a0 x1 = some r → W p l e rX4_start s m args below meth c H locs 0 0 (MQ below (p_Mv D ad (p_A ad h) r) args s 0 0 (p_A ad h)) (F0 m 90 ls []) := by
    intro K ih H locs ls h1 a0 x1 hQ hS hL hf
    rw [fX4_start_90] at hf
    refine p_iinc (v := (x1 + 1)) (lv' := [(1, .int (x1 + 1)), (0, .ref (ad a0))]) hx hb dX4_start_90 hL (k := 1) rfl rfl (by decide) rfl (fun ls hL => ?_)
    refine lv_goto (tgt := 2) hx hb dX4_start_93 (by decide) ?_
    exact ih _ _ _ h1 a0 (x1 + 1) hQ hS (hL.sub [1, 0] rfl) hf
  have b36 : ∀ K : PH → Nat → Int32 → Option (PH), (∀ (H : Heap) (locs : List Loc) (ls : Array Slot) (h1 : PH) (a0 : Nat) (x1 : Int32), p_Q D ad (p_A ad h) s h1 H → va_S (p_A ad h) s.heap H locs → p_L ls 2 [(0, .ref (ad a0)), (1, .int x1)] → K h1 a0 x1 = some r → W p l e rX4_start s m args below meth c H locs 0 0 (MQ below (p_Mv D ad (p_A ad h) r) args s 0 0 (p_A ad h)) (F0 m 2 ls [])) → ∀ (H : Heap) (locs : List Loc) (ls : Array Slot) (h1 : PH) (a0 : Nat) (x1 : Int32), p_Q D ad (p_A ad h) s h1 H → va_S (p_A ad h) s.heap H locs → p_L ls 2 [(0, .ref (ad a0)), (1, .int x1)] → fX4_start_36 K h1 a0 x1 = some r → W p l e rX4_start s m args below meth c H locs 0 0 (MQ below (p_Mv D ad (p_A ad h) r) args s 0 0 (p_A ad h)) (F0 m 36 ls []) := by
    intro K ih H locs ls h1 a0 x1 hQ hS hL hf
    rw [fX4_start_36] at hf
    refine lv_aload_n hx hb dX4_start_36 rfl (lv_at hL.1 0 rfl) ?_
    refine lv_iload_n hx hb dX4_start_37 rfl (lv_at hL.1 1 rfl) ?_
    obtain ⟨u1, e2, hf⟩ := p_b hf
    obtain ⟨h_3, e4, hf⟩ := p_b hf
    refine p_cMv (va_runV (As := [.int x1]) (rest := []) hC (kX4_drop l D ad h1 a0 x1 h_3 e4) (cwV 1 hts gX4_start_X4_drop rfl rfl rfl (by decide +kernel) ⟨Nat.le_of_ble_eq_true rfl, Nat.le_of_ble_eq_true rfl⟩) (p_preV hK hQ.self e2 rfl) rfl rfl hL.1.1 rfl (lv_room (Nat.le_of_ble_eq_true rfl)) dX4_start_38 ⟨Nat.le_of_ble_eq_true rfl, Nat.le_of_ble_eq_true rfl⟩) hQ hS (fun H locs hQ hS => ?_)
    refine lv_goto (tgt := 90) hx hb dX4_start_41 (by decide) ?_
    exact b90 K ih _ _ _ h_3 a0 x1 hQ hS (hL.sub [0, 1] rfl) hf
  have b2 : ∀ n : Nat, ∀ (H : Heap) (locs : List Loc) (ls : Array Slot) (h1 : PH) (a0 : Nat) (x1 : Int32), p_Q D ad (p_A ad h) s h1 H → va_S (p_A ad h) s.heap H locs → p_L ls 2 [(0, .ref (ad a0)), (1, .int x1)] → fX4_start_2 n h1 a0 x1 = some r → W p l e rX4_start s m args below meth c H locs 0 0 (MQ below (p_Mv D ad (p_A ad h) r) args s 0 0 (p_A ad h)) (F0 m 2 ls []) := by
    intro n
    induction n with
    | zero =>
      intro H locs ls h1 a0 x1 hQ hS hL hf
      simp [fX4_start_2] at hf
    | succ n ih =>
      intro H locs ls h1 a0 x1 hQ hS hL hf
      rw [fX4_start_2] at hf
      refine lv_iload_n hx hb dX4_start_2 rfl (lv_at hL.1 1 rfl) ?_
      refine lv_aload_n hx hb dX4_start_3 rfl (lv_at hL.1 0 rfl) ?_
      obtain ⟨v5, e6, hf⟩ := p_b hf
      refine p_getI hC hi4 hK hQ e6 rfl (by decide) (by decide +kernel) dX4_start_4 ?_
      refine lv_icmp_ge (tgt := 96) hx hb dX4_start_7 (by decide) (fun c7 => ?_) (fun c7 => ?_)
      · rw [if_pos c7] at hf
        exact p_rMv hC hr hlocks hQ hS hf dX4_start_96
      · rw [if_neg c7] at hf
        refine lv_aload_n hx hb dX4_start_10 rfl (lv_at hL.1 0 rfl) ?_
        refine lv_iload_n hx hb dX4_start_11 rfl (lv_at hL.1 1 rfl) ?_
        obtain ⟨u8, e9, hf⟩ := p_b hf
        obtain ⟨v10, e11, hf⟩ := p_b hf
        refine p_cRi (va_runV (As := [.int x1]) (rest := []) hC (kX4_placeIn l D ad h1 a0 x1 v10 e11) (cwV 1 hts gX4_start_X4_placeIn rfl rfl rfl (by decide +kernel) ⟨Nat.le_of_ble_eq_true rfl, Nat.le_of_ble_eq_true rfl⟩) (p_preV hK hQ.tt e9 rfl) rfl rfl hL.1.1 rfl (lv_room (Nat.le_of_ble_eq_true rfl)) dX4_start_12 ⟨Nat.le_of_ble_eq_true rfl, Nat.le_of_ble_eq_true rfl⟩) hQ hS (fun H locs hQ hS => ?_)
        refine lv_iconst (v := -1) hx hb dX4_start_15 (by decide) ?_
        refine lv_icmp_eq (tgt := 90) hx hb dX4_start_16 (by decide) (fun c12 => ?_) (fun c12 => ?_)
        · rw [if_pos c12] at hf
          exact b90 (fX4_start_2 n) ih _ _ _ h1 a0 x1 hQ hS (hL.sub [0, 1] rfl) hf
        · rw [if_neg c12] at hf
          refine lv_aload_n hx hb dX4_start_19 rfl (lv_at hL.1 0 rfl) ?_
          obtain ⟨a_13, e14, hf⟩ := p_b hf
          refine p_getR hC hi4 hK hQ e14 rfl (by decide) (by decide +kernel) dX4_start_20 ?_
          refine lv_iload_n hx hb dX4_start_23 rfl (lv_at hL.1 1 rfl) ?_
          obtain ⟨v16, e15, hf⟩ := p_b hf
          refine p_zald hC hQ e15 dX4_start_24 ?_
          refine lv_if_eq (tgt := 36) hx hb dX4_start_25 (by decide) (fun c17 => ?_) (fun c17 => ?_)
          · rw [if_pos c17] at hf
            exact b36 (fX4_start_2 n) ih _ _ _ h1 a0 x1 hQ hS (hL.sub [0, 1] rfl) hf
          · rw [if_neg c17] at hf
            refine lv_aload_n hx hb dX4_start_28 rfl (lv_at hL.1 0 rfl) ?_
            refine lv_iload_n hx hb dX4_start_29 rfl (lv_at hL.1 1 rfl) ?_
            obtain ⟨u18, e19, hf⟩ := p_b hf
            obtain ⟨v20, e21, hf⟩ := p_b hf
            refine p_cRi (va_runV (As := [.int x1]) (rest := []) hC (kX4_isShown l D ad h1 a0 x1 v20 e21) (cwV 1 hts gX4_start_X4_isShown rfl rfl rfl (by decide +kernel) ⟨Nat.le_of_ble_eq_true rfl, Nat.le_of_ble_eq_true rfl⟩) (p_preV hK hQ.tt e19 rfl) rfl rfl hL.1.1 rfl (lv_room (Nat.le_of_ble_eq_true rfl)) dX4_start_30 ⟨Nat.le_of_ble_eq_true rfl, Nat.le_of_ble_eq_true rfl⟩) hQ hS (fun H locs hQ hS => ?_)
            refine lv_if_ne (tgt := 44) hx hb dX4_start_33 (by decide) (fun c22 => ?_) (fun c22 => ?_)
            · rw [if_neg c22] at hf
              refine lv_aload_n hx hb dX4_start_44 rfl (lv_at hL.1 0 rfl) ?_
              obtain ⟨a_23, e24, hf⟩ := p_b hf
              refine p_getR hC hi4 hK hQ e24 rfl (by decide) (by decide +kernel) dX4_start_45 ?_
              refine lv_iload_n hx hb dX4_start_48 rfl (lv_at hL.1 1 rfl) ?_
              obtain ⟨v26, e25, hf⟩ := p_b hf
              refine p_iald hC hQ e25 dX4_start_49 ?_
              refine lv_iconst (v := -1) hx hb dX4_start_50 (by decide) ?_
              refine lv_icmp_ne (tgt := 90) hx hb dX4_start_51 (by decide) (fun c27 => ?_) (fun c27 => ?_)
              · rw [if_neg c27] at hf
                exact b90 (fX4_start_2 n) ih _ _ _ h1 a0 x1 hQ hS (hL.sub [0, 1] rfl) hf
              · rw [if_pos c27] at hf
                refine lv_aload_n hx hb dX4_start_54 rfl (lv_at hL.1 0 rfl) ?_
                obtain ⟨a_28, e29, hf⟩ := p_b hf
                refine p_getR hC hi4 hK hQ e29 rfl (by decide) (by decide +kernel) dX4_start_55 ?_
                refine lv_iload_n hx hb dX4_start_58 rfl (lv_at hL.1 1 rfl) ?_
                obtain ⟨v31, e30, hf⟩ := p_b hf
                refine p_iald hC hQ e30 dX4_start_59 ?_
                refine lv_aload_n hx hb dX4_start_60 rfl (lv_at hL.1 0 rfl) ?_
                obtain ⟨v32, e33, hf⟩ := p_b hf
                refine p_getI hC hi4 hK hQ e33 rfl (by decide) (by decide +kernel) dX4_start_61 ?_
                refine lv_icmp_gt (tgt := 90) hx hb dX4_start_64 (by decide) (fun c34 => ?_) (fun c34 => ?_)
                · rw [if_pos c34] at hf
                  exact b90 (fX4_start_2 n) ih _ _ _ h1 a0 x1 hQ hS (hL.sub [0, 1] rfl) hf
                · rw [if_neg c34] at hf
                  refine lv_aload_n hx hb dX4_start_67 rfl (lv_at hL.1 0 rfl) ?_
                  refine lv_iload_n hx hb dX4_start_68 rfl (lv_at hL.1 1 rfl) ?_
                  refine lv_aload_n hx hb dX4_start_69 rfl (lv_at hL.1 0 rfl) ?_
                  obtain ⟨v35, e36, hf⟩ := p_b hf
                  refine p_getI hC hi4 hK hQ e36 rfl (by decide) (by decide +kernel) dX4_start_70 ?_
                  refine lv_aload_n hx hb dX4_start_73 rfl (lv_at hL.1 0 rfl) ?_
                  obtain ⟨a_37, e38, hf⟩ := p_b hf
                  refine p_getR hC hi4 hK hQ e38 rfl (by decide) (by decide +kernel) dX4_start_74 ?_
                  refine lv_iload_n hx hb dX4_start_77 rfl (lv_at hL.1 1 rfl) ?_
                  obtain ⟨v40, e39, hf⟩ := p_b hf
                  refine p_iald hC hQ e39 dX4_start_78 ?_
                  refine lv_aload_n hx hb dX4_start_79 rfl (lv_at hL.1 0 rfl) ?_
                  obtain ⟨a_41, e42, hf⟩ := p_b hf
                  refine p_getR hC hi4 hK hQ e42 rfl (by decide) (by decide +kernel) dX4_start_80 ?_
                  refine lv_iload_n hx hb dX4_start_83 rfl (lv_at hL.1 1 rfl) ?_
                  obtain ⟨v44, e43, hf⟩ := p_b hf
                  refine p_iald hC hQ e43 dX4_start_84 ?_
                  refine lv_imul hx hb dX4_start_85 ?_
                  refine lv_iadd hx hb dX4_start_86 ?_
                  obtain ⟨u45, e46, hf⟩ := p_b hf
                  obtain ⟨h_47, e48, hf⟩ := p_b hf
                  refine p_cMv (va_runV (As := [.int x1, .int (v35 + (v40 * v44))]) (rest := []) hC (kX4_begin l D ad h1 a0 x1 (v35 + (v40 * v44)) h_47 e48) (cwV 2 hts gX4_start_X4_begin rfl rfl rfl (by decide +kernel) ⟨Nat.le_of_ble_eq_true rfl, Nat.le_of_ble_eq_true rfl⟩) (p_preV hK hQ.self e46 rfl) rfl rfl hL.1.1 rfl (lv_room (Nat.le_of_ble_eq_true rfl)) dX4_start_87 ⟨Nat.le_of_ble_eq_true rfl, Nat.le_of_ble_eq_true rfl⟩) hQ hS (fun H locs hQ hS => ?_)
                  exact b90 (fX4_start_2 n) ih _ _ _ h_47 a0 x1 hQ hS (hL.sub [0, 1] rfl) hf
            · rw [if_pos c22] at hf
              exact b36 (fX4_start_2 n) ih _ _ _ h1 a0 x1 hQ hS (hL.sub [0, 1] rfl) hf
  rw [fX4_start] at hf
  refine lv_iconst (v := 0) hx hb dX4_start_0 (by decide) ?_
  refine p_istore_n (lv' := [(1, .int 0), (0, .ref (ad a0))]) hx hb dX4_start_1 rfl hL (by decide) rfl (fun ls hL => ?_)
  exact b2 64 _ _ _ h a0 0 hQ hS (hL.sub [1, 0] rfl) hf
-- X4_earliest
abbrev rX4_earliest : Room := { frames := 1, cells := 0, slots := 0, locals := 22 }
set_option maxHeartbeats 4000000 in
set_option maxRecDepth 100000 in
theorem kX4_earliest (l : Launch) (D : va_G) (ad : Nat → Nat) (h : PH) (a0 : Nat)  (r : Int32) (hf : fX4_earliest h a0  = some r) : Met l yX4_earliest wsX4_earliest rX4_earliest (p_pre D ad p_tt h [.ref (ad a0)]) (p_Ri r) 0 0 p_no := by
  refine Met.ofW (cc := cX4_earliest) (maxL := 4) (ret := (some .int)) (by decide) rfl ?_
  intro p e s m args below meth c s₁ B hml hv
  obtain ⟨hargs, hK, hQ⟩ := hv
  have hx := B.exec
  have hb := B.bytes
  have hr := B.returns
  have hts := atoms_spec (ws := wsX4_earliest) B.pre
  have hown : s.vm.findClass RX4 = some m.cls := findClass_of_methodNamed B.named
  have hlocks := B.notSynchronized
  have hC : CallFix p m c cX4_earliest 4 s args wsX4_earliest RX4 := ⟨hx, hb, hml, hown, hts⟩
  have hS : va_S p_no s.heap s.heap [] := va_S.rf
  have hi4 : ∀ w ∈ u_ws RX4 TX4 22, w ∈ wsX4_earliest := fun w hw => List.mem_cons_of_mem _ (List.mem_append_right _ hw)
  obtain ⟨ls, hls, hL⟩ := p_start (n := 4) hargs (by simp [p_cat, p_ci, p_cr, p_cn]) (Nat.le_of_ble_eq_true rfl)
  show W p l e rX4_earliest s m args below meth c s.heap [] 0 0 (MQ below (p_Ri r) args s 0 0 p_no) (entryFrame m args 4)
  rw [hls]
  clear hls
  have hL : p_L ls 4 [(0, .ref (ad a0))] := hL
  have b66 : ∀ K : PH → Nat → Int32 → Int32 → Option (Int32), (∀ (H : Heap) (locs : List Loc) (ls : Array Slot) (h1 : PH) (a0 : Nat) (x1 : Int32) (x2 : Int32), p_Q D ad p_tt s h1 H → va_S p_no s.heap H locs → p_L ls 4 [(0, .ref (ad a0)), (1, .int x1), (2, .int x2)] → K h1 a0 x1 x2 = some r → W p l e rX4_earliest s m args below meth c H locs 0 0 (MQ below (p_Ri r) args s 0 0 p_no) (F0 m 4 ls [])) → ∀ (H : Heap) (locs : List Loc) (ls : Array Slot) (h1 : PH) (a0 : Nat) (x2 : Int32) (sx0 : Int32), p_Q D ad p_tt s h1 H → va_S p_no s.heap H locs → p_L ls 4 [(0, .ref (ad a0)), (2, .int x2)] → fX4_earliest_66 K h1 a0 x2 sx0 = some r → W p l e rX4_earliest s m args below meth c H locs 0 0 (MQ below (p_Ri r) args s 0 0 p_no) (F0 m 66 ls [.int sx0]) := by
    intro K ih H locs ls h1 a0 x2 sx0 hQ hS hL hf
    rw [fX4_earliest_66] at hf
    refine p_istore_n (lv' := [(1, .int sx0), (0, .ref (ad a0)), (2, .int x2)]) hx hb dX4_earliest_66 rfl hL (by decide) rfl (fun ls hL => ?_)
    refine p_iinc (v := (x2 + 1)) (lv' := [(2, .int (x2 + 1)), (1, .int sx0), (0, .ref (ad a0))]) hx hb dX4_earliest_67 hL (k := 2) rfl rfl (by decide) rfl (fun ls hL => ?_)
    refine lv_goto (tgt := 4) hx hb dX4_earliest_70 (by decide) ?_
    exact ih _ _ _ h1 a0 sx0 (x2 + 1) hQ hS (hL.sub [2, 1, 0] rfl) hf
  have b65 : ∀ K : PH → Nat → Int32 → Int32 → Option (Int32), (∀ (H : Heap) (locs : List Loc) (ls : Array Slot) (h1 : PH) (a0 : Nat) (x1 : Int32) (x2 : Int32), p_Q D ad p_tt s h1 H → va_S p_no s.heap H locs → p_L ls 4 [(0, .ref (ad a0)), (1, .int x1), (2, .int x2)] → K h1 a0 x1 x2 = some r → W p l e rX4_earliest s m args below meth c H locs 0 0 (MQ below (p_Ri r) args s 0 0 p_no) (F0 m 4 ls [])) → ∀ (H : Heap) (locs : List Loc) (ls : Array Slot) (h1 : PH) (a0 : Nat) (x1 : Int32) (x2 : Int32), p_Q D ad p_tt s h1 H → va_S p_no s.heap H locs → p_L ls 4 [(0, .ref (ad a0)), (1, .int x1), (2, .int x2)] → fX4_earliest_65 K h1 a0 x1 x2 = some r → W p l e rX4_earliest s m args below meth c H locs 0 0 (MQ below (p_Ri r) args s 0 0 p_no) (F0 m 65 ls []) := by
    intro K ih H locs ls h1 a0 x1 x2 hQ hS hL hf
    rw [fX4_earliest_65] at hf
    refine lv_iload_n hx hb dX4_earliest_65 rfl (lv_at hL.1 1 rfl) ?_
    exact b66 K ih _ _ _ h1 a0 x2 x1 hQ hS (hL.sub [0, 2] rfl) hf
  have b61 : ∀ K : PH → Nat → Int32 → Int32 → Option (Int32), (∀ (H : Heap) (locs : List Loc) (ls : Array Slot) (h1 : PH) (a0 : Nat) (x1 : Int32) (x2 : Int32), p_Q D ad p_tt s h1 H → va_S p_no s.heap H locs → p_L ls 4 [(0, .ref (ad a0)), (1, .int x1), (2, .int x2)] → K h1 a0 x1 x2 = some r → W p l e rX4_earliest s m args below meth c H locs 0 0 (MQ below (p_Ri r) args s 0 0 p_no) (F0 m 4 ls [])) → ∀ (H : Heap) (locs : List Loc) (ls : Array Slot) (h1 : PH) (a0 : Nat) (x2 : Int32), p_Q D ad p_tt s h1 H → va_S p_no s.heap H locs → p_L ls 4 [(0, .ref (ad a0)), (2, .int x2)] → fX4_earliest_61 K h1 a0 x2 = some r → W p l e rX4_earliest s m args below meth c H locs 0 0 (MQ below (p_Ri r) args s 0 0 p_no) (F0 m 61 ls []) := by
    intro K ih H locs ls h1 a0 x2 hQ hS hL hf
    rw [fX4_earliest_61] at hf
    refine lv_iload_n hx hb dX4_earliest_61 rfl (lv_at hL.1 1 rfl) ?_
    refine lv_goto (tgt := 66) hx hb dX4_earliest_62 (by decide) ?_
    exact b66 K ih _ _ _ h1 a0 x2 x2 hQ hS (hL.sub [0, 1] rfl) hf
  have b36 : ∀ K : PH → Nat → Int32 → Int32 → Option (Int32), (∀ (H : Heap) (locs : List Loc) (ls : Array Slot) (h1 : PH) (a0 : Nat) (x1 : Int32) (x2 : Int32), p_Q D ad p_tt s h1 H → va_S p_no s.heap H locs → p_L ls 4 [(0, .ref (ad a0)), (1, .int x1), (2, .int x2)] → K h1 a0 x1 x2 = some r → W p l e rX4_earliest s m args below meth c H locs 0 0 (MQ below (p_Ri r) args s 0 0 p_no) (F0 m 4 ls [])) → ∀ (H : Heap) (locs : List Loc) (ls : Array Slot) (h1 : PH) (a0 : Nat) (x1 : Int32) (x2 : Int32) (sx0 : Int32), p_Q D ad p_tt s h1 H → va_S p_no s.heap H locs → p_L ls 4 [(0, .ref (ad a0)), (1, .int x1), (2, .int x2)] → fX4_earliest_36 K h1 a0 x1 x2 sx0 = some r → W p l e rX4_earliest s m args below meth c H locs 0 0 (MQ below (p_Ri r) args s 0 0 p_no) (F0 m 36 ls [.int sx0]) := by
    intro K ih H locs ls h1 a0 x1 x2 sx0 hQ hS hL hf
    rw [fX4_earliest_36] at hf
    refine p_istore_n (lv' := [(3, .int sx0), (0, .ref (ad a0)), (1, .int x1), (2, .int x2)]) hx hb dX4_earliest_36 rfl hL (by decide) rfl (fun ls hL => ?_)
    refine lv_iload_n hx hb dX4_earliest_37 rfl (lv_at hL.1 0 rfl) ?_
    refine lv_if_eq (tgt := 65) hx hb dX4_earliest_38 (by decide) (fun c1 => ?_) (fun c1 => ?_)
    · rw [if_pos c1] at hf
      exact b65 K ih _ _ _ h1 a0 x1 x2 hQ hS (hL.sub [1, 2, 3] rfl) hf
    · rw [if_neg c1] at hf
      refine lv_iload_n hx hb dX4_earliest_41 rfl (lv_at hL.1 2 rfl) ?_
      refine lv_iconst (v := -1) hx hb dX4_earliest_42 (by decide) ?_
      refine lv_icmp_eq (tgt := 61) hx hb dX4_earliest_43 (by decide) (fun c2 => ?_) (fun c2 => ?_)
      · rw [if_pos c2] at hf
        exact b61 K ih _ _ _ h1 a0 x2 hQ hS (hL.sub [1, 3] rfl) hf
      · rw [if_neg c2] at hf
        refine lv_aload_n hx hb dX4_earliest_46 rfl (lv_at hL.1 1 rfl) ?_
        obtain ⟨a_3, e4, hf⟩ := p_b hf
        refine p_getR hC hi4 hK hQ e4 rfl (by decide) (by decide +kernel) dX4_earliest_47 ?_
        refine lv_iload_n hx hb dX4_earliest_50 rfl (lv_at hL.1 3 rfl) ?_
        obtain ⟨v6, e5, hf⟩ := p_b hf
        refine p_iald hC hQ e5 dX4_earliest_51 ?_
        refine lv_aload_n hx hb dX4_earliest_52 rfl (lv_at hL.1 1 rfl) ?_
        obtain ⟨a_7, e8, hf⟩ := p_b hf
        refine p_getR hC hi4 hK hQ e8 rfl (by decide) (by decide +kernel) dX4_earliest_53 ?_
        refine lv_iload_n hx hb dX4_earliest_56 rfl (lv_at hL.1 2 rfl) ?_
        obtain ⟨v10, e9, hf⟩ := p_b hf
        refine p_iald hC hQ e9 dX4_earliest_57 ?_
        refine lv_icmp_ge (tgt := 65) hx hb dX4_earliest_58 (by decide) (fun c11 => ?_) (fun c11 => ?_)
        · rw [if_pos c11] at hf
          exact b65 K ih _ _ _ h1 a0 x1 x2 hQ hS (hL.sub [1, 2, 3] rfl) hf
        · rw [if_neg c11] at hf
          exact b61 K ih _ _ _ h1 a0 x2 hQ hS (hL.sub [1, 3] rfl) hf
  have b35 : ∀ K : PH → Nat → Int32 → Int32 → Option (Int32), (∀ (H : Heap) (locs : List Loc) (ls : Array Slot) (h1 : PH) (a0 : Nat) (x1 : Int32) (x2 : Int32), p_Q D ad p_tt s h1 H → va_S p_no s.heap H locs → p_L ls 4 [(0, .ref (ad a0)), (1, .int x1), (2, .int x2)] → K h1 a0 x1 x2 = some r → W p l e rX4_earliest s m args below meth c H locs 0 0 (MQ below (p_Ri r) args s 0 0 p_no) (F0 m 4 ls [])) → ∀ (H : Heap) (locs : List Loc) (ls : Array Slot) (h1 : PH) (a0 : Nat) (x1 : Int32) (x2 : Int32), p_Q D ad p_tt s h1 H → va_S p_no s.heap H locs → p_L ls 4 [(0, .ref (ad a0)), (1, .int x1), (2, .int x2)] → fX4_earliest_35 K h1 a0 x1 x2 = some r → W p l e rX4_earliest s m args below meth c H locs 0 0 (MQ below (p_Ri r) args s 0 0 p_no) (F0 m 35 ls []) := by
    intro K ih H locs ls h1 a0 x1 x2 hQ hS hL hf
    rw [fX4_earliest_35] at hf
    refine lv_iconst (v := 0) hx hb dX4_earliest_35 (by decide) ?_
    exact b36 K ih _ _ _ h1 a0 x1 x2 0 hQ hS (hL.sub [0, 1, 2] rfl) hf
  have b4 : ∀ n : Nat, ∀ (H : Heap) (locs : List Loc) (ls : Array Slot) (h1 : PH) (a0 : Nat) (x1 : Int32) (x2 : Int32), p_Q D ad p_tt s h1 H → va_S p_no s.heap H locs → p_L ls 4 [(0, .ref (ad a0)), (1, .int x1), (2, .int x2)] → fX4_earliest_4 n h1 a0 x1 x2 = some r → W p l e rX4_earliest s m args below meth c H locs 0 0 (MQ below (p_Ri r) args s 0 0 p_no) (F0 m 4 ls []) := by
    intro n
    induction n with
    | zero =>
      intro H locs ls h1 a0 x1 x2 hQ hS hL hf
      simp [fX4_earliest_4] at hf
    | succ n ih =>
      intro H locs ls h1 a0 x1 x2 hQ hS hL hf
      rw [fX4_earliest_4] at hf
      refine lv_iload_n hx hb dX4_earliest_4 rfl (lv_at hL.1 2 rfl) ?_
      refine lv_aload_n hx hb dX4_earliest_5 rfl (lv_at hL.1 0 rfl) ?_
      obtain ⟨v12, e13, hf⟩ := p_b hf
      refine p_getI hC hi4 hK hQ e13 rfl (by decide) (by decide +kernel) dX4_earliest_6 ?_
      refine lv_icmp_ge (tgt := 73) hx hb dX4_earliest_9 (by decide) (fun c14 => ?_) (fun c14 => ?_)
      · rw [if_pos c14] at hf
        refine lv_iload_n hx hb dX4_earliest_73 rfl (lv_at hL.1 1 rfl) ?_
        exact p_rRi hC hr hlocks hS hf dX4_earliest_74
      · rw [if_neg c14] at hf
        refine lv_aload_n hx hb dX4_earliest_12 rfl (lv_at hL.1 0 rfl) ?_
        refine lv_iload_n hx hb dX4_earliest_13 rfl (lv_at hL.1 2 rfl) ?_
        obtain ⟨u15, e16, hf⟩ := p_b hf
        obtain ⟨v17, e18, hf⟩ := p_b hf
        refine p_cRi (va_runV (As := [.int x2]) (rest := []) hC (kX4_placeIn l D ad h1 a0 x2 v17 e18) (cwV 1 hts gX4_earliest_X4_placeIn rfl rfl rfl (by decide +kernel) ⟨Nat.le_of_ble_eq_true rfl, Nat.le_of_ble_eq_true rfl⟩) (p_preV hK hQ.tt e16 rfl) rfl rfl hL.1.1 rfl (lv_room (Nat.le_of_ble_eq_true rfl)) dX4_earliest_14 ⟨Nat.le_of_ble_eq_true rfl, Nat.le_of_ble_eq_true rfl⟩) hQ hS (fun H locs hQ hS => ?_)
        refine lv_iconst (v := -1) hx hb dX4_earliest_17 (by decide) ?_
        refine lv_icmp_eq (tgt := 35) hx hb dX4_earliest_18 (by decide) (fun c19 => ?_) (fun c19 => ?_)
        · rw [if_pos c19] at hf
          exact b35 (fX4_earliest_4 n) ih _ _ _ h1 a0 x1 x2 hQ hS (hL.sub [0, 1, 2] rfl) hf
        · rw [if_neg c19] at hf
          refine lv_aload_n hx hb dX4_earliest_21 rfl (lv_at hL.1 0 rfl) ?_
          obtain ⟨a_20, e21, hf⟩ := p_b hf
          refine p_getR hC hi4 hK hQ e21 rfl (by decide) (by decide +kernel) dX4_earliest_22 ?_
          refine lv_iload_n hx hb dX4_earliest_25 rfl (lv_at hL.1 2 rfl) ?_
          obtain ⟨v23, e22, hf⟩ := p_b hf
          refine p_iald hC hQ e22 dX4_earliest_26 ?_
          refine lv_iconst (v := -1) hx hb dX4_earliest_27 (by decide) ?_
          refine lv_icmp_eq (tgt := 35) hx hb dX4_earliest_28 (by decide) (fun c24 => ?_) (fun c24 => ?_)
          · rw [if_pos c24] at hf
            exact b35 (fX4_earliest_4 n) ih _ _ _ h1 a0 x1 x2 hQ hS (hL.sub [0, 1, 2] rfl) hf
          · rw [if_neg c24] at hf
            refine lv_iconst (v := 1) hx hb dX4_earliest_31 (by decide) ?_
            refine lv_goto (tgt := 36) hx hb dX4_earliest_32 (by decide) ?_
            exact b36 (fX4_earliest_4 n) ih _ _ _ h1 a0 x1 x2 1 hQ hS (hL.sub [0, 1, 2] rfl) hf
  rw [fX4_earliest] at hf
  refine lv_iconst (v := -1) hx hb dX4_earliest_0 (by decide) ?_
  refine p_istore_n (lv' := [(1, .int (-1)), (0, .ref (ad a0))]) hx hb dX4_earliest_1 rfl hL (by decide) rfl (fun ls hL => ?_)
  refine lv_iconst (v := 0) hx hb dX4_earliest_2 (by decide) ?_
  refine p_istore_n (lv' := [(2, .int 0), (1, .int (-1)), (0, .ref (ad a0))]) hx hb dX4_earliest_3 rfl hL (by decide) rfl (fun ls hL => ?_)
  exact b4 64 _ _ _ h a0 (-1) 0 hQ hS (hL.sub [2, 1, 0] rfl) hf
-- X4_finish
abbrev rX4_finish : Room := { frames := 0, cells := 0, slots := 0, locals := 0 }
set_option maxHeartbeats 4000000 in
set_option maxRecDepth 100000 in
theorem kX4_finish (l : Launch) (D : va_G) (ad : Nat → Nat) (h : PH) (a0 : Nat) (x1 : Int32)  (r : PH) (hf : fX4_finish h a0 x1  = some r) : Met l yX4_finish wsX4_finish rX4_finish (p_pre D ad (p_A ad h) h [.ref (ad a0), .int x1]) (p_Mv D ad (p_A ad h) r) 0 0 (p_A ad h) := by
  refine Met.ofW (cc := cX4_finish) (maxL := 2) (ret := none) (by decide) rfl ?_
  intro p e s m args below meth c s₁ B hml hv
  obtain ⟨hargs, hK, hQ⟩ := hv
  have hx := B.exec
  have hb := B.bytes
  have hr := B.returns
  have hts := atoms_spec (ws := wsX4_finish) B.pre
  have hown : s.vm.findClass RX4 = some m.cls := findClass_of_methodNamed B.named
  have hlocks := B.notSynchronized
  have hC : CallFix p m c cX4_finish 2 s args wsX4_finish RX4 := ⟨hx, hb, hml, hown, hts⟩
  have hS : va_S (p_A ad h) s.heap s.heap [] := va_S.rf
  have hi4 : ∀ w ∈ u_ws RX4 TX4 22, w ∈ wsX4_finish := fun w hw => List.mem_cons_of_mem _ (List.mem_append_right _ hw)
  obtain ⟨ls, hls, hL⟩ := p_start (n := 2) hargs (by simp [p_cat, p_ci, p_cr, p_cn]) (Nat.le_of_ble_eq_true rfl)
  show W p l e rX4_finish s m args below meth c s.heap [] 0 0 (MQ below (p_Mv D ad (p_A ad h) r) args s 0 0 (p_A ad h)) (entryFrame m args 2)
  rw [hls]
  clear hls
  have hL : p_L ls 2 [(0, .ref (ad a0)), (1, .int x1)] := hL
  have b105 : ∀ (H : Heap) (locs : List Loc) (ls : Array Slot) (h1 : PH) , p_Q D ad (p_A ad h) s h1 H → va_S (p_A ad h) s.heap H locs → p_L ls 2 [] → fX4_finish_105 h1  = some r → W p l e rX4_finish s m args below meth c H locs 0 0 (MQ below (p_Mv D ad (p_A ad h) r) args s 0 0 (p_A ad h)) (F0 m 105 ls []) := by
    intro H locs ls h1  hQ hS hL hf
    rw [fX4_finish_105] at hf
    exact p_rMv hC hr hlocks hQ hS hf dX4_finish_105
  have b97 : ∀ (H : Heap) (locs : List Loc) (ls : Array Slot) (h1 : PH) (a0 : Nat) (x1 : Int32) (sx0 : Int32) (sx1 : Int32) (sa2 : Nat), p_Q D ad (p_A ad h) s h1 H → va_S (p_A ad h) s.heap H locs → p_L ls 2 [(0, .ref (ad a0)), (1, .int x1)] → fX4_finish_97 h1 a0 x1 sx0 sx1 sa2 = some r → W p l e rX4_finish s m args below meth c H locs 0 0 (MQ below (p_Mv D ad (p_A ad h) r) args s 0 0 (p_A ad h)) (F0 m 97 ls [.int sx0, .int sx1, .ref (ad sa2)]) := by
    intro H locs ls h1 a0 x1 sx0 sx1 sa2 hQ hS hL hf
    rw [fX4_finish_97] at hf
    obtain ⟨h_1, e2, hf⟩ := p_b hf
    refine p_iast hC hQ hS e2 dX4_finish_97 (fun H locs hQ hS => ?_)
    refine lv_aload_n hx hb dX4_finish_98 rfl (lv_at hL.1 0 rfl) ?_
    obtain ⟨a_3, e4, hf⟩ := p_b hf
    refine p_getR hC hi4 hK hQ e4 rfl (by decide) (by decide +kernel) dX4_finish_99 ?_
    refine lv_iload_n hx hb dX4_finish_102 rfl (lv_at hL.1 1 rfl) ?_
    refine lv_iconst (v := 0) hx hb dX4_finish_103 (by decide) ?_
    obtain ⟨h_5, e6, hf⟩ := p_b hf
    refine p_iast hC hQ hS e6 dX4_finish_104 (fun H locs hQ hS => ?_)
    exact b105 _ _ _ h_5  hQ hS (hL.sub [] rfl) hf
  have b52 : ∀ (H : Heap) (locs : List Loc) (ls : Array Slot) (h1 : PH) (a0 : Nat) (x1 : Int32) (sx0 : Int32) (sx1 : Int32) (sa2 : Nat), p_Q D ad (p_A ad h) s h1 H → va_S (p_A ad h) s.heap H locs → p_L ls 2 [(0, .ref (ad a0)), (1, .int x1)] → fX4_finish_52 h1 a0 x1 sx0 sx1 sa2 = some r → W p l e rX4_finish s m args below meth c H locs 0 0 (MQ below (p_Mv D ad (p_A ad h) r) args s 0 0 (p_A ad h)) (F0 m 52 ls [.int sx0, .int sx1, .ref (ad sa2)]) := by
    intro H locs ls h1 a0 x1 sx0 sx1 sa2 hQ hS hL hf
    rw [fX4_finish_52] at hf
    obtain ⟨h_7, e8, hf⟩ := p_b hf
    refine p_iast hC hQ hS e8 dX4_finish_52 (fun H locs hQ hS => ?_)
    refine lv_aload_n hx hb dX4_finish_53 rfl (lv_at hL.1 0 rfl) ?_
    obtain ⟨a_9, e10, hf⟩ := p_b hf
    refine p_getR hC hi4 hK hQ e10 rfl (by decide) (by decide +kernel) dX4_finish_54 ?_
    refine lv_iload_n hx hb dX4_finish_57 rfl (lv_at hL.1 1 rfl) ?_
    refine lv_iconst (v := -1) hx hb dX4_finish_58 (by decide) ?_
    obtain ⟨h_11, e12, hf⟩ := p_b hf
    refine p_iast hC hQ hS e12 dX4_finish_59 (fun H locs hQ hS => ?_)
    refine lv_aload_n hx hb dX4_finish_60 rfl (lv_at hL.1 0 rfl) ?_
    obtain ⟨a_13, e14, hf⟩ := p_b hf
    refine p_getR hC hi4 hK hQ e14 rfl (by decide) (by decide +kernel) dX4_finish_61 ?_
    refine lv_iload_n hx hb dX4_finish_64 rfl (lv_at hL.1 1 rfl) ?_
    obtain ⟨v16, e15, hf⟩ := p_b hf
    refine p_iald hC hQ e15 dX4_finish_65 ?_
    refine lv_iconst (v := 3) hx hb dX4_finish_66 (by decide) ?_
    refine lv_icmp_ne (tgt := 105) hx hb dX4_finish_67 (by decide) (fun c17 => ?_) (fun c17 => ?_)
    · rw [if_neg c17] at hf
      exact b105 _ _ _ h_11  hQ hS (hL.sub [] rfl) hf
    · rw [if_pos c17] at hf
      refine lv_aload_n hx hb dX4_finish_70 rfl (lv_at hL.1 0 rfl) ?_
      obtain ⟨a_18, e19, hf⟩ := p_b hf
      refine p_getR hC hi4 hK hQ e19 rfl (by decide) (by decide +kernel) dX4_finish_71 ?_
      refine lv_iload_n hx hb dX4_finish_74 rfl (lv_at hL.1 1 rfl) ?_
      refine lv_aload_n hx hb dX4_finish_75 rfl (lv_at hL.1 0 rfl) ?_
      obtain ⟨a_20, e21, hf⟩ := p_b hf
      refine p_getR hC hi4 hK hQ e21 rfl (by decide) (by decide +kernel) dX4_finish_76 ?_
      refine lv_iload_n hx hb dX4_finish_79 rfl (lv_at hL.1 1 rfl) ?_
      obtain ⟨v23, e22, hf⟩ := p_b hf
      refine p_iald hC hQ e22 dX4_finish_80 ?_
      refine lv_iconst (v := 1) hx hb dX4_finish_81 (by decide) ?_
      refine lv_icmp_le (tgt := 96) hx hb dX4_finish_82 (by decide) (fun c24 => ?_) (fun c24 => ?_)
      · rw [if_pos c24] at hf
        refine lv_iconst (v := 1) hx hb dX4_finish_96 (by decide) ?_
        exact b97 _ _ _ h_11 a0 x1 1 x1 a_18 hQ hS (hL.sub [0, 1] rfl) hf
      · rw [if_neg c24] at hf
        refine lv_aload_n hx hb dX4_finish_85 rfl (lv_at hL.1 0 rfl) ?_
        obtain ⟨a_25, e26, hf⟩ := p_b hf
        refine p_getR hC hi4 hK hQ e26 rfl (by decide) (by decide +kernel) dX4_finish_86 ?_
        refine lv_iload_n hx hb dX4_finish_89 rfl (lv_at hL.1 1 rfl) ?_
        obtain ⟨v28, e27, hf⟩ := p_b hf
        refine p_iald hC hQ e27 dX4_finish_90 ?_
        refine lv_iconst (v := 2) hx hb dX4_finish_91 (by decide) ?_
        refine lv_idiv hx hb dX4_finish_92 (by decide) ?_
        refine lv_goto (tgt := 97) hx hb dX4_finish_93 (by decide) ?_
        exact b97 _ _ _ h_11 a0 x1 (v28 / 2) x1 a_18 hQ hS (hL.sub [0, 1] rfl) hf
  rw [fX4_finish] at hf
  refine lv_aload_n hx hb dX4_finish_0 rfl (lv_at hL.1 0 rfl) ?_
  obtain ⟨a_29, e30, hf⟩ := p_b hf
  refine p_getR hC hi4 hK hQ e30 rfl (by decide) (by decide +kernel) dX4_finish_1 ?_
  refine lv_iload_n hx hb dX4_finish_4 rfl (lv_at hL.1 1 rfl) ?_
  refine lv_dup2_11 hx hb dX4_finish_5 rfl rfl ?_
  obtain ⟨v32, e31, hf⟩ := p_b hf
  refine p_iald hC hQ e31 dX4_finish_6 ?_
  refine lv_iconst (v := 1) hx hb dX4_finish_7 (by decide) ?_
  refine lv_iadd hx hb dX4_finish_8 ?_
  obtain ⟨h_33, e34, hf⟩ := p_b hf
  refine p_iast hC hQ hS e34 dX4_finish_9 (fun H locs hQ hS => ?_)
  refine lv_aload_n hx hb dX4_finish_10 rfl (lv_at hL.1 0 rfl) ?_
  obtain ⟨a_35, e36, hf⟩ := p_b hf
  refine p_getR hC hi4 hK hQ e36 rfl (by decide) (by decide +kernel) dX4_finish_11 ?_
  refine lv_iload_n hx hb dX4_finish_14 rfl (lv_at hL.1 1 rfl) ?_
  refine lv_aload_n hx hb dX4_finish_15 rfl (lv_at hL.1 0 rfl) ?_
  obtain ⟨a_37, e38, hf⟩ := p_b hf
  refine p_getR hC hi4 hK hQ e38 rfl (by decide) (by decide +kernel) dX4_finish_16 ?_
  refine lv_iload_n hx hb dX4_finish_19 rfl (lv_at hL.1 1 rfl) ?_
  obtain ⟨v40, e39, hf⟩ := p_b hf
  refine p_iald hC hQ e39 dX4_finish_20 ?_
  obtain ⟨h_41, e42, hf⟩ := p_b hf
  refine p_iast hC hQ hS e42 dX4_finish_21 (fun H locs hQ hS => ?_)
  refine lv_aload_n hx hb dX4_finish_22 rfl (lv_at hL.1 0 rfl) ?_
  obtain ⟨a_43, e44, hf⟩ := p_b hf
  refine p_getR hC hi4 hK hQ e44 rfl (by decide) (by decide +kernel) dX4_finish_23 ?_
  refine lv_iload_n hx hb dX4_finish_26 rfl (lv_at hL.1 1 rfl) ?_
  refine lv_aload_n hx hb dX4_finish_27 rfl (lv_at hL.1 0 rfl) ?_
  obtain ⟨a_45, e46, hf⟩ := p_b hf
  refine p_getR hC hi4 hK hQ e46 rfl (by decide) (by decide +kernel) dX4_finish_28 ?_
  refine lv_iload_n hx hb dX4_finish_31 rfl (lv_at hL.1 1 rfl) ?_
  obtain ⟨v48, e47, hf⟩ := p_b hf
  refine p_iald hC hQ e47 dX4_finish_32 ?_
  refine lv_aload_n hx hb dX4_finish_33 rfl (lv_at hL.1 0 rfl) ?_
  obtain ⟨v49, e50, hf⟩ := p_b hf
  refine p_getI hC hi4 hK hQ e50 rfl (by decide) (by decide +kernel) dX4_finish_34 ?_
  refine lv_icmp_lt (tgt := 51) hx hb dX4_finish_37 (by decide) (fun c51 => ?_) (fun c51 => ?_)
  · rw [if_pos c51] at hf
    refine lv_iconst (v := 0) hx hb dX4_finish_51 (by decide) ?_
    exact b52 _ _ _ h_41 a0 x1 0 x1 a_43 hQ hS (hL.sub [0, 1] rfl) hf
  · rw [if_neg c51] at hf
    refine lv_aload_n hx hb dX4_finish_40 rfl (lv_at hL.1 0 rfl) ?_
    obtain ⟨a_52, e53, hf⟩ := p_b hf
    refine p_getR hC hi4 hK hQ e53 rfl (by decide) (by decide +kernel) dX4_finish_41 ?_
    refine lv_iload_n hx hb dX4_finish_44 rfl (lv_at hL.1 1 rfl) ?_
    obtain ⟨v55, e54, hf⟩ := p_b hf
    refine p_iald hC hQ e54 dX4_finish_45 ?_
    refine lv_iconst (v := 1) hx hb dX4_finish_46 (by decide) ?_
    refine lv_iadd hx hb dX4_finish_47 ?_
    refine lv_goto (tgt := 52) hx hb dX4_finish_48 (by decide) ?_
    exact b52 _ _ _ h_41 a0 x1 (v55 + 1) x1 a_43 hQ hS (hL.sub [0, 1] rfl) hf
-- X4_miss
abbrev rX4_miss : Room := { frames := 0, cells := 0, slots := 0, locals := 0 }
set_option maxHeartbeats 4000000 in
set_option maxRecDepth 100000 in
theorem kX4_miss (l : Launch) (D : va_G) (ad : Nat → Nat) (h : PH) (a0 : Nat) (x1 : Int32)  (r : PH) (hf : fX4_miss h a0 x1  = some r) : Met l yX4_miss wsX4_miss rX4_miss (p_pre D ad (p_A ad h) h [.ref (ad a0), .int x1]) (p_Mv D ad (p_A ad h) r) 0 0 (p_A ad h) := by
  refine Met.ofW (cc := cX4_miss) (maxL := 2) (ret := none) (by decide) rfl ?_
  intro p e s m args below meth c s₁ B hml hv
  obtain ⟨hargs, hK, hQ⟩ := hv
  have hx := B.exec
  have hb := B.bytes
  have hr := B.returns
  have hts := atoms_spec (ws := wsX4_miss) B.pre
  have hown : s.vm.findClass RX4 = some m.cls := findClass_of_methodNamed B.named
  have hlocks := B.notSynchronized
  have hC : CallFix p m c cX4_miss 2 s args wsX4_miss RX4 := ⟨hx, hb, hml, hown, hts⟩
  have hS : va_S (p_A ad h) s.heap s.heap [] := va_S.rf
  have hi4 : ∀ w ∈ u_ws RX4 TX4 22, w ∈ wsX4_miss := fun w hw => List.mem_cons_of_mem _ (List.mem_append_right _ hw)
  obtain ⟨ls, hls, hL⟩ := p_start (n := 2) hargs (by simp [p_cat, p_ci, p_cr, p_cn]) (Nat.le_of_ble_eq_true rfl)
  show W p l e rX4_miss s m args below meth c s.heap [] 0 0 (MQ below (p_Mv D ad (p_A ad h) r) args s 0 0 (p_A ad h)) (entryFrame m args 2)
  rw [hls]
  clear hls
  have hL : p_L ls 2 [(0, .ref (ad a0)), (1, .int x1)] := hL
  have b70 : ∀ (H : Heap) (locs : List Loc) (ls : Array Slot) (h1 : PH) (sx0 : Int32) (sx1 : Int32) (sa2 : Nat), p_Q D ad (p_A ad h) s h1 H → va_S (p_A ad h) s.heap H locs → p_L ls 2 [] → fX4_miss_70 h1 sx0 sx1 sa2 = some r → W p l e rX4_miss s m args below meth c H locs 0 0 (MQ below (p_Mv D ad (p_A ad h) r) args s 0 0 (p_A ad h)) (F0 m 70 ls [.int sx0, .int sx1, .ref (ad sa2)]) := by
    intro H locs ls h1 sx0 sx1 sa2 hQ hS hL hf
    rw [fX4_miss_70] at hf
    obtain ⟨h_1, e2, hf⟩ := p_b hf
    refine p_iast hC hQ hS e2 dX4_miss_70 (fun H locs hQ hS => ?_)
    exact p_rMv hC hr hlocks hQ hS hf dX4_miss_71
  rw [fX4_miss] at hf
  refine lv_aload_n hx hb dX4_miss_0 rfl (lv_at hL.1 0 rfl) ?_
  obtain ⟨a_3, e4, hf⟩ := p_b hf
  refine p_getR hC hi4 hK hQ e4 rfl (by decide) (by decide +kernel) dX4_miss_1 ?_
  refine lv_iload_n hx hb dX4_miss_4 rfl (lv_at hL.1 1 rfl) ?_
  refine lv_dup2_11 hx hb dX4_miss_5 rfl rfl ?_
  obtain ⟨v6, e5, hf⟩ := p_b hf
  refine p_iald hC hQ e5 dX4_miss_6 ?_
  refine lv_iconst (v := 1) hx hb dX4_miss_7 (by decide) ?_
  refine lv_iadd hx hb dX4_miss_8 ?_
  obtain ⟨h_7, e8, hf⟩ := p_b hf
  refine p_iast hC hQ hS e8 dX4_miss_9 (fun H locs hQ hS => ?_)
  refine lv_aload_n hx hb dX4_miss_10 rfl (lv_at hL.1 0 rfl) ?_
  obtain ⟨a_9, e10, hf⟩ := p_b hf
  refine p_getR hC hi4 hK hQ e10 rfl (by decide) (by decide +kernel) dX4_miss_11 ?_
  refine lv_iload_n hx hb dX4_miss_14 rfl (lv_at hL.1 1 rfl) ?_
  refine lv_iconst (v := 0) hx hb dX4_miss_15 (by decide) ?_
  obtain ⟨h_11, e12, hf⟩ := p_b hf
  refine p_iast hC hQ hS e12 dX4_miss_16 (fun H locs hQ hS => ?_)
  refine lv_aload_n hx hb dX4_miss_17 rfl (lv_at hL.1 0 rfl) ?_
  obtain ⟨a_13, e14, hf⟩ := p_b hf
  refine p_getR hC hi4 hK hQ e14 rfl (by decide) (by decide +kernel) dX4_miss_18 ?_
  refine lv_iload_n hx hb dX4_miss_21 rfl (lv_at hL.1 1 rfl) ?_
  refine lv_dup2_11 hx hb dX4_miss_22 rfl rfl ?_
  obtain ⟨v16, e15, hf⟩ := p_b hf
  refine p_iald hC hQ e15 dX4_miss_23 ?_
  refine lv_aload_n hx hb dX4_miss_24 rfl (lv_at hL.1 0 rfl) ?_
  obtain ⟨a_17, e18, hf⟩ := p_b hf
  refine p_getR hC hi4 hK hQ e18 rfl (by decide) (by decide +kernel) dX4_miss_25 ?_
  refine lv_iload_n hx hb dX4_miss_28 rfl (lv_at hL.1 1 rfl) ?_
  obtain ⟨v20, e19, hf⟩ := p_b hf
  refine p_iald hC hQ e19 dX4_miss_29 ?_
  refine lv_aload_n hx hb dX4_miss_30 rfl (lv_at hL.1 0 rfl) ?_
  obtain ⟨a_21, e22, hf⟩ := p_b hf
  refine p_getR hC hi4 hK hQ e22 rfl (by decide) (by decide +kernel) dX4_miss_31 ?_
  refine lv_iload_n hx hb dX4_miss_34 rfl (lv_at hL.1 1 rfl) ?_
  obtain ⟨v24, e23, hf⟩ := p_b hf
  refine p_iald hC hQ e23 dX4_miss_35 ?_
  refine lv_imul hx hb dX4_miss_36 ?_
  refine lv_iadd hx hb dX4_miss_37 ?_
  obtain ⟨h_25, e26, hf⟩ := p_b hf
  refine p_iast hC hQ hS e26 dX4_miss_38 (fun H locs hQ hS => ?_)
  refine lv_aload_n hx hb dX4_miss_39 rfl (lv_at hL.1 0 rfl) ?_
  obtain ⟨a_27, e28, hf⟩ := p_b hf
  refine p_getR hC hi4 hK hQ e28 rfl (by decide) (by decide +kernel) dX4_miss_40 ?_
  refine lv_iload_n hx hb dX4_miss_43 rfl (lv_at hL.1 1 rfl) ?_
  refine lv_iconst (v := 2) hx hb dX4_miss_44 (by decide) ?_
  refine lv_aload_n hx hb dX4_miss_45 rfl (lv_at hL.1 0 rfl) ?_
  obtain ⟨a_29, e30, hf⟩ := p_b hf
  refine p_getR hC hi4 hK hQ e30 rfl (by decide) (by decide +kernel) dX4_miss_46 ?_
  refine lv_iload_n hx hb dX4_miss_49 rfl (lv_at hL.1 1 rfl) ?_
  obtain ⟨v32, e31, hf⟩ := p_b hf
  refine p_iald hC hQ e31 dX4_miss_50 ?_
  refine lv_imul hx hb dX4_miss_51 ?_
  refine lv_bipush (v := 8) hx hb dX4_miss_52 (by decide) ?_
  refine lv_icmp_ge (tgt := 68) hx hb dX4_miss_54 (by decide) (fun c33 => ?_) (fun c33 => ?_)
  · rw [if_pos c33] at hf
    refine lv_bipush (v := 8) hx hb dX4_miss_68 (by decide) ?_
    exact b70 _ _ _ h_25 8 x1 a_27 hQ hS (hL.sub [] rfl) hf
  · rw [if_neg c33] at hf
    refine lv_iconst (v := 2) hx hb dX4_miss_57 (by decide) ?_
    refine lv_aload_n hx hb dX4_miss_58 rfl (lv_at hL.1 0 rfl) ?_
    obtain ⟨a_34, e35, hf⟩ := p_b hf
    refine p_getR hC hi4 hK hQ e35 rfl (by decide) (by decide +kernel) dX4_miss_59 ?_
    refine lv_iload_n hx hb dX4_miss_62 rfl (lv_at hL.1 1 rfl) ?_
    obtain ⟨v37, e36, hf⟩ := p_b hf
    refine p_iald hC hQ e36 dX4_miss_63 ?_
    refine lv_imul hx hb dX4_miss_64 ?_
    refine lv_goto (tgt := 70) hx hb dX4_miss_65 (by decide) ?_
    exact b70 _ _ _ h_25 (2 * v37) x1 a_27 hQ hS (hL.sub [] rfl) hf
-- X4_pass
abbrev rX4_pass : Room := { frames := 5, cells := 0, slots := 0, locals := 113 }
set_option maxHeartbeats 4000000 in
set_option maxRecDepth 100000 in
theorem kX4_pass (l : Launch) (D : va_G) (ad : Nat → Nat) (h : PH) (a0 : Nat)  (r : PH) (hf : fX4_pass h a0  = some r) : Met l yX4_pass wsX4_pass rX4_pass (p_pre D ad (p_A ad h) h [.ref (ad a0)]) (p_Mv D ad (p_A ad h) r) 0 0 (p_A ad h) := by
  refine Met.ofW (cc := cX4_pass) (maxL := 3) (ret := none) (by decide) rfl ?_
  intro p e s m args below meth c s₁ B hml hv
  obtain ⟨hargs, hK, hQ⟩ := hv
  have hx := B.exec
  have hb := B.bytes
  have hr := B.returns
  have hts := atoms_spec (ws := wsX4_pass) B.pre
  have hown : s.vm.findClass RX4 = some m.cls := findClass_of_methodNamed B.named
  have hlocks := B.notSynchronized
  have hC : CallFix p m c cX4_pass 3 s args wsX4_pass RX4 := ⟨hx, hb, hml, hown, hts⟩
  have hS : va_S (p_A ad h) s.heap s.heap [] := va_S.rf
  have hi4 : ∀ w ∈ u_ws RX4 TX4 22, w ∈ wsX4_pass := fun w hw => List.mem_cons_of_mem _ (List.mem_append_right _ hw)
  obtain ⟨ls, hls, hL⟩ := p_start (n := 3) hargs (by simp [p_cat, p_ci, p_cr, p_cn]) (Nat.le_of_ble_eq_true rfl)
  show W p l e rX4_pass s m args below meth c s.heap [] 0 0 (MQ below (p_Mv D ad (p_A ad h) r) args s 0 0 (p_A ad h)) (entryFrame m args 3)
  rw [hls]
  clear hls
  have hL : p_L ls 3 [(0, .ref (ad a0))] := hL
  have b110 : ∀ K : PH → Nat → Int32 → Option (PH), (∀ (H : Heap) (locs : List Loc) (ls : Array Slot) (h1 : PH) (a0 : Nat) (x2 : Int32), p_Q D ad (p_A ad h) s h1 H → va_S (p_A ad h) s.heap H locs → p_L ls 3 [(0, .ref (ad a0)), (2, .int x2)] → K h1 a0 x2 = some r → W p l e rX4_pass s m args below meth c H locs 0 0 (MQ below (p_Mv D ad (p_A ad h) r) args s 0 0 (p_A ad h)) (F0 m 74 ls [])) → ∀ (H : Heap) (locs : List Loc) (ls : Array Slot) (h1 : PH) (a0 : Nat) (x2 : Int32), p_Q D ad (p_A ad h) s h1 H → va_S (p_A ad h) s.heap H locs → p_L ls 3 [(0, .ref (ad a0)), (2, .int x2)] → fX4_pass_110 K h1 a0 x2 = some r → W p l e rX4_pass s m args below meth c H locs 0 0 (MQ below (p_Mv D ad (p_A ad h) r) args s 0 0 (p_A ad h)) (F0 m 110 ls []) := by
    intro K ih H locs ls h1 a0 x2 hQ hS hL hf
    rw [fX4_pass_110] at hf
    refine p_iinc (v := (x2 + 1)) (lv' := [(2, .int (x2 + 1)), (0, .ref (ad a0))]) hx hb dX4_pass_110 hL (k := 1) rfl rfl (by decide) rfl (fun ls hL => ?_)
    refine lv_goto (tgt := 74) hx hb dX4_pass_113 (by decide) ?_
    exact ih _ _ _ h1 a0 (x2 + 1) hQ hS (hL.sub [1, 0] rfl) hf
  have b74 : ∀ n : Nat, ∀ (H : Heap) (locs : List Loc) (ls : Array Slot) (h1 : PH) (a0 : Nat) (x2 : Int32), p_Q D ad (p_A ad h) s h1 H → va_S (p_A ad h) s.heap H locs → p_L ls 3 [(0, .ref (ad a0)), (2, .int x2)] → fX4_pass_74 n h1 a0 x2 = some r → W p l e rX4_pass s m args below meth c H locs 0 0 (MQ below (p_Mv D ad (p_A ad h) r) args s 0 0 (p_A ad h)) (F0 m 74 ls []) := by
    intro n
    induction n with
    | zero =>
      intro H locs ls h1 a0 x2 hQ hS hL hf
      simp [fX4_pass_74] at hf
    | succ n ih =>
      intro H locs ls h1 a0 x2 hQ hS hL hf
      rw [fX4_pass_74] at hf
      refine lv_iload_n hx hb dX4_pass_74 rfl (lv_at hL.1 1 rfl) ?_
      refine lv_aload_n hx hb dX4_pass_75 rfl (lv_at hL.1 0 rfl) ?_
      obtain ⟨v1, e2, hf⟩ := p_b hf
      refine p_getI hC hi4 hK hQ e2 rfl (by decide) (by decide +kernel) dX4_pass_76 ?_
      refine lv_icmp_ge (tgt := 116) hx hb dX4_pass_79 (by decide) (fun c3 => ?_) (fun c3 => ?_)
      · rw [if_pos c3] at hf
        exact p_rMv hC hr hlocks hQ hS hf dX4_pass_116
      · rw [if_neg c3] at hf
        refine lv_aload_n hx hb dX4_pass_82 rfl (lv_at hL.1 0 rfl) ?_
        obtain ⟨a_4, e5, hf⟩ := p_b hf
        refine p_getR hC hi4 hK hQ e5 rfl (by decide) (by decide +kernel) dX4_pass_83 ?_
        refine lv_aload_n hx hb dX4_pass_86 rfl (lv_at hL.1 0 rfl) ?_
        obtain ⟨a_6, e7, hf⟩ := p_b hf
        refine p_getR hC hi4 hK hQ e7 rfl (by decide) (by decide +kernel) dX4_pass_87 ?_
        refine lv_iload_n hx hb dX4_pass_90 rfl (lv_at hL.1 1 rfl) ?_
        obtain ⟨v9, e8, hf⟩ := p_b hf
        refine p_iald hC hQ e8 dX4_pass_91 ?_
        obtain ⟨v11, e10, hf⟩ := p_b hf
        refine p_iald hC hQ e10 dX4_pass_92 ?_
        refine lv_aload_n hx hb dX4_pass_93 rfl (lv_at hL.1 0 rfl) ?_
        obtain ⟨v12, e13, hf⟩ := p_b hf
        refine p_getI hC hi4 hK hQ e13 rfl (by decide) (by decide +kernel) dX4_pass_94 ?_
        refine lv_icmp_ne (tgt := 110) hx hb dX4_pass_97 (by decide) (fun c14 => ?_) (fun c14 => ?_)
        · rw [if_neg c14] at hf
          exact b110 (fX4_pass_74 n) ih _ _ _ h1 a0 x2 hQ hS (hL.sub [0, 1] rfl) hf
        · rw [if_pos c14] at hf
          refine lv_aload_n hx hb dX4_pass_100 rfl (lv_at hL.1 0 rfl) ?_
          refine lv_aload_n hx hb dX4_pass_101 rfl (lv_at hL.1 0 rfl) ?_
          obtain ⟨a_15, e16, hf⟩ := p_b hf
          refine p_getR hC hi4 hK hQ e16 rfl (by decide) (by decide +kernel) dX4_pass_102 ?_
          refine lv_iload_n hx hb dX4_pass_105 rfl (lv_at hL.1 1 rfl) ?_
          obtain ⟨v18, e17, hf⟩ := p_b hf
          refine p_iald hC hQ e17 dX4_pass_106 ?_
          obtain ⟨u19, e20, hf⟩ := p_b hf
          obtain ⟨h_21, e22, hf⟩ := p_b hf
          refine p_cMv (va_runV (As := [.int v18]) (rest := []) hC (kX4_miss l D ad h1 a0 v18 h_21 e22) (cwV 1 hts gX4_pass_X4_miss rfl rfl rfl (by decide +kernel) ⟨Nat.le_of_ble_eq_true rfl, Nat.le_of_ble_eq_true rfl⟩) (p_preV hK hQ.self e20 rfl) rfl rfl hL.1.1 rfl (lv_room (Nat.le_of_ble_eq_true rfl)) dX4_pass_107 ⟨Nat.le_of_ble_eq_true rfl, Nat.le_of_ble_eq_true rfl⟩) hQ hS (fun H locs hQ hS => ?_)
          exact b110 (fX4_pass_74 n) ih _ _ _ h_21 a0 x2 hQ hS (hL.sub [0, 1] rfl) hf
  have b72 : ∀ (H : Heap) (locs : List Loc) (ls : Array Slot) (h1 : PH) (a0 : Nat), p_Q D ad (p_A ad h) s h1 H → va_S (p_A ad h) s.heap H locs → p_L ls 3 [(0, .ref (ad a0))] → fX4_pass_72 h1 a0 = some r → W p l e rX4_pass s m args below meth c H locs 0 0 (MQ below (p_Mv D ad (p_A ad h) r) args s 0 0 (p_A ad h)) (F0 m 72 ls []) := by
    intro H locs ls h1 a0 hQ hS hL hf
    rw [fX4_pass_72] at hf
    refine lv_iconst (v := 0) hx hb dX4_pass_72 (by decide) ?_
    refine p_istore_n (lv' := [(2, .int 0), (0, .ref (ad a0))]) hx hb dX4_pass_73 rfl hL (by decide) rfl (fun ls hL => ?_)
    exact b74 64 _ _ _ h1 a0 0 hQ hS (hL.sub [1, 0] rfl) hf
  have b35 : ∀ (H : Heap) (locs : List Loc) (ls : Array Slot) (h1 : PH) (a0 : Nat) (x1 : Int32) (sx0 : Int32) (sx1 : Int32) (sx2 : Int32) (sa3 : Nat), p_Q D ad (p_A ad h) s h1 H → va_S (p_A ad h) s.heap H locs → p_L ls 3 [(0, .ref (ad a0)), (1, .int x1)] → fX4_pass_35 h1 a0 x1 sx0 sx1 sx2 sa3 = some r → W p l e rX4_pass s m args below meth c H locs 0 0 (MQ below (p_Mv D ad (p_A ad h) r) args s 0 0 (p_A ad h)) (F0 m 35 ls [.int sx0, .int sx1, .int sx2, .ref (ad sa3)]) := by
    intro H locs ls h1 a0 x1 sx0 sx1 sx2 sa3 hQ hS hL hf
    rw [fX4_pass_35] at hf
    refine lv_iadd hx hb dX4_pass_35 ?_
    obtain ⟨h_23, e24, hf⟩ := p_b hf
    refine p_iast hC hQ hS e24 dX4_pass_36 (fun H locs hQ hS => ?_)
    refine lv_aload_n hx hb dX4_pass_37 rfl (lv_at hL.1 0 rfl) ?_
    refine lv_dup hx hb dX4_pass_38 rfl ?_
    obtain ⟨v25, e26, hf⟩ := p_b hf
    refine p_getI hC hi4 hK hQ e26 rfl (by decide) (by decide +kernel) dX4_pass_39 ?_
    refine lv_iconst (v := 1) hx hb dX4_pass_42 (by decide) ?_
    refine lv_iadd hx hb dX4_pass_43 ?_
    obtain ⟨h_27, e28, hf⟩ := p_b hf
    refine p_putI hC hi4 tyX4_ok nmX4 hK hQ hS e28 rfl (by decide) rfl rfl (by decide +kernel) dX4_pass_44 (fun H locs hQ hS => ?_)
    refine lv_iload_n hx hb dX4_pass_47 rfl (lv_at hL.1 1 rfl) ?_
    refine lv_iconst (v := -1) hx hb dX4_pass_48 (by decide) ?_
    refine lv_icmp_eq (tgt := 72) hx hb dX4_pass_49 (by decide) (fun c29 => ?_) (fun c29 => ?_)
    · rw [if_pos c29] at hf
      exact b72 _ _ _ h_27 a0 hQ hS (hL.sub [0] rfl) hf
    · rw [if_neg c29] at hf
      refine lv_aload_n hx hb dX4_pass_52 rfl (lv_at hL.1 0 rfl) ?_
      obtain ⟨a_30, e31, hf⟩ := p_b hf
      refine p_getR hC hi4 hK hQ e31 rfl (by decide) (by decide +kernel) dX4_pass_53 ?_
      refine lv_iload_n hx hb dX4_pass_56 rfl (lv_at hL.1 1 rfl) ?_
      obtain ⟨v33, e32, hf⟩ := p_b hf
      refine p_iald hC hQ e32 dX4_pass_57 ?_
      refine lv_aload_n hx hb dX4_pass_58 rfl (lv_at hL.1 0 rfl) ?_
      obtain ⟨a_34, e35, hf⟩ := p_b hf
      refine p_getR hC hi4 hK hQ e35 rfl (by decide) (by decide +kernel) dX4_pass_59 ?_
      refine lv_iload_n hx hb dX4_pass_62 rfl (lv_at hL.1 1 rfl) ?_
      obtain ⟨v37, e36, hf⟩ := p_b hf
      refine p_iald hC hQ e36 dX4_pass_63 ?_
      refine lv_icmp_ne (tgt := 72) hx hb dX4_pass_64 (by decide) (fun c38 => ?_) (fun c38 => ?_)
      · rw [if_neg c38] at hf
        exact b72 _ _ _ h_27 a0 hQ hS (hL.sub [0] rfl) hf
      · rw [if_pos c38] at hf
        refine lv_aload_n hx hb dX4_pass_67 rfl (lv_at hL.1 0 rfl) ?_
        refine lv_iload_n hx hb dX4_pass_68 rfl (lv_at hL.1 1 rfl) ?_
        obtain ⟨u39, e40, hf⟩ := p_b hf
        obtain ⟨h_41, e42, hf⟩ := p_b hf
        refine p_cMv (va_runV (As := [.int x1]) (rest := []) hC (kX4_finish l D ad h_27 a0 x1 h_41 e42) (cwV 1 hts gX4_pass_X4_finish rfl rfl rfl (by decide +kernel) ⟨Nat.le_of_ble_eq_true rfl, Nat.le_of_ble_eq_true rfl⟩) (p_preV hK hQ.self e40 rfl) rfl rfl hL.1.1 rfl (lv_room (Nat.le_of_ble_eq_true rfl)) dX4_pass_69 ⟨Nat.le_of_ble_eq_true rfl, Nat.le_of_ble_eq_true rfl⟩) hQ hS (fun H locs hQ hS => ?_)
        exact b72 _ _ _ h_41 a0 hQ hS (hL.sub [0] rfl) hf
  have b23 : ∀ (H : Heap) (locs : List Loc) (ls : Array Slot) (h1 : PH) (a0 : Nat) (x1 : Int32) (sx0 : Int32) (sa1 : Nat), p_Q D ad (p_A ad h) s h1 H → va_S (p_A ad h) s.heap H locs → p_L ls 3 [(0, .ref (ad a0)), (1, .int x1)] → fX4_pass_23 h1 a0 x1 sx0 sa1 = some r → W p l e rX4_pass s m args below meth c H locs 0 0 (MQ below (p_Mv D ad (p_A ad h) r) args s 0 0 (p_A ad h)) (F0 m 23 ls [.int sx0, .ref (ad sa1)]) := by
    intro H locs ls h1 a0 x1 sx0 sa1 hQ hS hL hf
    rw [fX4_pass_23] at hf
    refine lv_dup2_11 hx hb dX4_pass_23 rfl rfl ?_
    obtain ⟨v44, e43, hf⟩ := p_b hf
    refine p_iald hC hQ e43 dX4_pass_24 ?_
    refine lv_iload_n hx hb dX4_pass_25 rfl (lv_at hL.1 1 rfl) ?_
    refine lv_iconst (v := -1) hx hb dX4_pass_26 (by decide) ?_
    refine lv_icmp_ne (tgt := 34) hx hb dX4_pass_27 (by decide) (fun c45 => ?_) (fun c45 => ?_)
    · rw [if_neg c45] at hf
      refine lv_iconst (v := 1) hx hb dX4_pass_34 (by decide) ?_
      exact b35 _ _ _ h1 a0 x1 1 v44 sx0 sa1 hQ hS (hL.sub [0, 1] rfl) hf
    · rw [if_pos c45] at hf
      refine lv_iconst (v := 0) hx hb dX4_pass_30 (by decide) ?_
      refine lv_goto (tgt := 35) hx hb dX4_pass_31 (by decide) ?_
      exact b35 _ _ _ h1 a0 x1 0 v44 sx0 sa1 hQ hS (hL.sub [0, 1] rfl) hf
  rw [fX4_pass] at hf
  refine lv_aload_n hx hb dX4_pass_0 rfl (lv_at hL.1 0 rfl) ?_
  obtain ⟨u46, e47, hf⟩ := p_b hf
  obtain ⟨h_48, e49, hf⟩ := p_b hf
  refine p_cMv (va_runV (As := []) (rest := []) hC (kX4_start l D ad h a0 h_48 e49) (cwV 0 hts gX4_pass_X4_start rfl rfl rfl (by decide +kernel) ⟨Nat.le_of_ble_eq_true rfl, Nat.le_of_ble_eq_true rfl⟩) (p_preV hK hQ.self e47 rfl) rfl rfl hL.1.1 rfl (lv_room (Nat.le_of_ble_eq_true rfl)) dX4_pass_1 ⟨Nat.le_of_ble_eq_true rfl, Nat.le_of_ble_eq_true rfl⟩) hQ hS (fun H locs hQ hS => ?_)
  refine lv_aload_n hx hb dX4_pass_4 rfl (lv_at hL.1 0 rfl) ?_
  obtain ⟨u50, e51, hf⟩ := p_b hf
  obtain ⟨v52, e53, hf⟩ := p_b hf
  refine p_cRi (va_runV (As := []) (rest := []) hC (kX4_earliest l D ad h_48 a0 v52 e53) (cwV 0 hts gX4_pass_X4_earliest rfl rfl rfl (by decide +kernel) ⟨Nat.le_of_ble_eq_true rfl, Nat.le_of_ble_eq_true rfl⟩) (p_preV hK hQ.tt e51 rfl) rfl rfl hL.1.1 rfl (lv_room (Nat.le_of_ble_eq_true rfl)) dX4_pass_5 ⟨Nat.le_of_ble_eq_true rfl, Nat.le_of_ble_eq_true rfl⟩) hQ hS (fun H locs hQ hS => ?_)
  refine p_istore_n (lv' := [(1, .int v52), (0, .ref (ad a0))]) hx hb dX4_pass_8 rfl hL (by decide) rfl (fun ls hL => ?_)
  refine lv_aload_n hx hb dX4_pass_9 rfl (lv_at hL.1 1 rfl) ?_
  obtain ⟨a_54, e55, hf⟩ := p_b hf
  refine p_getR hC hi4 hK hQ e55 rfl (by decide) (by decide +kernel) dX4_pass_10 ?_
  refine lv_iload_n hx hb dX4_pass_13 rfl (lv_at hL.1 0 rfl) ?_
  refine lv_iconst (v := -1) hx hb dX4_pass_14 (by decide) ?_
  refine lv_icmp_ne (tgt := 22) hx hb dX4_pass_15 (by decide) (fun c56 => ?_) (fun c56 => ?_)
  · rw [if_neg c56] at hf
    refine lv_iload_n hx hb dX4_pass_22 rfl (lv_at hL.1 0 rfl) ?_
    exact b23 _ _ _ h_48 a0 v52 v52 a_54 hQ hS (hL.sub [1, 0] rfl) hf
  · rw [if_pos c56] at hf
    refine lv_iconst (v := 0) hx hb dX4_pass_18 (by decide) ?_
    refine lv_goto (tgt := 23) hx hb dX4_pass_19 (by decide) ?_
    exact b23 _ _ _ h_48 a0 v52 0 a_54 hQ hS (hL.sub [1, 0] rfl) hf
-- X4_advance
abbrev rX4_advance : Room := { frames := 6, cells := 0, slots := 0, locals := 135 }
set_option maxHeartbeats 4000000 in
set_option maxRecDepth 100000 in
theorem kX4_advance (l : Launch) (D : va_G) (ad : Nat → Nat) (h : PH) (a0 : Nat) (x1 : Int32)  (r : Int32 × PH) (hf : fX4_advance h a0 x1  = some r) : Met l yX4_advance wsX4_advance rX4_advance (p_pre D ad (p_A ad h) h [.ref (ad a0), .int x1]) (p_Mi D ad (p_A ad h) r) 0 0 (p_A ad h) := by
  refine Met.ofW (cc := cX4_advance) (maxL := 3) (ret := (some .int)) (by decide) rfl ?_
  intro p e s m args below meth c s₁ B hml hv
  obtain ⟨hargs, hK, hQ⟩ := hv
  have hx := B.exec
  have hb := B.bytes
  have hr := B.returns
  have hts := atoms_spec (ws := wsX4_advance) B.pre
  have hown : s.vm.findClass RX4 = some m.cls := findClass_of_methodNamed B.named
  have hlocks := B.notSynchronized
  have hC : CallFix p m c cX4_advance 3 s args wsX4_advance RX4 := ⟨hx, hb, hml, hown, hts⟩
  have hS : va_S (p_A ad h) s.heap s.heap [] := va_S.rf
  have hi4 : ∀ w ∈ u_ws RX4 TX4 22, w ∈ wsX4_advance := fun w hw => List.mem_cons_of_mem _ (List.mem_append_right _ hw)
  obtain ⟨ls, hls, hL⟩ := p_start (n := 3) hargs (by simp [p_cat, p_ci, p_cr, p_cn]) (Nat.le_of_ble_eq_true rfl)
  show W p l e rX4_advance s m args below meth c s.heap [] 0 0 (MQ below (p_Mi D ad (p_A ad h) r) args s 0 0 (p_A ad h)) (entryFrame m args 3)
  rw [hls]
  clear hls
  have hL : p_L ls 3 [(0, .ref (ad a0)), (1, .int x1)] := hL
  have b42 : ∀ n : Nat, ∀ (H : Heap) (locs : List Loc) (ls : Array Slot) (h1 : PH) (a0 : Nat) (x1 : Int32) (x2 : Int32), p_Q D ad (p_A ad h) s h1 H → va_S (p_A ad h) s.heap H locs → p_L ls 3 [(0, .ref (ad a0)), (1, .int x1), (2, .int x2)] → fX4_advance_42 n h1 a0 x1 x2 = some r → W p l e rX4_advance s m args below meth c H locs 0 0 (MQ below (p_Mi D ad (p_A ad h) r) args s 0 0 (p_A ad h)) (F0 m 42 ls []) := by
    intro n
    induction n with
    | zero =>
      intro H locs ls h1 a0 x1 x2 hQ hS hL hf
      simp [fX4_advance_42] at hf
    | succ n ih =>
      intro H locs ls h1 a0 x1 x2 hQ hS hL hf
      rw [fX4_advance_42] at hf
      refine lv_iload_n hx hb dX4_advance_42 rfl (lv_at hL.1 2 rfl) ?_
      refine lv_iload_n hx hb dX4_advance_43 rfl (lv_at hL.1 1 rfl) ?_
      refine lv_icmp_ge (tgt := 57) hx hb dX4_advance_44 (by decide) (fun c1 => ?_) (fun c1 => ?_)
      · rw [if_pos c1] at hf
        refine lv_aload_n hx hb dX4_advance_57 rfl (lv_at hL.1 0 rfl) ?_
        obtain ⟨v2, e3, hf⟩ := p_b hf
        refine p_getI hC hi4 hK hQ e3 rfl (by decide) (by decide +kernel) dX4_advance_58 ?_
        exact p_rMi hC hr hlocks hQ hS hf dX4_advance_61
      · rw [if_neg c1] at hf
        refine lv_aload_n hx hb dX4_advance_47 rfl (lv_at hL.1 0 rfl) ?_
        obtain ⟨u4, e5, hf⟩ := p_b hf
        obtain ⟨h_6, e7, hf⟩ := p_b hf
        refine p_cMv (va_runV (As := []) (rest := []) hC (kX4_pass l D ad h1 a0 h_6 e7) (cwV 0 hts gX4_advance_X4_pass rfl rfl rfl (by decide +kernel) ⟨Nat.le_of_ble_eq_true rfl, Nat.le_of_ble_eq_true rfl⟩) (p_preV hK hQ.self e5 rfl) rfl rfl hL.1.1 rfl (lv_room (Nat.le_of_ble_eq_true rfl)) dX4_advance_48 ⟨Nat.le_of_ble_eq_true rfl, Nat.le_of_ble_eq_true rfl⟩) hQ hS (fun H locs hQ hS => ?_)
        refine p_iinc (v := (x2 + 1)) (lv' := [(2, .int (x2 + 1)), (0, .ref (ad a0)), (1, .int x1)]) hx hb dX4_advance_51 hL (k := 2) rfl rfl (by decide) rfl (fun ls hL => ?_)
        refine lv_goto (tgt := 42) hx hb dX4_advance_54 (by decide) ?_
        exact ih _ _ _ h_6 a0 x1 (x2 + 1) hQ hS (hL.sub [1, 2, 0] rfl) hf
  have b32 : ∀ (H : Heap) (locs : List Loc) (ls : Array Slot) (h1 : PH) (a0 : Nat) (x1 : Int32) (sx0 : Int32) (sa1 : Nat), p_Q D ad (p_A ad h) s h1 H → va_S (p_A ad h) s.heap H locs → p_L ls 3 [(0, .ref (ad a0)), (1, .int x1)] → fX4_advance_32 h1 a0 x1 sx0 sa1 = some r → W p l e rX4_advance s m args below meth c H locs 0 0 (MQ below (p_Mi D ad (p_A ad h) r) args s 0 0 (p_A ad h)) (F0 m 32 ls [.int sx0, .ref (ad sa1)]) := by
    intro H locs ls h1 a0 x1 sx0 sa1 hQ hS hL hf
    rw [fX4_advance_32] at hf
    obtain ⟨u8, e9, hf⟩ := p_b hf
    obtain ⟨y10, e11, hf⟩ := p_b hf
    refine p_cMi (va_runV (As := [.int sx0]) (rest := []) hC (kX4_refused l D ad h1 sa1 sx0 y10 e11) (cwV 1 hts gX4_advance_X4_refused rfl rfl rfl (by decide +kernel) ⟨Nat.le_of_ble_eq_true rfl, Nat.le_of_ble_eq_true rfl⟩) (p_preV hK hQ.self e9 rfl) rfl rfl hL.1.1 rfl (lv_room (Nat.le_of_ble_eq_true rfl)) dX4_advance_32 ⟨Nat.le_of_ble_eq_true rfl, Nat.le_of_ble_eq_true rfl⟩) hQ hS (fun H locs hQ hS => ?_)
    refine lv_if_eq (tgt := 40) hx hb dX4_advance_35 (by decide) (fun c12 => ?_) (fun c12 => ?_)
    · rw [if_pos c12] at hf
      refine lv_iconst (v := 0) hx hb dX4_advance_40 (by decide) ?_
      refine p_istore_n (lv' := [(2, .int 0), (0, .ref (ad a0)), (1, .int x1)]) hx hb dX4_advance_41 rfl hL (by decide) rfl (fun ls hL => ?_)
      exact b42 300 _ _ _ y10.2 a0 x1 0 hQ hS (hL.sub [1, 2, 0] rfl) hf
    · rw [if_neg c12] at hf
      refine lv_iconst (v := 0) hx hb dX4_advance_38 (by decide) ?_
      exact p_rMi hC hr hlocks hQ hS hf dX4_advance_39
  rw [fX4_advance] at hf
  refine lv_aload_n hx hb dX4_advance_0 rfl (lv_at hL.1 0 rfl) ?_
  refine lv_iload_n hx hb dX4_advance_1 rfl (lv_at hL.1 1 rfl) ?_
  refine lv_iconst (v := 1) hx hb dX4_advance_2 (by decide) ?_
  refine lv_sipush (v := 200) hx hb dX4_advance_3 (by decide) ?_
  obtain ⟨v13, e14, hf⟩ := p_b hf
  refine p_cRi (va_runS (As := [.int x1, .int 1, .int 200]) (rest := [.ref (ad a0)]) hC (kX4_in l D ad h x1 1 200 v13 e14) (cwS 3 hts gX4_advance_X4_in rfl rfl rfl (by decide +kernel) ⟨Nat.le_of_ble_eq_true rfl, Nat.le_of_ble_eq_true rfl⟩) (p_preS hK hQ.tt) rfl rfl hL.1.1 rfl (lv_room (Nat.le_of_ble_eq_true rfl)) dX4_advance_6 ⟨Nat.le_of_ble_eq_true rfl, Nat.le_of_ble_eq_true rfl⟩) hQ hS (fun H locs hQ hS => ?_)
  refine lv_if_ne (tgt := 16) hx hb dX4_advance_9 (by decide) (fun c15 => ?_) (fun c15 => ?_)
  · rw [if_neg c15] at hf
    refine lv_aload_n hx hb dX4_advance_16 rfl (lv_at hL.1 0 rfl) ?_
    obtain ⟨v16, e17, hf⟩ := p_b hf
    refine p_getI hC hi4 hK hQ e17 rfl (by decide) (by decide +kernel) dX4_advance_17 ?_
    refine lv_iload_n hx hb dX4_advance_20 rfl (lv_at hL.1 1 rfl) ?_
    refine lv_iadd hx hb dX4_advance_21 ?_
    refine lv_ldc (v := 100000) hx hb hown (hts (.constant RX4 147 (100000)) (by decide +kernel)) dX4_advance_22 ?_
    refine lv_icmp_le (tgt := 31) hx hb dX4_advance_24 (by decide) (fun c18 => ?_) (fun c18 => ?_)
    · rw [if_pos c18] at hf
      refine lv_iconst (v := 0) hx hb dX4_advance_31 (by decide) ?_
      exact b32 _ _ _ h a0 x1 0 a0 hQ hS (hL.sub [0, 1] rfl) hf
    · rw [if_neg c18] at hf
      refine lv_iconst (v := 2) hx hb dX4_advance_27 (by decide) ?_
      refine lv_goto (tgt := 32) hx hb dX4_advance_28 (by decide) ?_
      exact b32 _ _ _ h a0 x1 2 a0 hQ hS (hL.sub [0, 1] rfl) hf
  · rw [if_pos c15] at hf
    refine lv_iconst (v := 1) hx hb dX4_advance_12 (by decide) ?_
    refine lv_goto (tgt := 32) hx hb dX4_advance_13 (by decide) ?_
    exact b32 _ _ _ h a0 x1 1 a0 hQ hS (hL.sub [0, 1] rfl) hf
-- X4_noCell
abbrev rX4_noCell : Room := { frames := 1, cells := 0, slots := 0, locals := 22 }
set_option maxHeartbeats 4000000 in
set_option maxRecDepth 100000 in
theorem kX4_noCell (l : Launch) (D : va_G) (ad : Nat → Nat) (h : PH) (a0 : Nat) (x1 : Int32) (x2 : Int32)  (r : Int32 × PH) (hf : fX4_noCell h a0 x1 x2  = some r) : Met l yX4_noCell wsX4_noCell rX4_noCell (p_pre D ad (p_A ad h) h [.ref (ad a0), .int x1, .int x2]) (p_Mi D ad (p_A ad h) r) 0 0 (p_A ad h) := by
  refine Met.ofW (cc := cX4_noCell) (maxL := 3) (ret := (some .boolean)) (by decide) rfl ?_
  intro p e s m args below meth c s₁ B hml hv
  obtain ⟨hargs, hK, hQ⟩ := hv
  have hx := B.exec
  have hb := B.bytes
  have hr := B.returns
  have hts := atoms_spec (ws := wsX4_noCell) B.pre
  have hown : s.vm.findClass RX4 = some m.cls := findClass_of_methodNamed B.named
  have hlocks := B.notSynchronized
  have hC : CallFix p m c cX4_noCell 3 s args wsX4_noCell RX4 := ⟨hx, hb, hml, hown, hts⟩
  have hS : va_S (p_A ad h) s.heap s.heap [] := va_S.rf
  have hi4 : ∀ w ∈ u_ws RX4 TX4 22, w ∈ wsX4_noCell := fun w hw => List.mem_cons_of_mem _ (List.mem_append_right _ hw)
  obtain ⟨ls, hls, hL⟩ := p_start (n := 3) hargs (by simp [p_cat, p_ci, p_cr, p_cn]) (Nat.le_of_ble_eq_true rfl)
  show W p l e rX4_noCell s m args below meth c s.heap [] 0 0 (MQ below (p_Mi D ad (p_A ad h) r) args s 0 0 (p_A ad h)) (entryFrame m args 3)
  rw [hls]
  clear hls
  have hL : p_L ls 3 [(0, .ref (ad a0)), (1, .int x1), (2, .int x2)] := hL
  have b25 : ∀ (H : Heap) (locs : List Loc) (ls : Array Slot) (h1 : PH) (sx0 : Int32) (sa1 : Nat), p_Q D ad (p_A ad h) s h1 H → va_S (p_A ad h) s.heap H locs → p_L ls 3 [] → fX4_noCell_25 h1 sx0 sa1 = some r → W p l e rX4_noCell s m args below meth c H locs 0 0 (MQ below (p_Mi D ad (p_A ad h) r) args s 0 0 (p_A ad h)) (F0 m 25 ls [.int sx0, .ref (ad sa1)]) := by
    intro H locs ls h1 sx0 sa1 hQ hS hL hf
    rw [fX4_noCell_25] at hf
    obtain ⟨u1, e2, hf⟩ := p_b hf
    obtain ⟨y3, e4, hf⟩ := p_b hf
    refine p_cMi (va_runV (As := [.int sx0]) (rest := []) hC (kX4_refused l D ad h1 sa1 sx0 y3 e4) (cwV 1 hts gX4_noCell_X4_refused rfl rfl rfl (by decide +kernel) ⟨Nat.le_of_ble_eq_true rfl, Nat.le_of_ble_eq_true rfl⟩) (p_preV hK hQ.self e2 rfl) rfl rfl hL.1.1 rfl (lv_room (Nat.le_of_ble_eq_true rfl)) dX4_noCell_25 ⟨Nat.le_of_ble_eq_true rfl, Nat.le_of_ble_eq_true rfl⟩) hQ hS (fun H locs hQ hS => ?_)
    exact p_rMz hC hr hlocks hQ hS hf dX4_noCell_28
  have b24 : ∀ (H : Heap) (locs : List Loc) (ls : Array Slot) (h1 : PH) (sa0 : Nat), p_Q D ad (p_A ad h) s h1 H → va_S (p_A ad h) s.heap H locs → p_L ls 3 [] → fX4_noCell_24 h1 sa0 = some r → W p l e rX4_noCell s m args below meth c H locs 0 0 (MQ below (p_Mi D ad (p_A ad h) r) args s 0 0 (p_A ad h)) (F0 m 24 ls [.ref (ad sa0)]) := by
    intro H locs ls h1 sa0 hQ hS hL hf
    rw [fX4_noCell_24] at hf
    refine lv_iconst (v := 1) hx hb dX4_noCell_24 (by decide) ?_
    exact b25 _ _ _ h1 1 sa0 hQ hS (hL.sub [] rfl) hf
  rw [fX4_noCell] at hf
  refine lv_aload_n hx hb dX4_noCell_0 rfl (lv_at hL.1 0 rfl) ?_
  refine lv_iload_n hx hb dX4_noCell_1 rfl (lv_at hL.1 1 rfl) ?_
  refine lv_iconst (v := 0) hx hb dX4_noCell_2 (by decide) ?_
  refine lv_bipush (v := 7) hx hb dX4_noCell_3 (by decide) ?_
  obtain ⟨v5, e6, hf⟩ := p_b hf
  refine p_cRi (va_runS (As := [.int x1, .int 0, .int 7]) (rest := [.ref (ad a0)]) hC (kX4_in l D ad h x1 0 7 v5 e6) (cwS 3 hts gX4_noCell_X4_in rfl rfl rfl (by decide +kernel) ⟨Nat.le_of_ble_eq_true rfl, Nat.le_of_ble_eq_true rfl⟩) (p_preS hK hQ.tt) rfl rfl hL.1.1 rfl (lv_room (Nat.le_of_ble_eq_true rfl)) dX4_noCell_5 ⟨Nat.le_of_ble_eq_true rfl, Nat.le_of_ble_eq_true rfl⟩) hQ hS (fun H locs hQ hS => ?_)
  refine lv_if_eq (tgt := 24) hx hb dX4_noCell_8 (by decide) (fun c7 => ?_) (fun c7 => ?_)
  · rw [if_pos c7] at hf
    exact b24 _ _ _ h a0 hQ hS (hL.sub [] rfl) hf
  · rw [if_neg c7] at hf
    refine lv_iload_n hx hb dX4_noCell_11 rfl (lv_at hL.1 2 rfl) ?_
    refine lv_iconst (v := 0) hx hb dX4_noCell_12 (by decide) ?_
    refine lv_iconst (v := 5) hx hb dX4_noCell_13 (by decide) ?_
    obtain ⟨v8, e9, hf⟩ := p_b hf
    refine p_cRi (va_runS (As := [.int x2, .int 0, .int 5]) (rest := [.ref (ad a0)]) hC (kX4_in l D ad h x2 0 5 v8 e9) (cwS 3 hts gX4_noCell_X4_in rfl rfl rfl (by decide +kernel) ⟨Nat.le_of_ble_eq_true rfl, Nat.le_of_ble_eq_true rfl⟩) (p_preS hK hQ.tt) rfl rfl hL.1.1 rfl (lv_room (Nat.le_of_ble_eq_true rfl)) dX4_noCell_14 ⟨Nat.le_of_ble_eq_true rfl, Nat.le_of_ble_eq_true rfl⟩) hQ hS (fun H locs hQ hS => ?_)
    refine lv_if_eq (tgt := 24) hx hb dX4_noCell_17 (by decide) (fun c10 => ?_) (fun c10 => ?_)
    · rw [if_pos c10] at hf
      exact b24 _ _ _ h a0 hQ hS (hL.sub [] rfl) hf
    · rw [if_neg c10] at hf
      refine lv_iconst (v := 0) hx hb dX4_noCell_20 (by decide) ?_
      refine lv_goto (tgt := 25) hx hb dX4_noCell_21 (by decide) ?_
      exact b25 _ _ _ h 0 a0 hQ hS (hL.sub [] rfl) hf
-- X4_input
abbrev rX4_input : Room := { frames := 3, cells := 0, slots := 0, locals := 69 }
set_option maxHeartbeats 4000000 in
set_option maxRecDepth 100000 in
theorem kX4_input (l : Launch) (D : va_G) (ad : Nat → Nat) (h : PH) (a0 : Nat) (x1 : Int32) (x2 : Int32)  (r : Int32 × PH) (hf : fX4_input h a0 x1 x2  = some r) : Met l yX4_input wsX4_input rX4_input (p_pre D ad (p_A ad h) h [.ref (ad a0), .int x1, .int x2]) (p_Mi D ad (p_A ad h) r) 0 0 (p_A ad h) := by
  refine Met.ofW (cc := cX4_input) (maxL := 5) (ret := (some .int)) (by decide) rfl ?_
  intro p e s m args below meth c s₁ B hml hv
  obtain ⟨hargs, hK, hQ⟩ := hv
  have hx := B.exec
  have hb := B.bytes
  have hr := B.returns
  have hts := atoms_spec (ws := wsX4_input) B.pre
  have hown : s.vm.findClass RX4 = some m.cls := findClass_of_methodNamed B.named
  have hlocks := B.notSynchronized
  have hC : CallFix p m c cX4_input 5 s args wsX4_input RX4 := ⟨hx, hb, hml, hown, hts⟩
  have hS : va_S (p_A ad h) s.heap s.heap [] := va_S.rf
  have hi4 : ∀ w ∈ u_ws RX4 TX4 22, w ∈ wsX4_input := fun w hw => List.mem_cons_of_mem _ (List.mem_append_right _ hw)
  obtain ⟨ls, hls, hL⟩ := p_start (n := 5) hargs (by simp [p_cat, p_ci, p_cr, p_cn]) (Nat.le_of_ble_eq_true rfl)
  show W p l e rX4_input s m args below meth c s.heap [] 0 0 (MQ below (p_Mi D ad (p_A ad h) r) args s 0 0 (p_A ad h)) (entryFrame m args 5)
  rw [hls]
  clear hls
  have hL : p_L ls 5 [(0, .ref (ad a0)), (1, .int x1), (2, .int x2)] := hL
  have b88 : ∀ (H : Heap) (locs : List Loc) (ls : Array Slot) (h1 : PH) (x3 : Int32), p_Q D ad (p_A ad h) s h1 H → va_S (p_A ad h) s.heap H locs → p_L ls 5 [(3, .int x3)] → fX4_input_88 h1 x3 = some r → W p l e rX4_input s m args below meth c H locs 0 0 (MQ below (p_Mi D ad (p_A ad h) r) args s 0 0 (p_A ad h)) (F0 m 88 ls []) := by
    intro H locs ls h1 x3 hQ hS hL hf
    rw [fX4_input_88] at hf
    refine lv_iload_n hx hb dX4_input_88 rfl (lv_at hL.1 0 rfl) ?_
    exact p_rMi hC hr hlocks hQ hS hf dX4_input_89
  rw [fX4_input] at hf
  refine lv_aload_n hx hb dX4_input_0 rfl (lv_at hL.1 0 rfl) ?_
  refine lv_iload_n hx hb dX4_input_1 rfl (lv_at hL.1 1 rfl) ?_
  refine lv_iload_n hx hb dX4_input_2 rfl (lv_at hL.1 2 rfl) ?_
  obtain ⟨u1, e2, hf⟩ := p_b hf
  obtain ⟨y3, e4, hf⟩ := p_b hf
  refine p_cMi (va_runV (As := [.int x1, .int x2]) (rest := []) hC (kX4_noCell l D ad h a0 x1 x2 y3 e4) (cwV 2 hts gX4_input_X4_noCell rfl rfl rfl (by decide +kernel) ⟨Nat.le_of_ble_eq_true rfl, Nat.le_of_ble_eq_true rfl⟩) (p_preV hK hQ.self e2 rfl) rfl rfl hL.1.1 rfl (lv_room (Nat.le_of_ble_eq_true rfl)) dX4_input_3 ⟨Nat.le_of_ble_eq_true rfl, Nat.le_of_ble_eq_true rfl⟩) hQ hS (fun H locs hQ hS => ?_)
  refine lv_if_eq (tgt := 11) hx hb dX4_input_6 (by decide) (fun c5 => ?_) (fun c5 => ?_)
  · rw [if_pos c5] at hf
    refine lv_aload_n hx hb dX4_input_11 rfl (lv_at hL.1 0 rfl) ?_
    refine lv_iload_n hx hb dX4_input_12 rfl (lv_at hL.1 1 rfl) ?_
    refine lv_iload_n hx hb dX4_input_13 rfl (lv_at hL.1 2 rfl) ?_
    obtain ⟨u6, e7, hf⟩ := p_b hf
    obtain ⟨v8, e9, hf⟩ := p_b hf
    refine p_cRi (va_runV (As := [.int x1, .int x2]) (rest := []) hC (kX4_shownAt l D ad y3.2 a0 x1 x2 v8 e9) (cwV 2 hts gX4_input_X4_shownAt rfl rfl rfl (by decide +kernel) ⟨Nat.le_of_ble_eq_true rfl, Nat.le_of_ble_eq_true rfl⟩) (p_preV hK hQ.tt e7 rfl) rfl rfl hL.1.1 rfl (lv_room (Nat.le_of_ble_eq_true rfl)) dX4_input_14 ⟨Nat.le_of_ble_eq_true rfl, Nat.le_of_ble_eq_true rfl⟩) hQ hS (fun H locs hQ hS => ?_)
    refine p_istore_n (lv' := [(3, .int v8), (0, .ref (ad a0)), (1, .int x1), (2, .int x2)]) hx hb dX4_input_17 rfl hL (by decide) rfl (fun ls hL => ?_)
    refine lv_iload_n hx hb dX4_input_18 rfl (lv_at hL.1 0 rfl) ?_
    refine lv_iconst (v := -1) hx hb dX4_input_19 (by decide) ?_
    refine lv_icmp_eq (tgt := 88) hx hb dX4_input_20 (by decide) (fun c10 => ?_) (fun c10 => ?_)
    · rw [if_pos c10] at hf
      exact b88 _ _ _ y3.2 v8 hQ hS (hL.sub [0] rfl) hf
    · rw [if_neg c10] at hf
      refine lv_aload_n hx hb dX4_input_23 rfl (lv_at hL.1 1 rfl) ?_
      obtain ⟨a_11, e12, hf⟩ := p_b hf
      refine p_getR hC hi4 hK hQ e12 rfl (by decide) (by decide +kernel) dX4_input_24 ?_
      refine lv_iload_n hx hb dX4_input_27 rfl (lv_at hL.1 0 rfl) ?_
      obtain ⟨v14, e13, hf⟩ := p_b hf
      refine p_zald hC hQ e13 dX4_input_28 ?_
      refine lv_if_eq (tgt := 88) hx hb dX4_input_29 (by decide) (fun c15 => ?_) (fun c15 => ?_)
      · rw [if_pos c15] at hf
        exact b88 _ _ _ y3.2 v8 hQ hS (hL.sub [0] rfl) hf
      · rw [if_neg c15] at hf
        refine lv_aload_n hx hb dX4_input_32 rfl (lv_at hL.1 1 rfl) ?_
        obtain ⟨v16, e17, hf⟩ := p_b hf
        refine p_getI hC hi4 hK hQ e17 rfl (by decide) (by decide +kernel) dX4_input_33 ?_
        refine lv_aload_n hx hb dX4_input_36 rfl (lv_at hL.1 1 rfl) ?_
        obtain ⟨a_18, e19, hf⟩ := p_b hf
        refine p_getR hC hi4 hK hQ e19 rfl (by decide) (by decide +kernel) dX4_input_37 ?_
        refine lv_iload_n hx hb dX4_input_40 rfl (lv_at hL.1 0 rfl) ?_
        obtain ⟨v21, e20, hf⟩ := p_b hf
        refine p_iald hC hQ e20 dX4_input_41 ?_
        refine lv_iconst (v := 1) hx hb dX4_input_42 (by decide) ?_
        refine lv_iadd hx hb dX4_input_43 ?_
        refine lv_iconst (v := 2) hx hb dX4_input_44 (by decide) ?_
        refine lv_idiv hx hb dX4_input_45 (by decide) ?_
        refine lv_iadd hx hb dX4_input_46 ?_
        refine p_istore (lv' := [(4, .int (v16 + ((v21 + 1) / 2))), (3, .int v8), (0, .ref (ad a0)), (1, .int x1), (2, .int x2)]) hx hb dX4_input_47 hL (by decide) rfl (fun ls hL => ?_)
        refine lv_aload_n hx hb dX4_input_49 rfl (lv_at hL.1 2 rfl) ?_
        obtain ⟨a_22, e23, hf⟩ := p_b hf
        refine p_getR hC hi4 hK hQ e23 rfl (by decide) (by decide +kernel) dX4_input_50 ?_
        refine lv_iload_n hx hb dX4_input_53 rfl (lv_at hL.1 1 rfl) ?_
        obtain ⟨v25, e24, hf⟩ := p_b hf
        refine p_iald hC hQ e24 dX4_input_54 ?_
        refine lv_iconst (v := -1) hx hb dX4_input_55 (by decide) ?_
        refine lv_icmp_ne (tgt := 69) hx hb dX4_input_56 (by decide) (fun c26 => ?_) (fun c26 => ?_)
        · rw [if_neg c26] at hf
          refine lv_iload hx hb dX4_input_69 (lv_at hL.1 0 rfl) ?_
          refine lv_aload_n hx hb dX4_input_71 rfl (lv_at hL.1 2 rfl) ?_
          obtain ⟨a_27, e28, hf⟩ := p_b hf
          refine p_getR hC hi4 hK hQ e28 rfl (by decide) (by decide +kernel) dX4_input_72 ?_
          refine lv_iload_n hx hb dX4_input_75 rfl (lv_at hL.1 1 rfl) ?_
          obtain ⟨v30, e29, hf⟩ := p_b hf
          refine p_iald hC hQ e29 dX4_input_76 ?_
          refine lv_icmp_ge (tgt := 88) hx hb dX4_input_77 (by decide) (fun c31 => ?_) (fun c31 => ?_)
          · rw [if_pos c31] at hf
            exact b88 _ _ _ y3.2 v8 hQ hS (hL.sub [1] rfl) hf
          · rw [if_neg c31] at hf
            refine lv_aload_n hx hb dX4_input_80 rfl (lv_at hL.1 2 rfl) ?_
            obtain ⟨a_32, e33, hf⟩ := p_b hf
            refine p_getR hC hi4 hK hQ e33 rfl (by decide) (by decide +kernel) dX4_input_81 ?_
            refine lv_iload_n hx hb dX4_input_84 rfl (lv_at hL.1 1 rfl) ?_
            refine lv_iload hx hb dX4_input_85 (lv_at hL.1 0 rfl) ?_
            obtain ⟨h_34, e35, hf⟩ := p_b hf
            refine p_iast hC hQ hS e35 dX4_input_87 (fun H locs hQ hS => ?_)
            exact b88 _ _ _ h_34 v8 hQ hS (hL.sub [1] rfl) hf
        · rw [if_pos c26] at hf
          refine lv_aload_n hx hb dX4_input_59 rfl (lv_at hL.1 2 rfl) ?_
          refine lv_iload_n hx hb dX4_input_60 rfl (lv_at hL.1 1 rfl) ?_
          refine lv_iload hx hb dX4_input_61 (lv_at hL.1 0 rfl) ?_
          obtain ⟨u36, e37, hf⟩ := p_b hf
          obtain ⟨h_38, e39, hf⟩ := p_b hf
          refine p_cMv (va_runV (As := [.int v8, .int (v16 + ((v21 + 1) / 2))]) (rest := []) hC (kX4_begin l D ad y3.2 a0 v8 (v16 + ((v21 + 1) / 2)) h_38 e39) (cwV 2 hts gX4_input_X4_begin rfl rfl rfl (by decide +kernel) ⟨Nat.le_of_ble_eq_true rfl, Nat.le_of_ble_eq_true rfl⟩) (p_preV hK hQ.self e37 rfl) rfl rfl hL.1.1 rfl (lv_room (Nat.le_of_ble_eq_true rfl)) dX4_input_63 ⟨Nat.le_of_ble_eq_true rfl, Nat.le_of_ble_eq_true rfl⟩) hQ hS (fun H locs hQ hS => ?_)
          refine lv_goto (tgt := 88) hx hb dX4_input_66 (by decide) ?_
          exact b88 _ _ _ h_38 v8 hQ hS (hL.sub [1] rfl) hf
  · rw [if_neg c5] at hf
    refine lv_iconst (v := 0) hx hb dX4_input_9 (by decide) ?_
    exact p_rMi hC hr hlocks hQ hS hf dX4_input_10
-- X4_countDamage
abbrev rX4_countDamage : Room := { frames := 3, cells := 0, slots := 0, locals := 69 }
set_option maxHeartbeats 4000000 in
set_option maxRecDepth 100000 in
theorem kX4_countDamage (l : Launch) (D : va_G) (ad : Nat → Nat) (h : PH) (a0 : Nat)  (r : Int32) (hf : fX4_countDamage h a0  = some r) : Met l yX4_countDamage wsX4_countDamage rX4_countDamage (p_pre D ad p_tt h [.ref (ad a0)]) (p_Ri r) 0 0 p_no := by
  refine Met.ofW (cc := cX4_countDamage) (maxL := 5) (ret := (some .int)) (by decide) rfl ?_
  intro p e s m args below meth c s₁ B hml hv
  obtain ⟨hargs, hK, hQ⟩ := hv
  have hx := B.exec
  have hb := B.bytes
  have hr := B.returns
  have hts := atoms_spec (ws := wsX4_countDamage) B.pre
  have hown : s.vm.findClass RX4 = some m.cls := findClass_of_methodNamed B.named
  have hlocks := B.notSynchronized
  have hC : CallFix p m c cX4_countDamage 5 s args wsX4_countDamage RX4 := ⟨hx, hb, hml, hown, hts⟩
  have hS : va_S p_no s.heap s.heap [] := va_S.rf
  have hi4 : ∀ w ∈ u_ws RX4 TX4 22, w ∈ wsX4_countDamage := fun w hw => List.mem_cons_of_mem _ (List.mem_append_right _ hw)
  obtain ⟨ls, hls, hL⟩ := p_start (n := 5) hargs (by simp [p_cat, p_ci, p_cr, p_cn]) (Nat.le_of_ble_eq_true rfl)
  show W p l e rX4_countDamage s m args below meth c s.heap [] 0 0 (MQ below (p_Ri r) args s 0 0 p_no) (entryFrame m args 5)
  rw [hls]
  clear hls
  have hL : p_L ls 5 [(0, .ref (ad a0))] := hL
  have b71 : ∀ K : PH → Nat → Int32 → Int32 → Option (Int32), (∀ (H : Heap) (locs : List Loc) (ls : Array Slot) (h1 : PH) (a0 : Nat) (x1 : Int32) (x2 : Int32), p_Q D ad p_tt s h1 H → va_S p_no s.heap H locs → p_L ls 5 [(0, .ref (ad a0)), (1, .int x1), (2, .int x2)] → K h1 a0 x1 x2 = some r → W p l e rX4_countDamage s m args below meth c H locs 0 0 (MQ below (p_Ri r) args s 0 0 p_no) (F0 m 4 ls [])) → ∀ (H : Heap) (locs : List Loc) (ls : Array Slot) (h1 : PH) (a0 : Nat) (x2 : Int32) (sx0 : Int32) (sx1 : Int32), p_Q D ad p_tt s h1 H → va_S p_no s.heap H locs → p_L ls 5 [(0, .ref (ad a0)), (2, .int x2)] → fX4_countDamage_71 K h1 a0 x2 sx0 sx1 = some r → W p l e rX4_countDamage s m args below meth c H locs 0 0 (MQ below (p_Ri r) args s 0 0 p_no) (F0 m 71 ls [.int sx0, .int sx1]) := by
    intro K ih H locs ls h1 a0 x2 sx0 sx1 hQ hS hL hf
    rw [fX4_countDamage_71] at hf
    refine lv_iadd hx hb dX4_countDamage_71 ?_
    refine p_istore_n (lv' := [(1, .int (sx1 + sx0)), (0, .ref (ad a0)), (2, .int x2)]) hx hb dX4_countDamage_72 rfl hL (by decide) rfl (fun ls hL => ?_)
    refine p_iinc (v := (x2 + 1)) (lv' := [(2, .int (x2 + 1)), (1, .int (sx1 + sx0)), (0, .ref (ad a0))]) hx hb dX4_countDamage_73 hL (k := 2) rfl rfl (by decide) rfl (fun ls hL => ?_)
    refine lv_goto (tgt := 4) hx hb dX4_countDamage_76 (by decide) ?_
    exact ih _ _ _ h1 a0 (sx1 + sx0) (x2 + 1) hQ hS (hL.sub [2, 1, 0] rfl) hf
  have b58 : ∀ K : PH → Nat → Int32 → Int32 → Option (Int32), (∀ (H : Heap) (locs : List Loc) (ls : Array Slot) (h1 : PH) (a0 : Nat) (x1 : Int32) (x2 : Int32), p_Q D ad p_tt s h1 H → va_S p_no s.heap H locs → p_L ls 5 [(0, .ref (ad a0)), (1, .int x1), (2, .int x2)] → K h1 a0 x1 x2 = some r → W p l e rX4_countDamage s m args below meth c H locs 0 0 (MQ below (p_Ri r) args s 0 0 p_no) (F0 m 4 ls [])) → ∀ (H : Heap) (locs : List Loc) (ls : Array Slot) (h1 : PH) (a0 : Nat) (x1 : Int32) (x2 : Int32) (sx0 : Int32), p_Q D ad p_tt s h1 H → va_S p_no s.heap H locs → p_L ls 5 [(0, .ref (ad a0)), (1, .int x1), (2, .int x2)] → fX4_countDamage_58 K h1 a0 x1 x2 sx0 = some r → W p l e rX4_countDamage s m args below meth c H locs 0 0 (MQ below (p_Ri r) args s 0 0 p_no) (F0 m 58 ls [.int sx0]) := by
    intro K ih H locs ls h1 a0 x1 x2 sx0 hQ hS hL hf
    rw [fX4_countDamage_58] at hf
    refine p_istore (lv' := [(4, .int sx0), (0, .ref (ad a0)), (1, .int x1), (2, .int x2)]) hx hb dX4_countDamage_58 hL (by decide) rfl (fun ls hL => ?_)
    refine lv_iload_n hx hb dX4_countDamage_60 rfl (lv_at hL.1 2 rfl) ?_
    refine lv_iload hx hb dX4_countDamage_61 (lv_at hL.1 0 rfl) ?_
    refine lv_if_eq (tgt := 70) hx hb dX4_countDamage_63 (by decide) (fun c1 => ?_) (fun c1 => ?_)
    · rw [if_pos c1] at hf
      refine lv_iconst (v := 1) hx hb dX4_countDamage_70 (by decide) ?_
      exact b71 K ih _ _ _ h1 a0 x2 1 x1 hQ hS (hL.sub [1, 3] rfl) hf
    · rw [if_neg c1] at hf
      refine lv_iconst (v := 0) hx hb dX4_countDamage_66 (by decide) ?_
      refine lv_goto (tgt := 71) hx hb dX4_countDamage_67 (by decide) ?_
      exact b71 K ih _ _ _ h1 a0 x2 0 x1 hQ hS (hL.sub [1, 3] rfl) hf
  have b57 : ∀ K : PH → Nat → Int32 → Int32 → Option (Int32), (∀ (H : Heap) (locs : List Loc) (ls : Array Slot) (h1 : PH) (a0 : Nat) (x1 : Int32) (x2 : Int32), p_Q D ad p_tt s h1 H → va_S p_no s.heap H locs → p_L ls 5 [(0, .ref (ad a0)), (1, .int x1), (2, .int x2)] → K h1 a0 x1 x2 = some r → W p l e rX4_countDamage s m args below meth c H locs 0 0 (MQ below (p_Ri r) args s 0 0 p_no) (F0 m 4 ls [])) → ∀ (H : Heap) (locs : List Loc) (ls : Array Slot) (h1 : PH) (a0 : Nat) (x1 : Int32) (x2 : Int32), p_Q D ad p_tt s h1 H → va_S p_no s.heap H locs → p_L ls 5 [(0, .ref (ad a0)), (1, .int x1), (2, .int x2)] → fX4_countDamage_57 K h1 a0 x1 x2 = some r → W p l e rX4_countDamage s m args below meth c H locs 0 0 (MQ below (p_Ri r) args s 0 0 p_no) (F0 m 57 ls []) := by
    intro K ih H locs ls h1 a0 x1 x2 hQ hS hL hf
    rw [fX4_countDamage_57] at hf
    refine lv_iconst (v := 0) hx hb dX4_countDamage_57 (by decide) ?_
    exact b58 K ih _ _ _ h1 a0 x1 x2 0 hQ hS (hL.sub [0, 1, 2] rfl) hf
  have b53 : ∀ K : PH → Nat → Int32 → Int32 → Option (Int32), (∀ (H : Heap) (locs : List Loc) (ls : Array Slot) (h1 : PH) (a0 : Nat) (x1 : Int32) (x2 : Int32), p_Q D ad p_tt s h1 H → va_S p_no s.heap H locs → p_L ls 5 [(0, .ref (ad a0)), (1, .int x1), (2, .int x2)] → K h1 a0 x1 x2 = some r → W p l e rX4_countDamage s m args below meth c H locs 0 0 (MQ below (p_Ri r) args s 0 0 p_no) (F0 m 4 ls [])) → ∀ (H : Heap) (locs : List Loc) (ls : Array Slot) (h1 : PH) (a0 : Nat) (x1 : Int32) (x2 : Int32), p_Q D ad p_tt s h1 H → va_S p_no s.heap H locs → p_L ls 5 [(0, .ref (ad a0)), (1, .int x1), (2, .int x2)] → fX4_countDamage_53 K h1 a0 x1 x2 = some r → W p l e rX4_countDamage s m args below meth c H locs 0 0 (MQ below (p_Ri r) args s 0 0 p_no) (F0 m 53 ls []) := by
    intro K ih H locs ls h1 a0 x1 x2 hQ hS hL hf
    rw [fX4_countDamage_53] at hf
    refine lv_iconst (v := 1) hx hb dX4_countDamage_53 (by decide) ?_
    refine lv_goto (tgt := 58) hx hb dX4_countDamage_54 (by decide) ?_
    exact b58 K ih _ _ _ h1 a0 x1 x2 1 hQ hS (hL.sub [0, 1, 2] rfl) hf
  have b4 : ∀ n : Nat, ∀ (H : Heap) (locs : List Loc) (ls : Array Slot) (h1 : PH) (a0 : Nat) (x1 : Int32) (x2 : Int32), p_Q D ad p_tt s h1 H → va_S p_no s.heap H locs → p_L ls 5 [(0, .ref (ad a0)), (1, .int x1), (2, .int x2)] → fX4_countDamage_4 n h1 a0 x1 x2 = some r → W p l e rX4_countDamage s m args below meth c H locs 0 0 (MQ below (p_Ri r) args s 0 0 p_no) (F0 m 4 ls []) := by
    intro n
    induction n with
    | zero =>
      intro H locs ls h1 a0 x1 x2 hQ hS hL hf
      simp [fX4_countDamage_4] at hf
    | succ n ih =>
      intro H locs ls h1 a0 x1 x2 hQ hS hL hf
      rw [fX4_countDamage_4] at hf
      refine lv_iload_n hx hb dX4_countDamage_4 rfl (lv_at hL.1 2 rfl) ?_
      refine lv_bipush (v := 48) hx hb dX4_countDamage_5 (by decide) ?_
      refine lv_icmp_ge (tgt := 79) hx hb dX4_countDamage_7 (by decide) (fun c2 => ?_) (fun c2 => ?_)
      · rw [if_pos c2] at hf
        refine lv_iload_n hx hb dX4_countDamage_79 rfl (lv_at hL.1 1 rfl) ?_
        exact p_rRi hC hr hlocks hS hf dX4_countDamage_80
      · rw [if_neg c2] at hf
        refine lv_aload_n hx hb dX4_countDamage_10 rfl (lv_at hL.1 0 rfl) ?_
        refine lv_iload_n hx hb dX4_countDamage_11 rfl (lv_at hL.1 2 rfl) ?_
        refine lv_bipush (v := 8) hx hb dX4_countDamage_12 (by decide) ?_
        refine lv_irem hx hb dX4_countDamage_14 (by decide) ?_
        refine lv_iload_n hx hb dX4_countDamage_15 rfl (lv_at hL.1 2 rfl) ?_
        refine lv_bipush (v := 8) hx hb dX4_countDamage_16 (by decide) ?_
        refine lv_idiv hx hb dX4_countDamage_18 (by decide) ?_
        obtain ⟨u3, e4, hf⟩ := p_b hf
        obtain ⟨v5, e6, hf⟩ := p_b hf
        refine p_cRi (va_runV (As := [.int (x2 - x2 / 8 * 8), .int (x2 / 8)]) (rest := []) hC (kX4_shownAt l D ad h1 a0 (x2 - x2 / 8 * 8) (x2 / 8) v5 e6) (cwV 2 hts gX4_countDamage_X4_shownAt rfl rfl rfl (by decide +kernel) ⟨Nat.le_of_ble_eq_true rfl, Nat.le_of_ble_eq_true rfl⟩) (p_preV hK hQ.tt e4 rfl) rfl rfl hL.1.1 rfl (lv_room (Nat.le_of_ble_eq_true rfl)) dX4_countDamage_19 ⟨Nat.le_of_ble_eq_true rfl, Nat.le_of_ble_eq_true rfl⟩) hQ hS (fun H locs hQ hS => ?_)
        refine p_istore_n (lv' := [(3, .int v5), (0, .ref (ad a0)), (1, .int x1), (2, .int x2)]) hx hb dX4_countDamage_22 rfl hL (by decide) rfl (fun ls hL => ?_)
        refine lv_iload_n hx hb dX4_countDamage_23 rfl (lv_at hL.1 0 rfl) ?_
        refine lv_aload_n hx hb dX4_countDamage_24 rfl (lv_at hL.1 1 rfl) ?_
        obtain ⟨a_7, e8, hf⟩ := p_b hf
        refine p_getR hC hi4 hK hQ e8 rfl (by decide) (by decide +kernel) dX4_countDamage_25 ?_
        refine lv_iload_n hx hb dX4_countDamage_28 rfl (lv_at hL.1 3 rfl) ?_
        obtain ⟨v10, e9, hf⟩ := p_b hf
        refine p_iald hC hQ e9 dX4_countDamage_29 ?_
        refine lv_icmp_ne (tgt := 57) hx hb dX4_countDamage_30 (by decide) (fun c11 => ?_) (fun c11 => ?_)
        · rw [if_neg c11] at hf
          exact b57 (fX4_countDamage_4 n) ih _ _ _ h1 a0 x1 x2 hQ hS (hL.sub [1, 2, 3] rfl) hf
        · rw [if_pos c11] at hf
          refine lv_iload_n hx hb dX4_countDamage_33 rfl (lv_at hL.1 0 rfl) ?_
          refine lv_iconst (v := -1) hx hb dX4_countDamage_34 (by decide) ?_
          refine lv_icmp_eq (tgt := 53) hx hb dX4_countDamage_35 (by decide) (fun c12 => ?_) (fun c12 => ?_)
          · rw [if_pos c12] at hf
            exact b53 (fX4_countDamage_4 n) ih _ _ _ h1 a0 x1 x2 hQ hS (hL.sub [1, 2, 3] rfl) hf
          · rw [if_neg c12] at hf
            refine lv_aload_n hx hb dX4_countDamage_38 rfl (lv_at hL.1 1 rfl) ?_
            obtain ⟨a_13, e14, hf⟩ := p_b hf
            refine p_getR hC hi4 hK hQ e14 rfl (by decide) (by decide +kernel) dX4_countDamage_39 ?_
            refine lv_iload_n hx hb dX4_countDamage_42 rfl (lv_at hL.1 0 rfl) ?_
            obtain ⟨v16, e15, hf⟩ := p_b hf
            refine p_iald hC hQ e15 dX4_countDamage_43 ?_
            refine lv_aload_n hx hb dX4_countDamage_44 rfl (lv_at hL.1 1 rfl) ?_
            obtain ⟨a_17, e18, hf⟩ := p_b hf
            refine p_getR hC hi4 hK hQ e18 rfl (by decide) (by decide +kernel) dX4_countDamage_45 ?_
            refine lv_iload_n hx hb dX4_countDamage_48 rfl (lv_at hL.1 3 rfl) ?_
            obtain ⟨v20, e19, hf⟩ := p_b hf
            refine p_iald hC hQ e19 dX4_countDamage_49 ?_
            refine lv_icmp_ne (tgt := 57) hx hb dX4_countDamage_50 (by decide) (fun c21 => ?_) (fun c21 => ?_)
            · rw [if_neg c21] at hf
              exact b57 (fX4_countDamage_4 n) ih _ _ _ h1 a0 x1 x2 hQ hS (hL.sub [1, 2, 3] rfl) hf
            · rw [if_pos c21] at hf
              exact b53 (fX4_countDamage_4 n) ih _ _ _ h1 a0 x1 x2 hQ hS (hL.sub [1, 2, 3] rfl) hf
  rw [fX4_countDamage] at hf
  refine lv_iconst (v := 0) hx hb dX4_countDamage_0 (by decide) ?_
  refine p_istore_n (lv' := [(1, .int 0), (0, .ref (ad a0))]) hx hb dX4_countDamage_1 rfl hL (by decide) rfl (fun ls hL => ?_)
  refine lv_iconst (v := 0) hx hb dX4_countDamage_2 (by decide) ?_
  refine p_istore_n (lv' := [(2, .int 0), (1, .int 0), (0, .ref (ad a0))]) hx hb dX4_countDamage_3 rfl hL (by decide) rfl (fun ls hL => ?_)
  exact b4 64 _ _ _ h a0 0 0 hQ hS (hL.sub [2, 1, 0] rfl) hf
-- X4_show
abbrev rX4_show : Room := { frames := 4, cells := 0, slots := 0, locals := 93 }
set_option maxHeartbeats 4000000 in
set_option maxRecDepth 100000 in
theorem kX4_show (l : Launch) (D : va_G) (ad : Nat → Nat) (h : PH) (a0 : Nat)  (r : Int32 × PH) (hf : fX4_show h a0  = some r) : Met l yX4_show wsX4_show rX4_show (p_pre D ad (p_A ad h) h [.ref (ad a0)]) (p_Mi D ad (p_A ad h) r) 0 0 (p_A ad h) := by
  refine Met.ofW (cc := cX4_show) (maxL := 4) (ret := (some .int)) (by decide) rfl ?_
  intro p e s m args below meth c s₁ B hml hv
  obtain ⟨hargs, hK, hQ⟩ := hv
  have hx := B.exec
  have hb := B.bytes
  have hr := B.returns
  have hts := atoms_spec (ws := wsX4_show) B.pre
  have hown : s.vm.findClass RX4 = some m.cls := findClass_of_methodNamed B.named
  have hlocks := B.notSynchronized
  have hC : CallFix p m c cX4_show 4 s args wsX4_show RX4 := ⟨hx, hb, hml, hown, hts⟩
  have hS : va_S (p_A ad h) s.heap s.heap [] := va_S.rf
  have hi4 : ∀ w ∈ u_ws RX4 TX4 22, w ∈ wsX4_show := fun w hw => List.mem_cons_of_mem _ (List.mem_append_right _ hw)
  obtain ⟨ls, hls, hL⟩ := p_start (n := 4) hargs (by simp [p_cat, p_ci, p_cr, p_cn]) (Nat.le_of_ble_eq_true rfl)
  show W p l e rX4_show s m args below meth c s.heap [] 0 0 (MQ below (p_Mi D ad (p_A ad h) r) args s 0 0 (p_A ad h)) (entryFrame m args 4)
  rw [hls]
  clear hls
  have hL : p_L ls 4 [(0, .ref (ad a0))] := hL
  have b53 : ∀ K : PH → Nat → Int32 → Int32 → Option (Int32 × PH), (∀ (H : Heap) (locs : List Loc) (ls : Array Slot) (h1 : PH) (a0 : Nat) (x1 : Int32) (x2 : Int32), p_Q D ad (p_A ad h) s h1 H → va_S (p_A ad h) s.heap H locs → p_L ls 4 [(0, .ref (ad a0)), (1, .int x1), (2, .int x2)] → K h1 a0 x1 x2 = some r → W p l e rX4_show s m args below meth c H locs 0 0 (MQ below (p_Mi D ad (p_A ad h) r) args s 0 0 (p_A ad h)) (F0 m 7 ls [])) → ∀ (H : Heap) (locs : List Loc) (ls : Array Slot) (h1 : PH) (a0 : Nat) (x1 : Int32) (x2 : Int32) (sx0 : Int32) (sx1 : Int32) (sa2 : Nat), p_Q D ad (p_A ad h) s h1 H → va_S (p_A ad h) s.heap H locs → p_L ls 4 [(0, .ref (ad a0)), (1, .int x1), (2, .int x2)] → fX4_show_53 K h1 a0 x1 x2 sx0 sx1 sa2 = some r → W p l e rX4_show s m args below meth c H locs 0 0 (MQ below (p_Mi D ad (p_A ad h) r) args s 0 0 (p_A ad h)) (F0 m 53 ls [.int sx0, .int sx1, .ref (ad sa2)]) := by
    intro K ih H locs ls h1 a0 x1 x2 sx0 sx1 sa2 hQ hS hL hf
    rw [fX4_show_53] at hf
    obtain ⟨h_1, e2, hf⟩ := p_b hf
    refine p_iast hC hQ hS e2 dX4_show_53 (fun H locs hQ hS => ?_)
    refine p_iinc (v := (x2 + 1)) (lv' := [(2, .int (x2 + 1)), (0, .ref (ad a0)), (1, .int x1)]) hx hb dX4_show_54 hL (k := 2) rfl rfl (by decide) rfl (fun ls hL => ?_)
    refine lv_goto (tgt := 7) hx hb dX4_show_57 (by decide) ?_
    exact ih _ _ _ h_1 a0 x1 (x2 + 1) hQ hS (hL.sub [1, 2, 0] rfl) hf
  have b7 : ∀ n : Nat, ∀ (H : Heap) (locs : List Loc) (ls : Array Slot) (h1 : PH) (a0 : Nat) (x1 : Int32) (x2 : Int32), p_Q D ad (p_A ad h) s h1 H → va_S (p_A ad h) s.heap H locs → p_L ls 4 [(0, .ref (ad a0)), (1, .int x1), (2, .int x2)] → fX4_show_7 n h1 a0 x1 x2 = some r → W p l e rX4_show s m args below meth c H locs 0 0 (MQ below (p_Mi D ad (p_A ad h) r) args s 0 0 (p_A ad h)) (F0 m 7 ls []) := by
    intro n
    induction n with
    | zero =>
      intro H locs ls h1 a0 x1 x2 hQ hS hL hf
      simp [fX4_show_7] at hf
    | succ n ih =>
      intro H locs ls h1 a0 x1 x2 hQ hS hL hf
      rw [fX4_show_7] at hf
      refine lv_iload_n hx hb dX4_show_7 rfl (lv_at hL.1 2 rfl) ?_
      refine lv_bipush (v := 48) hx hb dX4_show_8 (by decide) ?_
      refine lv_icmp_ge (tgt := 60) hx hb dX4_show_10 (by decide) (fun c3 => ?_) (fun c3 => ?_)
      · rw [if_pos c3] at hf
        refine lv_aload_n hx hb dX4_show_60 rfl (lv_at hL.1 0 rfl) ?_
        refine lv_iload_n hx hb dX4_show_61 rfl (lv_at hL.1 1 rfl) ?_
        obtain ⟨u4, e5, hf⟩ := p_b hf
        obtain ⟨y6, e7, hf⟩ := p_b hf
        refine p_cMi (va_runV (As := [.int x1]) (rest := []) hC (kX4_fine l D ad h1 a0 x1 y6 e7) (cwV 1 hts gX4_show_X4_fine rfl rfl rfl (by decide +kernel) ⟨Nat.le_of_ble_eq_true rfl, Nat.le_of_ble_eq_true rfl⟩) (p_preV hK hQ.self e5 rfl) rfl rfl hL.1.1 rfl (lv_room (Nat.le_of_ble_eq_true rfl)) dX4_show_62 ⟨Nat.le_of_ble_eq_true rfl, Nat.le_of_ble_eq_true rfl⟩) hQ hS (fun H locs hQ hS => ?_)
        exact p_rMi hC hr hlocks hQ hS hf dX4_show_65
      · rw [if_neg c3] at hf
        refine lv_aload_n hx hb dX4_show_13 rfl (lv_at hL.1 0 rfl) ?_
        refine lv_iload_n hx hb dX4_show_14 rfl (lv_at hL.1 2 rfl) ?_
        refine lv_bipush (v := 8) hx hb dX4_show_15 (by decide) ?_
        refine lv_irem hx hb dX4_show_17 (by decide) ?_
        refine lv_iload_n hx hb dX4_show_18 rfl (lv_at hL.1 2 rfl) ?_
        refine lv_bipush (v := 8) hx hb dX4_show_19 (by decide) ?_
        refine lv_idiv hx hb dX4_show_21 (by decide) ?_
        obtain ⟨u8, e9, hf⟩ := p_b hf
        obtain ⟨v10, e11, hf⟩ := p_b hf
        refine p_cRi (va_runV (As := [.int (x2 - x2 / 8 * 8), .int (x2 / 8)]) (rest := []) hC (kX4_shownAt l D ad h1 a0 (x2 - x2 / 8 * 8) (x2 / 8) v10 e11) (cwV 2 hts gX4_show_X4_shownAt rfl rfl rfl (by decide +kernel) ⟨Nat.le_of_ble_eq_true rfl, Nat.le_of_ble_eq_true rfl⟩) (p_preV hK hQ.tt e9 rfl) rfl rfl hL.1.1 rfl (lv_room (Nat.le_of_ble_eq_true rfl)) dX4_show_22 ⟨Nat.le_of_ble_eq_true rfl, Nat.le_of_ble_eq_true rfl⟩) hQ hS (fun H locs hQ hS => ?_)
        refine p_istore_n (lv' := [(3, .int v10), (0, .ref (ad a0)), (1, .int x1), (2, .int x2)]) hx hb dX4_show_25 rfl hL (by decide) rfl (fun ls hL => ?_)
        refine lv_aload_n hx hb dX4_show_26 rfl (lv_at hL.1 1 rfl) ?_
        obtain ⟨a_12, e13, hf⟩ := p_b hf
        refine p_getR hC hi4 hK hQ e13 rfl (by decide) (by decide +kernel) dX4_show_27 ?_
        refine lv_iload_n hx hb dX4_show_30 rfl (lv_at hL.1 3 rfl) ?_
        refine lv_iload_n hx hb dX4_show_31 rfl (lv_at hL.1 0 rfl) ?_
        obtain ⟨h_14, e15, hf⟩ := p_b hf
        refine p_iast hC hQ hS e15 dX4_show_32 (fun H locs hQ hS => ?_)
        refine lv_aload_n hx hb dX4_show_33 rfl (lv_at hL.1 1 rfl) ?_
        obtain ⟨a_16, e17, hf⟩ := p_b hf
        refine p_getR hC hi4 hK hQ e17 rfl (by decide) (by decide +kernel) dX4_show_34 ?_
        refine lv_iload_n hx hb dX4_show_37 rfl (lv_at hL.1 3 rfl) ?_
        refine lv_iload_n hx hb dX4_show_38 rfl (lv_at hL.1 0 rfl) ?_
        refine lv_iconst (v := -1) hx hb dX4_show_39 (by decide) ?_
        refine lv_icmp_ne (tgt := 47) hx hb dX4_show_40 (by decide) (fun c18 => ?_) (fun c18 => ?_)
        · rw [if_neg c18] at hf
          refine lv_aload_n hx hb dX4_show_47 rfl (lv_at hL.1 1 rfl) ?_
          obtain ⟨a_19, e20, hf⟩ := p_b hf
          refine p_getR hC hi4 hK hQ e20 rfl (by decide) (by decide +kernel) dX4_show_48 ?_
          refine lv_iload_n hx hb dX4_show_51 rfl (lv_at hL.1 0 rfl) ?_
          obtain ⟨v22, e21, hf⟩ := p_b hf
          refine p_iald hC hQ e21 dX4_show_52 ?_
          exact b53 (fX4_show_7 n) ih _ _ _ h_14 a0 x1 x2 v22 x2 a_16 hQ hS (hL.sub [1, 2, 3] rfl) hf
        · rw [if_pos c18] at hf
          refine lv_iconst (v := 0) hx hb dX4_show_43 (by decide) ?_
          refine lv_goto (tgt := 53) hx hb dX4_show_44 (by decide) ?_
          exact b53 (fX4_show_7 n) ih _ _ _ h_14 a0 x1 x2 0 x2 a_16 hQ hS (hL.sub [1, 2, 3] rfl) hf
  rw [fX4_show] at hf
  refine lv_aload_n hx hb dX4_show_0 rfl (lv_at hL.1 0 rfl) ?_
  obtain ⟨u23, e24, hf⟩ := p_b hf
  obtain ⟨v25, e26, hf⟩ := p_b hf
  refine p_cRi (va_runV (As := []) (rest := []) hC (kX4_countDamage l D ad h a0 v25 e26) (cwV 0 hts gX4_show_X4_countDamage rfl rfl rfl (by decide +kernel) ⟨Nat.le_of_ble_eq_true rfl, Nat.le_of_ble_eq_true rfl⟩) (p_preV hK hQ.tt e24 rfl) rfl rfl hL.1.1 rfl (lv_room (Nat.le_of_ble_eq_true rfl)) dX4_show_1 ⟨Nat.le_of_ble_eq_true rfl, Nat.le_of_ble_eq_true rfl⟩) hQ hS (fun H locs hQ hS => ?_)
  refine p_istore_n (lv' := [(1, .int v25), (0, .ref (ad a0))]) hx hb dX4_show_4 rfl hL (by decide) rfl (fun ls hL => ?_)
  refine lv_iconst (v := 0) hx hb dX4_show_5 (by decide) ?_
  refine p_istore_n (lv' := [(2, .int 0), (1, .int v25), (0, .ref (ad a0))]) hx hb dX4_show_6 rfl hL (by decide) rfl (fun ls hL => ?_)
  exact b7 64 _ _ _ h a0 v25 0 hQ hS (hL.sub [2, 1, 0] rfl) hf
-- X4_tick
abbrev rX4_tick : Room := { frames := 1, cells := 0, slots := 0, locals := 21 }
set_option maxHeartbeats 4000000 in
set_option maxRecDepth 100000 in
theorem kX4_tick (l : Launch) (D : va_G) (ad : Nat → Nat) (h : PH) (a0 : Nat)  (r : Int32 × PH) (hf : fX4_tick h a0  = some r) : Met l yX4_tick wsX4_tick rX4_tick (p_pre D ad (p_A ad h) h [.ref (ad a0)]) (p_Mi D ad (p_A ad h) r) 0 0 (p_A ad h) := by
  refine Met.ofW (cc := cX4_tick) (maxL := 1) (ret := (some .int)) (by decide) rfl ?_
  intro p e s m args below meth c s₁ B hml hv
  obtain ⟨hargs, hK, hQ⟩ := hv
  have hx := B.exec
  have hb := B.bytes
  have hr := B.returns
  have hts := atoms_spec (ws := wsX4_tick) B.pre
  have hown : s.vm.findClass RX4 = some m.cls := findClass_of_methodNamed B.named
  have hlocks := B.notSynchronized
  have hC : CallFix p m c cX4_tick 1 s args wsX4_tick RX4 := ⟨hx, hb, hml, hown, hts⟩
  have hS : va_S (p_A ad h) s.heap s.heap [] := va_S.rf
  have hi4 : ∀ w ∈ u_ws RX4 TX4 22, w ∈ wsX4_tick := fun w hw => List.mem_cons_of_mem _ (List.mem_append_right _ hw)
  obtain ⟨ls, hls, hL⟩ := p_start (n := 1) hargs (by simp [p_cat, p_ci, p_cr, p_cn]) (Nat.le_of_ble_eq_true rfl)
  show W p l e rX4_tick s m args below meth c s.heap [] 0 0 (MQ below (p_Mi D ad (p_A ad h) r) args s 0 0 (p_A ad h)) (entryFrame m args 1)
  rw [hls]
  clear hls
  have hL : p_L ls 1 [(0, .ref (ad a0))] := hL
  rw [fX4_tick] at hf
  refine lv_aload_n hx hb dX4_tick_0 rfl (lv_at hL.1 0 rfl) ?_
  refine lv_aload_n hx hb dX4_tick_1 rfl (lv_at hL.1 0 rfl) ?_
  obtain ⟨v1, e2, hf⟩ := p_b hf
  refine p_getI hC hi4 hK hQ e2 rfl (by decide) (by decide +kernel) dX4_tick_2 ?_
  obtain ⟨u3, e4, hf⟩ := p_b hf
  obtain ⟨y5, e6, hf⟩ := p_b hf
  refine p_cMi (va_runV (As := [.int v1]) (rest := []) hC (kX4_fine l D ad h a0 v1 y5 e6) (cwV 1 hts gX4_tick_X4_fine rfl rfl rfl (by decide +kernel) ⟨Nat.le_of_ble_eq_true rfl, Nat.le_of_ble_eq_true rfl⟩) (p_preV hK hQ.self e4 rfl) rfl rfl hL.1.1 rfl (lv_room (Nat.le_of_ble_eq_true rfl)) dX4_tick_5 ⟨Nat.le_of_ble_eq_true rfl, Nat.le_of_ble_eq_true rfl⟩) hQ hS (fun H locs hQ hS => ?_)
  exact p_rMi hC hr hlocks hQ hS hf dX4_tick_8
-- X4_windows
abbrev rX4_windows : Room := { frames := 1, cells := 0, slots := 0, locals := 21 }
set_option maxHeartbeats 4000000 in
set_option maxRecDepth 100000 in
theorem kX4_windows (l : Launch) (D : va_G) (ad : Nat → Nat) (h : PH) (a0 : Nat)  (r : Int32 × PH) (hf : fX4_windows h a0  = some r) : Met l yX4_windows wsX4_windows rX4_windows (p_pre D ad (p_A ad h) h [.ref (ad a0)]) (p_Mi D ad (p_A ad h) r) 0 0 (p_A ad h) := by
  refine Met.ofW (cc := cX4_windows) (maxL := 1) (ret := (some .int)) (by decide) rfl ?_
  intro p e s m args below meth c s₁ B hml hv
  obtain ⟨hargs, hK, hQ⟩ := hv
  have hx := B.exec
  have hb := B.bytes
  have hr := B.returns
  have hts := atoms_spec (ws := wsX4_windows) B.pre
  have hown : s.vm.findClass RX4 = some m.cls := findClass_of_methodNamed B.named
  have hlocks := B.notSynchronized
  have hC : CallFix p m c cX4_windows 1 s args wsX4_windows RX4 := ⟨hx, hb, hml, hown, hts⟩
  have hS : va_S (p_A ad h) s.heap s.heap [] := va_S.rf
  have hi4 : ∀ w ∈ u_ws RX4 TX4 22, w ∈ wsX4_windows := fun w hw => List.mem_cons_of_mem _ (List.mem_append_right _ hw)
  obtain ⟨ls, hls, hL⟩ := p_start (n := 1) hargs (by simp [p_cat, p_ci, p_cr, p_cn]) (Nat.le_of_ble_eq_true rfl)
  show W p l e rX4_windows s m args below meth c s.heap [] 0 0 (MQ below (p_Mi D ad (p_A ad h) r) args s 0 0 (p_A ad h)) (entryFrame m args 1)
  rw [hls]
  clear hls
  have hL : p_L ls 1 [(0, .ref (ad a0))] := hL
  rw [fX4_windows] at hf
  refine lv_aload_n hx hb dX4_windows_0 rfl (lv_at hL.1 0 rfl) ?_
  refine lv_aload_n hx hb dX4_windows_1 rfl (lv_at hL.1 0 rfl) ?_
  obtain ⟨v1, e2, hf⟩ := p_b hf
  refine p_getI hC hi4 hK hQ e2 rfl (by decide) (by decide +kernel) dX4_windows_2 ?_
  obtain ⟨u3, e4, hf⟩ := p_b hf
  obtain ⟨y5, e6, hf⟩ := p_b hf
  refine p_cMi (va_runV (As := [.int v1]) (rest := []) hC (kX4_fine l D ad h a0 v1 y5 e6) (cwV 1 hts gX4_windows_X4_fine rfl rfl rfl (by decide +kernel) ⟨Nat.le_of_ble_eq_true rfl, Nat.le_of_ble_eq_true rfl⟩) (p_preV hK hQ.self e4 rfl) rfl rfl hL.1.1 rfl (lv_room (Nat.le_of_ble_eq_true rfl)) dX4_windows_5 ⟨Nat.le_of_ble_eq_true rfl, Nat.le_of_ble_eq_true rfl⟩) hQ hS (fun H locs hQ hS => ?_)
  exact p_rMi hC hr hlocks hQ hS hf dX4_windows_8
-- X4_free
abbrev rX4_free : Room := { frames := 2, cells := 0, slots := 0, locals := 43 }
set_option maxHeartbeats 4000000 in
set_option maxRecDepth 100000 in
theorem kX4_free (l : Launch) (D : va_G) (ad : Nat → Nat) (h : PH) (a0 : Nat)  (r : Int32 × PH) (hf : fX4_free h a0  = some r) : Met l yX4_free wsX4_free rX4_free (p_pre D ad (p_A ad h) h [.ref (ad a0)]) (p_Mi D ad (p_A ad h) r) 0 0 (p_A ad h) := by
  refine Met.ofW (cc := cX4_free) (maxL := 1) (ret := (some .int)) (by decide) rfl ?_
  intro p e s m args below meth c s₁ B hml hv
  obtain ⟨hargs, hK, hQ⟩ := hv
  have hx := B.exec
  have hb := B.bytes
  have hr := B.returns
  have hts := atoms_spec (ws := wsX4_free) B.pre
  have hown : s.vm.findClass RX4 = some m.cls := findClass_of_methodNamed B.named
  have hlocks := B.notSynchronized
  have hC : CallFix p m c cX4_free 1 s args wsX4_free RX4 := ⟨hx, hb, hml, hown, hts⟩
  have hS : va_S (p_A ad h) s.heap s.heap [] := va_S.rf
  have hi4 : ∀ w ∈ u_ws RX4 TX4 22, w ∈ wsX4_free := fun w hw => List.mem_cons_of_mem _ (List.mem_append_right _ hw)
  obtain ⟨ls, hls, hL⟩ := p_start (n := 1) hargs (by simp [p_cat, p_ci, p_cr, p_cn]) (Nat.le_of_ble_eq_true rfl)
  show W p l e rX4_free s m args below meth c s.heap [] 0 0 (MQ below (p_Mi D ad (p_A ad h) r) args s 0 0 (p_A ad h)) (entryFrame m args 1)
  rw [hls]
  clear hls
  have hL : p_L ls 1 [(0, .ref (ad a0))] := hL
  rw [fX4_free] at hf
  refine lv_aload_n hx hb dX4_free_0 rfl (lv_at hL.1 0 rfl) ?_
  refine lv_aload_n hx hb dX4_free_1 rfl (lv_at hL.1 0 rfl) ?_
  obtain ⟨u1, e2, hf⟩ := p_b hf
  obtain ⟨v3, e4, hf⟩ := p_b hf
  refine p_cRi (va_runV (As := []) (rest := [.ref (ad a0)]) hC (kX4_freePages l D ad h a0 v3 e4) (cwV 0 hts gX4_free_X4_freePages rfl rfl rfl (by decide +kernel) ⟨Nat.le_of_ble_eq_true rfl, Nat.le_of_ble_eq_true rfl⟩) (p_preV hK hQ.tt e2 rfl) rfl rfl hL.1.1 rfl (lv_room (Nat.le_of_ble_eq_true rfl)) dX4_free_2 ⟨Nat.le_of_ble_eq_true rfl, Nat.le_of_ble_eq_true rfl⟩) hQ hS (fun H locs hQ hS => ?_)
  obtain ⟨u5, e6, hf⟩ := p_b hf
  obtain ⟨y7, e8, hf⟩ := p_b hf
  refine p_cMi (va_runV (As := [.int v3]) (rest := []) hC (kX4_fine l D ad h a0 v3 y7 e8) (cwV 1 hts gX4_free_X4_fine rfl rfl rfl (by decide +kernel) ⟨Nat.le_of_ble_eq_true rfl, Nat.le_of_ble_eq_true rfl⟩) (p_preV hK hQ.self e6 rfl) rfl rfl hL.1.1 rfl (lv_room (Nat.le_of_ble_eq_true rfl)) dX4_free_5 ⟨Nat.le_of_ble_eq_true rfl, Nat.le_of_ble_eq_true rfl⟩) hQ hS (fun H locs hQ hS => ?_)
  exact p_rMi hC hr hlocks hQ hS hf dX4_free_8
-- X4_damage
abbrev rX4_damage : Room := { frames := 4, cells := 0, slots := 0, locals := 93 }
set_option maxHeartbeats 4000000 in
set_option maxRecDepth 100000 in
theorem kX4_damage (l : Launch) (D : va_G) (ad : Nat → Nat) (h : PH) (a0 : Nat)  (r : Int32 × PH) (hf : fX4_damage h a0  = some r) : Met l yX4_damage wsX4_damage rX4_damage (p_pre D ad (p_A ad h) h [.ref (ad a0)]) (p_Mi D ad (p_A ad h) r) 0 0 (p_A ad h) := by
  refine Met.ofW (cc := cX4_damage) (maxL := 1) (ret := (some .int)) (by decide) rfl ?_
  intro p e s m args below meth c s₁ B hml hv
  obtain ⟨hargs, hK, hQ⟩ := hv
  have hx := B.exec
  have hb := B.bytes
  have hr := B.returns
  have hts := atoms_spec (ws := wsX4_damage) B.pre
  have hown : s.vm.findClass RX4 = some m.cls := findClass_of_methodNamed B.named
  have hlocks := B.notSynchronized
  have hC : CallFix p m c cX4_damage 1 s args wsX4_damage RX4 := ⟨hx, hb, hml, hown, hts⟩
  have hS : va_S (p_A ad h) s.heap s.heap [] := va_S.rf
  have hi4 : ∀ w ∈ u_ws RX4 TX4 22, w ∈ wsX4_damage := fun w hw => List.mem_cons_of_mem _ (List.mem_append_right _ hw)
  obtain ⟨ls, hls, hL⟩ := p_start (n := 1) hargs (by simp [p_cat, p_ci, p_cr, p_cn]) (Nat.le_of_ble_eq_true rfl)
  show W p l e rX4_damage s m args below meth c s.heap [] 0 0 (MQ below (p_Mi D ad (p_A ad h) r) args s 0 0 (p_A ad h)) (entryFrame m args 1)
  rw [hls]
  clear hls
  have hL : p_L ls 1 [(0, .ref (ad a0))] := hL
  rw [fX4_damage] at hf
  refine lv_aload_n hx hb dX4_damage_0 rfl (lv_at hL.1 0 rfl) ?_
  refine lv_aload_n hx hb dX4_damage_1 rfl (lv_at hL.1 0 rfl) ?_
  obtain ⟨u1, e2, hf⟩ := p_b hf
  obtain ⟨v3, e4, hf⟩ := p_b hf
  refine p_cRi (va_runV (As := []) (rest := [.ref (ad a0)]) hC (kX4_countDamage l D ad h a0 v3 e4) (cwV 0 hts gX4_damage_X4_countDamage rfl rfl rfl (by decide +kernel) ⟨Nat.le_of_ble_eq_true rfl, Nat.le_of_ble_eq_true rfl⟩) (p_preV hK hQ.tt e2 rfl) rfl rfl hL.1.1 rfl (lv_room (Nat.le_of_ble_eq_true rfl)) dX4_damage_2 ⟨Nat.le_of_ble_eq_true rfl, Nat.le_of_ble_eq_true rfl⟩) hQ hS (fun H locs hQ hS => ?_)
  obtain ⟨u5, e6, hf⟩ := p_b hf
  obtain ⟨y7, e8, hf⟩ := p_b hf
  refine p_cMi (va_runV (As := [.int v3]) (rest := []) hC (kX4_fine l D ad h a0 v3 y7 e8) (cwV 1 hts gX4_damage_X4_fine rfl rfl rfl (by decide +kernel) ⟨Nat.le_of_ble_eq_true rfl, Nat.le_of_ble_eq_true rfl⟩) (p_preV hK hQ.self e6 rfl) rfl rfl hL.1.1 rfl (lv_room (Nat.le_of_ble_eq_true rfl)) dX4_damage_5 ⟨Nat.le_of_ble_eq_true rfl, Nat.le_of_ble_eq_true rfl⟩) hQ hS (fun H locs hQ hS => ?_)
  exact p_rMi hC hr hlocks hQ hS hf dX4_damage_8
-- X4_at
abbrev rX4_at : Room := { frames := 3, cells := 0, slots := 0, locals := 69 }
set_option maxHeartbeats 4000000 in
set_option maxRecDepth 100000 in
theorem kX4_at (l : Launch) (D : va_G) (ad : Nat → Nat) (h : PH) (a0 : Nat) (x1 : Int32) (x2 : Int32)  (r : Int32 × PH) (hf : fX4_at h a0 x1 x2  = some r) : Met l yX4_at wsX4_at rX4_at (p_pre D ad (p_A ad h) h [.ref (ad a0), .int x1, .int x2]) (p_Mi D ad (p_A ad h) r) 0 0 (p_A ad h) := by
  refine Met.ofW (cc := cX4_at) (maxL := 3) (ret := (some .int)) (by decide) rfl ?_
  intro p e s m args below meth c s₁ B hml hv
  obtain ⟨hargs, hK, hQ⟩ := hv
  have hx := B.exec
  have hb := B.bytes
  have hr := B.returns
  have hts := atoms_spec (ws := wsX4_at) B.pre
  have hown : s.vm.findClass RX4 = some m.cls := findClass_of_methodNamed B.named
  have hlocks := B.notSynchronized
  have hC : CallFix p m c cX4_at 3 s args wsX4_at RX4 := ⟨hx, hb, hml, hown, hts⟩
  have hS : va_S (p_A ad h) s.heap s.heap [] := va_S.rf
  have hi4 : ∀ w ∈ u_ws RX4 TX4 22, w ∈ wsX4_at := fun w hw => List.mem_cons_of_mem _ (List.mem_append_right _ hw)
  obtain ⟨ls, hls, hL⟩ := p_start (n := 3) hargs (by simp [p_cat, p_ci, p_cr, p_cn]) (Nat.le_of_ble_eq_true rfl)
  show W p l e rX4_at s m args below meth c s.heap [] 0 0 (MQ below (p_Mi D ad (p_A ad h) r) args s 0 0 (p_A ad h)) (entryFrame m args 3)
  rw [hls]
  clear hls
  have hL : p_L ls 3 [(0, .ref (ad a0)), (1, .int x1), (2, .int x2)] := hL
  have b19 : ∀ (H : Heap) (locs : List Loc) (ls : Array Slot) (h1 : PH) (sx0 : Int32), p_Q D ad (p_A ad h) s h1 H → va_S (p_A ad h) s.heap H locs → p_L ls 3 [] → fX4_at_19 h1 sx0 = some r → W p l e rX4_at s m args below meth c H locs 0 0 (MQ below (p_Mi D ad (p_A ad h) r) args s 0 0 (p_A ad h)) (F0 m 19 ls [.int sx0]) := by
    intro H locs ls h1 sx0 hQ hS hL hf
    rw [fX4_at_19] at hf
    exact p_rMi hC hr hlocks hQ hS hf dX4_at_19
  rw [fX4_at] at hf
  refine lv_aload_n hx hb dX4_at_0 rfl (lv_at hL.1 0 rfl) ?_
  refine lv_iload_n hx hb dX4_at_1 rfl (lv_at hL.1 1 rfl) ?_
  refine lv_iload_n hx hb dX4_at_2 rfl (lv_at hL.1 2 rfl) ?_
  obtain ⟨u1, e2, hf⟩ := p_b hf
  obtain ⟨y3, e4, hf⟩ := p_b hf
  refine p_cMi (va_runV (As := [.int x1, .int x2]) (rest := []) hC (kX4_noCell l D ad h a0 x1 x2 y3 e4) (cwV 2 hts gX4_at_X4_noCell rfl rfl rfl (by decide +kernel) ⟨Nat.le_of_ble_eq_true rfl, Nat.le_of_ble_eq_true rfl⟩) (p_preV hK hQ.self e2 rfl) rfl rfl hL.1.1 rfl (lv_room (Nat.le_of_ble_eq_true rfl)) dX4_at_3 ⟨Nat.le_of_ble_eq_true rfl, Nat.le_of_ble_eq_true rfl⟩) hQ hS (fun H locs hQ hS => ?_)
  refine lv_if_eq (tgt := 13) hx hb dX4_at_6 (by decide) (fun c5 => ?_) (fun c5 => ?_)
  · rw [if_pos c5] at hf
    refine lv_aload_n hx hb dX4_at_13 rfl (lv_at hL.1 0 rfl) ?_
    refine lv_iload_n hx hb dX4_at_14 rfl (lv_at hL.1 1 rfl) ?_
    refine lv_iload_n hx hb dX4_at_15 rfl (lv_at hL.1 2 rfl) ?_
    obtain ⟨u6, e7, hf⟩ := p_b hf
    obtain ⟨v8, e9, hf⟩ := p_b hf
    refine p_cRi (va_runV (As := [.int x1, .int x2]) (rest := []) hC (kX4_shownAt l D ad y3.2 a0 x1 x2 v8 e9) (cwV 2 hts gX4_at_X4_shownAt rfl rfl rfl (by decide +kernel) ⟨Nat.le_of_ble_eq_true rfl, Nat.le_of_ble_eq_true rfl⟩) (p_preV hK hQ.tt e7 rfl) rfl rfl hL.1.1 rfl (lv_room (Nat.le_of_ble_eq_true rfl)) dX4_at_16 ⟨Nat.le_of_ble_eq_true rfl, Nat.le_of_ble_eq_true rfl⟩) hQ hS (fun H locs hQ hS => ?_)
    exact b19 _ _ _ y3.2 v8 hQ hS (hL.sub [] rfl) hf
  · rw [if_neg c5] at hf
    refine lv_iconst (v := 0) hx hb dX4_at_9 (by decide) ?_
    refine lv_goto (tgt := 19) hx hb dX4_at_10 (by decide) ?_
    exact b19 _ _ _ y3.2 0 hQ hS (hL.sub [] rfl) hf
-- X4_placeOf
abbrev rX4_placeOf : Room := { frames := 2, cells := 0, slots := 0, locals := 43 }
set_option maxHeartbeats 4000000 in
set_option maxRecDepth 100000 in
theorem kX4_placeOf (l : Launch) (D : va_G) (ad : Nat → Nat) (h : PH) (a0 : Nat) (x1 : Int32)  (r : Int32 × PH) (hf : fX4_placeOf h a0 x1  = some r) : Met l yX4_placeOf wsX4_placeOf rX4_placeOf (p_pre D ad (p_A ad h) h [.ref (ad a0), .int x1]) (p_Mi D ad (p_A ad h) r) 0 0 (p_A ad h) := by
  refine Met.ofW (cc := cX4_placeOf) (maxL := 2) (ret := (some .int)) (by decide) rfl ?_
  intro p e s m args below meth c s₁ B hml hv
  obtain ⟨hargs, hK, hQ⟩ := hv
  have hx := B.exec
  have hb := B.bytes
  have hr := B.returns
  have hts := atoms_spec (ws := wsX4_placeOf) B.pre
  have hown : s.vm.findClass RX4 = some m.cls := findClass_of_methodNamed B.named
  have hlocks := B.notSynchronized
  have hC : CallFix p m c cX4_placeOf 2 s args wsX4_placeOf RX4 := ⟨hx, hb, hml, hown, hts⟩
  have hS : va_S (p_A ad h) s.heap s.heap [] := va_S.rf
  have hi4 : ∀ w ∈ u_ws RX4 TX4 22, w ∈ wsX4_placeOf := fun w hw => List.mem_cons_of_mem _ (List.mem_append_right _ hw)
  obtain ⟨ls, hls, hL⟩ := p_start (n := 2) hargs (by simp [p_cat, p_ci, p_cr, p_cn]) (Nat.le_of_ble_eq_true rfl)
  show W p l e rX4_placeOf s m args below meth c s.heap [] 0 0 (MQ below (p_Mi D ad (p_A ad h) r) args s 0 0 (p_A ad h)) (entryFrame m args 2)
  rw [hls]
  clear hls
  have hL : p_L ls 2 [(0, .ref (ad a0)), (1, .int x1)] := hL
  have b17 : ∀ (H : Heap) (locs : List Loc) (ls : Array Slot) (h1 : PH) (sx0 : Int32), p_Q D ad (p_A ad h) s h1 H → va_S (p_A ad h) s.heap H locs → p_L ls 2 [] → fX4_placeOf_17 h1 sx0 = some r → W p l e rX4_placeOf s m args below meth c H locs 0 0 (MQ below (p_Mi D ad (p_A ad h) r) args s 0 0 (p_A ad h)) (F0 m 17 ls [.int sx0]) := by
    intro H locs ls h1 sx0 hQ hS hL hf
    rw [fX4_placeOf_17] at hf
    exact p_rMi hC hr hlocks hQ hS hf dX4_placeOf_17
  rw [fX4_placeOf] at hf
  refine lv_aload_n hx hb dX4_placeOf_0 rfl (lv_at hL.1 0 rfl) ?_
  refine lv_iload_n hx hb dX4_placeOf_1 rfl (lv_at hL.1 1 rfl) ?_
  obtain ⟨u1, e2, hf⟩ := p_b hf
  obtain ⟨y3, e4, hf⟩ := p_b hf
  refine p_cMi (va_runV (As := [.int x1]) (rest := []) hC (kX4_noWindow l D ad h a0 x1 y3 e4) (cwV 1 hts gX4_placeOf_X4_noWindow rfl rfl rfl (by decide +kernel) ⟨Nat.le_of_ble_eq_true rfl, Nat.le_of_ble_eq_true rfl⟩) (p_preV hK hQ.self e2 rfl) rfl rfl hL.1.1 rfl (lv_room (Nat.le_of_ble_eq_true rfl)) dX4_placeOf_2 ⟨Nat.le_of_ble_eq_true rfl, Nat.le_of_ble_eq_true rfl⟩) hQ hS (fun H locs hQ hS => ?_)
  refine lv_if_eq (tgt := 12) hx hb dX4_placeOf_5 (by decide) (fun c5 => ?_) (fun c5 => ?_)
  · rw [if_pos c5] at hf
    refine lv_aload_n hx hb dX4_placeOf_12 rfl (lv_at hL.1 0 rfl) ?_
    refine lv_iload_n hx hb dX4_placeOf_13 rfl (lv_at hL.1 1 rfl) ?_
    obtain ⟨u6, e7, hf⟩ := p_b hf
    obtain ⟨v8, e9, hf⟩ := p_b hf
    refine p_cRi (va_runV (As := [.int x1]) (rest := []) hC (kX4_placeIn l D ad y3.2 a0 x1 v8 e9) (cwV 1 hts gX4_placeOf_X4_placeIn rfl rfl rfl (by decide +kernel) ⟨Nat.le_of_ble_eq_true rfl, Nat.le_of_ble_eq_true rfl⟩) (p_preV hK hQ.tt e7 rfl) rfl rfl hL.1.1 rfl (lv_room (Nat.le_of_ble_eq_true rfl)) dX4_placeOf_14 ⟨Nat.le_of_ble_eq_true rfl, Nat.le_of_ble_eq_true rfl⟩) hQ hS (fun H locs hQ hS => ?_)
    exact b17 _ _ _ y3.2 v8 hQ hS (hL.sub [] rfl) hf
  · rw [if_neg c5] at hf
    refine lv_iconst (v := 0) hx hb dX4_placeOf_8 (by decide) ?_
    refine lv_goto (tgt := 17) hx hb dX4_placeOf_9 (by decide) ?_
    exact b17 _ _ _ y3.2 0 hQ hS (hL.sub [] rfl) hf
-- X4_isSeen
abbrev rX4_isSeen : Room := { frames := 4, cells := 0, slots := 0, locals := 92 }
set_option maxHeartbeats 4000000 in
set_option maxRecDepth 100000 in
theorem kX4_isSeen (l : Launch) (D : va_G) (ad : Nat → Nat) (h : PH) (a0 : Nat) (x1 : Int32)  (r : Int32 × PH) (hf : fX4_isSeen h a0 x1  = some r) : Met l yX4_isSeen wsX4_isSeen rX4_isSeen (p_pre D ad (p_A ad h) h [.ref (ad a0), .int x1]) (p_Mi D ad (p_A ad h) r) 0 0 (p_A ad h) := by
  refine Met.ofW (cc := cX4_isSeen) (maxL := 2) (ret := (some .boolean)) (by decide) rfl ?_
  intro p e s m args below meth c s₁ B hml hv
  obtain ⟨hargs, hK, hQ⟩ := hv
  have hx := B.exec
  have hb := B.bytes
  have hr := B.returns
  have hts := atoms_spec (ws := wsX4_isSeen) B.pre
  have hown : s.vm.findClass RX4 = some m.cls := findClass_of_methodNamed B.named
  have hlocks := B.notSynchronized
  have hC : CallFix p m c cX4_isSeen 2 s args wsX4_isSeen RX4 := ⟨hx, hb, hml, hown, hts⟩
  have hS : va_S (p_A ad h) s.heap s.heap [] := va_S.rf
  have hi4 : ∀ w ∈ u_ws RX4 TX4 22, w ∈ wsX4_isSeen := fun w hw => List.mem_cons_of_mem _ (List.mem_append_right _ hw)
  obtain ⟨ls, hls, hL⟩ := p_start (n := 2) hargs (by simp [p_cat, p_ci, p_cr, p_cn]) (Nat.le_of_ble_eq_true rfl)
  show W p l e rX4_isSeen s m args below meth c s.heap [] 0 0 (MQ below (p_Mi D ad (p_A ad h) r) args s 0 0 (p_A ad h)) (entryFrame m args 2)
  rw [hls]
  clear hls
  have hL : p_L ls 2 [(0, .ref (ad a0)), (1, .int x1)] := hL
  have b21 : ∀ (H : Heap) (locs : List Loc) (ls : Array Slot) (h1 : PH) (sx0 : Int32), p_Q D ad (p_A ad h) s h1 H → va_S (p_A ad h) s.heap H locs → p_L ls 2 [] → fX4_isSeen_21 h1 sx0 = some r → W p l e rX4_isSeen s m args below meth c H locs 0 0 (MQ below (p_Mi D ad (p_A ad h) r) args s 0 0 (p_A ad h)) (F0 m 21 ls [.int sx0]) := by
    intro H locs ls h1 sx0 hQ hS hL hf
    rw [fX4_isSeen_21] at hf
    exact p_rMz hC hr hlocks hQ hS hf dX4_isSeen_21
  have b20 : ∀ (H : Heap) (locs : List Loc) (ls : Array Slot) (h1 : PH) , p_Q D ad (p_A ad h) s h1 H → va_S (p_A ad h) s.heap H locs → p_L ls 2 [] → fX4_isSeen_20 h1  = some r → W p l e rX4_isSeen s m args below meth c H locs 0 0 (MQ below (p_Mi D ad (p_A ad h) r) args s 0 0 (p_A ad h)) (F0 m 20 ls []) := by
    intro H locs ls h1  hQ hS hL hf
    rw [fX4_isSeen_20] at hf
    refine lv_iconst (v := 0) hx hb dX4_isSeen_20 (by decide) ?_
    exact b21 _ _ _ h1 0 hQ hS (hL.sub [] rfl) hf
  rw [fX4_isSeen] at hf
  refine lv_aload_n hx hb dX4_isSeen_0 rfl (lv_at hL.1 0 rfl) ?_
  refine lv_iload_n hx hb dX4_isSeen_1 rfl (lv_at hL.1 1 rfl) ?_
  obtain ⟨u1, e2, hf⟩ := p_b hf
  obtain ⟨y3, e4, hf⟩ := p_b hf
  refine p_cMi (va_runV (As := [.int x1]) (rest := []) hC (kX4_noWindow l D ad h a0 x1 y3 e4) (cwV 1 hts gX4_isSeen_X4_noWindow rfl rfl rfl (by decide +kernel) ⟨Nat.le_of_ble_eq_true rfl, Nat.le_of_ble_eq_true rfl⟩) (p_preV hK hQ.self e2 rfl) rfl rfl hL.1.1 rfl (lv_room (Nat.le_of_ble_eq_true rfl)) dX4_isSeen_2 ⟨Nat.le_of_ble_eq_true rfl, Nat.le_of_ble_eq_true rfl⟩) hQ hS (fun H locs hQ hS => ?_)
  refine lv_if_ne (tgt := 20) hx hb dX4_isSeen_5 (by decide) (fun c5 => ?_) (fun c5 => ?_)
  · rw [if_neg c5] at hf
    exact b20 _ _ _ y3.2  hQ hS (hL.sub [] rfl) hf
  · rw [if_pos c5] at hf
    refine lv_aload_n hx hb dX4_isSeen_8 rfl (lv_at hL.1 0 rfl) ?_
    refine lv_iload_n hx hb dX4_isSeen_9 rfl (lv_at hL.1 1 rfl) ?_
    obtain ⟨u6, e7, hf⟩ := p_b hf
    obtain ⟨v8, e9, hf⟩ := p_b hf
    refine p_cRi (va_runV (As := [.int x1]) (rest := []) hC (kX4_isShown l D ad y3.2 a0 x1 v8 e9) (cwV 1 hts gX4_isSeen_X4_isShown rfl rfl rfl (by decide +kernel) ⟨Nat.le_of_ble_eq_true rfl, Nat.le_of_ble_eq_true rfl⟩) (p_preV hK hQ.tt e7 rfl) rfl rfl hL.1.1 rfl (lv_room (Nat.le_of_ble_eq_true rfl)) dX4_isSeen_10 ⟨Nat.le_of_ble_eq_true rfl, Nat.le_of_ble_eq_true rfl⟩) hQ hS (fun H locs hQ hS => ?_)
    refine lv_if_eq (tgt := 20) hx hb dX4_isSeen_13 (by decide) (fun c10 => ?_) (fun c10 => ?_)
    · rw [if_pos c10] at hf
      exact b20 _ _ _ y3.2  hQ hS (hL.sub [] rfl) hf
    · rw [if_neg c10] at hf
      refine lv_iconst (v := 1) hx hb dX4_isSeen_16 (by decide) ?_
      refine lv_goto (tgt := 21) hx hb dX4_isSeen_17 (by decide) ?_
      exact b21 _ _ _ y3.2 1 hQ hS (hL.sub [] rfl) hf
-- X4_pagesOf
abbrev rX4_pagesOf : Room := { frames := 2, cells := 0, slots := 0, locals := 43 }
set_option maxHeartbeats 4000000 in
set_option maxRecDepth 100000 in
theorem kX4_pagesOf (l : Launch) (D : va_G) (ad : Nat → Nat) (h : PH) (a0 : Nat) (x1 : Int32)  (r : Int32 × PH) (hf : fX4_pagesOf h a0 x1  = some r) : Met l yX4_pagesOf wsX4_pagesOf rX4_pagesOf (p_pre D ad (p_A ad h) h [.ref (ad a0), .int x1]) (p_Mi D ad (p_A ad h) r) 0 0 (p_A ad h) := by
  refine Met.ofW (cc := cX4_pagesOf) (maxL := 2) (ret := (some .int)) (by decide) rfl ?_
  intro p e s m args below meth c s₁ B hml hv
  obtain ⟨hargs, hK, hQ⟩ := hv
  have hx := B.exec
  have hb := B.bytes
  have hr := B.returns
  have hts := atoms_spec (ws := wsX4_pagesOf) B.pre
  have hown : s.vm.findClass RX4 = some m.cls := findClass_of_methodNamed B.named
  have hlocks := B.notSynchronized
  have hC : CallFix p m c cX4_pagesOf 2 s args wsX4_pagesOf RX4 := ⟨hx, hb, hml, hown, hts⟩
  have hS : va_S (p_A ad h) s.heap s.heap [] := va_S.rf
  have hi4 : ∀ w ∈ u_ws RX4 TX4 22, w ∈ wsX4_pagesOf := fun w hw => List.mem_cons_of_mem _ (List.mem_append_right _ hw)
  obtain ⟨ls, hls, hL⟩ := p_start (n := 2) hargs (by simp [p_cat, p_ci, p_cr, p_cn]) (Nat.le_of_ble_eq_true rfl)
  show W p l e rX4_pagesOf s m args below meth c s.heap [] 0 0 (MQ below (p_Mi D ad (p_A ad h) r) args s 0 0 (p_A ad h)) (entryFrame m args 2)
  rw [hls]
  clear hls
  have hL : p_L ls 2 [(0, .ref (ad a0)), (1, .int x1)] := hL
  have b26 : ∀ (H : Heap) (locs : List Loc) (ls : Array Slot) (h1 : PH) (sx0 : Int32), p_Q D ad (p_A ad h) s h1 H → va_S (p_A ad h) s.heap H locs → p_L ls 2 [] → fX4_pagesOf_26 h1 sx0 = some r → W p l e rX4_pagesOf s m args below meth c H locs 0 0 (MQ below (p_Mi D ad (p_A ad h) r) args s 0 0 (p_A ad h)) (F0 m 26 ls [.int sx0]) := by
    intro H locs ls h1 sx0 hQ hS hL hf
    rw [fX4_pagesOf_26] at hf
    exact p_rMi hC hr hlocks hQ hS hf dX4_pagesOf_26
  have b17 : ∀ (H : Heap) (locs : List Loc) (ls : Array Slot) (h1 : PH) , p_Q D ad (p_A ad h) s h1 H → va_S (p_A ad h) s.heap H locs → p_L ls 2 [] → fX4_pagesOf_17 h1  = some r → W p l e rX4_pagesOf s m args below meth c H locs 0 0 (MQ below (p_Mi D ad (p_A ad h) r) args s 0 0 (p_A ad h)) (F0 m 17 ls []) := by
    intro H locs ls h1  hQ hS hL hf
    rw [fX4_pagesOf_17] at hf
    refine lv_iconst (v := 0) hx hb dX4_pagesOf_17 (by decide) ?_
    refine lv_goto (tgt := 26) hx hb dX4_pagesOf_18 (by decide) ?_
    exact b26 _ _ _ h1 0 hQ hS (hL.sub [] rfl) hf
  rw [fX4_pagesOf] at hf
  refine lv_aload_n hx hb dX4_pagesOf_0 rfl (lv_at hL.1 0 rfl) ?_
  refine lv_iload_n hx hb dX4_pagesOf_1 rfl (lv_at hL.1 1 rfl) ?_
  obtain ⟨u1, e2, hf⟩ := p_b hf
  obtain ⟨y3, e4, hf⟩ := p_b hf
  refine p_cMi (va_runV (As := [.int x1]) (rest := []) hC (kX4_noWindow l D ad h a0 x1 y3 e4) (cwV 1 hts gX4_pagesOf_X4_noWindow rfl rfl rfl (by decide +kernel) ⟨Nat.le_of_ble_eq_true rfl, Nat.le_of_ble_eq_true rfl⟩) (p_preV hK hQ.self e2 rfl) rfl rfl hL.1.1 rfl (lv_room (Nat.le_of_ble_eq_true rfl)) dX4_pagesOf_2 ⟨Nat.le_of_ble_eq_true rfl, Nat.le_of_ble_eq_true rfl⟩) hQ hS (fun H locs hQ hS => ?_)
  refine lv_if_ne (tgt := 17) hx hb dX4_pagesOf_5 (by decide) (fun c5 => ?_) (fun c5 => ?_)
  · rw [if_neg c5] at hf
    exact b17 _ _ _ y3.2  hQ hS (hL.sub [] rfl) hf
  · rw [if_pos c5] at hf
    refine lv_aload_n hx hb dX4_pagesOf_8 rfl (lv_at hL.1 0 rfl) ?_
    obtain ⟨a_6, e7, hf⟩ := p_b hf
    refine p_getR hC hi4 hK hQ e7 rfl (by decide) (by decide +kernel) dX4_pagesOf_9 ?_
    refine lv_iload_n hx hb dX4_pagesOf_12 rfl (lv_at hL.1 1 rfl) ?_
    obtain ⟨v9, e8, hf⟩ := p_b hf
    refine p_zald hC hQ e8 dX4_pagesOf_13 ?_
    refine lv_if_ne (tgt := 21) hx hb dX4_pagesOf_14 (by decide) (fun c10 => ?_) (fun c10 => ?_)
    · rw [if_neg c10] at hf
      refine lv_aload_n hx hb dX4_pagesOf_21 rfl (lv_at hL.1 0 rfl) ?_
      refine lv_iload_n hx hb dX4_pagesOf_22 rfl (lv_at hL.1 1 rfl) ?_
      obtain ⟨u11, e12, hf⟩ := p_b hf
      obtain ⟨v13, e14, hf⟩ := p_b hf
      refine p_cRi (va_runV (As := [.int x1]) (rest := []) hC (kX4_need l D ad y3.2 a0 x1 v13 e14) (cwV 1 hts gX4_pagesOf_X4_need rfl rfl rfl (by decide +kernel) ⟨Nat.le_of_ble_eq_true rfl, Nat.le_of_ble_eq_true rfl⟩) (p_preV hK hQ.tt e12 rfl) rfl rfl hL.1.1 rfl (lv_room (Nat.le_of_ble_eq_true rfl)) dX4_pagesOf_23 ⟨Nat.le_of_ble_eq_true rfl, Nat.le_of_ble_eq_true rfl⟩) hQ hS (fun H locs hQ hS => ?_)
      exact b26 _ _ _ y3.2 v13 hQ hS (hL.sub [] rfl) hf
    · rw [if_pos c10] at hf
      exact b17 _ _ _ y3.2  hQ hS (hL.sub [] rfl) hf
-- X4_picture
abbrev rX4_picture : Room := { frames := 2, cells := 0, slots := 0, locals := 43 }
set_option maxHeartbeats 4000000 in
set_option maxRecDepth 100000 in
theorem kX4_picture (l : Launch) (D : va_G) (ad : Nat → Nat) (h : PH) (a0 : Nat) (x1 : Int32)  (r : Int32 × PH) (hf : fX4_picture h a0 x1  = some r) : Met l yX4_picture wsX4_picture rX4_picture (p_pre D ad (p_A ad h) h [.ref (ad a0), .int x1]) (p_Mi D ad (p_A ad h) r) 0 0 (p_A ad h) := by
  refine Met.ofW (cc := cX4_picture) (maxL := 2) (ret := (some .int)) (by decide) rfl ?_
  intro p e s m args below meth c s₁ B hml hv
  obtain ⟨hargs, hK, hQ⟩ := hv
  have hx := B.exec
  have hb := B.bytes
  have hr := B.returns
  have hts := atoms_spec (ws := wsX4_picture) B.pre
  have hown : s.vm.findClass RX4 = some m.cls := findClass_of_methodNamed B.named
  have hlocks := B.notSynchronized
  have hC : CallFix p m c cX4_picture 2 s args wsX4_picture RX4 := ⟨hx, hb, hml, hown, hts⟩
  have hS : va_S (p_A ad h) s.heap s.heap [] := va_S.rf
  have hi4 : ∀ w ∈ u_ws RX4 TX4 22, w ∈ wsX4_picture := fun w hw => List.mem_cons_of_mem _ (List.mem_append_right _ hw)
  obtain ⟨ls, hls, hL⟩ := p_start (n := 2) hargs (by simp [p_cat, p_ci, p_cr, p_cn]) (Nat.le_of_ble_eq_true rfl)
  show W p l e rX4_picture s m args below meth c s.heap [] 0 0 (MQ below (p_Mi D ad (p_A ad h) r) args s 0 0 (p_A ad h)) (entryFrame m args 2)
  rw [hls]
  clear hls
  have hL : p_L ls 2 [(0, .ref (ad a0)), (1, .int x1)] := hL
  have b18 : ∀ (H : Heap) (locs : List Loc) (ls : Array Slot) (h1 : PH) (sx0 : Int32), p_Q D ad (p_A ad h) s h1 H → va_S (p_A ad h) s.heap H locs → p_L ls 2 [] → fX4_picture_18 h1 sx0 = some r → W p l e rX4_picture s m args below meth c H locs 0 0 (MQ below (p_Mi D ad (p_A ad h) r) args s 0 0 (p_A ad h)) (F0 m 18 ls [.int sx0]) := by
    intro H locs ls h1 sx0 hQ hS hL hf
    rw [fX4_picture_18] at hf
    exact p_rMi hC hr hlocks hQ hS hf dX4_picture_18
  rw [fX4_picture] at hf
  refine lv_aload_n hx hb dX4_picture_0 rfl (lv_at hL.1 0 rfl) ?_
  refine lv_iload_n hx hb dX4_picture_1 rfl (lv_at hL.1 1 rfl) ?_
  obtain ⟨u1, e2, hf⟩ := p_b hf
  obtain ⟨y3, e4, hf⟩ := p_b hf
  refine p_cMi (va_runV (As := [.int x1]) (rest := []) hC (kX4_noWindow l D ad h a0 x1 y3 e4) (cwV 1 hts gX4_picture_X4_noWindow rfl rfl rfl (by decide +kernel) ⟨Nat.le_of_ble_eq_true rfl, Nat.le_of_ble_eq_true rfl⟩) (p_preV hK hQ.self e2 rfl) rfl rfl hL.1.1 rfl (lv_room (Nat.le_of_ble_eq_true rfl)) dX4_picture_2 ⟨Nat.le_of_ble_eq_true rfl, Nat.le_of_ble_eq_true rfl⟩) hQ hS (fun H locs hQ hS => ?_)
  refine lv_if_eq (tgt := 12) hx hb dX4_picture_5 (by decide) (fun c5 => ?_) (fun c5 => ?_)
  · rw [if_pos c5] at hf
    refine lv_aload_n hx hb dX4_picture_12 rfl (lv_at hL.1 0 rfl) ?_
    obtain ⟨a_6, e7, hf⟩ := p_b hf
    refine p_getR hC hi4 hK hQ e7 rfl (by decide) (by decide +kernel) dX4_picture_13 ?_
    refine lv_iload_n hx hb dX4_picture_16 rfl (lv_at hL.1 1 rfl) ?_
    obtain ⟨v9, e8, hf⟩ := p_b hf
    refine p_iald hC hQ e8 dX4_picture_17 ?_
    exact b18 _ _ _ y3.2 v9 hQ hS (hL.sub [] rfl) hf
  · rw [if_neg c5] at hf
    refine lv_iconst (v := 0) hx hb dX4_picture_8 (by decide) ?_
    refine lv_goto (tgt := 18) hx hb dX4_picture_9 (by decide) ?_
    exact b18 _ _ _ y3.2 0 hQ hS (hL.sub [] rfl) hf
-- X4_pace
abbrev rX4_pace : Room := { frames := 2, cells := 0, slots := 0, locals := 43 }
set_option maxHeartbeats 4000000 in
set_option maxRecDepth 100000 in
theorem kX4_pace (l : Launch) (D : va_G) (ad : Nat → Nat) (h : PH) (a0 : Nat) (x1 : Int32)  (r : Int32 × PH) (hf : fX4_pace h a0 x1  = some r) : Met l yX4_pace wsX4_pace rX4_pace (p_pre D ad (p_A ad h) h [.ref (ad a0), .int x1]) (p_Mi D ad (p_A ad h) r) 0 0 (p_A ad h) := by
  refine Met.ofW (cc := cX4_pace) (maxL := 2) (ret := (some .int)) (by decide) rfl ?_
  intro p e s m args below meth c s₁ B hml hv
  obtain ⟨hargs, hK, hQ⟩ := hv
  have hx := B.exec
  have hb := B.bytes
  have hr := B.returns
  have hts := atoms_spec (ws := wsX4_pace) B.pre
  have hown : s.vm.findClass RX4 = some m.cls := findClass_of_methodNamed B.named
  have hlocks := B.notSynchronized
  have hC : CallFix p m c cX4_pace 2 s args wsX4_pace RX4 := ⟨hx, hb, hml, hown, hts⟩
  have hS : va_S (p_A ad h) s.heap s.heap [] := va_S.rf
  have hi4 : ∀ w ∈ u_ws RX4 TX4 22, w ∈ wsX4_pace := fun w hw => List.mem_cons_of_mem _ (List.mem_append_right _ hw)
  obtain ⟨ls, hls, hL⟩ := p_start (n := 2) hargs (by simp [p_cat, p_ci, p_cr, p_cn]) (Nat.le_of_ble_eq_true rfl)
  show W p l e rX4_pace s m args below meth c s.heap [] 0 0 (MQ below (p_Mi D ad (p_A ad h) r) args s 0 0 (p_A ad h)) (entryFrame m args 2)
  rw [hls]
  clear hls
  have hL : p_L ls 2 [(0, .ref (ad a0)), (1, .int x1)] := hL
  have b18 : ∀ (H : Heap) (locs : List Loc) (ls : Array Slot) (h1 : PH) (sx0 : Int32), p_Q D ad (p_A ad h) s h1 H → va_S (p_A ad h) s.heap H locs → p_L ls 2 [] → fX4_pace_18 h1 sx0 = some r → W p l e rX4_pace s m args below meth c H locs 0 0 (MQ below (p_Mi D ad (p_A ad h) r) args s 0 0 (p_A ad h)) (F0 m 18 ls [.int sx0]) := by
    intro H locs ls h1 sx0 hQ hS hL hf
    rw [fX4_pace_18] at hf
    exact p_rMi hC hr hlocks hQ hS hf dX4_pace_18
  rw [fX4_pace] at hf
  refine lv_aload_n hx hb dX4_pace_0 rfl (lv_at hL.1 0 rfl) ?_
  refine lv_iload_n hx hb dX4_pace_1 rfl (lv_at hL.1 1 rfl) ?_
  obtain ⟨u1, e2, hf⟩ := p_b hf
  obtain ⟨y3, e4, hf⟩ := p_b hf
  refine p_cMi (va_runV (As := [.int x1]) (rest := []) hC (kX4_noWindow l D ad h a0 x1 y3 e4) (cwV 1 hts gX4_pace_X4_noWindow rfl rfl rfl (by decide +kernel) ⟨Nat.le_of_ble_eq_true rfl, Nat.le_of_ble_eq_true rfl⟩) (p_preV hK hQ.self e2 rfl) rfl rfl hL.1.1 rfl (lv_room (Nat.le_of_ble_eq_true rfl)) dX4_pace_2 ⟨Nat.le_of_ble_eq_true rfl, Nat.le_of_ble_eq_true rfl⟩) hQ hS (fun H locs hQ hS => ?_)
  refine lv_if_eq (tgt := 12) hx hb dX4_pace_5 (by decide) (fun c5 => ?_) (fun c5 => ?_)
  · rw [if_pos c5] at hf
    refine lv_aload_n hx hb dX4_pace_12 rfl (lv_at hL.1 0 rfl) ?_
    obtain ⟨a_6, e7, hf⟩ := p_b hf
    refine p_getR hC hi4 hK hQ e7 rfl (by decide) (by decide +kernel) dX4_pace_13 ?_
    refine lv_iload_n hx hb dX4_pace_16 rfl (lv_at hL.1 1 rfl) ?_
    obtain ⟨v9, e8, hf⟩ := p_b hf
    refine p_iald hC hQ e8 dX4_pace_17 ?_
    exact b18 _ _ _ y3.2 v9 hQ hS (hL.sub [] rfl) hf
  · rw [if_neg c5] at hf
    refine lv_iconst (v := 0) hx hb dX4_pace_8 (by decide) ?_
    refine lv_goto (tgt := 18) hx hb dX4_pace_9 (by decide) ?_
    exact b18 _ _ _ y3.2 0 hQ hS (hL.sub [] rfl) hf
-- X4_misses
abbrev rX4_misses : Room := { frames := 2, cells := 0, slots := 0, locals := 43 }
set_option maxHeartbeats 4000000 in
set_option maxRecDepth 100000 in
theorem kX4_misses (l : Launch) (D : va_G) (ad : Nat → Nat) (h : PH) (a0 : Nat) (x1 : Int32)  (r : Int32 × PH) (hf : fX4_misses h a0 x1  = some r) : Met l yX4_misses wsX4_misses rX4_misses (p_pre D ad (p_A ad h) h [.ref (ad a0), .int x1]) (p_Mi D ad (p_A ad h) r) 0 0 (p_A ad h) := by
  refine Met.ofW (cc := cX4_misses) (maxL := 2) (ret := (some .int)) (by decide) rfl ?_
  intro p e s m args below meth c s₁ B hml hv
  obtain ⟨hargs, hK, hQ⟩ := hv
  have hx := B.exec
  have hb := B.bytes
  have hr := B.returns
  have hts := atoms_spec (ws := wsX4_misses) B.pre
  have hown : s.vm.findClass RX4 = some m.cls := findClass_of_methodNamed B.named
  have hlocks := B.notSynchronized
  have hC : CallFix p m c cX4_misses 2 s args wsX4_misses RX4 := ⟨hx, hb, hml, hown, hts⟩
  have hS : va_S (p_A ad h) s.heap s.heap [] := va_S.rf
  have hi4 : ∀ w ∈ u_ws RX4 TX4 22, w ∈ wsX4_misses := fun w hw => List.mem_cons_of_mem _ (List.mem_append_right _ hw)
  obtain ⟨ls, hls, hL⟩ := p_start (n := 2) hargs (by simp [p_cat, p_ci, p_cr, p_cn]) (Nat.le_of_ble_eq_true rfl)
  show W p l e rX4_misses s m args below meth c s.heap [] 0 0 (MQ below (p_Mi D ad (p_A ad h) r) args s 0 0 (p_A ad h)) (entryFrame m args 2)
  rw [hls]
  clear hls
  have hL : p_L ls 2 [(0, .ref (ad a0)), (1, .int x1)] := hL
  have b18 : ∀ (H : Heap) (locs : List Loc) (ls : Array Slot) (h1 : PH) (sx0 : Int32), p_Q D ad (p_A ad h) s h1 H → va_S (p_A ad h) s.heap H locs → p_L ls 2 [] → fX4_misses_18 h1 sx0 = some r → W p l e rX4_misses s m args below meth c H locs 0 0 (MQ below (p_Mi D ad (p_A ad h) r) args s 0 0 (p_A ad h)) (F0 m 18 ls [.int sx0]) := by
    intro H locs ls h1 sx0 hQ hS hL hf
    rw [fX4_misses_18] at hf
    exact p_rMi hC hr hlocks hQ hS hf dX4_misses_18
  rw [fX4_misses] at hf
  refine lv_aload_n hx hb dX4_misses_0 rfl (lv_at hL.1 0 rfl) ?_
  refine lv_iload_n hx hb dX4_misses_1 rfl (lv_at hL.1 1 rfl) ?_
  obtain ⟨u1, e2, hf⟩ := p_b hf
  obtain ⟨y3, e4, hf⟩ := p_b hf
  refine p_cMi (va_runV (As := [.int x1]) (rest := []) hC (kX4_noWindow l D ad h a0 x1 y3 e4) (cwV 1 hts gX4_misses_X4_noWindow rfl rfl rfl (by decide +kernel) ⟨Nat.le_of_ble_eq_true rfl, Nat.le_of_ble_eq_true rfl⟩) (p_preV hK hQ.self e2 rfl) rfl rfl hL.1.1 rfl (lv_room (Nat.le_of_ble_eq_true rfl)) dX4_misses_2 ⟨Nat.le_of_ble_eq_true rfl, Nat.le_of_ble_eq_true rfl⟩) hQ hS (fun H locs hQ hS => ?_)
  refine lv_if_eq (tgt := 12) hx hb dX4_misses_5 (by decide) (fun c5 => ?_) (fun c5 => ?_)
  · rw [if_pos c5] at hf
    refine lv_aload_n hx hb dX4_misses_12 rfl (lv_at hL.1 0 rfl) ?_
    obtain ⟨a_6, e7, hf⟩ := p_b hf
    refine p_getR hC hi4 hK hQ e7 rfl (by decide) (by decide +kernel) dX4_misses_13 ?_
    refine lv_iload_n hx hb dX4_misses_16 rfl (lv_at hL.1 1 rfl) ?_
    obtain ⟨v9, e8, hf⟩ := p_b hf
    refine p_iald hC hQ e8 dX4_misses_17 ?_
    exact b18 _ _ _ y3.2 v9 hQ hS (hL.sub [] rfl) hf
  · rw [if_neg c5] at hf
    refine lv_iconst (v := 0) hx hb dX4_misses_8 (by decide) ?_
    refine lv_goto (tgt := 18) hx hb dX4_misses_9 (by decide) ?_
    exact b18 _ _ _ y3.2 0 hQ hS (hL.sub [] rfl) hf
-- X4_deadline
abbrev rX4_deadline : Room := { frames := 2, cells := 0, slots := 0, locals := 43 }
set_option maxHeartbeats 4000000 in
set_option maxRecDepth 100000 in
theorem kX4_deadline (l : Launch) (D : va_G) (ad : Nat → Nat) (h : PH) (a0 : Nat) (x1 : Int32)  (r : Int32 × PH) (hf : fX4_deadline h a0 x1  = some r) : Met l yX4_deadline wsX4_deadline rX4_deadline (p_pre D ad (p_A ad h) h [.ref (ad a0), .int x1]) (p_Mi D ad (p_A ad h) r) 0 0 (p_A ad h) := by
  refine Met.ofW (cc := cX4_deadline) (maxL := 2) (ret := (some .int)) (by decide) rfl ?_
  intro p e s m args below meth c s₁ B hml hv
  obtain ⟨hargs, hK, hQ⟩ := hv
  have hx := B.exec
  have hb := B.bytes
  have hr := B.returns
  have hts := atoms_spec (ws := wsX4_deadline) B.pre
  have hown : s.vm.findClass RX4 = some m.cls := findClass_of_methodNamed B.named
  have hlocks := B.notSynchronized
  have hC : CallFix p m c cX4_deadline 2 s args wsX4_deadline RX4 := ⟨hx, hb, hml, hown, hts⟩
  have hS : va_S (p_A ad h) s.heap s.heap [] := va_S.rf
  have hi4 : ∀ w ∈ u_ws RX4 TX4 22, w ∈ wsX4_deadline := fun w hw => List.mem_cons_of_mem _ (List.mem_append_right _ hw)
  obtain ⟨ls, hls, hL⟩ := p_start (n := 2) hargs (by simp [p_cat, p_ci, p_cr, p_cn]) (Nat.le_of_ble_eq_true rfl)
  show W p l e rX4_deadline s m args below meth c s.heap [] 0 0 (MQ below (p_Mi D ad (p_A ad h) r) args s 0 0 (p_A ad h)) (entryFrame m args 2)
  rw [hls]
  clear hls
  have hL : p_L ls 2 [(0, .ref (ad a0)), (1, .int x1)] := hL
  have b18 : ∀ (H : Heap) (locs : List Loc) (ls : Array Slot) (h1 : PH) (sx0 : Int32), p_Q D ad (p_A ad h) s h1 H → va_S (p_A ad h) s.heap H locs → p_L ls 2 [] → fX4_deadline_18 h1 sx0 = some r → W p l e rX4_deadline s m args below meth c H locs 0 0 (MQ below (p_Mi D ad (p_A ad h) r) args s 0 0 (p_A ad h)) (F0 m 18 ls [.int sx0]) := by
    intro H locs ls h1 sx0 hQ hS hL hf
    rw [fX4_deadline_18] at hf
    exact p_rMi hC hr hlocks hQ hS hf dX4_deadline_18
  rw [fX4_deadline] at hf
  refine lv_aload_n hx hb dX4_deadline_0 rfl (lv_at hL.1 0 rfl) ?_
  refine lv_iload_n hx hb dX4_deadline_1 rfl (lv_at hL.1 1 rfl) ?_
  obtain ⟨u1, e2, hf⟩ := p_b hf
  obtain ⟨y3, e4, hf⟩ := p_b hf
  refine p_cMi (va_runV (As := [.int x1]) (rest := []) hC (kX4_noWindow l D ad h a0 x1 y3 e4) (cwV 1 hts gX4_deadline_X4_noWindow rfl rfl rfl (by decide +kernel) ⟨Nat.le_of_ble_eq_true rfl, Nat.le_of_ble_eq_true rfl⟩) (p_preV hK hQ.self e2 rfl) rfl rfl hL.1.1 rfl (lv_room (Nat.le_of_ble_eq_true rfl)) dX4_deadline_2 ⟨Nat.le_of_ble_eq_true rfl, Nat.le_of_ble_eq_true rfl⟩) hQ hS (fun H locs hQ hS => ?_)
  refine lv_if_eq (tgt := 12) hx hb dX4_deadline_5 (by decide) (fun c5 => ?_) (fun c5 => ?_)
  · rw [if_pos c5] at hf
    refine lv_aload_n hx hb dX4_deadline_12 rfl (lv_at hL.1 0 rfl) ?_
    obtain ⟨a_6, e7, hf⟩ := p_b hf
    refine p_getR hC hi4 hK hQ e7 rfl (by decide) (by decide +kernel) dX4_deadline_13 ?_
    refine lv_iload_n hx hb dX4_deadline_16 rfl (lv_at hL.1 1 rfl) ?_
    obtain ⟨v9, e8, hf⟩ := p_b hf
    refine p_iald hC hQ e8 dX4_deadline_17 ?_
    exact b18 _ _ _ y3.2 v9 hQ hS (hL.sub [] rfl) hf
  · rw [if_neg c5] at hf
    refine lv_iconst (v := 0) hx hb dX4_deadline_8 (by decide) ?_
    refine lv_goto (tgt := 18) hx hb dX4_deadline_9 (by decide) ?_
    exact b18 _ _ _ y3.2 0 hQ hS (hL.sub [] rfl) hf
