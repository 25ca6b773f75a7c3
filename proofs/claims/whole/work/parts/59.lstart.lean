/-! THE LAW, from its entry; the owed statement's head and what stands behind it began as the kit's skeleton -/
theorem lb_r4 : ∀ y, Value.ref y ∉ mFp 0 := by
  intro y hy
  unfold mFp at hy
  obtain ⟨a, -, h⟩ := List.mem_map.mp hy
  by_cases h4 : a < 4
  · rw [if_pos h4] at h; cases h
  · rw [if_neg h4, if_neg (by omega)] at h; cases h
set_option maxHeartbeats 4000000 in
set_option maxRecDepth 100000 in
/-- YOUR PART: from the entry, for every script of at most 4096 ints, the law comes to its end with true -/
theorem whole_start {p : Program} {e : Env} {s : State} {m : MethodId} {below : List Frame} {meth : Method} {c : Code} (l : Launch) (hflags : l.flags = flags0) {b L : Nat} {xs : Nat → Int32} (hL : L ≤ 4096) (C0 : lw_At p s m meth c b L xs) : W p l e room_1 s m #[Value.ref b] below meth c s.heap [] 0 0 (lw_Z below #[Value.ref b] s) (entryFrame m ([Value.ref b] : List Value).toArray 7) := by
  obtain ⟨hx, hb, hr, hml, hown, hts0, hX, hbl, hlocks, hgv⟩ := C0
  have hts : ∀ w ∈ wsL_law, w.before #[Value.ref b] s = true := fun w hw => hts0 w (wsL_law_in w hw)
  have hl9 : l.stackTraces = false := by unfold Launch.stackTraces; rw [hflags]; decide
  obtain ⟨D, hK⟩ := lb_K0 hts0
  have hCF : CallFix p m c cL_law 7 s #[Value.ref b] wsL_law RL := ⟨hx, hb, hml, hown, hts⟩
  have S : lb_S p l s m meth c D b L xs := ⟨hCF, hl9, hK, lb_E0 hts0 hgv, lb_ca0 hts0 hgv, hX, hbl, ⟨hr, hlocks⟩, hL⟩
  have hA : ∀ q : Nat, s.heap.size ≤ q → lb_B s q := fun _ h => h
  have hover : va_AO RX1 s := va_AO.of (hts0 _ lb_ao)
  have hS : va_S (lb_B s) s.heap s.heap [] := va_S.rf
  have hl := lv_entry ([.ref b]) (n := 7) (Nat.le_of_ble_eq_true rfl)
  rw [lg_entry_eq]
  generalize (lg_sl ([.ref b]) ++ List.replicate (7 - (lg_sl ([.ref b])).length) Slot.unset).toArray = ls at hl ⊢
  have hl : lv_has ls 7 [(0, .ref b)] := hl
  -- new FrameBroker()
  refine lb_new (ci := 3) (fs := [.null, .null, .null, .null, .null, .int 0, .int 0, .int 0]) (C := RX3) (T := TX3) (N := 8) hx hb hown hts0 inX3 tyX3_ok hK hS hA rfl (fun j hj => by rcases (show j = 0 ∨ j = 1 ∨ j = 2 ∨ j = 3 ∨ j = 4 ∨ j = 5 ∨ j = 6 ∨ j = 7 by omega) with rfl | rfl | rfl | rfl | rfl | rfl | rfl | rfl <;> rfl) (fun _ => rfl) (fun y hy => by simp at hy) (hts0 _ lb_k3) (hts0 _ lb_i3) (hts0 _ lb_n3) (Nat.le_of_ble_eq_true rfl) (Nat.le_of_ble_eq_true rfl) dL_law_0 (fun a1 H1 ha1 ho1 hQ1 hS1 => ?_)
  rw [lb_h3] at hQ1
  refine lv_dup hx hb dL_law_3 rfl ?_
  refine va_callv (va_runI (As := []) (rest := [.ref (a1 0)]) hCF (kX3_init l D a1 H1.size _ 0 1 2 3 4 5 6 7 _ cInit) (cwI 0 hts gL_law_X3_init rfl rfl rfl (hts0 _ lb_n3) (hts0 _ lb_m3) (hts0 _ lb_s3) rfl (by decide +kernel) ⟨Nat.le_of_ble_eq_true rfl, Nat.le_of_ble_eq_true rfl⟩) (p_preSN hK hQ1 hover rfl) rfl rfl hl.1 rfl (lv_room (Nat.le_of_ble_eq_true rfl)) dL_law_4 ⟨Nat.le_of_ble_eq_true rfl, Nat.le_of_ble_eq_true rfl⟩) hS1 (fun x _ hx => p_subN hQ1 hS1 hA x hx) (fun x hx => p_subN hQ1 hS1 hA x hx) fun u t H2 locs2 ht2 hvm2 hu2 hB2 hz2 hk2 hS2 => ?_
  rw [ht2] at hB2
  have hQ2 : p_Q D u (lb_B s) s (hC I0 E0 Pn 0) H2 := (hB2.moved hvm2.symm).mono fun q f _ hx => p_subN hQ1 hS1 hA _ hx
  rw [← hu2]
  refine lv_astore_n (lv' := [(1, .ref (u 0)), (0, .ref b)]) hx hb dL_law_7 rfl hl (by decide) rfl (fun ls hl => ?_)
  -- new FrameBrokerModel()
  refine lb_new (ci := 4) (fs := mFp 0) (C := RX4) (T := TX4) (N := 22) hx hb hown hts0 inX4 tyX4_ok hK hS2 hA rfl lb_f4 (fun _ => rfl) lb_r4 (hts0 _ lb_k4) (hts0 _ lb_i4) (hts0 _ lb_n4) (Nat.le_of_ble_eq_true rfl) (Nat.le_of_ble_eq_true rfl) dL_law_8 (fun a3 H3 ha3 ho3 hQ3 hS3 => ?_)
  rw [lb_h4] at hQ3
  have hC3 : p_Q D u (lb_B s) s (hC I0 E0 Pn 0) H3 := hQ2.kept fun x h _ => ho3 x h
  have hap3 : ap2 u a3 (hC I0 E0 Pn 0) (hMp 0) := fun q r f g hq hr z => by
    have := (hQ2.1 q f hq).1.lt
    have hr0 : r = 0 := lb_m0 hr
    rw [hr0, ha3] at z
    omega
  refine lv_dup hx hb dL_law_11 rfl ?_
  refine va_callv (va_runI (As := []) (rest := [.ref (a3 0)]) hCF (kX4_init l D a3 H3.size _ 0 1 2 3 4 5 6 7 8 9 10 11 12 13 14 15 16 17 18 _ mInit) (cwI 0 hts gL_law_X4_init rfl rfl rfl (hts0 _ lb_n4) (hts0 _ lb_m4) (hts0 _ lb_s4) rfl (by decide +kernel) ⟨Nat.le_of_ble_eq_true rfl, Nat.le_of_ble_eq_true rfl⟩) (p_preSN hK hQ3 hover rfl) rfl rfl hl.1 rfl (lv_room (Nat.le_of_ble_eq_true rfl)) dL_law_12 ⟨Nat.le_of_ble_eq_true rfl, Nat.le_of_ble_eq_true rfl⟩) hS3 (fun x _ hx => p_subN hQ3 hS3 hA x hx) (fun x hx => p_subN hQ3 hS3 hA x hx) fun v t4 H4 locs4 ht4 hvm4 hu4 hB4 hz4 hk4 hS4 => ?_
  rw [ht4] at hB4
  have hno4 : ∀ q f, hC I0 E0 Pn 0 q = some f → ¬ p_AN a3 (hMp 0) H3.size (u q) := hap3.symm.notN hC3 rfl
  have hM4 : p_Q D v (p_AN a3 (hMp 0) H3.size) s (hM I0) H4 := hB4.moved hvm4.symm
  have hQ4 : p_Q D v (lb_B s) s (hM I0) H4 := hM4.mono fun q f _ hx => p_subN hQ3 hS3 hA _ hx
  have hC4 : p_Q D u (lb_B s) s (hC I0 E0 Pn 0) H4 := hC3.apart hk4 hno4
  have hap4 : ap2 u v (hC I0 E0 Pn 0) (hM I0) := (ap2.new hM4 hno4).symm
  rw [← hu4]
  refine lv_astore_n (lv' := [(2, .ref (v 0)), (1, .ref (u 0)), (0, .ref b)]) hx hb dL_law_15 rfl hl (by decide) rfl (fun ls hl => ?_)
  -- new long[1]
  refine lv_iconst (v := 1) hx hb dL_law_16 (by decide) ?_
  refine lb_newL (D := D) hx hb hS4 hA (hts0 _ lb_la) (Nat.le_of_ble_eq_true rfl) (Nat.le_of_ble_eq_true rfl) dL_law_17 (fun w H5 hw5 ho5 hQ5 hS5 => ?_)
  have hC5 : p_Q D u (lb_B s) s (hC I0 E0 Pn 0) H5 := hC4.kept fun x h _ => ho5 x h
  have hM5 : p_Q D v (lb_B s) s (hM I0) H5 := hQ4.kept fun x h _ => ho5 x h
  refine lv_astore_n (lv' := [(3, .ref (w 0)), (2, .ref (v 0)), (1, .ref (u 0)), (0, .ref b)]) hx hb dL_law_19 rfl hl (by decide) rfl (fun ls hl => ?_)
  refine lv_iconst (v := 0) hx hb dL_law_20 (by decide) ?_
  refine lv_istore (lv' := [(4, .int 0), (3, .ref (w 0)), (2, .ref (v 0)), (1, .ref (u 0)), (0, .ref b)]) hx hb dL_law_21 hl (by decide) rfl (fun ls hl => ?_)
  have hI : lb_I D s (u 0) (v 0) (w 0) H5 := ⟨I0, E0, Pn, [], 0, u, v, w, fun _ => 0, RC_0, ⟨rfl, rfl, rfl⟩, ⟨hC5, hM5, hQ5⟩, hap4, fun q r f g hq hr z => by
    have := (hC4.1 q f hq).1.lt
    rw [(hO_o hr).1, hw5] at z
    omega, fun q r f g hq hr z => by
    have := (hQ4.1 q f hq).1.lt
    rw [(hO_o hr).1, hw5] at z
    omega⟩
  exact W.widen (Nat.le_of_ble_eq_true rfl) (Nat.le_of_ble_eq_true rfl) (lb_loop S (L + 1) 0 H5 _ ls (Nat.zero_le L) (by omega) hI hS5 (lv_sub hl [4, 3, 2, 1, 0] rfl))
