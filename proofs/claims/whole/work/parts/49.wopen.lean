/-! THE LAW: the wrapper of open -/
abbrev rL_open : Room := { frames := 7, cells := 3, slots := 25, locals := 137 }
set_option maxHeartbeats 4000000 in
set_option maxRecDepth 100000 in
theorem wL_open (l : Launch) (hl : l.stackTraces = false) (D : va_G) (adC adO : Nat → Nat) (sz : Nat) (h : PH) (f : Nat → Int64) (hap : ¬ p_AN adC h sz (adO 0)) (x1 x2 x3 x4 x5 x6 x7 : Int32) (q1 q2 : Nat) (o1 : Unit) (r : (String × PH) ⊕ (Int32 × PH)) (hf : fX3_open h 0 x1 x2 x3 x4 x5 x6 x7 q1 q2 = some r) (ho : p_ob h 0 3 = some o1) (k : Int32) (hE9 : ∀ E g, r = .inl (E, g) → (E = xIA ∧ k = 1) ∨ (E = xIS ∧ k = 2)) : Met l yL_open wsL_open rL_open (w_PM D adC adO (p_AN adC h sz) sz h f [.ref (adC 0), .int x1, .int x2, .int x3, .int x4, .int x5, .int x6, .int x7, .ref (adO 0)]) (w_M D adC adO (p_AN adC h sz) k r f) 3 25 (fun q => p_AN adC h sz q ∨ q = adO 0) := by
  refine p_ofWH (cc := cL_open) (maxL := 10) (ret := (some .int)) (hh := [(0, 20, 23, 13), (0, 20, 27, 15)]) (by decide) rfl ?_
  intro p e s m args below meth c s₁ B hml htab hv
  obtain ⟨hargs, hK, hQ, hE, hsz, hO1, ⟨-, hcast, hcast2⟩, hnc, -⟩ := hv
  have hx := B.exec
  have hb := B.bytes
  have hr := B.returns
  have hts := atoms_spec (ws := wsL_open) B.pre
  have hown : s.vm.findClass RL = some m.cls := findClass_of_methodNamed B.named
  have hlocks := B.notSynchronized
  have hC : CallFix p m c cL_open 10 s args wsL_open RL := ⟨hx, hb, hml, hown, hts⟩
  have hS : va_S (fun q => p_AN adC h sz q ∨ q = adO 0) s.heap s.heap [] := va_S.rf
  have hlnk : (Cond.classLink RL 13 xIA).before args s = true := hts _ (by decide +kernel)
  have hlnk2 : (Cond.classLink RL 15 xIS).before args s = true := hts _ (by decide +kernel)
  have hOl : adO 0 < s.heap.size := (hO1.1 0 _ (hO_0 f)).1.lt
  obtain ⟨ls, hls, hL⟩ := p_start (n := 10) hargs (by simp [p_cat, p_ci, p_cr, p_cn]) (Nat.le_of_ble_eq_true rfl)
  show W p l e rL_open s m args below meth c s.heap [] 0 0 (MQ below (w_M D adC adO (p_AN adC h sz) k r f) args s 3 25 (fun q => p_AN adC h sz q ∨ q = adO 0)) (entryFrame m args 10)
  rw [hls]
  clear hls
  have hL : p_L ls 10 [(0, .ref (adC 0)), (1, .int x1), (2, .int x2), (3, .int x3), (4, .int x4), (5, .int x5), (6, .int x6), (7, .int x7), (8, .ref (adO 0))] := hL
  refine lv_aload hx hb dL_open_0 (lv_at hL.1 8 rfl) ?_
  refine lv_iconst hx hb dL_open_2 (v := 0) rfl ?_
  refine lv_aload_n hx hb dL_open_3 rfl (lv_at hL.1 0 rfl) ?_
  refine lv_iload_n hx hb dL_open_4 rfl (lv_at hL.1 1 rfl) ?_
  refine lv_iload_n hx hb dL_open_5 rfl (lv_at hL.1 2 rfl) ?_
  refine lv_iload_n hx hb dL_open_6 rfl (lv_at hL.1 3 rfl) ?_
  refine lv_iload hx hb dL_open_7 (lv_at hL.1 4 rfl) ?_
  refine lv_iload hx hb dL_open_9 (lv_at hL.1 5 rfl) ?_
  refine lv_iload hx hb dL_open_11 (lv_at hL.1 6 rfl) ?_
  refine lv_iload hx hb dL_open_13 (lv_at hL.1 7 rfl) ?_
  refine vx_calli (vx_runV (As := [.int x1, .int x2, .int x3, .int x4, .int x5, .int x6, .int x7]) (rest := [.int 0, .ref (adO 0)]) hC (kX3_open l hl D adC sz h 0 x1 x2 x3 x4 x5 x6 x7 q1 q2 r hf) (cwV 7 hts gL_open_X3_open rfl rfl rfl (by decide +kernel) ⟨Nat.le_of_ble_eq_true rfl, Nat.le_of_ble_eq_true rfl⟩) (p_preVE hK hQ hE hsz ho rfl) rfl rfl hL.1.1 rfl (lv_room (Nat.le_of_ble_eq_true rfl)) dL_open_15 ⟨Nat.le_of_ble_eq_true rfl, Nat.le_of_ble_eq_true rfl⟩) hS (fun _ _ q => Or.inl q) (fun _ q => Or.inl q) (fun _ _ q => Or.inl q) ?_ ?_
  · intro E ce q9 u t H1 locs1 ht hvm hu hEr hz hk hS1 hcell hcv hcl
    obtain ⟨hEr, hQ1⟩ := hEr
    have hQ2 : p_Q D u.1 (p_AN adC h sz) s u.2 H1 := by rw [← ht]; exact hQ1.moved hvm.symm
    have hO2 : p_Q D adO p_tt s (hO f) H1 := hO_kept hO1 (hk _ hOl hap)
    rcases hE9 E _ hEr with ⟨hE1, hk1⟩ | ⟨hE1, hk1⟩
    · subst hE1
      refine vx_catch hown [] _ [_] (htab.trans rfl) (fun z hz => by cases hz) (by decide) (by decide) hlnk (hcast.use rfl) hcell hcv hcl ?_
      refine lv_astore hx hb dL_open_23 hL.1 (by decide) rfl fun ls' h1 => ?_
      refine lv_iconst hx hb dL_open_25 (v := 1) rfl ?_
      exact W.widen (Nat.le_of_ble_eq_true rfl) (Nat.le_of_ble_eq_true rfl) (W.iret hx hb hr (fun t ht hW => ⟨⟨1, u.1, rfl, ⟨by rw [hEr, hk1]; rfl, hu⟩, by rw [hEr]; show p_Q D u.1 (p_AN adC h sz) t u.2 t.heap ∧ p_Q D adO p_tt t (hO f) t.heap; rw [ht]; exact ⟨hQ2.moved hW.alike, hO2.moved hW.alike⟩⟩, hS1.F ht⟩) hS1.2.2 dL_open_26 hlocks)
    · subst hE1
      refine vx_catch hown [_] _ [] (htab.trans rfl) (fun z hz => by rw [List.mem_singleton.mp hz]; exact Or.inr ⟨by decide, xIA, hlnk, hnc⟩) (by decide) (by decide) hlnk2 (hcast2.use rfl) hcell hcv hcl ?_
      refine lv_astore hx hb dL_open_27 hL.1 (by decide) rfl fun ls' h1 => ?_
      refine lv_iconst hx hb dL_open_29 (v := 2) rfl ?_
      exact W.widen (Nat.le_of_ble_eq_true rfl) (Nat.le_of_ble_eq_true rfl) (W.iret hx hb hr (fun t ht hW => ⟨⟨2, u.1, rfl, ⟨by rw [hEr, hk1]; rfl, hu⟩, by rw [hEr]; show p_Q D u.1 (p_AN adC h sz) t u.2 t.heap ∧ p_Q D adO p_tt t (hO f) t.heap; rw [ht]; exact ⟨hQ2.moved hW.alike, hO2.moved hW.alike⟩⟩, hS1.F ht⟩) hS1.2.2 dL_open_30 hlocks)
  · intro v u t H1 locs1 ht hvm hEr hQ1 hz hk hS1
    obtain ⟨hEr, hu⟩ := hEr
    have hQ2 : p_Q D u.1 (p_AN adC h sz) s u.2 H1 := by rw [← ht]; exact hQ1.moved hvm.symm
    have hO2 : p_Q D adO p_tt s (hO f) H1 := hO_kept hO1 (hk _ hOl hap)
    refine lv_i2l hx hb dL_open_18 rfl ?_
    refine p_last hC hO2 hS1 (Or.inr rfl) dL_open_19 fun H2 locs2 hO3 oq hS2 => ?_
    have hQ3 : p_Q D u.1 (p_AN adC h sz) s u.2 H2 := hQ2.kept fun x _ hA => oq x fun q => hap (by rw [← q]; exact hA)
    refine lv_goto hx hb dL_open_20 (tgt := 31) rfl ?_
    refine lv_iconst hx hb dL_open_31 (v := 0) rfl ?_
    exact W.widen (Nat.le_of_ble_eq_true rfl) (Nat.le_of_ble_eq_true rfl) (W.iret hx hb hr (fun t ht hW => ⟨⟨0, u.1, rfl, ⟨by rw [hEr]; rfl, hu⟩, by rw [hEr]; show p_Q D u.1 (p_AN adC h sz) t u.2 t.heap ∧ p_Q D adO p_tt t (hO (vp_updL f 0 v.toInt64)) t.heap; rw [ht]; exact ⟨hQ3.moved hW.alike, hO3.moved hW.alike⟩⟩, hS2.F ht⟩) hS2.2.2 dL_open_32 hlocks)
