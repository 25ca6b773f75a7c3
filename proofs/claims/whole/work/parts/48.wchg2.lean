/-! THE LAW: more of the same -/
abbrev rL_lay : Room := { frames := 8, cells := 1, slots := 6, locals := 153 }
set_option maxHeartbeats 4000000 in
set_option maxRecDepth 100000 in
theorem wL_lay (l : Launch) (hl : l.stackTraces = false) (D : va_G) (adC adO : Nat → Nat) (sz : Nat) (h : PH) (f : Nat → Int64) (hap : ¬ p_A adC h (adO 0)) (x1 x2 : Int32) (o1 : Unit) (r : (String × PH) ⊕ (Int32 × PH)) (hf : fX3_lay h 0 x1 x2 = some r) (ho : p_ob h 0 3 = some o1) (hE9 : ∀ E g, r = .inl (E, g) → E = xIO) : Met l yL_lay wsL_lay rL_lay (w_PM D adC adO (p_A adC h) sz h f [.ref (adC 0), .int x1, .int x2, .ref (adO 0)]) (w_M D adC adO (p_A adC h) 1 r f) 1 6 (fun q => p_A adC h q ∨ q = adO 0) := by
  refine p_ofWH (cc := cL_lay) (maxL := 5) (ret := (some .int)) (hh := [(0, 10, 13, 21)]) (by decide) rfl ?_
  intro p e s m args below meth c s₁ B hml htab hv
  obtain ⟨hargs, hK, hQ, hE, hsz, hO1, ⟨hcast, -, -⟩, -, -⟩ := hv
  have hx := B.exec
  have hb := B.bytes
  have hr := B.returns
  have hts := atoms_spec (ws := wsL_lay) B.pre
  have hown : s.vm.findClass RL = some m.cls := findClass_of_methodNamed B.named
  have hlocks := B.notSynchronized
  have hC : CallFix p m c cL_lay 5 s args wsL_lay RL := ⟨hx, hb, hml, hown, hts⟩
  have hS : va_S (fun q => p_A adC h q ∨ q = adO 0) s.heap s.heap [] := va_S.rf
  have hlnk : (Cond.classLink RL 21 xIO).before args s = true := hts _ (by decide +kernel)
  have hOl : adO 0 < s.heap.size := (hO1.1 0 _ (hO_0 f)).1.lt
  obtain ⟨ls, hls, hL⟩ := p_start (n := 5) hargs (by simp [p_cat, p_ci, p_cr, p_cn]) (Nat.le_of_ble_eq_true rfl)
  show W p l e rL_lay s m args below meth c s.heap [] 0 0 (MQ below (w_M D adC adO (p_A adC h) 1 r f) args s 1 6 (fun q => p_A adC h q ∨ q = adO 0)) (entryFrame m args 5)
  rw [hls]
  clear hls
  have hL : p_L ls 5 [(0, .ref (adC 0)), (1, .int x1), (2, .int x2), (3, .ref (adO 0))] := hL
  refine lv_aload_n hx hb dL_lay_0 rfl (lv_at hL.1 3 rfl) ?_
  refine lv_iconst hx hb dL_lay_1 (v := 0) rfl ?_
  refine lv_aload_n hx hb dL_lay_2 rfl (lv_at hL.1 0 rfl) ?_
  refine lv_iload_n hx hb dL_lay_3 rfl (lv_at hL.1 1 rfl) ?_
  refine lv_iload_n hx hb dL_lay_4 rfl (lv_at hL.1 2 rfl) ?_
  refine vx_calli (vx_runV (As := [.int x1, .int x2]) (rest := [.int 0, .ref (adO 0)]) hC (kX3_lay l hl D adC sz h 0 x1 x2 r hf) (cwV 2 hts gL_lay_X3_lay rfl rfl rfl (by decide +kernel) ⟨Nat.le_of_ble_eq_true rfl, Nat.le_of_ble_eq_true rfl⟩) (p_preVE hK hQ hE hsz ho rfl) rfl rfl hL.1.1 rfl (lv_room (Nat.le_of_ble_eq_true rfl)) dL_lay_5 ⟨Nat.le_of_ble_eq_true rfl, Nat.le_of_ble_eq_true rfl⟩) hS (fun _ _ q => Or.inl q) (fun _ q => Or.inl q) (fun _ _ q => Or.inl q) ?_ ?_
  · intro E ce q9 u t H1 locs1 ht hvm hu hEr hz hk hS1 hcell hcv hcl
    obtain ⟨hEr, hQ1⟩ := hEr
    have hE1 := hE9 E _ hEr
    subst hE1
    have hQ2 : p_Q D u.1 (p_A adC h) s u.2 H1 := by rw [← ht]; exact hQ1.moved hvm.symm
    have hO2 : p_Q D adO p_tt s (hO f) H1 := hO_kept hO1 (hk _ hOl hap)
    refine vx_catch hown [] _ [] (htab.trans rfl) (fun z hz => by cases hz) (by decide) (by decide) hlnk (hcast.use rfl) hcell hcv hcl ?_
    refine lv_astore hx hb dL_lay_13 hL.1 (by decide) rfl fun ls' h1 => ?_
    refine lv_iconst hx hb dL_lay_15 (v := 1) rfl ?_
    exact W.widen (Nat.le_of_ble_eq_true rfl) (Nat.le_of_ble_eq_true rfl) (W.iret hx hb hr (fun t ht hW => ⟨⟨1, u.1, rfl, ⟨by rw [hEr]; rfl, hu⟩, by rw [hEr]; show p_Q D u.1 (p_A adC h) t u.2 t.heap ∧ p_Q D adO p_tt t (hO f) t.heap; rw [ht]; exact ⟨hQ2.moved hW.alike, hO2.moved hW.alike⟩⟩, hS1.F ht⟩) hS1.2.2 dL_lay_16 hlocks)
  · intro v u t H1 locs1 ht hvm hEr hQ1 hz hk hS1
    obtain ⟨hEr, hu⟩ := hEr
    have hQ2 : p_Q D u.1 (p_A adC h) s u.2 H1 := by rw [← ht]; exact hQ1.moved hvm.symm
    have hO2 : p_Q D adO p_tt s (hO f) H1 := hO_kept hO1 (hk _ hOl hap)
    refine lv_i2l hx hb dL_lay_8 rfl ?_
    refine p_last hC hO2 hS1 (Or.inr rfl) dL_lay_9 fun H2 locs2 hO3 oq hS2 => ?_
    have hQ3 : p_Q D u.1 (p_A adC h) s u.2 H2 := hQ2.kept fun x _ hA => oq x fun q => hap (by rw [← q]; exact hA)
    refine lv_goto hx hb dL_lay_10 (tgt := 17) rfl ?_
    refine lv_iconst hx hb dL_lay_17 (v := 0) rfl ?_
    exact W.widen (Nat.le_of_ble_eq_true rfl) (Nat.le_of_ble_eq_true rfl) (W.iret hx hb hr (fun t ht hW => ⟨⟨0, u.1, rfl, ⟨by rw [hEr]; rfl, hu⟩, by rw [hEr]; show p_Q D u.1 (p_A adC h) t u.2 t.heap ∧ p_Q D adO p_tt t (hO (vp_updL f 0 v.toInt64)) t.heap; rw [ht]; exact ⟨hQ3.moved hW.alike, hO3.moved hW.alike⟩⟩, hS2.F ht⟩) hS2.2.2 dL_lay_18 hlocks)
abbrev rL_input : Room := { frames := 8, cells := 1, slots := 6, locals := 135 }
set_option maxHeartbeats 4000000 in
set_option maxRecDepth 100000 in
theorem wL_input (l : Launch) (hl : l.stackTraces = false) (D : va_G) (adC adO : Nat → Nat) (sz : Nat) (h : PH) (f : Nat → Int64) (hap : ¬ p_A adC h (adO 0)) (x1 x2 : Int32) (o1 : Unit) (r : (String × PH) ⊕ (Int32 × PH)) (hf : fX3_input h 0 x1 x2 = some r) (ho : p_ob h 0 3 = some o1) (hE9 : ∀ E g, r = .inl (E, g) → E = xIO) : Met l yL_input wsL_input rL_input (w_PM D adC adO (p_A adC h) sz h f [.ref (adC 0), .int x1, .int x2, .ref (adO 0)]) (w_M D adC adO (p_A adC h) 1 r f) 1 6 (fun q => p_A adC h q ∨ q = adO 0) := by
  refine p_ofWH (cc := cL_input) (maxL := 5) (ret := (some .int)) (hh := [(0, 10, 13, 21)]) (by decide) rfl ?_
  intro p e s m args below meth c s₁ B hml htab hv
  obtain ⟨hargs, hK, hQ, hE, hsz, hO1, ⟨hcast, -, -⟩, -, -⟩ := hv
  have hx := B.exec
  have hb := B.bytes
  have hr := B.returns
  have hts := atoms_spec (ws := wsL_input) B.pre
  have hown : s.vm.findClass RL = some m.cls := findClass_of_methodNamed B.named
  have hlocks := B.notSynchronized
  have hC : CallFix p m c cL_input 5 s args wsL_input RL := ⟨hx, hb, hml, hown, hts⟩
  have hS : va_S (fun q => p_A adC h q ∨ q = adO 0) s.heap s.heap [] := va_S.rf
  have hlnk : (Cond.classLink RL 21 xIO).before args s = true := hts _ (by decide +kernel)
  have hOl : adO 0 < s.heap.size := (hO1.1 0 _ (hO_0 f)).1.lt
  obtain ⟨ls, hls, hL⟩ := p_start (n := 5) hargs (by simp [p_cat, p_ci, p_cr, p_cn]) (Nat.le_of_ble_eq_true rfl)
  show W p l e rL_input s m args below meth c s.heap [] 0 0 (MQ below (w_M D adC adO (p_A adC h) 1 r f) args s 1 6 (fun q => p_A adC h q ∨ q = adO 0)) (entryFrame m args 5)
  rw [hls]
  clear hls
  have hL : p_L ls 5 [(0, .ref (adC 0)), (1, .int x1), (2, .int x2), (3, .ref (adO 0))] := hL
  refine lv_aload_n hx hb dL_input_0 rfl (lv_at hL.1 3 rfl) ?_
  refine lv_iconst hx hb dL_input_1 (v := 0) rfl ?_
  refine lv_aload_n hx hb dL_input_2 rfl (lv_at hL.1 0 rfl) ?_
  refine lv_iload_n hx hb dL_input_3 rfl (lv_at hL.1 1 rfl) ?_
  refine lv_iload_n hx hb dL_input_4 rfl (lv_at hL.1 2 rfl) ?_
  refine vx_calli (vx_runV (As := [.int x1, .int x2]) (rest := [.int 0, .ref (adO 0)]) hC (kX3_input l hl D adC sz h 0 x1 x2 r hf) (cwV 2 hts gL_input_X3_input rfl rfl rfl (by decide +kernel) ⟨Nat.le_of_ble_eq_true rfl, Nat.le_of_ble_eq_true rfl⟩) (p_preVE hK hQ hE hsz ho rfl) rfl rfl hL.1.1 rfl (lv_room (Nat.le_of_ble_eq_true rfl)) dL_input_5 ⟨Nat.le_of_ble_eq_true rfl, Nat.le_of_ble_eq_true rfl⟩) hS (fun _ _ q => Or.inl q) (fun _ q => Or.inl q) (fun _ _ q => Or.inl q) ?_ ?_
  · intro E ce q9 u t H1 locs1 ht hvm hu hEr hz hk hS1 hcell hcv hcl
    obtain ⟨hEr, hQ1⟩ := hEr
    have hE1 := hE9 E _ hEr
    subst hE1
    have hQ2 : p_Q D u.1 (p_A adC h) s u.2 H1 := by rw [← ht]; exact hQ1.moved hvm.symm
    have hO2 : p_Q D adO p_tt s (hO f) H1 := hO_kept hO1 (hk _ hOl hap)
    refine vx_catch hown [] _ [] (htab.trans rfl) (fun z hz => by cases hz) (by decide) (by decide) hlnk (hcast.use rfl) hcell hcv hcl ?_
    refine lv_astore hx hb dL_input_13 hL.1 (by decide) rfl fun ls' h1 => ?_
    refine lv_iconst hx hb dL_input_15 (v := 1) rfl ?_
    exact W.widen (Nat.le_of_ble_eq_true rfl) (Nat.le_of_ble_eq_true rfl) (W.iret hx hb hr (fun t ht hW => ⟨⟨1, u.1, rfl, ⟨by rw [hEr]; rfl, hu⟩, by rw [hEr]; show p_Q D u.1 (p_A adC h) t u.2 t.heap ∧ p_Q D adO p_tt t (hO f) t.heap; rw [ht]; exact ⟨hQ2.moved hW.alike, hO2.moved hW.alike⟩⟩, hS1.F ht⟩) hS1.2.2 dL_input_16 hlocks)
  · intro v u t H1 locs1 ht hvm hEr hQ1 hz hk hS1
    obtain ⟨hEr, hu⟩ := hEr
    have hQ2 : p_Q D u.1 (p_A adC h) s u.2 H1 := by rw [← ht]; exact hQ1.moved hvm.symm
    have hO2 : p_Q D adO p_tt s (hO f) H1 := hO_kept hO1 (hk _ hOl hap)
    refine lv_i2l hx hb dL_input_8 rfl ?_
    refine p_last hC hO2 hS1 (Or.inr rfl) dL_input_9 fun H2 locs2 hO3 oq hS2 => ?_
    have hQ3 : p_Q D u.1 (p_A adC h) s u.2 H2 := hQ2.kept fun x _ hA => oq x fun q => hap (by rw [← q]; exact hA)
    refine lv_goto hx hb dL_input_10 (tgt := 17) rfl ?_
    refine lv_iconst hx hb dL_input_17 (v := 0) rfl ?_
    exact W.widen (Nat.le_of_ble_eq_true rfl) (Nat.le_of_ble_eq_true rfl) (W.iret hx hb hr (fun t ht hW => ⟨⟨0, u.1, rfl, ⟨by rw [hEr]; rfl, hu⟩, by rw [hEr]; show p_Q D u.1 (p_A adC h) t u.2 t.heap ∧ p_Q D adO p_tt t (hO (vp_updL f 0 v.toInt64)) t.heap; rw [ht]; exact ⟨hQ3.moved hW.alike, hO3.moved hW.alike⟩⟩, hS2.F ht⟩) hS2.2.2 dL_input_18 hlocks)
abbrev rL_advance : Room := { frames := 8, cells := 1, slots := 6, locals := 113 }
set_option maxHeartbeats 4000000 in
set_option maxRecDepth 100000 in
theorem wL_advance (l : Launch) (hl : l.stackTraces = false) (D : va_G) (adC adO : Nat → Nat) (sz : Nat) (h : PH) (f : Nat → Int64) (hap : ¬ p_A adC h (adO 0)) (x1 : Int32) (o1 : Unit) (r : (String × PH) ⊕ (Int32 × PH)) (hf : fX3_advance h 0 x1 = some r) (ho : p_ob h 0 3 = some o1) (k : Int32) (hE9 : ∀ E g, r = .inl (E, g) → (E = xIA ∧ k = 1) ∨ (E = xIS ∧ k = 2)) : Met l yL_advance wsL_advance rL_advance (w_PM D adC adO (p_A adC h) sz h f [.ref (adC 0), .int x1, .ref (adO 0)]) (w_M D adC adO (p_A adC h) k r f) 1 6 (fun q => p_A adC h q ∨ q = adO 0) := by
  refine p_ofWH (cc := cL_advance) (maxL := 4) (ret := (some .int)) (hh := [(0, 9, 12, 13), (0, 9, 15, 15)]) (by decide) rfl ?_
  intro p e s m args below meth c s₁ B hml htab hv
  obtain ⟨hargs, hK, hQ, hE, hsz, hO1, ⟨-, hcast, hcast2⟩, hnc, -⟩ := hv
  have hx := B.exec
  have hb := B.bytes
  have hr := B.returns
  have hts := atoms_spec (ws := wsL_advance) B.pre
  have hown : s.vm.findClass RL = some m.cls := findClass_of_methodNamed B.named
  have hlocks := B.notSynchronized
  have hC : CallFix p m c cL_advance 4 s args wsL_advance RL := ⟨hx, hb, hml, hown, hts⟩
  have hS : va_S (fun q => p_A adC h q ∨ q = adO 0) s.heap s.heap [] := va_S.rf
  have hlnk : (Cond.classLink RL 13 xIA).before args s = true := hts _ (by decide +kernel)
  have hlnk2 : (Cond.classLink RL 15 xIS).before args s = true := hts _ (by decide +kernel)
  have hOl : adO 0 < s.heap.size := (hO1.1 0 _ (hO_0 f)).1.lt
  obtain ⟨ls, hls, hL⟩ := p_start (n := 4) hargs (by simp [p_cat, p_ci, p_cr, p_cn]) (Nat.le_of_ble_eq_true rfl)
  show W p l e rL_advance s m args below meth c s.heap [] 0 0 (MQ below (w_M D adC adO (p_A adC h) k r f) args s 1 6 (fun q => p_A adC h q ∨ q = adO 0)) (entryFrame m args 4)
  rw [hls]
  clear hls
  have hL : p_L ls 4 [(0, .ref (adC 0)), (1, .int x1), (2, .ref (adO 0))] := hL
  refine lv_aload_n hx hb dL_advance_0 rfl (lv_at hL.1 2 rfl) ?_
  refine lv_iconst hx hb dL_advance_1 (v := 0) rfl ?_
  refine lv_aload_n hx hb dL_advance_2 rfl (lv_at hL.1 0 rfl) ?_
  refine lv_iload_n hx hb dL_advance_3 rfl (lv_at hL.1 1 rfl) ?_
  refine vx_calli (vx_runV (As := [.int x1]) (rest := [.int 0, .ref (adO 0)]) hC (kX3_advance l hl D adC sz h 0 x1 r hf) (cwV 1 hts gL_advance_X3_advance rfl rfl rfl (by decide +kernel) ⟨Nat.le_of_ble_eq_true rfl, Nat.le_of_ble_eq_true rfl⟩) (p_preVE hK hQ hE hsz ho rfl) rfl rfl hL.1.1 rfl (lv_room (Nat.le_of_ble_eq_true rfl)) dL_advance_4 ⟨Nat.le_of_ble_eq_true rfl, Nat.le_of_ble_eq_true rfl⟩) hS (fun _ _ q => Or.inl q) (fun _ q => Or.inl q) (fun _ _ q => Or.inl q) ?_ ?_
  · intro E ce q9 u t H1 locs1 ht hvm hu hEr hz hk hS1 hcell hcv hcl
    obtain ⟨hEr, hQ1⟩ := hEr
    have hQ2 : p_Q D u.1 (p_A adC h) s u.2 H1 := by rw [← ht]; exact hQ1.moved hvm.symm
    have hO2 : p_Q D adO p_tt s (hO f) H1 := hO_kept hO1 (hk _ hOl hap)
    rcases hE9 E _ hEr with ⟨hE1, hk1⟩ | ⟨hE1, hk1⟩
    · subst hE1
      refine vx_catch hown [] _ [_] (htab.trans rfl) (fun z hz => by cases hz) (by decide) (by decide) hlnk (hcast.use rfl) hcell hcv hcl ?_
      refine lv_astore_n hx hb dL_advance_12 rfl hL.1 (by decide) rfl fun ls' h1 => ?_
      refine lv_iconst hx hb dL_advance_13 (v := 1) rfl ?_
      exact W.widen (Nat.le_of_ble_eq_true rfl) (Nat.le_of_ble_eq_true rfl) (W.iret hx hb hr (fun t ht hW => ⟨⟨1, u.1, rfl, ⟨by rw [hEr, hk1]; rfl, hu⟩, by rw [hEr]; show p_Q D u.1 (p_A adC h) t u.2 t.heap ∧ p_Q D adO p_tt t (hO f) t.heap; rw [ht]; exact ⟨hQ2.moved hW.alike, hO2.moved hW.alike⟩⟩, hS1.F ht⟩) hS1.2.2 dL_advance_14 hlocks)
    · subst hE1
      refine vx_catch hown [_] _ [] (htab.trans rfl) (fun z hz => by rw [List.mem_singleton.mp hz]; exact Or.inr ⟨by decide, xIA, hlnk, hnc⟩) (by decide) (by decide) hlnk2 (hcast2.use rfl) hcell hcv hcl ?_
      refine lv_astore_n hx hb dL_advance_15 rfl hL.1 (by decide) rfl fun ls' h1 => ?_
      refine lv_iconst hx hb dL_advance_16 (v := 2) rfl ?_
      exact W.widen (Nat.le_of_ble_eq_true rfl) (Nat.le_of_ble_eq_true rfl) (W.iret hx hb hr (fun t ht hW => ⟨⟨2, u.1, rfl, ⟨by rw [hEr, hk1]; rfl, hu⟩, by rw [hEr]; show p_Q D u.1 (p_A adC h) t u.2 t.heap ∧ p_Q D adO p_tt t (hO f) t.heap; rw [ht]; exact ⟨hQ2.moved hW.alike, hO2.moved hW.alike⟩⟩, hS1.F ht⟩) hS1.2.2 dL_advance_17 hlocks)
  · intro v u t H1 locs1 ht hvm hEr hQ1 hz hk hS1
    obtain ⟨hEr, hu⟩ := hEr
    have hQ2 : p_Q D u.1 (p_A adC h) s u.2 H1 := by rw [← ht]; exact hQ1.moved hvm.symm
    have hO2 : p_Q D adO p_tt s (hO f) H1 := hO_kept hO1 (hk _ hOl hap)
    refine lv_i2l hx hb dL_advance_7 rfl ?_
    refine p_last hC hO2 hS1 (Or.inr rfl) dL_advance_8 fun H2 locs2 hO3 oq hS2 => ?_
    have hQ3 : p_Q D u.1 (p_A adC h) s u.2 H2 := hQ2.kept fun x _ hA => oq x fun q => hap (by rw [← q]; exact hA)
    refine lv_goto hx hb dL_advance_9 (tgt := 18) rfl ?_
    refine lv_iconst hx hb dL_advance_18 (v := 0) rfl ?_
    exact W.widen (Nat.le_of_ble_eq_true rfl) (Nat.le_of_ble_eq_true rfl) (W.iret hx hb hr (fun t ht hW => ⟨⟨0, u.1, rfl, ⟨by rw [hEr]; rfl, hu⟩, by rw [hEr]; show p_Q D u.1 (p_A adC h) t u.2 t.heap ∧ p_Q D adO p_tt t (hO (vp_updL f 0 v.toInt64)) t.heap; rw [ht]; exact ⟨hQ3.moved hW.alike, hO3.moved hW.alike⟩⟩, hS2.F ht⟩) hS2.2.2 dL_advance_19 hlocks)
