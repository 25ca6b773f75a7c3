/-! THE LAW: its wrappers of the calls that change; text by wip/p22/gen_w.py -/
abbrev rL_closes : Room := { frames := 8, cells := 1, slots := 6, locals := 151 }
set_option maxHeartbeats 4000000 in
set_option maxRecDepth 100000 in
theorem wL_closes (l : Launch) (hl : l.stackTraces = false) (D : va_G) (x sz : Nat) (A : Nat → Prop) (hA : ∀ q, sz ≤ q → A q) (g : Sg) (x1 : Int32) : Met l yL_closes wsL_closes rL_closes (b_P D x A A sz g [.ref x, .int x1]) (b_M D x A (aClose g x1)) 1 6 A := by
  refine p_ofWH (cc := cL_closes) (maxL := 3) (ret := (some .int)) (hh := [(0, 5, 6, 23)]) (by decide) rfl ?_
  intro p e s m args below meth c s₁ B hml htab hv
  obtain ⟨hargs, hK, ⟨ad, E, P, hx0, hR, hQ⟩, hE, hsz, ⟨hcIO, hcIA, hcIS⟩, hncS, hncA⟩ := hv
  subst hx0
  have hx := B.exec
  have hb := B.bytes
  have hr := B.returns
  have hts := atoms_spec (ws := wsL_closes) B.pre
  have hown : s.vm.findClass RL = some m.cls := findClass_of_methodNamed B.named
  have hlocks := B.notSynchronized
  have hC : CallFix p m c cL_closes 3 s args wsL_closes RL := ⟨hx, hb, hml, hown, hts⟩
  have hS : va_S A s.heap s.heap [] := va_S.rf
  have hAA : ∀ q, (p_A ad (gh g E P)) q → A q := p_sub hQ
  have hlnk0 : (Cond.classLink RL 23 xIO).before args s = true := hts _ (by decide +kernel)
  obtain ⟨ls, hls, hL⟩ := p_start (n := 3) hargs (by simp [p_cat, p_ci, p_cr, p_cn]) (Nat.le_of_ble_eq_true rfl)
  show W p l e rL_closes s m args below meth c s.heap [] 0 0 (MQ below (b_M D (ad 0) A (aClose g x1)) args s 1 6 A) (entryFrame m args 3)
  rw [hls]
  clear hls
  have hL : p_L ls 3 [(0, .ref (ad 0)), (1, .int x1)] := hL
  have hr0 : ∃ (r : (String × PH) ⊕ (Int32 × PH)) (E1 : IT) (P1 : PT), fX3_close (gh g E P) 0 x1 = some r ∧ GC (aClose g x1).2 E1 P1 ∧ (r = .inr ((aClose g x1).1, gh (aClose g x1).2 E1 P1) ∨ ∃ Ex h, (Ex, (aClose g x1).1) ∈ [(xIO, kIX)] ∧ r = .inl (Ex, h) ∧ sub (gh (aClose g x1).2 E1 P1) h) := by
    obtain ⟨E1, P1, q1, q2 | ⟨Ex, h, q2, q3, q4⟩⟩ := S_close hR x1
    · exact ⟨_, E1, P1, q2, q1, Or.inl rfl⟩
    · exact ⟨_, E1, P1, q3, q1, Or.inr ⟨Ex, h, q2, rfl, q4⟩⟩
  obtain ⟨r, E1, P1, hf, hG1, hcs⟩ := hr0
  refine lv_aload_n hx hb dL_closes_0 rfl (lv_at hL.1 0 rfl) ?_
  refine lv_iload_n hx hb dL_closes_1 rfl (lv_at hL.1 1 rfl) ?_
  refine vx_calli (vx_runV (As := [.int x1]) (rest := []) hC (kX3_close l hl D ad sz (gh g E P) 0 x1 r hf) (cwV 1 hts gL_closes_X3_close rfl rfl rfl (by decide +kernel) ⟨Nat.le_of_ble_eq_true rfl, Nat.le_of_ble_eq_true rfl⟩) (p_preVE hK (hQ.mono fun q e he _ => ⟨q, e, he, rfl⟩) (hE.narrow hAA) hsz hC_ob rfl) rfl rfl hL.1.1 rfl (lv_room (Nat.le_of_ble_eq_true rfl)) dL_closes_2 ⟨Nat.le_of_ble_eq_true rfl, Nat.le_of_ble_eq_true rfl⟩) hS (fun q _ hq => hAA q hq) (fun q hq => hAA q hq) (fun q _ hq => hAA q hq) ?_ ?_
  · intro E9 ce q9 u t H1 locs1 ht hvm hu hEr hz hk hS1 hcell hcv hcl
    obtain ⟨hEr, hQ1⟩ := hEr
    rcases hcs with h1 | ⟨Ex, h, hmem, h1, hsub⟩
    · rw [h1] at hEr; cases hEr
    · rw [h1] at hEr
      cases hEr
      have hQ2 : bk D (ad 0) A (aClose g x1).2 s H1 := ⟨u.1, E1, P1, hu, hG1, by rw [← ht]; exact ((hQ1.moved hvm.symm).sub hsub hG1.1.2.2.2).mono fun q e he hx => hAA _ hx⟩
      obtain ⟨rfl, hv⟩ : E9 = xIO ∧ (aClose g x1).1 = kIX := by simpa using hmem
      refine vx_catch hown [] _ [] (htab.trans rfl) (fun z hz => by cases hz) (by decide) (by decide) hlnk0 (hcIO.use rfl) hcell hcv hcl ?_
      refine lv_astore_n hx hb dL_closes_6 rfl hL.1 (by decide) rfl fun ls' h1 => ?_
      refine lv_ldc (v := kIX) hx hb hown (hts (.constant RL 25 kIX) (by decide +kernel)) dL_closes_7 ?_
      exact W.widen (Nat.le_of_ble_eq_true rfl) (Nat.le_of_ble_eq_true rfl) (W.iret hx hb hr (fun t ht hW => ⟨⟨kIX, (), rfl, hv.symm, by show bk D (ad 0) A (aClose g x1).2 t t.heap; rw [ht]; exact hQ2.moved hW.alike⟩, hS1.F ht⟩) hS1.2.2 dL_closes_9 hlocks)
  · intro v u t H1 locs1 ht hvm hEr hQ1 hz hk hS1
    obtain ⟨hEr, hu⟩ := hEr
    rcases hcs with h1 | ⟨Ex, h, hmem, h1, hsub⟩
    · rw [h1] at hEr
      have hEr := Sum.inr.inj hEr
      have hv : (aClose g x1).1 = v := congrArg Prod.fst hEr
      have hg2 : gh (aClose g x1).2 E1 P1 = u.2 := congrArg Prod.snd hEr
      have hQ2 : bk D (ad 0) A (aClose g x1).2 s H1 := ⟨u.1, E1, P1, hu, hG1, by rw [← ht, hg2]; exact (hQ1.moved hvm.symm).mono fun q e he hx => hAA _ hx⟩
      exact W.widen (Nat.le_of_ble_eq_true rfl) (Nat.le_of_ble_eq_true rfl) (W.iret hx hb hr (fun t ht hW => ⟨⟨v, (), rfl, hv.symm, by show bk D (ad 0) A (aClose g x1).2 t t.heap; rw [ht]; exact hQ2.moved hW.alike⟩, hS1.F ht⟩) hS1.2.2 dL_closes_5 hlocks)
    · rw [h1] at hEr; cases hEr
abbrev rL_lays : Room := { frames := 8, cells := 1, slots := 6, locals := 153 }
set_option maxHeartbeats 4000000 in
set_option maxRecDepth 100000 in
theorem wL_lays (l : Launch) (hl : l.stackTraces = false) (D : va_G) (x sz : Nat) (A : Nat → Prop) (hA : ∀ q, sz ≤ q → A q) (g : Sg) (x1 x2 : Int32) : Met l yL_lays wsL_lays rL_lays (b_P D x A A sz g [.ref x, .int x1, .int x2]) (b_M D x A (aLay g x1 x2)) 1 6 A := by
  refine p_ofWH (cc := cL_lays) (maxL := 4) (ret := (some .int)) (hh := [(0, 6, 7, 23)]) (by decide) rfl ?_
  intro p e s m args below meth c s₁ B hml htab hv
  obtain ⟨hargs, hK, ⟨ad, E, P, hx0, hR, hQ⟩, hE, hsz, ⟨hcIO, hcIA, hcIS⟩, hncS, hncA⟩ := hv
  subst hx0
  have hx := B.exec
  have hb := B.bytes
  have hr := B.returns
  have hts := atoms_spec (ws := wsL_lays) B.pre
  have hown : s.vm.findClass RL = some m.cls := findClass_of_methodNamed B.named
  have hlocks := B.notSynchronized
  have hC : CallFix p m c cL_lays 4 s args wsL_lays RL := ⟨hx, hb, hml, hown, hts⟩
  have hS : va_S A s.heap s.heap [] := va_S.rf
  have hAA : ∀ q, (p_A ad (gh g E P)) q → A q := p_sub hQ
  have hlnk0 : (Cond.classLink RL 23 xIO).before args s = true := hts _ (by decide +kernel)
  obtain ⟨ls, hls, hL⟩ := p_start (n := 4) hargs (by simp [p_cat, p_ci, p_cr, p_cn]) (Nat.le_of_ble_eq_true rfl)
  show W p l e rL_lays s m args below meth c s.heap [] 0 0 (MQ below (b_M D (ad 0) A (aLay g x1 x2)) args s 1 6 A) (entryFrame m args 4)
  rw [hls]
  clear hls
  have hL : p_L ls 4 [(0, .ref (ad 0)), (1, .int x1), (2, .int x2)] := hL
  have hr0 : ∃ (r : (String × PH) ⊕ (Int32 × PH)) (E1 : IT) (P1 : PT), fX3_lay (gh g E P) 0 x1 x2 = some r ∧ GC (aLay g x1 x2).2 E1 P1 ∧ (r = .inr ((aLay g x1 x2).1, gh (aLay g x1 x2).2 E1 P1) ∨ ∃ Ex h, (Ex, (aLay g x1 x2).1) ∈ [(xIO, kIX)] ∧ r = .inl (Ex, h) ∧ sub (gh (aLay g x1 x2).2 E1 P1) h) := by
    obtain ⟨E1, P1, q1, q2 | ⟨Ex, h, q2, q3, q4⟩⟩ := S_lay hR x1 x2
    · exact ⟨_, E1, P1, q2, q1, Or.inl rfl⟩
    · exact ⟨_, E1, P1, q3, q1, Or.inr ⟨Ex, h, q2, rfl, q4⟩⟩
  obtain ⟨r, E1, P1, hf, hG1, hcs⟩ := hr0
  refine lv_aload_n hx hb dL_lays_0 rfl (lv_at hL.1 0 rfl) ?_
  refine lv_iload_n hx hb dL_lays_1 rfl (lv_at hL.1 1 rfl) ?_
  refine lv_iload_n hx hb dL_lays_2 rfl (lv_at hL.1 2 rfl) ?_
  refine vx_calli (vx_runV (As := [.int x1, .int x2]) (rest := []) hC (kX3_lay l hl D ad sz (gh g E P) 0 x1 x2 r hf) (cwV 2 hts gL_lays_X3_lay rfl rfl rfl (by decide +kernel) ⟨Nat.le_of_ble_eq_true rfl, Nat.le_of_ble_eq_true rfl⟩) (p_preVE hK (hQ.mono fun q e he _ => ⟨q, e, he, rfl⟩) (hE.narrow hAA) hsz hC_ob rfl) rfl rfl hL.1.1 rfl (lv_room (Nat.le_of_ble_eq_true rfl)) dL_lays_3 ⟨Nat.le_of_ble_eq_true rfl, Nat.le_of_ble_eq_true rfl⟩) hS (fun q _ hq => hAA q hq) (fun q hq => hAA q hq) (fun q _ hq => hAA q hq) ?_ ?_
  · intro E9 ce q9 u t H1 locs1 ht hvm hu hEr hz hk hS1 hcell hcv hcl
    obtain ⟨hEr, hQ1⟩ := hEr
    rcases hcs with h1 | ⟨Ex, h, hmem, h1, hsub⟩
    · rw [h1] at hEr; cases hEr
    · rw [h1] at hEr
      cases hEr
      have hQ2 : bk D (ad 0) A (aLay g x1 x2).2 s H1 := ⟨u.1, E1, P1, hu, hG1, by rw [← ht]; exact ((hQ1.moved hvm.symm).sub hsub hG1.1.2.2.2).mono fun q e he hx => hAA _ hx⟩
      obtain ⟨rfl, hv⟩ : E9 = xIO ∧ (aLay g x1 x2).1 = kIX := by simpa using hmem
      refine vx_catch hown [] _ [] (htab.trans rfl) (fun z hz => by cases hz) (by decide) (by decide) hlnk0 (hcIO.use rfl) hcell hcv hcl ?_
      refine lv_astore_n hx hb dL_lays_7 rfl hL.1 (by decide) rfl fun ls' h1 => ?_
      refine lv_ldc (v := kIX) hx hb hown (hts (.constant RL 25 kIX) (by decide +kernel)) dL_lays_8 ?_
      exact W.widen (Nat.le_of_ble_eq_true rfl) (Nat.le_of_ble_eq_true rfl) (W.iret hx hb hr (fun t ht hW => ⟨⟨kIX, (), rfl, hv.symm, by show bk D (ad 0) A (aLay g x1 x2).2 t t.heap; rw [ht]; exact hQ2.moved hW.alike⟩, hS1.F ht⟩) hS1.2.2 dL_lays_10 hlocks)
  · intro v u t H1 locs1 ht hvm hEr hQ1 hz hk hS1
    obtain ⟨hEr, hu⟩ := hEr
    rcases hcs with h1 | ⟨Ex, h, hmem, h1, hsub⟩
    · rw [h1] at hEr
      have hEr := Sum.inr.inj hEr
      have hv : (aLay g x1 x2).1 = v := congrArg Prod.fst hEr
      have hg2 : gh (aLay g x1 x2).2 E1 P1 = u.2 := congrArg Prod.snd hEr
      have hQ2 : bk D (ad 0) A (aLay g x1 x2).2 s H1 := ⟨u.1, E1, P1, hu, hG1, by rw [← ht, hg2]; exact (hQ1.moved hvm.symm).mono fun q e he hx => hAA _ hx⟩
      exact W.widen (Nat.le_of_ble_eq_true rfl) (Nat.le_of_ble_eq_true rfl) (W.iret hx hb hr (fun t ht hW => ⟨⟨v, (), rfl, hv.symm, by show bk D (ad 0) A (aLay g x1 x2).2 t t.heap; rw [ht]; exact hQ2.moved hW.alike⟩, hS1.F ht⟩) hS1.2.2 dL_lays_6 hlocks)
    · rw [h1] at hEr; cases hEr
abbrev rL_inputs : Room := { frames := 8, cells := 1, slots := 6, locals := 135 }
set_option maxHeartbeats 4000000 in
set_option maxRecDepth 100000 in
theorem wL_inputs (l : Launch) (hl : l.stackTraces = false) (D : va_G) (x sz : Nat) (A : Nat → Prop) (hA : ∀ q, sz ≤ q → A q) (g : Sg) (x1 x2 : Int32) : Met l yL_inputs wsL_inputs rL_inputs (b_P D x A A sz g [.ref x, .int x1, .int x2]) (b_M D x A (aInput g x1 x2)) 1 6 A := by
  refine p_ofWH (cc := cL_inputs) (maxL := 4) (ret := (some .int)) (hh := [(0, 6, 7, 23)]) (by decide) rfl ?_
  intro p e s m args below meth c s₁ B hml htab hv
  obtain ⟨hargs, hK, ⟨ad, E, P, hx0, hR, hQ⟩, hE, hsz, ⟨hcIO, hcIA, hcIS⟩, hncS, hncA⟩ := hv
  subst hx0
  have hx := B.exec
  have hb := B.bytes
  have hr := B.returns
  have hts := atoms_spec (ws := wsL_inputs) B.pre
  have hown : s.vm.findClass RL = some m.cls := findClass_of_methodNamed B.named
  have hlocks := B.notSynchronized
  have hC : CallFix p m c cL_inputs 4 s args wsL_inputs RL := ⟨hx, hb, hml, hown, hts⟩
  have hS : va_S A s.heap s.heap [] := va_S.rf
  have hAA : ∀ q, (p_A ad (gh g E P)) q → A q := p_sub hQ
  have hlnk0 : (Cond.classLink RL 23 xIO).before args s = true := hts _ (by decide +kernel)
  obtain ⟨ls, hls, hL⟩ := p_start (n := 4) hargs (by simp [p_cat, p_ci, p_cr, p_cn]) (Nat.le_of_ble_eq_true rfl)
  show W p l e rL_inputs s m args below meth c s.heap [] 0 0 (MQ below (b_M D (ad 0) A (aInput g x1 x2)) args s 1 6 A) (entryFrame m args 4)
  rw [hls]
  clear hls
  have hL : p_L ls 4 [(0, .ref (ad 0)), (1, .int x1), (2, .int x2)] := hL
  have hr0 : ∃ (r : (String × PH) ⊕ (Int32 × PH)) (E1 : IT) (P1 : PT), fX3_input (gh g E P) 0 x1 x2 = some r ∧ GC (aInput g x1 x2).2 E1 P1 ∧ (r = .inr ((aInput g x1 x2).1, gh (aInput g x1 x2).2 E1 P1) ∨ ∃ Ex h, (Ex, (aInput g x1 x2).1) ∈ [(xIO, kIX)] ∧ r = .inl (Ex, h) ∧ sub (gh (aInput g x1 x2).2 E1 P1) h) := by
    obtain ⟨E1, P1, q1, q2 | ⟨Ex, h, q2, q3, q4⟩⟩ := S_input hR x1 x2
    · exact ⟨_, E1, P1, q2, q1, Or.inl rfl⟩
    · exact ⟨_, E1, P1, q3, q1, Or.inr ⟨Ex, h, q2, rfl, q4⟩⟩
  obtain ⟨r, E1, P1, hf, hG1, hcs⟩ := hr0
  refine lv_aload_n hx hb dL_inputs_0 rfl (lv_at hL.1 0 rfl) ?_
  refine lv_iload_n hx hb dL_inputs_1 rfl (lv_at hL.1 1 rfl) ?_
  refine lv_iload_n hx hb dL_inputs_2 rfl (lv_at hL.1 2 rfl) ?_
  refine vx_calli (vx_runV (As := [.int x1, .int x2]) (rest := []) hC (kX3_input l hl D ad sz (gh g E P) 0 x1 x2 r hf) (cwV 2 hts gL_inputs_X3_input rfl rfl rfl (by decide +kernel) ⟨Nat.le_of_ble_eq_true rfl, Nat.le_of_ble_eq_true rfl⟩) (p_preVE hK (hQ.mono fun q e he _ => ⟨q, e, he, rfl⟩) (hE.narrow hAA) hsz hC_ob rfl) rfl rfl hL.1.1 rfl (lv_room (Nat.le_of_ble_eq_true rfl)) dL_inputs_3 ⟨Nat.le_of_ble_eq_true rfl, Nat.le_of_ble_eq_true rfl⟩) hS (fun q _ hq => hAA q hq) (fun q hq => hAA q hq) (fun q _ hq => hAA q hq) ?_ ?_
  · intro E9 ce q9 u t H1 locs1 ht hvm hu hEr hz hk hS1 hcell hcv hcl
    obtain ⟨hEr, hQ1⟩ := hEr
    rcases hcs with h1 | ⟨Ex, h, hmem, h1, hsub⟩
    · rw [h1] at hEr; cases hEr
    · rw [h1] at hEr
      cases hEr
      have hQ2 : bk D (ad 0) A (aInput g x1 x2).2 s H1 := ⟨u.1, E1, P1, hu, hG1, by rw [← ht]; exact ((hQ1.moved hvm.symm).sub hsub hG1.1.2.2.2).mono fun q e he hx => hAA _ hx⟩
      obtain ⟨rfl, hv⟩ : E9 = xIO ∧ (aInput g x1 x2).1 = kIX := by simpa using hmem
      refine vx_catch hown [] _ [] (htab.trans rfl) (fun z hz => by cases hz) (by decide) (by decide) hlnk0 (hcIO.use rfl) hcell hcv hcl ?_
      refine lv_astore_n hx hb dL_inputs_7 rfl hL.1 (by decide) rfl fun ls' h1 => ?_
      refine lv_ldc (v := kIX) hx hb hown (hts (.constant RL 25 kIX) (by decide +kernel)) dL_inputs_8 ?_
      exact W.widen (Nat.le_of_ble_eq_true rfl) (Nat.le_of_ble_eq_true rfl) (W.iret hx hb hr (fun t ht hW => ⟨⟨kIX, (), rfl, hv.symm, by show bk D (ad 0) A (aInput g x1 x2).2 t t.heap; rw [ht]; exact hQ2.moved hW.alike⟩, hS1.F ht⟩) hS1.2.2 dL_inputs_10 hlocks)
  · intro v u t H1 locs1 ht hvm hEr hQ1 hz hk hS1
    obtain ⟨hEr, hu⟩ := hEr
    rcases hcs with h1 | ⟨Ex, h, hmem, h1, hsub⟩
    · rw [h1] at hEr
      have hEr := Sum.inr.inj hEr
      have hv : (aInput g x1 x2).1 = v := congrArg Prod.fst hEr
      have hg2 : gh (aInput g x1 x2).2 E1 P1 = u.2 := congrArg Prod.snd hEr
      have hQ2 : bk D (ad 0) A (aInput g x1 x2).2 s H1 := ⟨u.1, E1, P1, hu, hG1, by rw [← ht, hg2]; exact (hQ1.moved hvm.symm).mono fun q e he hx => hAA _ hx⟩
      exact W.widen (Nat.le_of_ble_eq_true rfl) (Nat.le_of_ble_eq_true rfl) (W.iret hx hb hr (fun t ht hW => ⟨⟨v, (), rfl, hv.symm, by show bk D (ad 0) A (aInput g x1 x2).2 t t.heap; rw [ht]; exact hQ2.moved hW.alike⟩, hS1.F ht⟩) hS1.2.2 dL_inputs_6 hlocks)
    · rw [h1] at hEr; cases hEr
abbrev rL_passes : Room := { frames := 7, cells := 1, slots := 6, locals := 112 }
set_option maxHeartbeats 4000000 in
set_option maxRecDepth 100000 in
theorem wL_passes (l : Launch) (hl : l.stackTraces = false) (D : va_G) (x sz : Nat) (A : Nat → Prop) (hA : ∀ q, sz ≤ q → A q) (g : Sg) (x1 : Int32) : Met l yL_passes wsL_passes rL_passes (b_P D x A A sz g [.ref x, .int x1]) (b_M D x A (aPass g x1)) 1 6 A := by
  refine p_ofWH (cc := cL_passes) (maxL := 3) (ret := (some .int)) (hh := [(0, 5, 6, 13), (0, 5, 10, 16)]) (by decide) rfl ?_
  intro p e s m args below meth c s₁ B hml htab hv
  obtain ⟨hargs, hK, ⟨ad, E, P, hx0, hR, hQ⟩, hE, hsz, ⟨hcIO, hcIA, hcIS⟩, hncS, hncA⟩ := hv
  subst hx0
  have hx := B.exec
  have hb := B.bytes
  have hr := B.returns
  have hts := atoms_spec (ws := wsL_passes) B.pre
  have hown : s.vm.findClass RL = some m.cls := findClass_of_methodNamed B.named
  have hlocks := B.notSynchronized
  have hC : CallFix p m c cL_passes 3 s args wsL_passes RL := ⟨hx, hb, hml, hown, hts⟩
  have hS : va_S A s.heap s.heap [] := va_S.rf
  have hAA : ∀ q, (p_A ad (gh g E P)) q → A q := p_sub hQ
  have hlnk0 : (Cond.classLink RL 13 xIA).before args s = true := hts _ (by decide +kernel)
  have hlnk1 : (Cond.classLink RL 16 xIS).before args s = true := hts _ (by decide +kernel)
  obtain ⟨ls, hls, hL⟩ := p_start (n := 3) hargs (by simp [p_cat, p_ci, p_cr, p_cn]) (Nat.le_of_ble_eq_true rfl)
  show W p l e rL_passes s m args below meth c s.heap [] 0 0 (MQ below (b_M D (ad 0) A (aPass g x1)) args s 1 6 A) (entryFrame m args 3)
  rw [hls]
  clear hls
  have hL : p_L ls 3 [(0, .ref (ad 0)), (1, .int x1)] := hL
  have hr0 : ∃ (r : (String × PH) ⊕ (Int32 × PH)) (E1 : IT) (P1 : PT), fX3_advance (gh g E P) 0 x1 = some r ∧ GC (aPass g x1).2 E1 P1 ∧ (r = .inr ((aPass g x1).1, gh (aPass g x1).2 E1 P1) ∨ ∃ Ex h, (Ex, (aPass g x1).1) ∈ [(xIA, kAR), (xIS, kST)] ∧ r = .inl (Ex, h) ∧ sub (gh (aPass g x1).2 E1 P1) h) := by
    obtain ⟨E1, P1, q1, q2 | ⟨Ex, h, q2, q3, q4⟩⟩ := S_advance hR x1
    · exact ⟨_, E1, P1, q2, q1, Or.inl rfl⟩
    · exact ⟨_, E1, P1, q3, q1, Or.inr ⟨Ex, h, q2, rfl, q4⟩⟩
  obtain ⟨r, E1, P1, hf, hG1, hcs⟩ := hr0
  refine lv_aload_n hx hb dL_passes_0 rfl (lv_at hL.1 0 rfl) ?_
  refine lv_iload_n hx hb dL_passes_1 rfl (lv_at hL.1 1 rfl) ?_
  refine vx_calli (vx_runV (As := [.int x1]) (rest := []) hC (kX3_advance l hl D ad sz (gh g E P) 0 x1 r hf) (cwV 1 hts gL_passes_X3_advance rfl rfl rfl (by decide +kernel) ⟨Nat.le_of_ble_eq_true rfl, Nat.le_of_ble_eq_true rfl⟩) (p_preVE hK (hQ.mono fun q e he _ => ⟨q, e, he, rfl⟩) (hE.narrow hAA) hsz hC_ob rfl) rfl rfl hL.1.1 rfl (lv_room (Nat.le_of_ble_eq_true rfl)) dL_passes_2 ⟨Nat.le_of_ble_eq_true rfl, Nat.le_of_ble_eq_true rfl⟩) hS (fun q _ hq => hAA q hq) (fun q hq => hAA q hq) (fun q _ hq => hAA q hq) ?_ ?_
  · intro E9 ce q9 u t H1 locs1 ht hvm hu hEr hz hk hS1 hcell hcv hcl
    obtain ⟨hEr, hQ1⟩ := hEr
    rcases hcs with h1 | ⟨Ex, h, hmem, h1, hsub⟩
    · rw [h1] at hEr; cases hEr
    · rw [h1] at hEr
      cases hEr
      have hQ2 : bk D (ad 0) A (aPass g x1).2 s H1 := ⟨u.1, E1, P1, hu, hG1, by rw [← ht]; exact ((hQ1.moved hvm.symm).sub hsub hG1.1.2.2.2).mono fun q e he hx => hAA _ hx⟩
      have hcc : (E9 = xIA ∧ (aPass g x1).1 = kAR) ∨ (E9 = xIS ∧ (aPass g x1).1 = kST) := by simpa using hmem
      rcases hcc with ⟨rfl, hv⟩ | ⟨rfl, hv⟩
      · refine vx_catch hown [] _ [_] (htab.trans rfl) (fun z hz => by cases hz) (by decide) (by decide) hlnk0 (hcIA.use rfl) hcell hcv hcl ?_
        refine lv_astore_n hx hb dL_passes_6 rfl hL.1 (by decide) rfl fun ls' h1 => ?_
        refine lv_ldc (v := kAR) hx hb hown (hts (.constant RL 15 kAR) (by decide +kernel)) dL_passes_7 ?_
        exact W.widen (Nat.le_of_ble_eq_true rfl) (Nat.le_of_ble_eq_true rfl) (W.iret hx hb hr (fun t ht hW => ⟨⟨kAR, (), rfl, hv.symm, by show bk D (ad 0) A (aPass g x1).2 t t.heap; rw [ht]; exact hQ2.moved hW.alike⟩, hS1.F ht⟩) hS1.2.2 dL_passes_9 hlocks)
      · refine vx_catch hown [_] _ [] (htab.trans rfl) (fun z hz => by rw [List.mem_singleton.mp hz]; exact Or.inr ⟨by decide, xIA, hlnk0, hncS⟩) (by decide) (by decide) hlnk1 (hcIS.use rfl) hcell hcv hcl ?_
        refine lv_astore_n hx hb dL_passes_10 rfl hL.1 (by decide) rfl fun ls' h1 => ?_
        refine lv_ldc (v := kST) hx hb hown (hts (.constant RL 18 kST) (by decide +kernel)) dL_passes_11 ?_
        exact W.widen (Nat.le_of_ble_eq_true rfl) (Nat.le_of_ble_eq_true rfl) (W.iret hx hb hr (fun t ht hW => ⟨⟨kST, (), rfl, hv.symm, by show bk D (ad 0) A (aPass g x1).2 t t.heap; rw [ht]; exact hQ2.moved hW.alike⟩, hS1.F ht⟩) hS1.2.2 dL_passes_13 hlocks)
  · intro v u t H1 locs1 ht hvm hEr hQ1 hz hk hS1
    obtain ⟨hEr, hu⟩ := hEr
    rcases hcs with h1 | ⟨Ex, h, hmem, h1, hsub⟩
    · rw [h1] at hEr
      have hEr := Sum.inr.inj hEr
      have hv : (aPass g x1).1 = v := congrArg Prod.fst hEr
      have hg2 : gh (aPass g x1).2 E1 P1 = u.2 := congrArg Prod.snd hEr
      have hQ2 : bk D (ad 0) A (aPass g x1).2 s H1 := ⟨u.1, E1, P1, hu, hG1, by rw [← ht, hg2]; exact (hQ1.moved hvm.symm).mono fun q e he hx => hAA _ hx⟩
      exact W.widen (Nat.le_of_ble_eq_true rfl) (Nat.le_of_ble_eq_true rfl) (W.iret hx hb hr (fun t ht hW => ⟨⟨v, (), rfl, hv.symm, by show bk D (ad 0) A (aPass g x1).2 t t.heap; rw [ht]; exact hQ2.moved hW.alike⟩, hS1.F ht⟩) hS1.2.2 dL_passes_5 hlocks)
    · rw [h1] at hEr; cases hEr
abbrev rL_moves : Room := { frames := 8, cells := 2, slots := 12, locals := 153 }
set_option maxHeartbeats 4000000 in
set_option maxRecDepth 100000 in
theorem wL_moves (l : Launch) (hl : l.stackTraces = false) (D : va_G) (x sz : Nat) (A : Nat → Prop) (hA : ∀ q, sz ≤ q → A q) (g : Sg) (x1 x2 x3 : Int32) : Met l yL_moves wsL_moves rL_moves (b_P D x A A sz g [.ref x, .int x1, .int x2, .int x3]) (b_M D x A (aMove g x1 x2 x3)) 2 12 A := by
  refine p_ofWH (cc := cL_moves) (maxL := 5) (ret := (some .int)) (hh := [(0, 8, 9, 23), (0, 8, 14, 13)]) (by decide) rfl ?_
  intro p e s m args below meth c s₁ B hml htab hv
  obtain ⟨hargs, hK, ⟨ad, E, P, hx0, hR, hQ⟩, hE, hsz, ⟨hcIO, hcIA, hcIS⟩, hncS, hncA⟩ := hv
  subst hx0
  have hx := B.exec
  have hb := B.bytes
  have hr := B.returns
  have hts := atoms_spec (ws := wsL_moves) B.pre
  have hown : s.vm.findClass RL = some m.cls := findClass_of_methodNamed B.named
  have hlocks := B.notSynchronized
  have hC : CallFix p m c cL_moves 5 s args wsL_moves RL := ⟨hx, hb, hml, hown, hts⟩
  have hS : va_S A s.heap s.heap [] := va_S.rf
  have hAA : ∀ q, (p_A ad (gh g E P)) q → A q := p_sub hQ
  have hlnk0 : (Cond.classLink RL 23 xIO).before args s = true := hts _ (by decide +kernel)
  have hlnk1 : (Cond.classLink RL 13 xIA).before args s = true := hts _ (by decide +kernel)
  obtain ⟨ls, hls, hL⟩ := p_start (n := 5) hargs (by simp [p_cat, p_ci, p_cr, p_cn]) (Nat.le_of_ble_eq_true rfl)
  show W p l e rL_moves s m args below meth c s.heap [] 0 0 (MQ below (b_M D (ad 0) A (aMove g x1 x2 x3)) args s 2 12 A) (entryFrame m args 5)
  rw [hls]
  clear hls
  have hL : p_L ls 5 [(0, .ref (ad 0)), (1, .int x1), (2, .int x2), (3, .int x3)] := hL
  have hr0 : ∃ (r : (String × PH) ⊕ PH) (E1 : IT) (P1 : PT), fX3_move (gh g E P) 0 x1 x2 x3 = some r ∧ GC (aMove g x1 x2 x3).2 E1 P1 ∧ (((aMove g x1 x2 x3).1 = 0 ∧ r = .inr (gh (aMove g x1 x2 x3).2 E1 P1)) ∨ ∃ Ex h, (Ex, (aMove g x1 x2 x3).1) ∈ [(xIO, kIX), (xIA, kAR)] ∧ r = .inl (Ex, h) ∧ sub (gh (aMove g x1 x2 x3).2 E1 P1) h) := by
    obtain ⟨E1, P1, q1, ⟨q0, q2⟩ | ⟨Ex, h, q2, q3, q4⟩⟩ := S_move hR x1 x2 x3
    · exact ⟨_, E1, P1, q2, q1, Or.inl ⟨q0, rfl⟩⟩
    · exact ⟨_, E1, P1, q3, q1, Or.inr ⟨Ex, h, q2, rfl, q4⟩⟩
  obtain ⟨r, E1, P1, hf, hG1, hcs⟩ := hr0
  refine lv_aload_n hx hb dL_moves_0 rfl (lv_at hL.1 0 rfl) ?_
  refine lv_iload_n hx hb dL_moves_1 rfl (lv_at hL.1 1 rfl) ?_
  refine lv_iload_n hx hb dL_moves_2 rfl (lv_at hL.1 2 rfl) ?_
  refine lv_iload_n hx hb dL_moves_3 rfl (lv_at hL.1 3 rfl) ?_
  refine vx_callv (vx_runV (As := [.int x1, .int x2, .int x3]) (rest := []) hC (kX3_move l hl D ad sz (gh g E P) 0 x1 x2 x3 r hf) (cwV 3 hts gL_moves_X3_move rfl rfl rfl (by decide +kernel) ⟨Nat.le_of_ble_eq_true rfl, Nat.le_of_ble_eq_true rfl⟩) (p_preVE hK (hQ.mono fun q e he _ => ⟨q, e, he, rfl⟩) (hE.narrow hAA) hsz hC_ob rfl) rfl rfl hL.1.1 rfl (lv_room (Nat.le_of_ble_eq_true rfl)) dL_moves_4 ⟨Nat.le_of_ble_eq_true rfl, Nat.le_of_ble_eq_true rfl⟩) hS (fun q _ hq => hAA q hq) (fun q hq => hAA q hq) (fun q _ hq => hAA q hq) ?_ ?_
  · intro E9 ce q9 u t H1 locs1 ht hvm hu hEr hz hk hS1 hcell hcv hcl
    obtain ⟨hEr, hQ1⟩ := hEr
    rcases hcs with ⟨-, h1⟩ | ⟨Ex, h, hmem, h1, hsub⟩
    · rw [h1] at hEr; cases hEr
    · rw [h1] at hEr
      cases hEr
      have hQ2 : bk D (ad 0) A (aMove g x1 x2 x3).2 s H1 := ⟨u.1, E1, P1, hu, hG1, by rw [← ht]; exact ((hQ1.moved hvm.symm).sub hsub hG1.1.2.2.2).mono fun q e he hx => hAA _ hx⟩
      have hcc : (E9 = xIO ∧ (aMove g x1 x2 x3).1 = kIX) ∨ (E9 = xIA ∧ (aMove g x1 x2 x3).1 = kAR) := by simpa using hmem
      rcases hcc with ⟨rfl, hv⟩ | ⟨rfl, hv⟩
      · refine vx_catch hown [] _ [_] (htab.trans rfl) (fun z hz => by cases hz) (by decide) (by decide) hlnk0 (hcIO.use rfl) hcell hcv hcl ?_
        refine lv_astore hx hb dL_moves_9 hL.1 (by decide) rfl fun ls' h1 => ?_
        refine lv_ldc (v := kIX) hx hb hown (hts (.constant RL 25 kIX) (by decide +kernel)) dL_moves_11 ?_
        exact W.widen (Nat.le_of_ble_eq_true rfl) (Nat.le_of_ble_eq_true rfl) (W.iret hx hb hr (fun t ht hW => ⟨⟨kIX, (), rfl, hv.symm, by show bk D (ad 0) A (aMove g x1 x2 x3).2 t t.heap; rw [ht]; exact hQ2.moved hW.alike⟩, hS1.F ht⟩) hS1.2.2 dL_moves_13 hlocks)
      · refine vx_catch hown [_] _ [] (htab.trans rfl) (fun z hz => by rw [List.mem_singleton.mp hz]; exact Or.inr ⟨by decide, xIO, hlnk0, hncA⟩) (by decide) (by decide) hlnk1 (hcIA.use rfl) hcell hcv hcl ?_
        refine lv_astore hx hb dL_moves_14 hL.1 (by decide) rfl fun ls' h1 => ?_
        refine lv_ldc (v := kAR) hx hb hown (hts (.constant RL 15 kAR) (by decide +kernel)) dL_moves_16 ?_
        exact W.widen (Nat.le_of_ble_eq_true rfl) (Nat.le_of_ble_eq_true rfl) (W.iret hx hb hr (fun t ht hW => ⟨⟨kAR, (), rfl, hv.symm, by show bk D (ad 0) A (aMove g x1 x2 x3).2 t t.heap; rw [ht]; exact hQ2.moved hW.alike⟩, hS1.F ht⟩) hS1.2.2 dL_moves_18 hlocks)
  · intro u t H1 locs1 ht hvm hEr hQ1 hz hk hS1
    obtain ⟨hEr, hu⟩ := hEr
    rcases hcs with ⟨hv, h1⟩ | ⟨Ex, h, hmem, h1, hsub⟩
    · rw [h1] at hEr
      have hEr := Sum.inr.inj hEr
      have hQ2 : bk D (ad 0) A (aMove g x1 x2 x3).2 s H1 := ⟨u.1, E1, P1, hu, hG1, by rw [← ht, hEr]; exact (hQ1.moved hvm.symm).mono fun q e he hx => hAA _ hx⟩
      refine lv_iconst (v := 0) hx hb dL_moves_7 (by decide) ?_
      exact W.widen (Nat.le_of_ble_eq_true rfl) (Nat.le_of_ble_eq_true rfl) (W.iret hx hb hr (fun t ht hW => ⟨⟨0, (), rfl, hv.symm, by show bk D (ad 0) A (aMove g x1 x2 x3).2 t t.heap; rw [ht]; exact hQ2.moved hW.alike⟩, hS1.F ht⟩) hS1.2.2 dL_moves_8 hlocks)
    · rw [h1] at hEr; cases hEr
abbrev rL_opens : Room := { frames := 7, cells := 3, slots := 25, locals := 137 }
set_option maxHeartbeats 4000000 in
set_option maxRecDepth 100000 in
theorem wL_opens (l : Launch) (hl : l.stackTraces = false) (D : va_G) (x sz : Nat) (A : Nat → Prop) (hA : ∀ q, sz ≤ q → A q) (g : Sg) (x1 x2 x3 x4 x5 x6 x7 : Int32) (h5 : x5 = 0 ∨ x5 = 1) : Met l yL_opens wsL_opens rL_opens (b_P D x A A sz g [.ref x, .int x1, .int x2, .int x3, .int x4, .int x5, .int x6, .int x7]) (b_M D x A (aOpen g x1 x2 x3 x4 x5 x6 x7)) 3 25 A := by
  refine p_ofWH (cc := cL_opens) (maxL := 9) (ret := (some .int)) (hh := [(0, 15, 16, 13), (0, 15, 21, 16)]) (by decide) rfl ?_
  intro p e s m args below meth c s₁ B hml htab hv
  obtain ⟨hargs, hK, ⟨ad, E, P, hx0, hR, hQ⟩, hE, hsz, ⟨hcIO, hcIA, hcIS⟩, hncS, hncA⟩ := hv
  subst hx0
  have hx := B.exec
  have hb := B.bytes
  have hr := B.returns
  have hts := atoms_spec (ws := wsL_opens) B.pre
  have hown : s.vm.findClass RL = some m.cls := findClass_of_methodNamed B.named
  have hlocks := B.notSynchronized
  have hC : CallFix p m c cL_opens 9 s args wsL_opens RL := ⟨hx, hb, hml, hown, hts⟩
  have hS : va_S A s.heap s.heap [] := va_S.rf
  have hAA : ∀ q, (p_AN ad (gh g E P) sz) q → A q := fun q hq => hq.elim (p_sub hQ q) (hA q)
  have hlnk0 : (Cond.classLink RL 13 xIA).before args s = true := hts _ (by decide +kernel)
  have hlnk1 : (Cond.classLink RL 16 xIS).before args s = true := hts _ (by decide +kernel)
  obtain ⟨ls, hls, hL⟩ := p_start (n := 9) hargs (by simp [p_cat, p_ci, p_cr, p_cn]) (Nat.le_of_ble_eq_true rfl)
  show W p l e rL_opens s m args below meth c s.heap [] 0 0 (MQ below (b_M D (ad 0) A (aOpen g x1 x2 x3 x4 x5 x6 x7)) args s 3 25 A) (entryFrame m args 9)
  rw [hls]
  clear hls
  have hL : p_L ls 9 [(0, .ref (ad 0)), (1, .int x1), (2, .int x2), (3, .int x3), (4, .int x4), (5, .int x5), (6, .int x6), (7, .int x7)] := hL
  have hr0 : ∃ (r : (String × PH) ⊕ (Int32 × PH)) (E1 : IT) (P1 : PT), fX3_open (gh g E P) 0 x1 x2 x3 x4 x5 x6 x7 (wa g.2.2) (ta g.2.2) = some r ∧ GC (aOpen g x1 x2 x3 x4 x5 x6 x7).2 E1 P1 ∧ (r = .inr ((aOpen g x1 x2 x3 x4 x5 x6 x7).1, gh (aOpen g x1 x2 x3 x4 x5 x6 x7).2 E1 P1) ∨ ∃ Ex h, (Ex, (aOpen g x1 x2 x3 x4 x5 x6 x7).1) ∈ [(xIA, kAR), (xIS, kST)] ∧ r = .inl (Ex, h) ∧ sub (gh (aOpen g x1 x2 x3 x4 x5 x6 x7).2 E1 P1) h) := by
    obtain ⟨E1, P1, q1, q2 | ⟨Ex, h, q2, q3, q4⟩⟩ := S_open hR x1 x2 x3 x4 x5 x6 x7 h5
    · exact ⟨_, E1, P1, q2, q1, Or.inl rfl⟩
    · exact ⟨_, E1, P1, q3, q1, Or.inr ⟨Ex, h, q2, rfl, q4⟩⟩
  obtain ⟨r, E1, P1, hf, hG1, hcs⟩ := hr0
  refine lv_aload_n hx hb dL_opens_0 rfl (lv_at hL.1 0 rfl) ?_
  refine lv_iload_n hx hb dL_opens_1 rfl (lv_at hL.1 1 rfl) ?_
  refine lv_iload_n hx hb dL_opens_2 rfl (lv_at hL.1 2 rfl) ?_
  refine lv_iload_n hx hb dL_opens_3 rfl (lv_at hL.1 3 rfl) ?_
  refine lv_iload hx hb dL_opens_4 (lv_at hL.1 4 rfl) ?_
  refine lv_iload hx hb dL_opens_6 (lv_at hL.1 5 rfl) ?_
  refine lv_iload hx hb dL_opens_8 (lv_at hL.1 6 rfl) ?_
  refine lv_iload hx hb dL_opens_10 (lv_at hL.1 7 rfl) ?_
  refine vx_calli (vx_runV (As := [.int x1, .int x2, .int x3, .int x4, .int x5, .int x6, .int x7]) (rest := []) hC (kX3_open l hl D ad sz (gh g E P) 0 x1 x2 x3 x4 x5 x6 x7 (wa g.2.2) (ta g.2.2) r hf) (cwV 7 hts gL_opens_X3_open rfl rfl rfl (by decide +kernel) ⟨Nat.le_of_ble_eq_true rfl, Nat.le_of_ble_eq_true rfl⟩) (p_preVE hK (hQ.mono fun q e he _ => Or.inl ⟨q, e, he, rfl⟩) (hE.narrow hAA) hsz hC_ob rfl) rfl rfl hL.1.1 rfl (lv_room (Nat.le_of_ble_eq_true rfl)) dL_opens_12 ⟨Nat.le_of_ble_eq_true rfl, Nat.le_of_ble_eq_true rfl⟩) hS (fun q _ hq => hAA q hq) (fun q hq => hAA q hq) (fun q _ hq => hAA q hq) ?_ ?_
  · intro E9 ce q9 u t H1 locs1 ht hvm hu hEr hz hk hS1 hcell hcv hcl
    obtain ⟨hEr, hQ1⟩ := hEr
    rcases hcs with h1 | ⟨Ex, h, hmem, h1, hsub⟩
    · rw [h1] at hEr; cases hEr
    · rw [h1] at hEr
      cases hEr
      have hQ2 : bk D (ad 0) A (aOpen g x1 x2 x3 x4 x5 x6 x7).2 s H1 := ⟨u.1, E1, P1, hu, hG1, by rw [← ht]; exact ((hQ1.moved hvm.symm).sub hsub hG1.1.2.2.2).mono fun q e he hx => hAA _ hx⟩
      have hcc : (E9 = xIA ∧ (aOpen g x1 x2 x3 x4 x5 x6 x7).1 = kAR) ∨ (E9 = xIS ∧ (aOpen g x1 x2 x3 x4 x5 x6 x7).1 = kST) := by simpa using hmem
      rcases hcc with ⟨rfl, hv⟩ | ⟨rfl, hv⟩
      · refine vx_catch hown [] _ [_] (htab.trans rfl) (fun z hz => by cases hz) (by decide) (by decide) hlnk0 (hcIA.use rfl) hcell hcv hcl ?_
        refine lv_astore hx hb dL_opens_16 hL.1 (by decide) rfl fun ls' h1 => ?_
        refine lv_ldc (v := kAR) hx hb hown (hts (.constant RL 15 kAR) (by decide +kernel)) dL_opens_18 ?_
        exact W.widen (Nat.le_of_ble_eq_true rfl) (Nat.le_of_ble_eq_true rfl) (W.iret hx hb hr (fun t ht hW => ⟨⟨kAR, (), rfl, hv.symm, by show bk D (ad 0) A (aOpen g x1 x2 x3 x4 x5 x6 x7).2 t t.heap; rw [ht]; exact hQ2.moved hW.alike⟩, hS1.F ht⟩) hS1.2.2 dL_opens_20 hlocks)
      · refine vx_catch hown [_] _ [] (htab.trans rfl) (fun z hz => by rw [List.mem_singleton.mp hz]; exact Or.inr ⟨by decide, xIA, hlnk0, hncS⟩) (by decide) (by decide) hlnk1 (hcIS.use rfl) hcell hcv hcl ?_
        refine lv_astore hx hb dL_opens_21 hL.1 (by decide) rfl fun ls' h1 => ?_
        refine lv_ldc (v := kST) hx hb hown (hts (.constant RL 18 kST) (by decide +kernel)) dL_opens_23 ?_
        exact W.widen (Nat.le_of_ble_eq_true rfl) (Nat.le_of_ble_eq_true rfl) (W.iret hx hb hr (fun t ht hW => ⟨⟨kST, (), rfl, hv.symm, by show bk D (ad 0) A (aOpen g x1 x2 x3 x4 x5 x6 x7).2 t t.heap; rw [ht]; exact hQ2.moved hW.alike⟩, hS1.F ht⟩) hS1.2.2 dL_opens_25 hlocks)
  · intro v u t H1 locs1 ht hvm hEr hQ1 hz hk hS1
    obtain ⟨hEr, hu⟩ := hEr
    rcases hcs with h1 | ⟨Ex, h, hmem, h1, hsub⟩
    · rw [h1] at hEr
      have hEr := Sum.inr.inj hEr
      have hv : (aOpen g x1 x2 x3 x4 x5 x6 x7).1 = v := congrArg Prod.fst hEr
      have hg2 : gh (aOpen g x1 x2 x3 x4 x5 x6 x7).2 E1 P1 = u.2 := congrArg Prod.snd hEr
      have hQ2 : bk D (ad 0) A (aOpen g x1 x2 x3 x4 x5 x6 x7).2 s H1 := ⟨u.1, E1, P1, hu, hG1, by rw [← ht, hg2]; exact (hQ1.moved hvm.symm).mono fun q e he hx => hAA _ hx⟩
      exact W.widen (Nat.le_of_ble_eq_true rfl) (Nat.le_of_ble_eq_true rfl) (W.iret hx hb hr (fun t ht hW => ⟨⟨v, (), rfl, hv.symm, by show bk D (ad 0) A (aOpen g x1 x2 x3 x4 x5 x6 x7).2 t t.heap; rw [ht]; exact hQ2.moved hW.alike⟩, hS1.F ht⟩) hS1.2.2 dL_opens_15 hlocks)
    · rw [h1] at hEr; cases hEr
