/-! THE LAW: its wrappers of the calls that only read; text by wip/p22/gen_w.py -/
abbrev rL_at : Room := { frames := 8, cells := 1, slots := 6, locals := 134 }
set_option maxHeartbeats 4000000 in
set_option maxRecDepth 100000 in
theorem wL_at (l : Launch) (hl : l.stackTraces = false) (D : va_G) (x sz : Nat) (g : Sg) (x1 x2 : Int32) : Met l yL_at wsL_at rL_at (b_P D x p_tt p_no sz g [.ref x, .int x1, .int x2]) (p_Ri (aAt g x1 x2)) 1 6 p_no := by
  refine p_ofWH (cc := cL_at) (maxL := 4) (ret := (some .int)) (hh := [(0, 6, 7, 23)]) (by decide) rfl ?_
  intro p e s m args below meth c s₁ B hml htab hv
  obtain ⟨hargs, hK, ⟨ad, E, P, hx0, hR, hQ⟩, hE, hsz, ⟨hcast, -, -⟩, -, -⟩ := hv
  subst hx0
  have hx := B.exec
  have hb := B.bytes
  have hr := B.returns
  have hts := atoms_spec (ws := wsL_at) B.pre
  have hown : s.vm.findClass RL = some m.cls := findClass_of_methodNamed B.named
  have hlocks := B.notSynchronized
  have hC : CallFix p m c cL_at 4 s args wsL_at RL := ⟨hx, hb, hml, hown, hts⟩
  have hS : va_S p_no s.heap s.heap [] := va_S.rf
  have hlnk : (Cond.classLink RL 23 xIO).before args s = true := hts _ (by decide +kernel)
  obtain ⟨ls, hls, hL⟩ := p_start (n := 4) hargs (by simp [p_cat, p_ci, p_cr, p_cn]) (Nat.le_of_ble_eq_true rfl)
  show W p l e rL_at s m args below meth c s.heap [] 0 0 (MQ below (p_Ri (aAt g x1 x2)) args s 1 6 p_no) (entryFrame m args 4)
  rw [hls]
  clear hls
  have hL : p_L ls 4 [(0, .ref (ad 0)), (1, .int x1), (2, .int x2)] := hL
  have hr0 : ∃ r, fX3_at (gh g E P) 0 x1 x2 = some r ∧ ((r = .inl xIO ∧ aAt g x1 x2 = kIX) ∨ r = .inr (aAt g x1 x2)) := by
    rcases (S_at hR x1 x2) with ⟨q1, q2⟩ | q1
    · exact ⟨_, q1, Or.inl ⟨rfl, q2⟩⟩
    · exact ⟨_, q1, Or.inr rfl⟩
  obtain ⟨r, hf, hcs⟩ := hr0
  refine lv_aload_n hx hb dL_at_0 rfl (lv_at hL.1 0 rfl) ?_
  refine lv_iload_n hx hb dL_at_1 rfl (lv_at hL.1 1 rfl) ?_
  refine lv_iload_n hx hb dL_at_2 rfl (lv_at hL.1 2 rfl) ?_
  refine vx_calli (vx_runV (As := [.int x1, .int x2]) (rest := []) hC (kX3_at l hl D ad p_no sz (gh g E P) 0 x1 x2 r hf) (cwV 2 hts gL_at_X3_at rfl rfl rfl (by decide +kernel) ⟨Nat.le_of_ble_eq_true rfl, Nat.le_of_ble_eq_true rfl⟩) (p_preVE hK hQ hE hsz hC_ob rfl) rfl rfl hL.1.1 rfl (lv_room (Nat.le_of_ble_eq_true rfl)) dL_at_3 ⟨Nat.le_of_ble_eq_true rfl, Nat.le_of_ble_eq_true rfl⟩) hS (fun _ _ q => q.elim) (fun _ q => q.elim) (fun _ _ q => q.elim) ?_ ?_
  · intro E9 ce q9 u t H1 locs1 ht hvm _ hEr hz hk hS1 hcell hcv hcl
    rcases hcs with ⟨h1, hv⟩ | h1
    · rw [h1] at hEr
      cases hEr
      refine vx_catch hown [] _ [] (htab.trans rfl) (fun z hz => by cases hz) (by decide) (by decide) hlnk (hcast.use rfl) hcell hcv hcl ?_
      refine lv_astore_n hx hb dL_at_7 rfl hL.1 (by decide) rfl fun ls' h1 => ?_
      refine lv_ldc (v := kIX) hx hb hown (hts (.constant RL 25 kIX) (by decide +kernel)) dL_at_8 ?_
      exact W.widen (Nat.le_of_ble_eq_true rfl) (Nat.le_of_ble_eq_true rfl) (W.iret hx hb hr (fun t ht hW => ⟨⟨kIX, (), rfl, hv.symm, trivial⟩, hS1.F ht⟩) hS1.2.2 dL_at_10 hlocks)
    · rw [h1] at hEr; cases hEr
  · intro v u t H1 locs1 ht hvm hEr _ hz hk hS1
    have hv : v = aAt g x1 x2 := by
      rcases hcs with ⟨h1, -⟩ | h1
      · rw [h1] at hEr; cases hEr
      · rw [h1] at hEr; cases hEr; rfl
    exact W.widen (Nat.le_of_ble_eq_true rfl) (Nat.le_of_ble_eq_true rfl) (W.iret hx hb hr (fun t ht hW => ⟨⟨v, (), rfl, hv, trivial⟩, hS1.F ht⟩) hS1.2.2 dL_at_6 hlocks)
abbrev rL_place : Room := { frames := 8, cells := 1, slots := 6, locals := 133 }
set_option maxHeartbeats 4000000 in
set_option maxRecDepth 100000 in
theorem wL_place (l : Launch) (hl : l.stackTraces = false) (D : va_G) (x sz : Nat) (g : Sg) (x1 : Int32) : Met l yL_place wsL_place rL_place (b_P D x p_tt p_no sz g [.ref x, .int x1]) (p_Ri (aPlace g x1)) 1 6 p_no := by
  refine p_ofWH (cc := cL_place) (maxL := 3) (ret := (some .int)) (hh := [(0, 5, 6, 23)]) (by decide) rfl ?_
  intro p e s m args below meth c s₁ B hml htab hv
  obtain ⟨hargs, hK, ⟨ad, E, P, hx0, hR, hQ⟩, hE, hsz, ⟨hcast, -, -⟩, -, -⟩ := hv
  subst hx0
  have hx := B.exec
  have hb := B.bytes
  have hr := B.returns
  have hts := atoms_spec (ws := wsL_place) B.pre
  have hown : s.vm.findClass RL = some m.cls := findClass_of_methodNamed B.named
  have hlocks := B.notSynchronized
  have hC : CallFix p m c cL_place 3 s args wsL_place RL := ⟨hx, hb, hml, hown, hts⟩
  have hS : va_S p_no s.heap s.heap [] := va_S.rf
  have hlnk : (Cond.classLink RL 23 xIO).before args s = true := hts _ (by decide +kernel)
  obtain ⟨ls, hls, hL⟩ := p_start (n := 3) hargs (by simp [p_cat, p_ci, p_cr, p_cn]) (Nat.le_of_ble_eq_true rfl)
  show W p l e rL_place s m args below meth c s.heap [] 0 0 (MQ below (p_Ri (aPlace g x1)) args s 1 6 p_no) (entryFrame m args 3)
  rw [hls]
  clear hls
  have hL : p_L ls 3 [(0, .ref (ad 0)), (1, .int x1)] := hL
  have hr0 : ∃ r, fX3_placeOf (gh g E P) 0 x1 = some r ∧ ((r = .inl xIO ∧ aPlace g x1 = kIX) ∨ r = .inr (aPlace g x1)) := by
    rcases (S_rd hR x1).1.1.1.1.1 with ⟨q1, q2⟩ | q1
    · exact ⟨_, q1, Or.inl ⟨rfl, q2⟩⟩
    · exact ⟨_, q1, Or.inr rfl⟩
  obtain ⟨r, hf, hcs⟩ := hr0
  refine lv_aload_n hx hb dL_place_0 rfl (lv_at hL.1 0 rfl) ?_
  refine lv_iload_n hx hb dL_place_1 rfl (lv_at hL.1 1 rfl) ?_
  refine vx_calli (vx_runV (As := [.int x1]) (rest := []) hC (kX3_placeOf l hl D ad p_no sz (gh g E P) 0 x1 r hf) (cwV 1 hts gL_place_X3_placeOf rfl rfl rfl (by decide +kernel) ⟨Nat.le_of_ble_eq_true rfl, Nat.le_of_ble_eq_true rfl⟩) (p_preVE hK hQ hE hsz hC_ob rfl) rfl rfl hL.1.1 rfl (lv_room (Nat.le_of_ble_eq_true rfl)) dL_place_2 ⟨Nat.le_of_ble_eq_true rfl, Nat.le_of_ble_eq_true rfl⟩) hS (fun _ _ q => q.elim) (fun _ q => q.elim) (fun _ _ q => q.elim) ?_ ?_
  · intro E9 ce q9 u t H1 locs1 ht hvm _ hEr hz hk hS1 hcell hcv hcl
    rcases hcs with ⟨h1, hv⟩ | h1
    · rw [h1] at hEr
      cases hEr
      refine vx_catch hown [] _ [] (htab.trans rfl) (fun z hz => by cases hz) (by decide) (by decide) hlnk (hcast.use rfl) hcell hcv hcl ?_
      refine lv_astore_n hx hb dL_place_6 rfl hL.1 (by decide) rfl fun ls' h1 => ?_
      refine lv_ldc (v := kIX) hx hb hown (hts (.constant RL 25 kIX) (by decide +kernel)) dL_place_7 ?_
      exact W.widen (Nat.le_of_ble_eq_true rfl) (Nat.le_of_ble_eq_true rfl) (W.iret hx hb hr (fun t ht hW => ⟨⟨kIX, (), rfl, hv.symm, trivial⟩, hS1.F ht⟩) hS1.2.2 dL_place_9 hlocks)
    · rw [h1] at hEr; cases hEr
  · intro v u t H1 locs1 ht hvm hEr _ hz hk hS1
    have hv : v = aPlace g x1 := by
      rcases hcs with ⟨h1, -⟩ | h1
      · rw [h1] at hEr; cases hEr
      · rw [h1] at hEr; cases hEr; rfl
    exact W.widen (Nat.le_of_ble_eq_true rfl) (Nat.le_of_ble_eq_true rfl) (W.iret hx hb hr (fun t ht hW => ⟨⟨v, (), rfl, hv, trivial⟩, hS1.F ht⟩) hS1.2.2 dL_place_5 hlocks)
abbrev rL_seen : Room := { frames := 8, cells := 1, slots := 6, locals := 133 }
set_option maxHeartbeats 4000000 in
set_option maxRecDepth 100000 in
theorem wL_seen (l : Launch) (hl : l.stackTraces = false) (D : va_G) (x sz : Nat) (g : Sg) (x1 : Int32) : Met l yL_seen wsL_seen rL_seen (b_P D x p_tt p_no sz g [.ref x, .int x1]) (p_Ri (aSeen g x1)) 1 6 p_no := by
  refine p_ofWH (cc := cL_seen) (maxL := 3) (ret := (some .int)) (hh := [(0, 13, 14, 23)]) (by decide) rfl ?_
  intro p e s m args below meth c s₁ B hml htab hv
  obtain ⟨hargs, hK, ⟨ad, E, P, hx0, hR, hQ⟩, hE, hsz, ⟨hcast, -, -⟩, -, -⟩ := hv
  subst hx0
  have hx := B.exec
  have hb := B.bytes
  have hr := B.returns
  have hts := atoms_spec (ws := wsL_seen) B.pre
  have hown : s.vm.findClass RL = some m.cls := findClass_of_methodNamed B.named
  have hlocks := B.notSynchronized
  have hC : CallFix p m c cL_seen 3 s args wsL_seen RL := ⟨hx, hb, hml, hown, hts⟩
  have hS : va_S p_no s.heap s.heap [] := va_S.rf
  have hlnk : (Cond.classLink RL 23 xIO).before args s = true := hts _ (by decide +kernel)
  obtain ⟨ls, hls, hL⟩ := p_start (n := 3) hargs (by simp [p_cat, p_ci, p_cr, p_cn]) (Nat.le_of_ble_eq_true rfl)
  show W p l e rL_seen s m args below meth c s.heap [] 0 0 (MQ below (p_Ri (aSeen g x1)) args s 1 6 p_no) (entryFrame m args 3)
  rw [hls]
  clear hls
  have hL : p_L ls 3 [(0, .ref (ad 0)), (1, .int x1)] := hL
  have hr0 : ∃ r, fX3_isSeen (gh g E P) 0 x1 = some r ∧ ((r = .inl xIO ∧ aSeen g x1 = kIX) ∨ r = .inr (aSeen g x1)) := by
    rcases (S_rd hR x1).1.1.1.1.2 with ⟨q1, q2⟩ | q1
    · exact ⟨_, q1, Or.inl ⟨rfl, q2⟩⟩
    · exact ⟨_, q1, Or.inr rfl⟩
  obtain ⟨r, hf, hcs⟩ := hr0
  refine lv_aload_n hx hb dL_seen_0 rfl (lv_at hL.1 0 rfl) ?_
  refine lv_iload_n hx hb dL_seen_1 rfl (lv_at hL.1 1 rfl) ?_
  refine vx_calli (vx_runV (As := [.int x1]) (rest := []) hC (kX3_isSeen l hl D ad p_no sz (gh g E P) 0 x1 r hf) (cwV 1 hts gL_seen_X3_isSeen rfl rfl rfl (by decide +kernel) ⟨Nat.le_of_ble_eq_true rfl, Nat.le_of_ble_eq_true rfl⟩) (p_preVE hK hQ hE hsz hC_ob rfl) rfl rfl hL.1.1 rfl (lv_room (Nat.le_of_ble_eq_true rfl)) dL_seen_2 ⟨Nat.le_of_ble_eq_true rfl, Nat.le_of_ble_eq_true rfl⟩) hS (fun _ _ q => q.elim) (fun _ q => q.elim) (fun _ _ q => q.elim) ?_ ?_
  · intro E9 ce q9 u t H1 locs1 ht hvm _ hEr hz hk hS1 hcell hcv hcl
    rcases hcs with ⟨h1, hv⟩ | h1
    · rw [h1] at hEr
      cases hEr
      refine vx_catch hown [] _ [] (htab.trans rfl) (fun z hz => by cases hz) (by decide) (by decide) hlnk (hcast.use rfl) hcell hcv hcl ?_
      refine lv_astore_n hx hb dL_seen_14 rfl hL.1 (by decide) rfl fun ls' h1 => ?_
      refine lv_ldc (v := kIX) hx hb hown (hts (.constant RL 25 kIX) (by decide +kernel)) dL_seen_15 ?_
      exact W.widen (Nat.le_of_ble_eq_true rfl) (Nat.le_of_ble_eq_true rfl) (W.iret hx hb hr (fun t ht hW => ⟨⟨kIX, (), rfl, hv.symm, trivial⟩, hS1.F ht⟩) hS1.2.2 dL_seen_17 hlocks)
    · rw [h1] at hEr; cases hEr
  · intro v u t H1 locs1 ht hvm hEr _ hz hk hS1
    have hv : v = aSeen g x1 := by
      rcases hcs with ⟨h1, -⟩ | h1
      · rw [h1] at hEr; cases hEr
      · rw [h1] at hEr; cases hEr; rfl
    have hz01 : v = 0 ∨ v = 1 := aSeen_z hR (by rw [hf, hEr])
    refine lv_if_eq (tgt := 12) hx hb dL_seen_5 (by decide) (fun c1 => ?_) (fun c1 => ?_)
    · refine lv_iconst hx hb dL_seen_12 (v := 0) rfl ?_
      have hv : 0 = aSeen g x1 := by rw [← hv, c1]
      exact W.widen (Nat.le_of_ble_eq_true rfl) (Nat.le_of_ble_eq_true rfl) (W.iret hx hb hr (fun t ht hW => ⟨⟨0, (), rfl, hv, trivial⟩, hS1.F ht⟩) hS1.2.2 dL_seen_13 hlocks)
    · refine lv_iconst hx hb dL_seen_8 (v := 1) rfl ?_
      refine lv_goto hx hb dL_seen_9 (tgt := 13) rfl ?_
      have hv : 1 = aSeen g x1 := by rw [← hv, hz01.resolve_left c1]
      exact W.widen (Nat.le_of_ble_eq_true rfl) (Nat.le_of_ble_eq_true rfl) (W.iret hx hb hr (fun t ht hW => ⟨⟨1, (), rfl, hv, trivial⟩, hS1.F ht⟩) hS1.2.2 dL_seen_13 hlocks)
abbrev rL_pages : Room := { frames := 8, cells := 1, slots := 6, locals := 133 }
set_option maxHeartbeats 4000000 in
set_option maxRecDepth 100000 in
theorem wL_pages (l : Launch) (hl : l.stackTraces = false) (D : va_G) (x sz : Nat) (g : Sg) (x1 : Int32) : Met l yL_pages wsL_pages rL_pages (b_P D x p_tt p_no sz g [.ref x, .int x1]) (p_Ri (aPages g x1)) 1 6 p_no := by
  refine p_ofWH (cc := cL_pages) (maxL := 3) (ret := (some .int)) (hh := [(0, 5, 6, 23)]) (by decide) rfl ?_
  intro p e s m args below meth c s₁ B hml htab hv
  obtain ⟨hargs, hK, ⟨ad, E, P, hx0, hR, hQ⟩, hE, hsz, ⟨hcast, -, -⟩, -, -⟩ := hv
  subst hx0
  have hx := B.exec
  have hb := B.bytes
  have hr := B.returns
  have hts := atoms_spec (ws := wsL_pages) B.pre
  have hown : s.vm.findClass RL = some m.cls := findClass_of_methodNamed B.named
  have hlocks := B.notSynchronized
  have hC : CallFix p m c cL_pages 3 s args wsL_pages RL := ⟨hx, hb, hml, hown, hts⟩
  have hS : va_S p_no s.heap s.heap [] := va_S.rf
  have hlnk : (Cond.classLink RL 23 xIO).before args s = true := hts _ (by decide +kernel)
  obtain ⟨ls, hls, hL⟩ := p_start (n := 3) hargs (by simp [p_cat, p_ci, p_cr, p_cn]) (Nat.le_of_ble_eq_true rfl)
  show W p l e rL_pages s m args below meth c s.heap [] 0 0 (MQ below (p_Ri (aPages g x1)) args s 1 6 p_no) (entryFrame m args 3)
  rw [hls]
  clear hls
  have hL : p_L ls 3 [(0, .ref (ad 0)), (1, .int x1)] := hL
  have hr0 : ∃ r, fX3_pagesOf (gh g E P) 0 x1 = some r ∧ ((r = .inl xIO ∧ aPages g x1 = kIX) ∨ r = .inr (aPages g x1)) := by
    rcases (S_rd hR x1).1.1.1.2 with ⟨q1, q2⟩ | q1
    · exact ⟨_, q1, Or.inl ⟨rfl, q2⟩⟩
    · exact ⟨_, q1, Or.inr rfl⟩
  obtain ⟨r, hf, hcs⟩ := hr0
  refine lv_aload_n hx hb dL_pages_0 rfl (lv_at hL.1 0 rfl) ?_
  refine lv_iload_n hx hb dL_pages_1 rfl (lv_at hL.1 1 rfl) ?_
  refine vx_calli (vx_runV (As := [.int x1]) (rest := []) hC (kX3_pagesOf l hl D ad p_no sz (gh g E P) 0 x1 r hf) (cwV 1 hts gL_pages_X3_pagesOf rfl rfl rfl (by decide +kernel) ⟨Nat.le_of_ble_eq_true rfl, Nat.le_of_ble_eq_true rfl⟩) (p_preVE hK hQ hE hsz hC_ob rfl) rfl rfl hL.1.1 rfl (lv_room (Nat.le_of_ble_eq_true rfl)) dL_pages_2 ⟨Nat.le_of_ble_eq_true rfl, Nat.le_of_ble_eq_true rfl⟩) hS (fun _ _ q => q.elim) (fun _ q => q.elim) (fun _ _ q => q.elim) ?_ ?_
  · intro E9 ce q9 u t H1 locs1 ht hvm _ hEr hz hk hS1 hcell hcv hcl
    rcases hcs with ⟨h1, hv⟩ | h1
    · rw [h1] at hEr
      cases hEr
      refine vx_catch hown [] _ [] (htab.trans rfl) (fun z hz => by cases hz) (by decide) (by decide) hlnk (hcast.use rfl) hcell hcv hcl ?_
      refine lv_astore_n hx hb dL_pages_6 rfl hL.1 (by decide) rfl fun ls' h1 => ?_
      refine lv_ldc (v := kIX) hx hb hown (hts (.constant RL 25 kIX) (by decide +kernel)) dL_pages_7 ?_
      exact W.widen (Nat.le_of_ble_eq_true rfl) (Nat.le_of_ble_eq_true rfl) (W.iret hx hb hr (fun t ht hW => ⟨⟨kIX, (), rfl, hv.symm, trivial⟩, hS1.F ht⟩) hS1.2.2 dL_pages_9 hlocks)
    · rw [h1] at hEr; cases hEr
  · intro v u t H1 locs1 ht hvm hEr _ hz hk hS1
    have hv : v = aPages g x1 := by
      rcases hcs with ⟨h1, -⟩ | h1
      · rw [h1] at hEr; cases hEr
      · rw [h1] at hEr; cases hEr; rfl
    exact W.widen (Nat.le_of_ble_eq_true rfl) (Nat.le_of_ble_eq_true rfl) (W.iret hx hb hr (fun t ht hW => ⟨⟨v, (), rfl, hv, trivial⟩, hS1.F ht⟩) hS1.2.2 dL_pages_5 hlocks)
abbrev rL_picture : Room := { frames := 8, cells := 1, slots := 6, locals := 133 }
set_option maxHeartbeats 4000000 in
set_option maxRecDepth 100000 in
theorem wL_picture (l : Launch) (hl : l.stackTraces = false) (D : va_G) (x sz : Nat) (g : Sg) (x1 : Int32) : Met l yL_picture wsL_picture rL_picture (b_P D x p_tt p_no sz g [.ref x, .int x1]) (p_Ri (aPic g x1)) 1 6 p_no := by
  refine p_ofWH (cc := cL_picture) (maxL := 3) (ret := (some .int)) (hh := [(0, 5, 6, 23)]) (by decide) rfl ?_
  intro p e s m args below meth c s₁ B hml htab hv
  obtain ⟨hargs, hK, ⟨ad, E, P, hx0, hR, hQ⟩, hE, hsz, ⟨hcast, -, -⟩, -, -⟩ := hv
  subst hx0
  have hx := B.exec
  have hb := B.bytes
  have hr := B.returns
  have hts := atoms_spec (ws := wsL_picture) B.pre
  have hown : s.vm.findClass RL = some m.cls := findClass_of_methodNamed B.named
  have hlocks := B.notSynchronized
  have hC : CallFix p m c cL_picture 3 s args wsL_picture RL := ⟨hx, hb, hml, hown, hts⟩
  have hS : va_S p_no s.heap s.heap [] := va_S.rf
  have hlnk : (Cond.classLink RL 23 xIO).before args s = true := hts _ (by decide +kernel)
  obtain ⟨ls, hls, hL⟩ := p_start (n := 3) hargs (by simp [p_cat, p_ci, p_cr, p_cn]) (Nat.le_of_ble_eq_true rfl)
  show W p l e rL_picture s m args below meth c s.heap [] 0 0 (MQ below (p_Ri (aPic g x1)) args s 1 6 p_no) (entryFrame m args 3)
  rw [hls]
  clear hls
  have hL : p_L ls 3 [(0, .ref (ad 0)), (1, .int x1)] := hL
  have hr0 : ∃ r, fX3_picture (gh g E P) 0 x1 = some r ∧ ((r = .inl xIO ∧ aPic g x1 = kIX) ∨ r = .inr (aPic g x1)) := by
    rcases (S_rd hR x1).1.1.2 with ⟨q1, q2⟩ | q1
    · exact ⟨_, q1, Or.inl ⟨rfl, q2⟩⟩
    · exact ⟨_, q1, Or.inr rfl⟩
  obtain ⟨r, hf, hcs⟩ := hr0
  refine lv_aload_n hx hb dL_picture_0 rfl (lv_at hL.1 0 rfl) ?_
  refine lv_iload_n hx hb dL_picture_1 rfl (lv_at hL.1 1 rfl) ?_
  refine vx_calli (vx_runV (As := [.int x1]) (rest := []) hC (kX3_picture l hl D ad p_no sz (gh g E P) 0 x1 r hf) (cwV 1 hts gL_picture_X3_picture rfl rfl rfl (by decide +kernel) ⟨Nat.le_of_ble_eq_true rfl, Nat.le_of_ble_eq_true rfl⟩) (p_preVE hK hQ hE hsz hC_ob rfl) rfl rfl hL.1.1 rfl (lv_room (Nat.le_of_ble_eq_true rfl)) dL_picture_2 ⟨Nat.le_of_ble_eq_true rfl, Nat.le_of_ble_eq_true rfl⟩) hS (fun _ _ q => q.elim) (fun _ q => q.elim) (fun _ _ q => q.elim) ?_ ?_
  · intro E9 ce q9 u t H1 locs1 ht hvm _ hEr hz hk hS1 hcell hcv hcl
    rcases hcs with ⟨h1, hv⟩ | h1
    · rw [h1] at hEr
      cases hEr
      refine vx_catch hown [] _ [] (htab.trans rfl) (fun z hz => by cases hz) (by decide) (by decide) hlnk (hcast.use rfl) hcell hcv hcl ?_
      refine lv_astore_n hx hb dL_picture_6 rfl hL.1 (by decide) rfl fun ls' h1 => ?_
      refine lv_ldc (v := kIX) hx hb hown (hts (.constant RL 25 kIX) (by decide +kernel)) dL_picture_7 ?_
      exact W.widen (Nat.le_of_ble_eq_true rfl) (Nat.le_of_ble_eq_true rfl) (W.iret hx hb hr (fun t ht hW => ⟨⟨kIX, (), rfl, hv.symm, trivial⟩, hS1.F ht⟩) hS1.2.2 dL_picture_9 hlocks)
    · rw [h1] at hEr; cases hEr
  · intro v u t H1 locs1 ht hvm hEr _ hz hk hS1
    have hv : v = aPic g x1 := by
      rcases hcs with ⟨h1, -⟩ | h1
      · rw [h1] at hEr; cases hEr
      · rw [h1] at hEr; cases hEr; rfl
    exact W.widen (Nat.le_of_ble_eq_true rfl) (Nat.le_of_ble_eq_true rfl) (W.iret hx hb hr (fun t ht hW => ⟨⟨v, (), rfl, hv, trivial⟩, hS1.F ht⟩) hS1.2.2 dL_picture_5 hlocks)
abbrev rL_pace : Room := { frames := 8, cells := 1, slots := 6, locals := 133 }
set_option maxHeartbeats 4000000 in
set_option maxRecDepth 100000 in
theorem wL_pace (l : Launch) (hl : l.stackTraces = false) (D : va_G) (x sz : Nat) (g : Sg) (x1 : Int32) : Met l yL_pace wsL_pace rL_pace (b_P D x p_tt p_no sz g [.ref x, .int x1]) (p_Ri (aPace g x1)) 1 6 p_no := by
  refine p_ofWH (cc := cL_pace) (maxL := 3) (ret := (some .int)) (hh := [(0, 5, 6, 23)]) (by decide) rfl ?_
  intro p e s m args below meth c s₁ B hml htab hv
  obtain ⟨hargs, hK, ⟨ad, E, P, hx0, hR, hQ⟩, hE, hsz, ⟨hcast, -, -⟩, -, -⟩ := hv
  subst hx0
  have hx := B.exec
  have hb := B.bytes
  have hr := B.returns
  have hts := atoms_spec (ws := wsL_pace) B.pre
  have hown : s.vm.findClass RL = some m.cls := findClass_of_methodNamed B.named
  have hlocks := B.notSynchronized
  have hC : CallFix p m c cL_pace 3 s args wsL_pace RL := ⟨hx, hb, hml, hown, hts⟩
  have hS : va_S p_no s.heap s.heap [] := va_S.rf
  have hlnk : (Cond.classLink RL 23 xIO).before args s = true := hts _ (by decide +kernel)
  obtain ⟨ls, hls, hL⟩ := p_start (n := 3) hargs (by simp [p_cat, p_ci, p_cr, p_cn]) (Nat.le_of_ble_eq_true rfl)
  show W p l e rL_pace s m args below meth c s.heap [] 0 0 (MQ below (p_Ri (aPace g x1)) args s 1 6 p_no) (entryFrame m args 3)
  rw [hls]
  clear hls
  have hL : p_L ls 3 [(0, .ref (ad 0)), (1, .int x1)] := hL
  have hr0 : ∃ r, fX3_pace (gh g E P) 0 x1 = some r ∧ ((r = .inl xIO ∧ aPace g x1 = kIX) ∨ r = .inr (aPace g x1)) := by
    rcases (S_rd hR x1).1.2 with ⟨q1, q2⟩ | q1
    · exact ⟨_, q1, Or.inl ⟨rfl, q2⟩⟩
    · exact ⟨_, q1, Or.inr rfl⟩
  obtain ⟨r, hf, hcs⟩ := hr0
  refine lv_aload_n hx hb dL_pace_0 rfl (lv_at hL.1 0 rfl) ?_
  refine lv_iload_n hx hb dL_pace_1 rfl (lv_at hL.1 1 rfl) ?_
  refine vx_calli (vx_runV (As := [.int x1]) (rest := []) hC (kX3_pace l hl D ad p_no sz (gh g E P) 0 x1 r hf) (cwV 1 hts gL_pace_X3_pace rfl rfl rfl (by decide +kernel) ⟨Nat.le_of_ble_eq_true rfl, Nat.le_of_ble_eq_true rfl⟩) (p_preVE hK hQ hE hsz hC_ob rfl) rfl rfl hL.1.1 rfl (lv_room (Nat.le_of_ble_eq_true rfl)) dL_pace_2 ⟨Nat.le_of_ble_eq_true rfl, Nat.le_of_ble_eq_true rfl⟩) hS (fun _ _ q => q.elim) (fun _ q => q.elim) (fun _ _ q => q.elim) ?_ ?_
  · intro E9 ce q9 u t H1 locs1 ht hvm _ hEr hz hk hS1 hcell hcv hcl
    rcases hcs with ⟨h1, hv⟩ | h1
    · rw [h1] at hEr
      cases hEr
      refine vx_catch hown [] _ [] (htab.trans rfl) (fun z hz => by cases hz) (by decide) (by decide) hlnk (hcast.use rfl) hcell hcv hcl ?_
      refine lv_astore_n hx hb dL_pace_6 rfl hL.1 (by decide) rfl fun ls' h1 => ?_
      refine lv_ldc (v := kIX) hx hb hown (hts (.constant RL 25 kIX) (by decide +kernel)) dL_pace_7 ?_
      exact W.widen (Nat.le_of_ble_eq_true rfl) (Nat.le_of_ble_eq_true rfl) (W.iret hx hb hr (fun t ht hW => ⟨⟨kIX, (), rfl, hv.symm, trivial⟩, hS1.F ht⟩) hS1.2.2 dL_pace_9 hlocks)
    · rw [h1] at hEr; cases hEr
  · intro v u t H1 locs1 ht hvm hEr _ hz hk hS1
    have hv : v = aPace g x1 := by
      rcases hcs with ⟨h1, -⟩ | h1
      · rw [h1] at hEr; cases hEr
      · rw [h1] at hEr; cases hEr; rfl
    exact W.widen (Nat.le_of_ble_eq_true rfl) (Nat.le_of_ble_eq_true rfl) (W.iret hx hb hr (fun t ht hW => ⟨⟨v, (), rfl, hv, trivial⟩, hS1.F ht⟩) hS1.2.2 dL_pace_5 hlocks)
abbrev rL_misses : Room := { frames := 8, cells := 1, slots := 6, locals := 133 }
set_option maxHeartbeats 4000000 in
set_option maxRecDepth 100000 in
theorem wL_misses (l : Launch) (hl : l.stackTraces = false) (D : va_G) (x sz : Nat) (g : Sg) (x1 : Int32) : Met l yL_misses wsL_misses rL_misses (b_P D x p_tt p_no sz g [.ref x, .int x1]) (p_Ri (aMiss g x1)) 1 6 p_no := by
  refine p_ofWH (cc := cL_misses) (maxL := 3) (ret := (some .int)) (hh := [(0, 5, 6, 23)]) (by decide) rfl ?_
  intro p e s m args below meth c s₁ B hml htab hv
  obtain ⟨hargs, hK, ⟨ad, E, P, hx0, hR, hQ⟩, hE, hsz, ⟨hcast, -, -⟩, -, -⟩ := hv
  subst hx0
  have hx := B.exec
  have hb := B.bytes
  have hr := B.returns
  have hts := atoms_spec (ws := wsL_misses) B.pre
  have hown : s.vm.findClass RL = some m.cls := findClass_of_methodNamed B.named
  have hlocks := B.notSynchronized
  have hC : CallFix p m c cL_misses 3 s args wsL_misses RL := ⟨hx, hb, hml, hown, hts⟩
  have hS : va_S p_no s.heap s.heap [] := va_S.rf
  have hlnk : (Cond.classLink RL 23 xIO).before args s = true := hts _ (by decide +kernel)
  obtain ⟨ls, hls, hL⟩ := p_start (n := 3) hargs (by simp [p_cat, p_ci, p_cr, p_cn]) (Nat.le_of_ble_eq_true rfl)
  show W p l e rL_misses s m args below meth c s.heap [] 0 0 (MQ below (p_Ri (aMiss g x1)) args s 1 6 p_no) (entryFrame m args 3)
  rw [hls]
  clear hls
  have hL : p_L ls 3 [(0, .ref (ad 0)), (1, .int x1)] := hL
  have hr0 : ∃ r, fX3_misses (gh g E P) 0 x1 = some r ∧ ((r = .inl xIO ∧ aMiss g x1 = kIX) ∨ r = .inr (aMiss g x1)) := by
    rcases (S_rd hR x1).2.1 with ⟨q1, q2⟩ | q1
    · exact ⟨_, q1, Or.inl ⟨rfl, q2⟩⟩
    · exact ⟨_, q1, Or.inr rfl⟩
  obtain ⟨r, hf, hcs⟩ := hr0
  refine lv_aload_n hx hb dL_misses_0 rfl (lv_at hL.1 0 rfl) ?_
  refine lv_iload_n hx hb dL_misses_1 rfl (lv_at hL.1 1 rfl) ?_
  refine vx_calli (vx_runV (As := [.int x1]) (rest := []) hC (kX3_misses l hl D ad p_no sz (gh g E P) 0 x1 r hf) (cwV 1 hts gL_misses_X3_misses rfl rfl rfl (by decide +kernel) ⟨Nat.le_of_ble_eq_true rfl, Nat.le_of_ble_eq_true rfl⟩) (p_preVE hK hQ hE hsz hC_ob rfl) rfl rfl hL.1.1 rfl (lv_room (Nat.le_of_ble_eq_true rfl)) dL_misses_2 ⟨Nat.le_of_ble_eq_true rfl, Nat.le_of_ble_eq_true rfl⟩) hS (fun _ _ q => q.elim) (fun _ q => q.elim) (fun _ _ q => q.elim) ?_ ?_
  · intro E9 ce q9 u t H1 locs1 ht hvm _ hEr hz hk hS1 hcell hcv hcl
    rcases hcs with ⟨h1, hv⟩ | h1
    · rw [h1] at hEr
      cases hEr
      refine vx_catch hown [] _ [] (htab.trans rfl) (fun z hz => by cases hz) (by decide) (by decide) hlnk (hcast.use rfl) hcell hcv hcl ?_
      refine lv_astore_n hx hb dL_misses_6 rfl hL.1 (by decide) rfl fun ls' h1 => ?_
      refine lv_ldc (v := kIX) hx hb hown (hts (.constant RL 25 kIX) (by decide +kernel)) dL_misses_7 ?_
      exact W.widen (Nat.le_of_ble_eq_true rfl) (Nat.le_of_ble_eq_true rfl) (W.iret hx hb hr (fun t ht hW => ⟨⟨kIX, (), rfl, hv.symm, trivial⟩, hS1.F ht⟩) hS1.2.2 dL_misses_9 hlocks)
    · rw [h1] at hEr; cases hEr
  · intro v u t H1 locs1 ht hvm hEr _ hz hk hS1
    have hv : v = aMiss g x1 := by
      rcases hcs with ⟨h1, -⟩ | h1
      · rw [h1] at hEr; cases hEr
      · rw [h1] at hEr; cases hEr; rfl
    exact W.widen (Nat.le_of_ble_eq_true rfl) (Nat.le_of_ble_eq_true rfl) (W.iret hx hb hr (fun t ht hW => ⟨⟨v, (), rfl, hv, trivial⟩, hS1.F ht⟩) hS1.2.2 dL_misses_5 hlocks)
abbrev rL_deadline : Room := { frames := 8, cells := 1, slots := 6, locals := 134 }
set_option maxHeartbeats 4000000 in
set_option maxRecDepth 100000 in
theorem wL_deadline (l : Launch) (hl : l.stackTraces = false) (D : va_G) (x sz : Nat) (g : Sg) (x1 : Int32) : Met l yL_deadline wsL_deadline rL_deadline (b_P D x p_tt p_no sz g [.ref x, .int x1]) (p_Ri (aDead g x1)) 1 6 p_no := by
  refine p_ofWH (cc := cL_deadline) (maxL := 3) (ret := (some .int)) (hh := [(0, 5, 6, 23)]) (by decide) rfl ?_
  intro p e s m args below meth c s₁ B hml htab hv
  obtain ⟨hargs, hK, ⟨ad, E, P, hx0, hR, hQ⟩, hE, hsz, ⟨hcast, -, -⟩, -, -⟩ := hv
  subst hx0
  have hx := B.exec
  have hb := B.bytes
  have hr := B.returns
  have hts := atoms_spec (ws := wsL_deadline) B.pre
  have hown : s.vm.findClass RL = some m.cls := findClass_of_methodNamed B.named
  have hlocks := B.notSynchronized
  have hC : CallFix p m c cL_deadline 3 s args wsL_deadline RL := ⟨hx, hb, hml, hown, hts⟩
  have hS : va_S p_no s.heap s.heap [] := va_S.rf
  have hlnk : (Cond.classLink RL 23 xIO).before args s = true := hts _ (by decide +kernel)
  obtain ⟨ls, hls, hL⟩ := p_start (n := 3) hargs (by simp [p_cat, p_ci, p_cr, p_cn]) (Nat.le_of_ble_eq_true rfl)
  show W p l e rL_deadline s m args below meth c s.heap [] 0 0 (MQ below (p_Ri (aDead g x1)) args s 1 6 p_no) (entryFrame m args 3)
  rw [hls]
  clear hls
  have hL : p_L ls 3 [(0, .ref (ad 0)), (1, .int x1)] := hL
  have hr0 : ∃ r, fX3_deadline (gh g E P) 0 x1 = some r ∧ ((r = .inl xIO ∧ aDead g x1 = kIX) ∨ r = .inr (aDead g x1)) := by
    rcases (S_rd hR x1).2.2 with ⟨q1, q2⟩ | q1
    · exact ⟨_, q1, Or.inl ⟨rfl, q2⟩⟩
    · exact ⟨_, q1, Or.inr rfl⟩
  obtain ⟨r, hf, hcs⟩ := hr0
  refine lv_aload_n hx hb dL_deadline_0 rfl (lv_at hL.1 0 rfl) ?_
  refine lv_iload_n hx hb dL_deadline_1 rfl (lv_at hL.1 1 rfl) ?_
  refine vx_calli (vx_runV (As := [.int x1]) (rest := []) hC (kX3_deadline l hl D ad p_no sz (gh g E P) 0 x1 r hf) (cwV 1 hts gL_deadline_X3_deadline rfl rfl rfl (by decide +kernel) ⟨Nat.le_of_ble_eq_true rfl, Nat.le_of_ble_eq_true rfl⟩) (p_preVE hK hQ hE hsz hC_ob rfl) rfl rfl hL.1.1 rfl (lv_room (Nat.le_of_ble_eq_true rfl)) dL_deadline_2 ⟨Nat.le_of_ble_eq_true rfl, Nat.le_of_ble_eq_true rfl⟩) hS (fun _ _ q => q.elim) (fun _ q => q.elim) (fun _ _ q => q.elim) ?_ ?_
  · intro E9 ce q9 u t H1 locs1 ht hvm _ hEr hz hk hS1 hcell hcv hcl
    rcases hcs with ⟨h1, hv⟩ | h1
    · rw [h1] at hEr
      cases hEr
      refine vx_catch hown [] _ [] (htab.trans rfl) (fun z hz => by cases hz) (by decide) (by decide) hlnk (hcast.use rfl) hcell hcv hcl ?_
      refine lv_astore_n hx hb dL_deadline_6 rfl hL.1 (by decide) rfl fun ls' h1 => ?_
      refine lv_ldc (v := kIX) hx hb hown (hts (.constant RL 25 kIX) (by decide +kernel)) dL_deadline_7 ?_
      exact W.widen (Nat.le_of_ble_eq_true rfl) (Nat.le_of_ble_eq_true rfl) (W.iret hx hb hr (fun t ht hW => ⟨⟨kIX, (), rfl, hv.symm, trivial⟩, hS1.F ht⟩) hS1.2.2 dL_deadline_9 hlocks)
    · rw [h1] at hEr; cases hEr
  · intro v u t H1 locs1 ht hvm hEr _ hz hk hS1
    have hv : v = aDead g x1 := by
      rcases hcs with ⟨h1, -⟩ | h1
      · rw [h1] at hEr; cases hEr
      · rw [h1] at hEr; cases hEr; rfl
    exact W.widen (Nat.le_of_ble_eq_true rfl) (Nat.le_of_ble_eq_true rfl) (W.iret hx hb hr (fun t ht hW => ⟨⟨v, (), rfl, hv, trivial⟩, hS1.F ht⟩) hS1.2.2 dL_deadline_5 hlocks)
