/-! THE LAW: its wrappers of the calls that only read -/
def w_P (D : va_G) (adC adO : Nat → Nat) (A : Nat → Prop) (sz : Nat) (h : PH) (f : Nat → Int64) (As : List Value) : Array Value → State → Prop := va_Pc As (fun U => va_K D vwCl [] U ∧ p_Q D adC p_tt U h U.heap ∧ p_E A U U.heap ∧ U.heap.size = sz ∧ p_Q D adO p_tt U (hO f) U.heap ∧ va_Nw (.castable xIO xIO) U)
def w_cd (r : String ⊕ Int32) : Int32 := match r with
  | .inl _ => 1
  | .inr _ => 0
def w_f (f : Nat → Int64) (r : String ⊕ Int32) : Nat → Int64 := match r with
  | .inl _ => f
  | .inr v => vp_updL f 0 v.toInt64
def w_R (D : va_G) (adO : Nat → Nat) (r : String ⊕ Int32) (f : Nat → Int64) : Array Value → State → Outcome → State → Prop := va_Qi (fun x (_ : Unit) => x = w_cd r) (fun _ t => p_Q D adO p_tt t (hO (w_f f r)) t.heap) (fun q => q = adO 0)
abbrev rL_placeOf : Room := { frames := 8, cells := 1, slots := 6, locals := 133 }
set_option maxHeartbeats 4000000 in
set_option maxRecDepth 100000 in
theorem wL_placeOf (l : Launch) (hl : l.stackTraces = false) (D : va_G) (adC adO : Nat → Nat) (A : Nat → Prop) (sz : Nat) (h : PH) (f : Nat → Int64) (x1 : Int32) (o1 : Unit) (r : String ⊕ Int32) (hf : fX3_placeOf h 0 x1 = some r) (ho : p_ob h 0 3 = some o1) (hE9 : ∀ E, r = .inl E → E = xIO) : Met l yL_placeOf wsL_placeOf rL_placeOf (w_P D adC adO A sz h f [.ref (adC 0), .int x1, .ref (adO 0)]) (w_R D adO r f) 1 6 (fun q => q = adO 0) := by
  refine p_ofWH (cc := cL_placeOf) (maxL := 4) (ret := (some .int)) (hh := [(0, 9, 12, 21)]) (by decide) rfl ?_
  intro p e s m args below meth c s₁ B hml htab hv
  obtain ⟨hargs, hK, hQ, hE, hsz, hO1, hcast⟩ := hv
  have hx := B.exec
  have hb := B.bytes
  have hr := B.returns
  have hts := atoms_spec (ws := wsL_placeOf) B.pre
  have hown : s.vm.findClass RL = some m.cls := findClass_of_methodNamed B.named
  have hlocks := B.notSynchronized
  have hC : CallFix p m c cL_placeOf 4 s args wsL_placeOf RL := ⟨hx, hb, hml, hown, hts⟩
  have hS : va_S (fun q => q = adO 0) s.heap s.heap [] := va_S.rf
  have hlnk : (Cond.classLink RL 21 xIO).before args s = true := hts _ (by decide +kernel)
  obtain ⟨ls, hls, hL⟩ := p_start (n := 4) hargs (by simp [p_cat, p_ci, p_cr, p_cn]) (Nat.le_of_ble_eq_true rfl)
  show W p l e rL_placeOf s m args below meth c s.heap [] 0 0 (MQ below (w_R D adO r f) args s 1 6 (fun q => q = adO 0)) (entryFrame m args 4)
  rw [hls]
  clear hls
  have hL : p_L ls 4 [(0, .ref (adC 0)), (1, .int x1), (2, .ref (adO 0))] := hL
  refine lv_aload_n hx hb dL_placeOf_0 rfl (lv_at hL.1 2 rfl) ?_
  refine lv_iconst hx hb dL_placeOf_1 (v := 0) rfl ?_
  refine lv_aload_n hx hb dL_placeOf_2 rfl (lv_at hL.1 0 rfl) ?_
  refine lv_iload_n hx hb dL_placeOf_3 rfl (lv_at hL.1 1 rfl) ?_
  refine vx_calli (vx_runV (As := [.int x1]) (rest := [.int 0, .ref (adO 0)]) hC (kX3_placeOf l hl D adC A sz h 0 x1 r hf) (cwV 1 hts gL_placeOf_X3_placeOf rfl rfl rfl (by decide +kernel) ⟨Nat.le_of_ble_eq_true rfl, Nat.le_of_ble_eq_true rfl⟩) (p_preVE hK hQ.tt hE hsz ho rfl) rfl rfl hL.1.1 rfl (lv_room (Nat.le_of_ble_eq_true rfl)) dL_placeOf_4 ⟨Nat.le_of_ble_eq_true rfl, Nat.le_of_ble_eq_true rfl⟩) hS (fun _ _ q => q.elim) (fun _ q => q.elim) (fun _ _ q => q.elim) ?_ ?_
  · intro E ce q9 u t H1 locs1 ht hvm _ hEr hz hk hS1 hcell hcv hcl
    have hE1 := hE9 E hEr
    subst hE1
    have hO2 : p_Q D adO p_tt s (hO f) H1 := hO1.kept fun x hx _ => hk x hx (fun q => q)
    refine vx_catch hown [] _ [] (htab.trans rfl) (fun z hz => by cases hz) (by decide) (by decide) hlnk (hcast.use rfl) hcell hcv hcl ?_
    refine lv_astore_n hx hb dL_placeOf_12 rfl hL.1 (by decide) rfl fun ls' h1 => ?_
    refine lv_iconst hx hb dL_placeOf_13 (v := 1) rfl ?_
    exact W.widen (Nat.le_of_ble_eq_true rfl) (Nat.le_of_ble_eq_true rfl) (W.iret hx hb hr (fun t ht hW => ⟨⟨1, (), rfl, by rw [hEr]; rfl, by rw [hEr]; show p_Q D adO p_tt t (hO f) t.heap; rw [ht]; exact hO2.moved hW.alike⟩, hS1.F ht⟩) hS1.2.2 dL_placeOf_14 hlocks)
  · intro v u t H1 locs1 ht hvm hEr _ hz hk hS1
    have hO2 : p_Q D adO p_tt s (hO f) H1 := hO1.kept fun x hx _ => hk x hx (fun q => q)
    refine lv_i2l hx hb dL_placeOf_7 rfl ?_
    refine p_last hC hO2 hS1 rfl dL_placeOf_8 fun H2 locs2 hO3 oq hS2 => ?_
    refine lv_goto hx hb dL_placeOf_9 (tgt := 15) rfl ?_
    refine lv_iconst hx hb dL_placeOf_15 (v := 0) rfl ?_
    exact W.widen (Nat.le_of_ble_eq_true rfl) (Nat.le_of_ble_eq_true rfl) (W.iret hx hb hr (fun t ht hW => ⟨⟨0, (), rfl, by rw [hEr]; rfl, by rw [hEr]; show p_Q D adO p_tt t (hO (vp_updL f 0 v.toInt64)) t.heap; rw [ht]; exact hO3.moved hW.alike⟩, hS2.F ht⟩) hS2.2.2 dL_placeOf_16 hlocks)
abbrev rL_pagesOf : Room := { frames := 8, cells := 1, slots := 6, locals := 133 }
set_option maxHeartbeats 4000000 in
set_option maxRecDepth 100000 in
theorem wL_pagesOf (l : Launch) (hl : l.stackTraces = false) (D : va_G) (adC adO : Nat → Nat) (A : Nat → Prop) (sz : Nat) (h : PH) (f : Nat → Int64) (x1 : Int32) (o1 : Unit) (r : String ⊕ Int32) (hf : fX3_pagesOf h 0 x1 = some r) (ho : p_ob h 0 3 = some o1) (hE9 : ∀ E, r = .inl E → E = xIO) : Met l yL_pagesOf wsL_pagesOf rL_pagesOf (w_P D adC adO A sz h f [.ref (adC 0), .int x1, .ref (adO 0)]) (w_R D adO r f) 1 6 (fun q => q = adO 0) := by
  refine p_ofWH (cc := cL_pagesOf) (maxL := 4) (ret := (some .int)) (hh := [(0, 9, 12, 21)]) (by decide) rfl ?_
  intro p e s m args below meth c s₁ B hml htab hv
  obtain ⟨hargs, hK, hQ, hE, hsz, hO1, hcast⟩ := hv
  have hx := B.exec
  have hb := B.bytes
  have hr := B.returns
  have hts := atoms_spec (ws := wsL_pagesOf) B.pre
  have hown : s.vm.findClass RL = some m.cls := findClass_of_methodNamed B.named
  have hlocks := B.notSynchronized
  have hC : CallFix p m c cL_pagesOf 4 s args wsL_pagesOf RL := ⟨hx, hb, hml, hown, hts⟩
  have hS : va_S (fun q => q = adO 0) s.heap s.heap [] := va_S.rf
  have hlnk : (Cond.classLink RL 21 xIO).before args s = true := hts _ (by decide +kernel)
  obtain ⟨ls, hls, hL⟩ := p_start (n := 4) hargs (by simp [p_cat, p_ci, p_cr, p_cn]) (Nat.le_of_ble_eq_true rfl)
  show W p l e rL_pagesOf s m args below meth c s.heap [] 0 0 (MQ below (w_R D adO r f) args s 1 6 (fun q => q = adO 0)) (entryFrame m args 4)
  rw [hls]
  clear hls
  have hL : p_L ls 4 [(0, .ref (adC 0)), (1, .int x1), (2, .ref (adO 0))] := hL
  refine lv_aload_n hx hb dL_pagesOf_0 rfl (lv_at hL.1 2 rfl) ?_
  refine lv_iconst hx hb dL_pagesOf_1 (v := 0) rfl ?_
  refine lv_aload_n hx hb dL_pagesOf_2 rfl (lv_at hL.1 0 rfl) ?_
  refine lv_iload_n hx hb dL_pagesOf_3 rfl (lv_at hL.1 1 rfl) ?_
  refine vx_calli (vx_runV (As := [.int x1]) (rest := [.int 0, .ref (adO 0)]) hC (kX3_pagesOf l hl D adC A sz h 0 x1 r hf) (cwV 1 hts gL_pagesOf_X3_pagesOf rfl rfl rfl (by decide +kernel) ⟨Nat.le_of_ble_eq_true rfl, Nat.le_of_ble_eq_true rfl⟩) (p_preVE hK hQ.tt hE hsz ho rfl) rfl rfl hL.1.1 rfl (lv_room (Nat.le_of_ble_eq_true rfl)) dL_pagesOf_4 ⟨Nat.le_of_ble_eq_true rfl, Nat.le_of_ble_eq_true rfl⟩) hS (fun _ _ q => q.elim) (fun _ q => q.elim) (fun _ _ q => q.elim) ?_ ?_
  · intro E ce q9 u t H1 locs1 ht hvm _ hEr hz hk hS1 hcell hcv hcl
    have hE1 := hE9 E hEr
    subst hE1
    have hO2 : p_Q D adO p_tt s (hO f) H1 := hO1.kept fun x hx _ => hk x hx (fun q => q)
    refine vx_catch hown [] _ [] (htab.trans rfl) (fun z hz => by cases hz) (by decide) (by decide) hlnk (hcast.use rfl) hcell hcv hcl ?_
    refine lv_astore_n hx hb dL_pagesOf_12 rfl hL.1 (by decide) rfl fun ls' h1 => ?_
    refine lv_iconst hx hb dL_pagesOf_13 (v := 1) rfl ?_
    exact W.widen (Nat.le_of_ble_eq_true rfl) (Nat.le_of_ble_eq_true rfl) (W.iret hx hb hr (fun t ht hW => ⟨⟨1, (), rfl, by rw [hEr]; rfl, by rw [hEr]; show p_Q D adO p_tt t (hO f) t.heap; rw [ht]; exact hO2.moved hW.alike⟩, hS1.F ht⟩) hS1.2.2 dL_pagesOf_14 hlocks)
  · intro v u t H1 locs1 ht hvm hEr _ hz hk hS1
    have hO2 : p_Q D adO p_tt s (hO f) H1 := hO1.kept fun x hx _ => hk x hx (fun q => q)
    refine lv_i2l hx hb dL_pagesOf_7 rfl ?_
    refine p_last hC hO2 hS1 rfl dL_pagesOf_8 fun H2 locs2 hO3 oq hS2 => ?_
    refine lv_goto hx hb dL_pagesOf_9 (tgt := 15) rfl ?_
    refine lv_iconst hx hb dL_pagesOf_15 (v := 0) rfl ?_
    exact W.widen (Nat.le_of_ble_eq_true rfl) (Nat.le_of_ble_eq_true rfl) (W.iret hx hb hr (fun t ht hW => ⟨⟨0, (), rfl, by rw [hEr]; rfl, by rw [hEr]; show p_Q D adO p_tt t (hO (vp_updL f 0 v.toInt64)) t.heap; rw [ht]; exact hO3.moved hW.alike⟩, hS2.F ht⟩) hS2.2.2 dL_pagesOf_16 hlocks)
abbrev rL_picture : Room := { frames := 8, cells := 1, slots := 6, locals := 133 }
set_option maxHeartbeats 4000000 in
set_option maxRecDepth 100000 in
theorem wL_picture (l : Launch) (hl : l.stackTraces = false) (D : va_G) (adC adO : Nat → Nat) (A : Nat → Prop) (sz : Nat) (h : PH) (f : Nat → Int64) (x1 : Int32) (o1 : Unit) (r : String ⊕ Int32) (hf : fX3_picture h 0 x1 = some r) (ho : p_ob h 0 3 = some o1) (hE9 : ∀ E, r = .inl E → E = xIO) : Met l yL_picture wsL_picture rL_picture (w_P D adC adO A sz h f [.ref (adC 0), .int x1, .ref (adO 0)]) (w_R D adO r f) 1 6 (fun q => q = adO 0) := by
  refine p_ofWH (cc := cL_picture) (maxL := 4) (ret := (some .int)) (hh := [(0, 9, 12, 21)]) (by decide) rfl ?_
  intro p e s m args below meth c s₁ B hml htab hv
  obtain ⟨hargs, hK, hQ, hE, hsz, hO1, hcast⟩ := hv
  have hx := B.exec
  have hb := B.bytes
  have hr := B.returns
  have hts := atoms_spec (ws := wsL_picture) B.pre
  have hown : s.vm.findClass RL = some m.cls := findClass_of_methodNamed B.named
  have hlocks := B.notSynchronized
  have hC : CallFix p m c cL_picture 4 s args wsL_picture RL := ⟨hx, hb, hml, hown, hts⟩
  have hS : va_S (fun q => q = adO 0) s.heap s.heap [] := va_S.rf
  have hlnk : (Cond.classLink RL 21 xIO).before args s = true := hts _ (by decide +kernel)
  obtain ⟨ls, hls, hL⟩ := p_start (n := 4) hargs (by simp [p_cat, p_ci, p_cr, p_cn]) (Nat.le_of_ble_eq_true rfl)
  show W p l e rL_picture s m args below meth c s.heap [] 0 0 (MQ below (w_R D adO r f) args s 1 6 (fun q => q = adO 0)) (entryFrame m args 4)
  rw [hls]
  clear hls
  have hL : p_L ls 4 [(0, .ref (adC 0)), (1, .int x1), (2, .ref (adO 0))] := hL
  refine lv_aload_n hx hb dL_picture_0 rfl (lv_at hL.1 2 rfl) ?_
  refine lv_iconst hx hb dL_picture_1 (v := 0) rfl ?_
  refine lv_aload_n hx hb dL_picture_2 rfl (lv_at hL.1 0 rfl) ?_
  refine lv_iload_n hx hb dL_picture_3 rfl (lv_at hL.1 1 rfl) ?_
  refine vx_calli (vx_runV (As := [.int x1]) (rest := [.int 0, .ref (adO 0)]) hC (kX3_picture l hl D adC A sz h 0 x1 r hf) (cwV 1 hts gL_picture_X3_picture rfl rfl rfl (by decide +kernel) ⟨Nat.le_of_ble_eq_true rfl, Nat.le_of_ble_eq_true rfl⟩) (p_preVE hK hQ.tt hE hsz ho rfl) rfl rfl hL.1.1 rfl (lv_room (Nat.le_of_ble_eq_true rfl)) dL_picture_4 ⟨Nat.le_of_ble_eq_true rfl, Nat.le_of_ble_eq_true rfl⟩) hS (fun _ _ q => q.elim) (fun _ q => q.elim) (fun _ _ q => q.elim) ?_ ?_
  · intro E ce q9 u t H1 locs1 ht hvm _ hEr hz hk hS1 hcell hcv hcl
    have hE1 := hE9 E hEr
    subst hE1
    have hO2 : p_Q D adO p_tt s (hO f) H1 := hO1.kept fun x hx _ => hk x hx (fun q => q)
    refine vx_catch hown [] _ [] (htab.trans rfl) (fun z hz => by cases hz) (by decide) (by decide) hlnk (hcast.use rfl) hcell hcv hcl ?_
    refine lv_astore_n hx hb dL_picture_12 rfl hL.1 (by decide) rfl fun ls' h1 => ?_
    refine lv_iconst hx hb dL_picture_13 (v := 1) rfl ?_
    exact W.widen (Nat.le_of_ble_eq_true rfl) (Nat.le_of_ble_eq_true rfl) (W.iret hx hb hr (fun t ht hW => ⟨⟨1, (), rfl, by rw [hEr]; rfl, by rw [hEr]; show p_Q D adO p_tt t (hO f) t.heap; rw [ht]; exact hO2.moved hW.alike⟩, hS1.F ht⟩) hS1.2.2 dL_picture_14 hlocks)
  · intro v u t H1 locs1 ht hvm hEr _ hz hk hS1
    have hO2 : p_Q D adO p_tt s (hO f) H1 := hO1.kept fun x hx _ => hk x hx (fun q => q)
    refine lv_i2l hx hb dL_picture_7 rfl ?_
    refine p_last hC hO2 hS1 rfl dL_picture_8 fun H2 locs2 hO3 oq hS2 => ?_
    refine lv_goto hx hb dL_picture_9 (tgt := 15) rfl ?_
    refine lv_iconst hx hb dL_picture_15 (v := 0) rfl ?_
    exact W.widen (Nat.le_of_ble_eq_true rfl) (Nat.le_of_ble_eq_true rfl) (W.iret hx hb hr (fun t ht hW => ⟨⟨0, (), rfl, by rw [hEr]; rfl, by rw [hEr]; show p_Q D adO p_tt t (hO (vp_updL f 0 v.toInt64)) t.heap; rw [ht]; exact hO3.moved hW.alike⟩, hS2.F ht⟩) hS2.2.2 dL_picture_16 hlocks)
abbrev rL_pace : Room := { frames := 8, cells := 1, slots := 6, locals := 133 }
set_option maxHeartbeats 4000000 in
set_option maxRecDepth 100000 in
theorem wL_pace (l : Launch) (hl : l.stackTraces = false) (D : va_G) (adC adO : Nat → Nat) (A : Nat → Prop) (sz : Nat) (h : PH) (f : Nat → Int64) (x1 : Int32) (o1 : Unit) (r : String ⊕ Int32) (hf : fX3_pace h 0 x1 = some r) (ho : p_ob h 0 3 = some o1) (hE9 : ∀ E, r = .inl E → E = xIO) : Met l yL_pace wsL_pace rL_pace (w_P D adC adO A sz h f [.ref (adC 0), .int x1, .ref (adO 0)]) (w_R D adO r f) 1 6 (fun q => q = adO 0) := by
  refine p_ofWH (cc := cL_pace) (maxL := 4) (ret := (some .int)) (hh := [(0, 9, 12, 21)]) (by decide) rfl ?_
  intro p e s m args below meth c s₁ B hml htab hv
  obtain ⟨hargs, hK, hQ, hE, hsz, hO1, hcast⟩ := hv
  have hx := B.exec
  have hb := B.bytes
  have hr := B.returns
  have hts := atoms_spec (ws := wsL_pace) B.pre
  have hown : s.vm.findClass RL = some m.cls := findClass_of_methodNamed B.named
  have hlocks := B.notSynchronized
  have hC : CallFix p m c cL_pace 4 s args wsL_pace RL := ⟨hx, hb, hml, hown, hts⟩
  have hS : va_S (fun q => q = adO 0) s.heap s.heap [] := va_S.rf
  have hlnk : (Cond.classLink RL 21 xIO).before args s = true := hts _ (by decide +kernel)
  obtain ⟨ls, hls, hL⟩ := p_start (n := 4) hargs (by simp [p_cat, p_ci, p_cr, p_cn]) (Nat.le_of_ble_eq_true rfl)
  show W p l e rL_pace s m args below meth c s.heap [] 0 0 (MQ below (w_R D adO r f) args s 1 6 (fun q => q = adO 0)) (entryFrame m args 4)
  rw [hls]
  clear hls
  have hL : p_L ls 4 [(0, .ref (adC 0)), (1, .int x1), (2, .ref (adO 0))] := hL
  refine lv_aload_n hx hb dL_pace_0 rfl (lv_at hL.1 2 rfl) ?_
  refine lv_iconst hx hb dL_pace_1 (v := 0) rfl ?_
  refine lv_aload_n hx hb dL_pace_2 rfl (lv_at hL.1 0 rfl) ?_
  refine lv_iload_n hx hb dL_pace_3 rfl (lv_at hL.1 1 rfl) ?_
  refine vx_calli (vx_runV (As := [.int x1]) (rest := [.int 0, .ref (adO 0)]) hC (kX3_pace l hl D adC A sz h 0 x1 r hf) (cwV 1 hts gL_pace_X3_pace rfl rfl rfl (by decide +kernel) ⟨Nat.le_of_ble_eq_true rfl, Nat.le_of_ble_eq_true rfl⟩) (p_preVE hK hQ.tt hE hsz ho rfl) rfl rfl hL.1.1 rfl (lv_room (Nat.le_of_ble_eq_true rfl)) dL_pace_4 ⟨Nat.le_of_ble_eq_true rfl, Nat.le_of_ble_eq_true rfl⟩) hS (fun _ _ q => q.elim) (fun _ q => q.elim) (fun _ _ q => q.elim) ?_ ?_
  · intro E ce q9 u t H1 locs1 ht hvm _ hEr hz hk hS1 hcell hcv hcl
    have hE1 := hE9 E hEr
    subst hE1
    have hO2 : p_Q D adO p_tt s (hO f) H1 := hO1.kept fun x hx _ => hk x hx (fun q => q)
    refine vx_catch hown [] _ [] (htab.trans rfl) (fun z hz => by cases hz) (by decide) (by decide) hlnk (hcast.use rfl) hcell hcv hcl ?_
    refine lv_astore_n hx hb dL_pace_12 rfl hL.1 (by decide) rfl fun ls' h1 => ?_
    refine lv_iconst hx hb dL_pace_13 (v := 1) rfl ?_
    exact W.widen (Nat.le_of_ble_eq_true rfl) (Nat.le_of_ble_eq_true rfl) (W.iret hx hb hr (fun t ht hW => ⟨⟨1, (), rfl, by rw [hEr]; rfl, by rw [hEr]; show p_Q D adO p_tt t (hO f) t.heap; rw [ht]; exact hO2.moved hW.alike⟩, hS1.F ht⟩) hS1.2.2 dL_pace_14 hlocks)
  · intro v u t H1 locs1 ht hvm hEr _ hz hk hS1
    have hO2 : p_Q D adO p_tt s (hO f) H1 := hO1.kept fun x hx _ => hk x hx (fun q => q)
    refine lv_i2l hx hb dL_pace_7 rfl ?_
    refine p_last hC hO2 hS1 rfl dL_pace_8 fun H2 locs2 hO3 oq hS2 => ?_
    refine lv_goto hx hb dL_pace_9 (tgt := 15) rfl ?_
    refine lv_iconst hx hb dL_pace_15 (v := 0) rfl ?_
    exact W.widen (Nat.le_of_ble_eq_true rfl) (Nat.le_of_ble_eq_true rfl) (W.iret hx hb hr (fun t ht hW => ⟨⟨0, (), rfl, by rw [hEr]; rfl, by rw [hEr]; show p_Q D adO p_tt t (hO (vp_updL f 0 v.toInt64)) t.heap; rw [ht]; exact hO3.moved hW.alike⟩, hS2.F ht⟩) hS2.2.2 dL_pace_16 hlocks)
abbrev rL_misses : Room := { frames := 8, cells := 1, slots := 6, locals := 133 }
set_option maxHeartbeats 4000000 in
set_option maxRecDepth 100000 in
theorem wL_misses (l : Launch) (hl : l.stackTraces = false) (D : va_G) (adC adO : Nat → Nat) (A : Nat → Prop) (sz : Nat) (h : PH) (f : Nat → Int64) (x1 : Int32) (o1 : Unit) (r : String ⊕ Int32) (hf : fX3_misses h 0 x1 = some r) (ho : p_ob h 0 3 = some o1) (hE9 : ∀ E, r = .inl E → E = xIO) : Met l yL_misses wsL_misses rL_misses (w_P D adC adO A sz h f [.ref (adC 0), .int x1, .ref (adO 0)]) (w_R D adO r f) 1 6 (fun q => q = adO 0) := by
  refine p_ofWH (cc := cL_misses) (maxL := 4) (ret := (some .int)) (hh := [(0, 9, 12, 21)]) (by decide) rfl ?_
  intro p e s m args below meth c s₁ B hml htab hv
  obtain ⟨hargs, hK, hQ, hE, hsz, hO1, hcast⟩ := hv
  have hx := B.exec
  have hb := B.bytes
  have hr := B.returns
  have hts := atoms_spec (ws := wsL_misses) B.pre
  have hown : s.vm.findClass RL = some m.cls := findClass_of_methodNamed B.named
  have hlocks := B.notSynchronized
  have hC : CallFix p m c cL_misses 4 s args wsL_misses RL := ⟨hx, hb, hml, hown, hts⟩
  have hS : va_S (fun q => q = adO 0) s.heap s.heap [] := va_S.rf
  have hlnk : (Cond.classLink RL 21 xIO).before args s = true := hts _ (by decide +kernel)
  obtain ⟨ls, hls, hL⟩ := p_start (n := 4) hargs (by simp [p_cat, p_ci, p_cr, p_cn]) (Nat.le_of_ble_eq_true rfl)
  show W p l e rL_misses s m args below meth c s.heap [] 0 0 (MQ below (w_R D adO r f) args s 1 6 (fun q => q = adO 0)) (entryFrame m args 4)
  rw [hls]
  clear hls
  have hL : p_L ls 4 [(0, .ref (adC 0)), (1, .int x1), (2, .ref (adO 0))] := hL
  refine lv_aload_n hx hb dL_misses_0 rfl (lv_at hL.1 2 rfl) ?_
  refine lv_iconst hx hb dL_misses_1 (v := 0) rfl ?_
  refine lv_aload_n hx hb dL_misses_2 rfl (lv_at hL.1 0 rfl) ?_
  refine lv_iload_n hx hb dL_misses_3 rfl (lv_at hL.1 1 rfl) ?_
  refine vx_calli (vx_runV (As := [.int x1]) (rest := [.int 0, .ref (adO 0)]) hC (kX3_misses l hl D adC A sz h 0 x1 r hf) (cwV 1 hts gL_misses_X3_misses rfl rfl rfl (by decide +kernel) ⟨Nat.le_of_ble_eq_true rfl, Nat.le_of_ble_eq_true rfl⟩) (p_preVE hK hQ.tt hE hsz ho rfl) rfl rfl hL.1.1 rfl (lv_room (Nat.le_of_ble_eq_true rfl)) dL_misses_4 ⟨Nat.le_of_ble_eq_true rfl, Nat.le_of_ble_eq_true rfl⟩) hS (fun _ _ q => q.elim) (fun _ q => q.elim) (fun _ _ q => q.elim) ?_ ?_
  · intro E ce q9 u t H1 locs1 ht hvm _ hEr hz hk hS1 hcell hcv hcl
    have hE1 := hE9 E hEr
    subst hE1
    have hO2 : p_Q D adO p_tt s (hO f) H1 := hO1.kept fun x hx _ => hk x hx (fun q => q)
    refine vx_catch hown [] _ [] (htab.trans rfl) (fun z hz => by cases hz) (by decide) (by decide) hlnk (hcast.use rfl) hcell hcv hcl ?_
    refine lv_astore_n hx hb dL_misses_12 rfl hL.1 (by decide) rfl fun ls' h1 => ?_
    refine lv_iconst hx hb dL_misses_13 (v := 1) rfl ?_
    exact W.widen (Nat.le_of_ble_eq_true rfl) (Nat.le_of_ble_eq_true rfl) (W.iret hx hb hr (fun t ht hW => ⟨⟨1, (), rfl, by rw [hEr]; rfl, by rw [hEr]; show p_Q D adO p_tt t (hO f) t.heap; rw [ht]; exact hO2.moved hW.alike⟩, hS1.F ht⟩) hS1.2.2 dL_misses_14 hlocks)
  · intro v u t H1 locs1 ht hvm hEr _ hz hk hS1
    have hO2 : p_Q D adO p_tt s (hO f) H1 := hO1.kept fun x hx _ => hk x hx (fun q => q)
    refine lv_i2l hx hb dL_misses_7 rfl ?_
    refine p_last hC hO2 hS1 rfl dL_misses_8 fun H2 locs2 hO3 oq hS2 => ?_
    refine lv_goto hx hb dL_misses_9 (tgt := 15) rfl ?_
    refine lv_iconst hx hb dL_misses_15 (v := 0) rfl ?_
    exact W.widen (Nat.le_of_ble_eq_true rfl) (Nat.le_of_ble_eq_true rfl) (W.iret hx hb hr (fun t ht hW => ⟨⟨0, (), rfl, by rw [hEr]; rfl, by rw [hEr]; show p_Q D adO p_tt t (hO (vp_updL f 0 v.toInt64)) t.heap; rw [ht]; exact hO3.moved hW.alike⟩, hS2.F ht⟩) hS2.2.2 dL_misses_16 hlocks)
abbrev rL_deadline : Room := { frames := 8, cells := 1, slots := 6, locals := 134 }
set_option maxHeartbeats 4000000 in
set_option maxRecDepth 100000 in
theorem wL_deadline (l : Launch) (hl : l.stackTraces = false) (D : va_G) (adC adO : Nat → Nat) (A : Nat → Prop) (sz : Nat) (h : PH) (f : Nat → Int64) (x1 : Int32) (o1 : Unit) (r : String ⊕ Int32) (hf : fX3_deadline h 0 x1 = some r) (ho : p_ob h 0 3 = some o1) (hE9 : ∀ E, r = .inl E → E = xIO) : Met l yL_deadline wsL_deadline rL_deadline (w_P D adC adO A sz h f [.ref (adC 0), .int x1, .ref (adO 0)]) (w_R D adO r f) 1 6 (fun q => q = adO 0) := by
  refine p_ofWH (cc := cL_deadline) (maxL := 4) (ret := (some .int)) (hh := [(0, 9, 12, 21)]) (by decide) rfl ?_
  intro p e s m args below meth c s₁ B hml htab hv
  obtain ⟨hargs, hK, hQ, hE, hsz, hO1, hcast⟩ := hv
  have hx := B.exec
  have hb := B.bytes
  have hr := B.returns
  have hts := atoms_spec (ws := wsL_deadline) B.pre
  have hown : s.vm.findClass RL = some m.cls := findClass_of_methodNamed B.named
  have hlocks := B.notSynchronized
  have hC : CallFix p m c cL_deadline 4 s args wsL_deadline RL := ⟨hx, hb, hml, hown, hts⟩
  have hS : va_S (fun q => q = adO 0) s.heap s.heap [] := va_S.rf
  have hlnk : (Cond.classLink RL 21 xIO).before args s = true := hts _ (by decide +kernel)
  obtain ⟨ls, hls, hL⟩ := p_start (n := 4) hargs (by simp [p_cat, p_ci, p_cr, p_cn]) (Nat.le_of_ble_eq_true rfl)
  show W p l e rL_deadline s m args below meth c s.heap [] 0 0 (MQ below (w_R D adO r f) args s 1 6 (fun q => q = adO 0)) (entryFrame m args 4)
  rw [hls]
  clear hls
  have hL : p_L ls 4 [(0, .ref (adC 0)), (1, .int x1), (2, .ref (adO 0))] := hL
  refine lv_aload_n hx hb dL_deadline_0 rfl (lv_at hL.1 2 rfl) ?_
  refine lv_iconst hx hb dL_deadline_1 (v := 0) rfl ?_
  refine lv_aload_n hx hb dL_deadline_2 rfl (lv_at hL.1 0 rfl) ?_
  refine lv_iload_n hx hb dL_deadline_3 rfl (lv_at hL.1 1 rfl) ?_
  refine vx_calli (vx_runV (As := [.int x1]) (rest := [.int 0, .ref (adO 0)]) hC (kX3_deadline l hl D adC A sz h 0 x1 r hf) (cwV 1 hts gL_deadline_X3_deadline rfl rfl rfl (by decide +kernel) ⟨Nat.le_of_ble_eq_true rfl, Nat.le_of_ble_eq_true rfl⟩) (p_preVE hK hQ.tt hE hsz ho rfl) rfl rfl hL.1.1 rfl (lv_room (Nat.le_of_ble_eq_true rfl)) dL_deadline_4 ⟨Nat.le_of_ble_eq_true rfl, Nat.le_of_ble_eq_true rfl⟩) hS (fun _ _ q => q.elim) (fun _ q => q.elim) (fun _ _ q => q.elim) ?_ ?_
  · intro E ce q9 u t H1 locs1 ht hvm _ hEr hz hk hS1 hcell hcv hcl
    have hE1 := hE9 E hEr
    subst hE1
    have hO2 : p_Q D adO p_tt s (hO f) H1 := hO1.kept fun x hx _ => hk x hx (fun q => q)
    refine vx_catch hown [] _ [] (htab.trans rfl) (fun z hz => by cases hz) (by decide) (by decide) hlnk (hcast.use rfl) hcell hcv hcl ?_
    refine lv_astore_n hx hb dL_deadline_12 rfl hL.1 (by decide) rfl fun ls' h1 => ?_
    refine lv_iconst hx hb dL_deadline_13 (v := 1) rfl ?_
    exact W.widen (Nat.le_of_ble_eq_true rfl) (Nat.le_of_ble_eq_true rfl) (W.iret hx hb hr (fun t ht hW => ⟨⟨1, (), rfl, by rw [hEr]; rfl, by rw [hEr]; show p_Q D adO p_tt t (hO f) t.heap; rw [ht]; exact hO2.moved hW.alike⟩, hS1.F ht⟩) hS1.2.2 dL_deadline_14 hlocks)
  · intro v u t H1 locs1 ht hvm hEr _ hz hk hS1
    have hO2 : p_Q D adO p_tt s (hO f) H1 := hO1.kept fun x hx _ => hk x hx (fun q => q)
    refine lv_i2l hx hb dL_deadline_7 rfl ?_
    refine p_last hC hO2 hS1 rfl dL_deadline_8 fun H2 locs2 hO3 oq hS2 => ?_
    refine lv_goto hx hb dL_deadline_9 (tgt := 15) rfl ?_
    refine lv_iconst hx hb dL_deadline_15 (v := 0) rfl ?_
    exact W.widen (Nat.le_of_ble_eq_true rfl) (Nat.le_of_ble_eq_true rfl) (W.iret hx hb hr (fun t ht hW => ⟨⟨0, (), rfl, by rw [hEr]; rfl, by rw [hEr]; show p_Q D adO p_tt t (hO (vp_updL f 0 v.toInt64)) t.heap; rw [ht]; exact hO3.moved hW.alike⟩, hS2.F ht⟩) hS2.2.2 dL_deadline_16 hlocks)
abbrev rL_at : Room := { frames := 8, cells := 1, slots := 6, locals := 134 }
set_option maxHeartbeats 4000000 in
set_option maxRecDepth 100000 in
theorem wL_at (l : Launch) (hl : l.stackTraces = false) (D : va_G) (adC adO : Nat → Nat) (A : Nat → Prop) (sz : Nat) (h : PH) (f : Nat → Int64) (x1 x2 : Int32) (o1 : Unit) (r : String ⊕ Int32) (hf : fX3_at h 0 x1 x2 = some r) (ho : p_ob h 0 3 = some o1) (hE9 : ∀ E, r = .inl E → E = xIO) : Met l yL_at wsL_at rL_at (w_P D adC adO A sz h f [.ref (adC 0), .int x1, .int x2, .ref (adO 0)]) (w_R D adO r f) 1 6 (fun q => q = adO 0) := by
  refine p_ofWH (cc := cL_at) (maxL := 5) (ret := (some .int)) (hh := [(0, 10, 13, 21)]) (by decide) rfl ?_
  intro p e s m args below meth c s₁ B hml htab hv
  obtain ⟨hargs, hK, hQ, hE, hsz, hO1, hcast⟩ := hv
  have hx := B.exec
  have hb := B.bytes
  have hr := B.returns
  have hts := atoms_spec (ws := wsL_at) B.pre
  have hown : s.vm.findClass RL = some m.cls := findClass_of_methodNamed B.named
  have hlocks := B.notSynchronized
  have hC : CallFix p m c cL_at 5 s args wsL_at RL := ⟨hx, hb, hml, hown, hts⟩
  have hS : va_S (fun q => q = adO 0) s.heap s.heap [] := va_S.rf
  have hlnk : (Cond.classLink RL 21 xIO).before args s = true := hts _ (by decide +kernel)
  obtain ⟨ls, hls, hL⟩ := p_start (n := 5) hargs (by simp [p_cat, p_ci, p_cr, p_cn]) (Nat.le_of_ble_eq_true rfl)
  show W p l e rL_at s m args below meth c s.heap [] 0 0 (MQ below (w_R D adO r f) args s 1 6 (fun q => q = adO 0)) (entryFrame m args 5)
  rw [hls]
  clear hls
  have hL : p_L ls 5 [(0, .ref (adC 0)), (1, .int x1), (2, .int x2), (3, .ref (adO 0))] := hL
  refine lv_aload_n hx hb dL_at_0 rfl (lv_at hL.1 3 rfl) ?_
  refine lv_iconst hx hb dL_at_1 (v := 0) rfl ?_
  refine lv_aload_n hx hb dL_at_2 rfl (lv_at hL.1 0 rfl) ?_
  refine lv_iload_n hx hb dL_at_3 rfl (lv_at hL.1 1 rfl) ?_
  refine lv_iload_n hx hb dL_at_4 rfl (lv_at hL.1 2 rfl) ?_
  refine vx_calli (vx_runV (As := [.int x1, .int x2]) (rest := [.int 0, .ref (adO 0)]) hC (kX3_at l hl D adC A sz h 0 x1 x2 r hf) (cwV 2 hts gL_at_X3_at rfl rfl rfl (by decide +kernel) ⟨Nat.le_of_ble_eq_true rfl, Nat.le_of_ble_eq_true rfl⟩) (p_preVE hK hQ.tt hE hsz ho rfl) rfl rfl hL.1.1 rfl (lv_room (Nat.le_of_ble_eq_true rfl)) dL_at_5 ⟨Nat.le_of_ble_eq_true rfl, Nat.le_of_ble_eq_true rfl⟩) hS (fun _ _ q => q.elim) (fun _ q => q.elim) (fun _ _ q => q.elim) ?_ ?_
  · intro E ce q9 u t H1 locs1 ht hvm _ hEr hz hk hS1 hcell hcv hcl
    have hE1 := hE9 E hEr
    subst hE1
    have hO2 : p_Q D adO p_tt s (hO f) H1 := hO1.kept fun x hx _ => hk x hx (fun q => q)
    refine vx_catch hown [] _ [] (htab.trans rfl) (fun z hz => by cases hz) (by decide) (by decide) hlnk (hcast.use rfl) hcell hcv hcl ?_
    refine lv_astore hx hb dL_at_13 hL.1 (by decide) rfl fun ls' h1 => ?_
    refine lv_iconst hx hb dL_at_15 (v := 1) rfl ?_
    exact W.widen (Nat.le_of_ble_eq_true rfl) (Nat.le_of_ble_eq_true rfl) (W.iret hx hb hr (fun t ht hW => ⟨⟨1, (), rfl, by rw [hEr]; rfl, by rw [hEr]; show p_Q D adO p_tt t (hO f) t.heap; rw [ht]; exact hO2.moved hW.alike⟩, hS1.F ht⟩) hS1.2.2 dL_at_16 hlocks)
  · intro v u t H1 locs1 ht hvm hEr _ hz hk hS1
    have hO2 : p_Q D adO p_tt s (hO f) H1 := hO1.kept fun x hx _ => hk x hx (fun q => q)
    refine lv_i2l hx hb dL_at_8 rfl ?_
    refine p_last hC hO2 hS1 rfl dL_at_9 fun H2 locs2 hO3 oq hS2 => ?_
    refine lv_goto hx hb dL_at_10 (tgt := 17) rfl ?_
    refine lv_iconst hx hb dL_at_17 (v := 0) rfl ?_
    exact W.widen (Nat.le_of_ble_eq_true rfl) (Nat.le_of_ble_eq_true rfl) (W.iret hx hb hr (fun t ht hW => ⟨⟨0, (), rfl, by rw [hEr]; rfl, by rw [hEr]; show p_Q D adO p_tt t (hO (vp_updL f 0 v.toInt64)) t.heap; rw [ht]; exact hO3.moved hW.alike⟩, hS2.F ht⟩) hS2.2.2 dL_at_18 hlocks)
