/-! THE LAW: its wrappers of the calls that only read -/
def w_P (D : va_G) (adC adO : Nat → Nat) (A : Nat → Prop) (sz : Nat) (h : PH) (f : Nat → Int64) (As : List Value) : Array Value → State → Prop := va_Pc As (fun U => va_K D vwCl [] U ∧ p_Q D adC p_tt U h U.heap ∧ p_E A U U.heap ∧ U.heap.size = sz ∧ p_Q D adO p_tt U (hO f) U.heap ∧ va_Nw (.castable xIO xIO) U)
def w_cd (r : String ⊕ Int32) : Int32 := match r with
  | .inl _ => 1
  | .inr _ => 0
def w_f (f : Nat → Int64) (r : String ⊕ Int32) : Nat → Int64 := match r with
  | .inl _ => f
  | .inr v => vp_updL f 0 v.toInt64
def w_R (D : va_G) (adO : Nat → Nat) (r : String ⊕ Int32) (f : Nat → Int64) : Array Value → State → Outcome → State → Prop := va_Qi (fun x (_ : Unit) => x = w_cd r) (fun _ t => p_Q D adO p_tt t (hO (w_f f r)) t.heap) (fun q => q = adO 0)
abbrev rL_placeOf : Room := { frames := 8, cells := 1, slots := 6, locals := 133 }
set_option maxHeartbeats 4000000 in
set_option maxRecDepth 100000 in
theorem wL_placeOf (l : Launch) (hl : l.stackTraces = false) (D : va_G) (adC adO : Nat → Nat) (A : Nat → Prop) (sz : Nat) (h : PH) (f : Nat → Int64) (x1 : Int32) (o1 : Unit) (r : String ⊕ Int32) (hf : fX3_placeOf h 0 x1 = some r) (ho : p_ob h 0 3 = some o1) (hE9 : ∀ E, r = .inl E → E = xIO) : Met l yL_placeOf wsL_placeOf rL_placeOf (w_P D adC adO A sz h f [.ref (adC 0), .int x1, .ref (adO 0)]) (w_R D adO r f) 1 6 (fun q => q = adO 0) := by
  refine p_ofWH (cc := cL_placeOf) (maxL := 4) (ret := (some .int)) (hh := [(0, 9, 12, 21)]) (by decide) rfl ?_
  intro p e s m args below meth c s₁ B hml htab hv
  obtain ⟨hargs, hK, hQ, hE, hsz, hO1, hcast⟩ := hv
  have hx := B.exec
  have hb := B.bytes
  have hr := B.returns
  have hts := atoms_spec (ws := wsL_placeOf) B.pre
  have hown : s.vm.findClass RL = some m.cls := findClass_of_methodNamed B.named
  have hlocks := B.notSynchronized
  have hC : CallFix p m c cL_placeOf 4 s args wsL_placeOf RL := ⟨hx, hb, hml, hown, hts⟩
  have hS : va_S (fun q => q = adO 0) s.heap s.heap [] := va_S.rf
  have hlnk : (Cond.classLink RL 21 xIO).before args s = true := hts _ (by decide +kernel)
  obtain ⟨ls, hls, hL⟩ := p_start (n := 4) hargs (by simp [p_cat, p_ci, p_cr, p_cn]) (Nat.le_of_ble_eq_true rfl)
  show W p l e rL_placeOf s m args below meth c s.heap [] 0 0 (MQ below (w_R D adO r f) args s 1 6 (fun q => q = adO 0)) (entryFrame m args 4)
  rw [hls]
  clear hls
  have hL : p_L ls 4 [(0, .ref (adC 0)), (1, .int x1), (2, .ref (adO 0))] := hL
  refine lv_aload_n hx hb dL_placeOf_0 rfl (lv_at hL.1 2 rfl) ?_
  refine lv_iconst hx hb dL_placeOf_1 (v := 0) rfl ?_
  refine lv_aload_n hx hb dL_placeOf_2 rfl (lv_at hL.1 0 rfl) ?_
  refine lv_iload_n hx hb dL_placeOf_3 rfl (lv_at hL.1 1 rfl) ?_
  refine vx_calli (vx_runV (As := [.int x1]) (rest := [.int 0, .ref (adO 0)]) hC (kX3_placeOf l hl D adC A sz h 0 x1 r hf) (cwV 1 hts gL_placeOf_X3_placeOf rfl rfl rfl (by decide +kernel) ⟨Nat.le_of_ble_eq_true rfl, Nat.le_of_ble_eq_true rfl⟩) (p_preVE hK hQ.tt hE hsz ho rfl) rfl rfl hL.1.1 rfl (lv_room (Nat.le_of_ble_eq_true rfl)) dL_placeOf_4 ⟨Nat.le_of_ble_eq_true rfl, Nat.le_of_ble_eq_true rfl⟩) hS (fun _ _ q => q.elim) (fun _ q => q.elim) (fun _ _ q => q.elim) ?_ ?_
  · intro E ce q9 u t H1 locs1 ht hvm _ hEr hz hk hS1 hcell hcv hcl
    have hE1 := hE9 E hEr
    subst hE1
    have hO2 : p_Q D adO p_tt s (hO f) H1 := hO1.kept fun x hx _ => hk x hx (fun q => q)
    refine vx_catch hown [] _ [] (htab.trans rfl) (fun z hz => by cases hz) (by decide) (by decide) hlnk (hcast.use rfl) hcell hcv hcl ?_
    refine lv_astore_n hx hb dL_placeOf_12 rfl hL.1 (by decide) rfl fun ls' h1 => ?_
    refine lv_iconst hx hb dL_placeOf_13 (v := 1) rfl ?_
    exact W.widen (Nat.le_of_ble_eq_true rfl) (Nat.le_of_ble_eq_true rfl) (W.iret hx hb hr (fun t ht hW => ⟨⟨1, (), rfl, by rw [hEr]; rfl, by rw [hEr]; show p_Q D adO p_tt t (hO f) t.heap; rw [ht]; exact hO2.moved hW.alike⟩, hS1.F ht⟩) hS1.2.2 dL_placeOf_14 hlocks)
  · intro v u t H1 locs1 ht hvm hEr _ hz hk hS1
    have hO2 : p_Q D adO p_tt s (hO f) H1 := hO1.kept fun x hx _ => hk x hx (fun q => q)
    refine lv_i2l hx hb dL_placeOf_7 rfl ?_
    refine p_last hC hO2 hS1 rfl dL_placeOf_8 fun H2 locs2 hO3 oq hS2 => ?_
    refine lv_goto hx hb dL_placeOf_9 (tgt := 15) rfl ?_
    refine lv_iconst hx hb dL_placeOf_15 (v := 0) rfl ?_
    exact W.widen (Nat.le_of_ble_eq_true rfl) (Nat.le_of_ble_eq_true rfl) (W.iret hx hb hr (fun t ht hW => ⟨⟨0, (), rfl, by rw [hEr]; rfl, by rw [hEr]; show p_Q D adO p_tt t (hO (vp_updL f 0 v.toInt64)) t.heap; rw [ht]; exact hO3.moved hW.alike⟩, hS2.F ht⟩) hS2.2.2 dL_placeOf_16 hlocks)
