/-! THE LAW: its wrappers of the calls that change what there is -/
def w_PM (D : va_G) (adC adO : Nat → Nat) (A : Nat → Prop) (sz : Nat) (h : PH) (f : Nat → Int64) (As : List Value) : Array Value → State → Prop := va_Pc As (fun U => va_K D vwCl [] U ∧ p_Q D adC A U h U.heap ∧ p_E A U U.heap ∧ U.heap.size = sz ∧ p_Q D adO p_tt U (hO f) U.heap ∧ (va_Nw (.castable xIO xIO) U ∧ va_Nw (.castable xIA xIA) U ∧ va_Nw (.castable xIS xIS) U) ∧ va_Nc xIS xIA U ∧ va_Nc xIA xIO U)
def w_hM (r : (String × PH) ⊕ (Int32 × PH)) : PH := match r with
  | .inl z => z.2
  | .inr z => z.2
def w_fM (f : Nat → Int64) (r : (String × PH) ⊕ (Int32 × PH)) : Nat → Int64 := match r with
  | .inl _ => f
  | .inr z => vp_updL f 0 z.1.toInt64
def w_cM (k : Int32) (r : (String × PH) ⊕ (Int32 × PH)) : Int32 := match r with
  | .inl _ => k
  | .inr _ => 0
def w_M (D : va_G) (adC adO : Nat → Nat) (A : Nat → Prop) (k : Int32) (r : (String × PH) ⊕ (Int32 × PH)) (f : Nat → Int64) : Array Value → State → Outcome → State → Prop := va_Qi (fun x (u : Nat → Nat) => x = w_cM k r ∧ u 0 = adC 0) (fun u t => p_Q D u A t (w_hM r) t.heap ∧ p_Q D adO p_tt t (hO (w_fM f r)) t.heap) (fun q => A q ∨ q = adO 0)
theorem hO_kept {D : va_G} {ad : Nat → Nat} {B : Nat → Prop} {s : State} {f : Nat → Int64} {H H1 : Heap} (h : p_Q D ad B s (hO f) H) (hk : H1[ad 0]? = H[ad 0]?) : p_Q D ad B s (hO f) H1 := by
  have h2 : p_Q D ad (fun q => q = ad 0 ∧ B q) s (hO f) H := h.mono fun q e he hb => ⟨by rw [(hO_o he).1], hb⟩
  exact (h2.kept fun x _ hx => by rw [hx.1]; exact hk).mono fun q e he hb => hb.2
abbrev rL_close : Room := { frames := 8, cells := 1, slots := 6, locals := 151 }
set_option maxHeartbeats 4000000 in
set_option maxRecDepth 100000 in
theorem wL_close (l : Launch) (hl : l.stackTraces = false) (D : va_G) (adC adO : Nat → Nat) (sz : Nat) (h : PH) (f : Nat → Int64) (hap : ¬ p_A adC h (adO 0)) (x1 : Int32) (o1 : Unit) (r : (String × PH) ⊕ (Int32 × PH)) (hf : fX3_close h 0 x1 = some r) (ho : p_ob h 0 3 = some o1) (hE9 : ∀ E g, r = .inl (E, g) → E = xIO) : Met l yL_close wsL_close rL_close (w_PM D adC adO (p_A adC h) sz h f [.ref (adC 0), .int x1, .ref (adO 0)]) (w_M D adC adO (p_A adC h) 1 r f) 1 6 (fun q => p_A adC h q ∨ q = adO 0) := by
  refine p_ofWH (cc := cL_close) (maxL := 4) (ret := (some .int)) (hh := [(0, 9, 12, 21)]) (by decide) rfl ?_
  intro p e s m args below meth c s₁ B hml htab hv
  obtain ⟨hargs, hK, hQ, hE, hsz, hO1, ⟨hcast, -, -⟩, -, -⟩ := hv
  have hx := B.exec
  have hb := B.bytes
  have hr := B.returns
  have hts := atoms_spec (ws := wsL_close) B.pre
  have hown : s.vm.findClass RL = some m.cls := findClass_of_methodNamed B.named
  have hlocks := B.notSynchronized
  have hC : CallFix p m c cL_close 4 s args wsL_close RL := ⟨hx, hb, hml, hown, hts⟩
  have hS : va_S (fun q => p_A adC h q ∨ q = adO 0) s.heap s.heap [] := va_S.rf
  have hlnk : (Cond.classLink RL 21 xIO).before args s = true := hts _ (by decide +kernel)
  have hOl : adO 0 < s.heap.size := (hO1.1 0 _ (hO_0 f)).1.lt
  obtain ⟨ls, hls, hL⟩ := p_start (n := 4) hargs (by simp [p_cat, p_ci, p_cr, p_cn]) (Nat.le_of_ble_eq_true rfl)
  show W p l e rL_close s m args below meth c s.heap [] 0 0 (MQ below (w_M D adC adO (p_A adC h) 1 r f) args s 1 6 (fun q => p_A adC h q ∨ q = adO 0)) (entryFrame m args 4)
  rw [hls]
  clear hls
  have hL : p_L ls 4 [(0, .ref (adC 0)), (1, .int x1), (2, .ref (adO 0))] := hL
  refine lv_aload_n hx hb dL_close_0 rfl (lv_at hL.1 2 rfl) ?_
  refine lv_iconst hx hb dL_close_1 (v := 0) rfl ?_
  refine lv_aload_n hx hb dL_close_2 rfl (lv_at hL.1 0 rfl) ?_
  refine lv_iload_n hx hb dL_close_3 rfl (lv_at hL.1 1 rfl) ?_
  refine vx_calli (vx_runV (As := [.int x1]) (rest := [.int 0, .ref (adO 0)]) hC (kX3_close l hl D adC sz h 0 x1 r hf) (cwV 1 hts gL_close_X3_close rfl rfl rfl (by decide +kernel) ⟨Nat.le_of_ble_eq_true rfl, Nat.le_of_ble_eq_true rfl⟩) (p_preVE hK hQ hE hsz ho rfl) rfl rfl hL.1.1 rfl (lv_room (Nat.le_of_ble_eq_true rfl)) dL_close_4 ⟨Nat.le_of_ble_eq_true rfl, Nat.le_of_ble_eq_true rfl⟩) hS (fun _ _ q => Or.inl q) (fun _ q => Or.inl q) (fun _ _ q => Or.inl q) ?_ ?_
  · intro E ce q9 u t H1 locs1 ht hvm hu hEr hz hk hS1 hcell hcv hcl
    obtain ⟨hEr, hQ1⟩ := hEr
    have hE1 := hE9 E _ hEr
    subst hE1
    have hQ2 : p_Q D u.1 (p_A adC h) s u.2 H1 := by rw [← ht]; exact hQ1.moved hvm.symm
    have hO2 : p_Q D adO p_tt s (hO f) H1 := hO_kept hO1 (hk _ hOl hap)
    refine vx_catch hown [] _ [] (htab.trans rfl) (fun z hz => by cases hz) (by decide) (by decide) hlnk (hcast.use rfl) hcell hcv hcl ?_
    refine lv_astore_n hx hb dL_close_12 rfl hL.1 (by decide) rfl fun ls' h1 => ?_
    refine lv_iconst hx hb dL_close_13 (v := 1) rfl ?_
    exact W.widen (Nat.le_of_ble_eq_true rfl) (Nat.le_of_ble_eq_true rfl) (W.iret hx hb hr (fun t ht hW => ⟨⟨1, u.1, rfl, ⟨by rw [hEr]; rfl, hu⟩, by rw [hEr]; show p_Q D u.1 (p_A adC h) t u.2 t.heap ∧ p_Q D adO p_tt t (hO f) t.heap; rw [ht]; exact ⟨hQ2.moved hW.alike, hO2.moved hW.alike⟩⟩, hS1.F ht⟩) hS1.2.2 dL_close_14 hlocks)
  · intro v u t H1 locs1 ht hvm hEr hQ1 hz hk hS1
    obtain ⟨hEr, hu⟩ := hEr
    have hQ2 : p_Q D u.1 (p_A adC h) s u.2 H1 := by rw [← ht]; exact hQ1.moved hvm.symm
    have hO2 : p_Q D adO p_tt s (hO f) H1 := hO_kept hO1 (hk _ hOl hap)
    refine lv_i2l hx hb dL_close_7 rfl ?_
    refine p_last hC hO2 hS1 (Or.inr rfl) dL_close_8 fun H2 locs2 hO3 oq hS2 => ?_
    have hQ3 : p_Q D u.1 (p_A adC h) s u.2 H2 := hQ2.kept fun x _ hA => oq x fun q => hap (by rw [← q]; exact hA)
    refine lv_goto hx hb dL_close_9 (tgt := 15) rfl ?_
    refine lv_iconst hx hb dL_close_15 (v := 0) rfl ?_
    exact W.widen (Nat.le_of_ble_eq_true rfl) (Nat.le_of_ble_eq_true rfl) (W.iret hx hb hr (fun t ht hW => ⟨⟨0, u.1, rfl, ⟨by rw [hEr]; rfl, hu⟩, by rw [hEr]; show p_Q D u.1 (p_A adC h) t u.2 t.heap ∧ p_Q D adO p_tt t (hO (vp_updL f 0 v.toInt64)) t.heap; rw [ht]; exact ⟨hQ3.moved hW.alike, hO3.moved hW.alike⟩⟩, hS2.F ht⟩) hS2.2.2 dL_close_16 hlocks)
