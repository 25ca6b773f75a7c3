/-! THE LAW: the wrapper of move -/
def w_hV (r : (String × PH) ⊕ PH) : PH := match r with
  | .inl z => z.2
  | .inr z => z
def w_cV (k : Int32) (r : (String × PH) ⊕ PH) : Int32 := match r with
  | .inl _ => k
  | .inr _ => 0
def w_PV (D : va_G) (adC : Nat → Nat) (A : Nat → Prop) (sz : Nat) (h : PH) (As : List Value) : Array Value → State → Prop := va_Pc As (fun U => va_K D vwCl [] U ∧ p_Q D adC A U h U.heap ∧ p_E A U U.heap ∧ U.heap.size = sz ∧ (va_Nw (.castable xIO xIO) U ∧ va_Nw (.castable xIA xIA) U ∧ va_Nw (.castable xIS xIS) U) ∧ va_Nc xIS xIA U ∧ va_Nc xIA xIO U)
def w_V (D : va_G) (adC : Nat → Nat) (A : Nat → Prop) (k : Int32) (r : (String × PH) ⊕ PH) : Array Value → State → Outcome → State → Prop := va_Qi (fun x (u : Nat → Nat) => x = w_cV k r ∧ u 0 = adC 0) (fun u t => p_Q D u A t (w_hV r) t.heap) A
abbrev rL_move : Room := { frames := 8, cells := 2, slots := 12, locals := 153 }
set_option maxHeartbeats 4000000 in
set_option maxRecDepth 100000 in
theorem wL_move (l : Launch) (hl : l.stackTraces = false) (D : va_G) (adC : Nat → Nat) (sz : Nat) (h : PH) (x1 x2 x3 : Int32) (o1 : Unit) (r : (String × PH) ⊕ PH) (hf : fX3_move h 0 x1 x2 x3 = some r) (ho : p_ob h 0 3 = some o1) (k : Int32) (hE9 : ∀ E g, r = .inl (E, g) → (E = xIO ∧ k = 1) ∨ (E = xIA ∧ k = 2)) : Met l yL_move wsL_move rL_move (w_PV D adC (p_A adC h) sz h [.ref (adC 0), .int x1, .int x2, .int x3]) (w_V D adC (p_A adC h) k r) 2 12 (p_A adC h) := by
  refine p_ofWH (cc := cL_move) (maxL := 5) (ret := (some .int)) (hh := [(0, 7, 10, 21), (0, 7, 14, 13)]) (by decide) rfl ?_
  intro p e s m args below meth c s₁ B hml htab hv
  obtain ⟨hargs, hK, hQ, hE, hsz, ⟨hcast, hcast2, -⟩, -, hnc⟩ := hv
  have hx := B.exec
  have hb := B.bytes
  have hr := B.returns
  have hts := atoms_spec (ws := wsL_move) B.pre
  have hown : s.vm.findClass RL = some m.cls := findClass_of_methodNamed B.named
  have hlocks := B.notSynchronized
  have hC : CallFix p m c cL_move 5 s args wsL_move RL := ⟨hx, hb, hml, hown, hts⟩
  have hS : va_S (p_A adC h) s.heap s.heap [] := va_S.rf
  have hlnk : (Cond.classLink RL 21 xIO).before args s = true := hts _ (by decide +kernel)
  have hlnk2 : (Cond.classLink RL 13 xIA).before args s = true := hts _ (by decide +kernel)
  obtain ⟨ls, hls, hL⟩ := p_start (n := 5) hargs (by simp [p_cat, p_ci, p_cr, p_cn]) (Nat.le_of_ble_eq_true rfl)
  show W p l e rL_move s m args below meth c s.heap [] 0 0 (MQ below (w_V D adC (p_A adC h) k r) args s 2 12 (p_A adC h)) (entryFrame m args 5)
  rw [hls]
  clear hls
  have hL : p_L ls 5 [(0, .ref (adC 0)), (1, .int x1), (2, .int x2), (3, .int x3)] := hL
  refine lv_aload_n hx hb dL_move_0 rfl (lv_at hL.1 0 rfl) ?_
  refine lv_iload_n hx hb dL_move_1 rfl (lv_at hL.1 1 rfl) ?_
  refine lv_iload_n hx hb dL_move_2 rfl (lv_at hL.1 2 rfl) ?_
  refine lv_iload_n hx hb dL_move_3 rfl (lv_at hL.1 3 rfl) ?_
  refine vx_callv (vx_runV (As := [.int x1, .int x2, .int x3]) (rest := []) hC (kX3_move l hl D adC sz h 0 x1 x2 x3 r hf) (cwV 3 hts gL_move_X3_move rfl rfl rfl (by decide +kernel) ⟨Nat.le_of_ble_eq_true rfl, Nat.le_of_ble_eq_true rfl⟩) (p_preVE hK hQ hE hsz ho rfl) rfl rfl hL.1.1 rfl (lv_room (Nat.le_of_ble_eq_true rfl)) dL_move_4 ⟨Nat.le_of_ble_eq_true rfl, Nat.le_of_ble_eq_true rfl⟩) hS (fun _ _ q => q) (fun _ q => q) (fun _ _ q => q) ?_ ?_
  · intro E ce q9 u t H1 locs1 ht hvm hu hEr hz hk hS1 hcell hcv hcl
    obtain ⟨hEr, hQ1⟩ := hEr
    have hQ2 : p_Q D u.1 (p_A adC h) s u.2 H1 := by rw [← ht]; exact hQ1.moved hvm.symm
    rcases hE9 E _ hEr with ⟨hE1, hk1⟩ | ⟨hE1, hk1⟩
    · subst hE1
      refine vx_catch hown [] _ [_] (htab.trans rfl) (fun z hz => by cases hz) (by decide) (by decide) hlnk (hcast.use rfl) hcell hcv hcl ?_
      refine lv_astore hx hb dL_move_10 hL.1 (by decide) rfl fun ls' h1 => ?_
      refine lv_iconst hx hb dL_move_12 (v := 1) rfl ?_
      exact W.widen (Nat.le_of_ble_eq_true rfl) (Nat.le_of_ble_eq_true rfl) (W.iret hx hb hr (fun t ht hW => ⟨⟨1, u.1, rfl, ⟨by rw [hEr, hk1]; rfl, hu⟩, by rw [hEr]; show p_Q D u.1 (p_A adC h) t u.2 t.heap; rw [ht]; exact hQ2.moved hW.alike⟩, hS1.F ht⟩) hS1.2.2 dL_move_13 hlocks)
    · subst hE1
      refine vx_catch hown [_] _ [] (htab.trans rfl) (fun z hz => by rw [List.mem_singleton.mp hz]; exact Or.inr ⟨by decide, xIO, hlnk, hnc⟩) (by decide) (by decide) hlnk2 (hcast2.use rfl) hcell hcv hcl ?_
      refine lv_astore hx hb dL_move_14 hL.1 (by decide) rfl fun ls' h1 => ?_
      refine lv_iconst hx hb dL_move_16 (v := 2) rfl ?_
      exact W.widen (Nat.le_of_ble_eq_true rfl) (Nat.le_of_ble_eq_true rfl) (W.iret hx hb hr (fun t ht hW => ⟨⟨2, u.1, rfl, ⟨by rw [hEr, hk1]; rfl, hu⟩, by rw [hEr]; show p_Q D u.1 (p_A adC h) t u.2 t.heap; rw [ht]; exact hQ2.moved hW.alike⟩, hS1.F ht⟩) hS1.2.2 dL_move_17 hlocks)
  · intro u t H1 locs1 ht hvm hEr hQ1 hz hk hS1
    obtain ⟨hEr, hu⟩ := hEr
    have hQ2 : p_Q D u.1 (p_A adC h) s u.2 H1 := by rw [← ht]; exact hQ1.moved hvm.symm
    refine lv_goto hx hb dL_move_7 (tgt := 18) rfl ?_
    refine lv_iconst hx hb dL_move_18 (v := 0) rfl ?_
    exact W.widen (Nat.le_of_ble_eq_true rfl) (Nat.le_of_ble_eq_true rfl) (W.iret hx hb hr (fun t ht hW => ⟨⟨0, u.1, rfl, ⟨by rw [hEr]; rfl, hu⟩, by rw [hEr]; show p_Q D u.1 (p_A adC h) t u.2 t.heap; rw [ht]; exact hQ2.moved hW.alike⟩, hS1.F ht⟩) hS1.2.2 dL_move_19 hlocks)
