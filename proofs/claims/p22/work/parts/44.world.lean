/-! THE LAW'S METHODS: a broker's world, contracts, rows. x: where the broker lies; A: where its cells lie; g: its numbers -/
theorem m_ex {ι : Type} {l : Launch} {y : MethodName} {ws : List Cond} {rm : Room} {Pc : Array Value → State → Prop} {Qc : Array Value → State → Outcome → State → Prop} {mc ms : Nat} {free : Addr → Prop} {Pz : ι → Array Value → State → Prop} {Qz : ι → Array Value → State → Outcome → State → Prop} {fz : ι → Addr → Prop}
    (hp : ∀ a s, Pc a s → ∃ z, Met l y ws rm (Pz z) (Qz z) mc ms (fz z) ∧ Pz z a s ∧ (∀ o t, Qz z a s o t → Qc a s o t) ∧ ∀ q, fz z q → free q) : Met l y ws rm Pc Qc mc ms free :=
  fun p e h1 h2 h3 s m args below hf ha hP hk => by
    obtain ⟨z, hM, hPz, hq, hfr⟩ := hp args s hP
    obtain ⟨n, o, a1, a2, a3, a4, L, a5, a6⟩ := hM p e h1 h2 h3 s m args below hf ha hPz hk
    exact ⟨n, o, a1, a2, a3, hq _ _ a4, L, a5, fun q hq => hfr _ (a6 q hq)⟩
/-- a body with handlers that always returns -/
theorem p_ofWH {l : Launch} {y : MethodName} {ws ws' : List Cond} {rm : Room} {Pc : Array Value → State → Prop} {Qc : Array Value → State → Outcome → State → Prop} {mc ms : Nat} {free : Addr → Prop} {cc : ByteArray} {maxL : Nat} {ret : Option FieldType} {hh : List (Nat × Nat × Nat × Nat)}
    (hy : plainName y.cls = true) (hw : ws = Cond.codeWith y cc maxL ret hh :: ws')
    (body : ∀ p e s m args below meth c s₁, BodyLoose p l y (headSpec ws rm) cc maxL ret e s m args below meth c s₁ → c.maxLocals = maxL → c.exceptionTable.toList = tableOf hh → Pc args s →
      W p l e (headSpec ws rm).room s m args below meth c s.heap [] 0 0 (MQ below Qc args s mc ms free) (entryFrame m args maxL)) : Met l y ws rm Pc Qc mc ms free := by
  refine MetFree.of_bodyS (code := cc) (maxLocals := maxL) (ret := ret) hy ?_ ?_
  · intro args s m h hn
    obtain ⟨m9, meth, c, hn9, h1, h2, h3, h4, -, h5, h6, -⟩ := Cond.codeWith_spec (atoms_spec (ws := ws) h _ (by rw [hw]; exact List.mem_cons_self))
    cases hn.symm.trans hn9
    exact ⟨meth, c, h1, h2, h3, h4, h5, h6⟩
  · intro p e s m args below meth c s₁ B hml hP _
    have hh0 : s₁.heap = s.heap := by rw [B.state]; rfl
    have ht : c.exceptionTable.toList = tableOf hh := vx_table (x := y) B (atoms_spec (ws := ws) B.pre _ (by rw [hw]; exact List.mem_cons_self))
    obtain ⟨t, a1, o, b1, b2, b3⟩ := body p e s m args below meth c s₁ B hml ht hP s₁ hh0 (Stand.of_body B)
    exact ⟨t, o, a1, b1, b2, b3⟩
/-! what a component's cells refer to is there -/
theorem hC_ne_l {I E : IT} {P : PT} {n q : Nat} (h : q < 8) : hC I E P n q ≠ none := by rw [hC_l _ _ _ _ h]; exact fun z => by cases z
theorem hC_ne_w {I E : IT} {P : PT} {n i : Nat} (h : i < n) : hC I E P n (wa i) ≠ none := by rw [hC_w _ _ _ h]; exact fun z => by cases z
theorem hC_ne_t {I E : IT} {P : PT} {n i : Nat} (h : i < n) : hC I E P n (ta i) ≠ none := by rw [hC_t _ _ _ h]; exact fun z => by cases z
theorem rr_A {I E : IT} {P : PT} {n : Nat} (hP : pB P n) (m a : Nat) : p_rr (hC I E P n) (cA m (cR P a)) := by
  refine ⟨fun ci fs y h1 _ => (by cases h1), fun t k f j y h1 h2 => ?_⟩
  unfold cA at h1
  cases h1
  unfold cR at h2
  obtain ⟨i, hi, rfl⟩ := Option.map_eq_some_iff.mp h2
  exact hC_ne_w (hP a j i hi)
theorem rr_I {h : PH} (t k : Nat) (f : Nat → Int32) : p_rr h (.inl (t, k, .inl f)) := ⟨fun ci fs y h1 _ => (by cases h1), fun t n g j y h1 _ => (by cases h1)⟩
theorem rr_O {h : PH} {c : Nat} {fs : List Value} (hf : ∀ y, Value.ref y ∈ fs → h y ≠ none) : p_rr h (.inr (c, fs)) := ⟨fun ci gs y h1 h2 => by cases h1; exact hf y h2, fun t n g j y h1 _ => (by cases h1)⟩
theorem hC_rr {I E : IT} {P : PT} {n : Nat} (hP : pB P n) : ∀ q e, hC I E P n q = some e → p_rr (hC I E P n) e := fun q e h => by
  by_cases h8 : q < 8
  · rw [hC_l _ _ _ _ h8] at h
    cases h
    have : q = 0 ∨ q = 1 ∨ q = 2 ∨ q = 3 ∨ q = 4 ∨ q = 5 ∨ q = 6 ∨ q = 7 := by omega
    rcases this with rfl | rfl | rfl | rfl | rfl | rfl | rfl | rfl
    · refine rr_O fun y hy => ?_
      unfold cB at hy
      simp only [List.mem_cons, Value.ref.injEq, reduceCtorEq, List.not_mem_nil, or_false, false_or] at hy
      rcases hy with rfl | rfl | rfl | rfl | rfl <;> exact hC_ne_l (by decide)
    · refine rr_O fun y hy => ?_
      simp only [List.mem_cons, Value.ref.injEq, reduceCtorEq, List.not_mem_nil, or_false, false_or] at hy
      subst hy
      exact hC_ne_l (by decide)
    · exact rr_A hP 8 0
    · refine rr_O fun y hy => ?_
      simp only [List.mem_cons, Value.ref.injEq, reduceCtorEq, List.not_mem_nil, or_false, false_or] at hy
      subst hy
      exact hC_ne_l (by decide)
    · exact rr_A hP 8 1
    · exact rr_A hP 48 2
    · exact rr_I _ _ _
    · exact rr_I _ _ _
  · unfold hC at h
    rw [if_neg h8] at h
    by_cases h9 : q < 8 + 2 * n
    · rw [if_pos h9] at h
      by_cases h10 : q % 2 = 0
      · rw [if_pos h10] at h
        cases h
        refine rr_O fun y hy => ?_
        unfold cW at hy
        simp only [List.mem_cons, Value.ref.injEq, reduceCtorEq, List.not_mem_nil, or_false, false_or] at hy
        subst hy
        exact hC_ne_t (by omega)
      · rw [if_neg h10] at h
        cases h
        refine rr_O fun y hy => ?_
        unfold cT at hy
        simp only [List.mem_cons, reduceCtorEq, List.not_mem_nil, or_false, false_or] at hy
    · rw [if_neg h9] at h; cases h
theorem p_Q.sub {D : va_G} {ad : Nat → Nat} {B : Nat → Prop} {s : State} {I E : IT} {P : PT} {n : Nat} {g : PH} {H : Heap} (hQ : p_Q D ad B s g H) (hs : sub (hC I E P n) g) (hP : pB P n) : p_Q D ad B s (hC I E P n) H := hQ.less hs (hC_rr hP)
theorem hC_ob {I E : IT} {P : PT} {n : Nat} : p_ob (hC I E P n) 0 3 = some () := rfl
def lb_ca (U : State) : Prop := (va_Nw (.castable xIO xIO) U ∧ va_Nw (.castable xIA xIA) U ∧ va_Nw (.castable xIS xIS) U) ∧ va_Nc xIS xIA U ∧ va_Nc xIA xIO U
theorem lb_ca.moved {s U : State} (hW : s.WarmedH U.vm) (h : lb_ca s) : lb_ca U := ⟨⟨va_Nw.warmC hW h.1.1, va_Nw.warmC hW h.1.2.1, va_Nw.warmC hW h.1.2.2⟩, va_Nc.moved hW.alike h.2.1, va_Nc.moved hW.alike h.2.2⟩
/-! a broker -/
def bk (D : va_G) (x : Nat) (A : Nat → Prop) (g : Sg) (s : State) (H : Heap) : Prop := ∃ (ad : Nat → Nat) (E : IT) (P : PT), ad 0 = x ∧ GC g E P ∧ p_Q D ad A s (gh g E P) H
theorem bk.moved {D : va_G} {x : Nat} {A : Nat → Prop} {g : Sg} {u U : State} {H : Heap} (hvm : u.vm.Alike U.vm) (h : bk D x A g u H) : bk D x A g U H := by
  obtain ⟨ad, E, P, h1, h2, h3⟩ := h
  exact ⟨ad, E, P, h1, h2, h3.moved hvm⟩
theorem bk.kept {D : va_G} {x : Nat} {A : Nat → Prop} {g : Sg} {s : State} {H H1 : Heap} (h : bk D x A g s H) (hk : ∀ q : Nat, q < H.size → A q → H1[q]? = H[q]?) : bk D x A g s H1 := by
  obtain ⟨ad, E, P, h1, h2, h3⟩ := h
  exact ⟨ad, E, P, h1, h2, h3.kept hk⟩
theorem bk.mono {D : va_G} {x : Nat} {A B : Nat → Prop} {g : Sg} {s : State} {H : Heap} (h : bk D x A g s H) (hk : ∀ q, A q → q < H.size → B q) : bk D x B g s H := by
  obtain ⟨ad, E, P, h1, h2, h3⟩ := h
  exact ⟨ad, E, P, h1, h2, h3.mono fun q e he hA => hk _ hA (h3.1 q e he).1.lt⟩
theorem bk.tt {D : va_G} {x : Nat} {A : Nat → Prop} {g : Sg} {s : State} {H : Heap} (h : bk D x A g s H) : bk D x p_tt g s H := h.mono fun _ _ _ => trivial
theorem bk.GC {D : va_G} {x : Nat} {A : Nat → Prop} {g : Sg} {s : State} {H : Heap} (h : bk D x A g s H) : ∃ E P, GC g E P := by
  obtain ⟨ad, E, P, h1, h2, h3⟩ := h
  exact ⟨E, P, h2⟩
/-- the row of one int -/
def nk (y : Nat) (k : Int32) (s : State) (H : Heap) : Prop := ∃ cA : ClassId, (ArrOfT s cA .int ∧ va_RA s cA .int) ∧ H[y]? = some (vp_cell cA (1, .inl fun _ => k))
theorem nk.moved {y : Nat} {k : Int32} {u U : State} {H : Heap} (hvm : u.vm.Alike U.vm) (h : nk y k u H) : nk y k U H := by
  obtain ⟨cA, ⟨h1, h2⟩, h3⟩ := h
  exact ⟨cA, ⟨arrOfT_moved hvm h1, h2.moved hvm⟩, h3⟩
theorem nk.kept {y : Nat} {k : Int32} {s : State} {H H1 : Heap} (h : nk y k s H) (hq : H1[y]? = H[y]?) : nk y k s H1 := by
  obtain ⟨cA, h2, h3⟩ := h
  exact ⟨cA, h2, hq.trans h3⟩
theorem nk.lt {y : Nat} {k : Int32} {s : State} {H : Heap} (h : nk y k s H) : y < H.size := by
  obtain ⟨cA, h2, h3⟩ := h
  exact (Array.getElem?_eq_some_iff.mp h3).1
/-- a contract's start -/
def b_P (D : va_G) (x : Nat) (A B : Nat → Prop) (sz : Nat) (g : Sg) (As : List Value) : Array Value → State → Prop := va_Pc As (fun U => va_K D vwCl [] U ∧ bk D x A g U U.heap ∧ p_E B U U.heap ∧ U.heap.size = sz ∧ lb_ca U)
def b_N (D : va_G) (x y : Nat) (A B : Nat → Prop) (sz : Nat) (g : Sg) (k : Int32) (As : List Value) : Array Value → State → Prop := va_Pc As (fun U => va_K D vwCl [] U ∧ bk D x A g U U.heap ∧ p_E B U U.heap ∧ U.heap.size = sz ∧ lb_ca U ∧ nk y k U U.heap)
def b_N2 (D : va_G) (x x2 y : Nat) (sz : Nat) (g : Sg) (k : Int32) (As : List Value) : Array Value → State → Prop := va_Pc As (fun U => va_K D vwCl [] U ∧ bk D x p_tt g U U.heap ∧ bk D x2 p_tt g U U.heap ∧ p_E p_no U U.heap ∧ U.heap.size = sz ∧ lb_ca U ∧ nk y k U U.heap)
/-- a contract's end: the answer and the broker's numbers -/
def b_M (D : va_G) (x : Nat) (A : Nat → Prop) (v : Int32 × Sg) : Array Value → State → Outcome → State → Prop := va_Qi (fun z (_ : Unit) => z = v.1) (fun _ t => bk D x A v.2 t t.heap) A
section BK
variable {p : Program} {l : Launch} {e : Env} {R : Room} {s : State} {m : MethodId} {args : Array Value} {below : List Frame} {meth : Method} {c : Code} {H : Heap} {locs : List Loc} {cells slots : Nat} {Q : State → Prop}
variable {cc : ByteArray} {pc nL : Nat} {ls : Array Slot} {st0 rest : List Value} {D : va_G} {A B A0 : Nat → Prop} {Ts : List Cond} {own : String}
variable {mc ms x x2 y sz : Nat} {g : Sg} {k v : Int32} {As : List Value} {a : Array Value}
theorem b_blindP : FrameBlind (b_P D x A B sz g As) := fun a U g mk q => ⟨q.1, va_K.moved (u := U) (U := U.calling g mk a) (Vm.Alike.refl U.vm) q.2.1, bk.moved (u := U) (U := U.calling g mk a) (Vm.Alike.refl U.vm) q.2.2.1, p_E.moved (s := U) (U := U.calling g mk a) (State.WarmedH.refl U) q.2.2.2.1, q.2.2.2.2.1, lb_ca.moved (s := U) (U := U.calling g mk a) (State.WarmedH.refl U) q.2.2.2.2.2⟩
theorem b_blindN : FrameBlind (b_N D x y A B sz g k As) := fun a U g mk q => ⟨q.1, va_K.moved (u := U) (U := U.calling g mk a) (Vm.Alike.refl U.vm) q.2.1, bk.moved (u := U) (U := U.calling g mk a) (Vm.Alike.refl U.vm) q.2.2.1, p_E.moved (s := U) (U := U.calling g mk a) (State.WarmedH.refl U) q.2.2.2.1, q.2.2.2.2.1, lb_ca.moved (s := U) (U := U.calling g mk a) (State.WarmedH.refl U) q.2.2.2.2.2.1, nk.moved (u := U) (U := U.calling g mk a) (Vm.Alike.refl U.vm) q.2.2.2.2.2.2⟩
theorem b_blindN2 : FrameBlind (b_N2 D x x2 y sz g k As) := fun a U g mk q => ⟨q.1, va_K.moved (u := U) (U := U.calling g mk a) (Vm.Alike.refl U.vm) q.2.1, bk.moved (u := U) (U := U.calling g mk a) (Vm.Alike.refl U.vm) q.2.2.1, bk.moved (u := U) (U := U.calling g mk a) (Vm.Alike.refl U.vm) q.2.2.2.1, p_E.moved (s := U) (U := U.calling g mk a) (State.WarmedH.refl U) q.2.2.2.2.1, q.2.2.2.2.2.1, lb_ca.moved (s := U) (U := U.calling g mk a) (State.WarmedH.refl U) q.2.2.2.2.2.2.1, nk.moved (u := U) (U := U.calling g mk a) (Vm.Alike.refl U.vm) q.2.2.2.2.2.2.2⟩
theorem b_preS (hK : va_K D vwCl [] s) (hQ : bk D x A g s H) (hE : p_E B s H) (hca : lb_ca s) : PreS s H (b_P D x A B H.size g As) As :=
  ⟨b_blindP, fun U hU hW => ⟨rfl, va_K.moved hW.alike hK, by rw [hU]; exact hQ.moved hW.alike, by rw [hU]; exact hE.moved hW, by rw [hU], hca.moved hW⟩⟩
theorem b_preN (hK : va_K D vwCl [] s) (hQ : bk D x A g s H) (hE : p_E B s H) (hca : lb_ca s) (hN : nk y k s H) : PreS s H (b_N D x y A B H.size g k As) As :=
  ⟨b_blindN, fun U hU hW => ⟨rfl, va_K.moved hW.alike hK, by rw [hU]; exact hQ.moved hW.alike, by rw [hU]; exact hE.moved hW, by rw [hU], hca.moved hW, by rw [hU]; exact hN.moved hW.alike⟩⟩
theorem b_preN2 (hK : va_K D vwCl [] s) (hQ : bk D x p_tt g s H) (hQ2 : bk D x2 p_tt g s H) (hE : p_E p_no s H) (hca : lb_ca s) (hN : nk y k s H) : PreS s H (b_N2 D x x2 y H.size g k As) As :=
  ⟨b_blindN2, fun U hU hW => ⟨rfl, va_K.moved hW.alike hK, by rw [hU]; exact hQ.moved hW.alike, by rw [hU]; exact hQ2.moved hW.alike, by rw [hU]; exact hE.moved hW, by rw [hU], hca.moved hW, by rw [hU]; exact hN.moved hW.alike⟩⟩
theorem b_preV (hK : va_K D vwCl [] s) (hQ : bk D x A g s H) (hE : p_E B s H) (hca : lb_ca s) : PreV s H RX3 x (b_P D x A B H.size g (.ref x :: As)) As := by
  refine ⟨b_blindP, ?_, fun U hU hW => ⟨rfl, va_K.moved hW.alike hK, by rw [hU]; exact hQ.moved hW.alike, by rw [hU]; exact hE.moved hW, by rw [hU], hca.moved hW⟩⟩
  obtain ⟨ad, E, P, h1, h2, h3⟩ := hQ
  obtain ⟨fs, hh⟩ := p_ob_of (show p_ob (gh g E P) 0 3 = some () from rfl)
  obtain ⟨r, hr, cell, g1, g2, g3, -⟩ := (h3.1 0 _ hh).1
  rw [h1] at g1
  exact ⟨cell, g1, by rw [g3]; rfl, by rw [g2]; exact (hK.1 3 _ rfl).2.1⟩
/-- a call that only reads -/
theorem b_rd (hr : va_Run p l e R s m args below meth c H locs cells slots mc ms (F0 m pc ls st0) rest (p_Ri v a) p_no) (hQ : bk D x A g s H) (hS : va_S A0 s.heap H locs)
    (kk : ∀ (H1 : Heap) (locs1 : List Loc), bk D x A g s H1 → va_S A0 s.heap H1 locs1 → W p l e R s m args below meth c H1 locs1 (cells + mc) (slots + ms) Q (F0 m (pc + 3) ls (.int v :: rest))) : W p l e R s m args below meth c H locs cells slots Q (F0 m pc ls st0) :=
  va_calli hr hS (fun _ _ h => h.elim) (fun _ h => h.elim) fun z u t H1 locs1 ht hvm hp hB hz hk hS1 => by
    subst hp
    exact kk H1 locs1 (hQ.kept fun q hq _ => hk q hq fun z => z) hS1
theorem b_rd2 (hr : va_Run p l e R s m args below meth c H locs cells slots mc ms (F0 m pc ls st0) rest (p_Ri v a) p_no) (hQ : bk D x A g s H ∧ bk D x2 A g s H) (hS : va_S A0 s.heap H locs)
    (kk : ∀ (H1 : Heap) (locs1 : List Loc), bk D x A g s H1 ∧ bk D x2 A g s H1 → va_S A0 s.heap H1 locs1 → W p l e R s m args below meth c H1 locs1 (cells + mc) (slots + ms) Q (F0 m (pc + 3) ls (.int v :: rest))) : W p l e R s m args below meth c H locs cells slots Q (F0 m pc ls st0) :=
  va_calli hr hS (fun _ _ h => h.elim) (fun _ h => h.elim) fun z u t H1 locs1 ht hvm hp hB hz hk hS1 => by
    subst hp
    exact kk H1 locs1 ⟨hQ.1.kept fun q hq _ => hk q hq fun z => z, hQ.2.kept fun q hq _ => hk q hq fun z => z⟩ hS1
/-- a call that changes the broker -/
theorem b_mv {r : Int32 × Sg} (hr : va_Run p l e R s m args below meth c H locs cells slots mc ms (F0 m pc ls st0) rest (b_M D x A r a) A) (hS : va_S A s.heap H locs)
    (kk : ∀ (H1 : Heap) (locs1 : List Loc), bk D x A r.2 s H1 → va_S A s.heap H1 locs1 → W p l e R s m args below meth c H1 locs1 (cells + mc) (slots + ms) Q (F0 m (pc + 3) ls (.int r.1 :: rest))) : W p l e R s m args below meth c H locs cells slots Q (F0 m pc ls st0) :=
  va_calli hr hS (fun _ _ h => h) (fun _ h => h) fun z u t H1 locs1 ht hvm hp hB hz hk hS1 => by
    subst hp
    rw [ht] at hB
    exact kk H1 locs1 (hB.moved hvm.symm) hS1
/-- n[0] -/
theorem b_n0 (hexec : p.tables.exec = Jvm.exec) (hb : c.code = cc) (hN : nk y k s s.heap) (hAy : ¬ A y) (hS : va_S A s.heap H locs) (hdg : decode cc pc = .ok (.iaload, 1))
    (kk : W p l e R s m args below meth c H locs cells slots Q (F0 m (pc + 1) ls (.int k :: rest))) : W p l e R s m args below meth c H locs cells slots Q (F0 m pc ls (.int 0 :: .ref y :: rest)) := by
  obtain ⟨cA, hA, hc⟩ := hN.kept (hS.2.1 y hN.lt hAy)
  exact W.iald (v := .int k) hexec hb hc (hA.1 1 (fun _ => .int k)) (fun q => by cases q) (by show ¬ ((0 : Int32) < 0 ∨ (arrV _ _ _).slots.size ≤ _); rw [arrV_size]; exact (by decide : ¬ ((0 : Int32) < 0 ∨ 1 ≤ (0 : Int32).toNatClampNeg))) (by show (arrV _ _ _).slots[_]? = _; rw [arrV_read _ _ (by decide : (0 : Int32).toNatClampNeg < 1)]) rfl rfl hdg kk
/-! ends -/
theorem b_rM (S : CallFix p m c cc nL s args Ts own) (hr : meth.sig.returnType = some .int) (hlocks : meth.locks = false) {r : Int32} {g' : Sg} {r0 : Int32 × Sg} (hQ : bk D x A g' s H) (hS : va_S A s.heap H locs) (hf : some (r, g') = some r0) (hc : cells ≤ mc) (hs : slots ≤ ms) (hdg : decode cc pc = .ok (.ireturn, 1)) : W p l e R s m args below meth c H locs cells slots (MQ below (b_M D x A r0) args s mc ms A) (F0 m pc ls [.int r]) := by
  cases hf
  exact W.widen hc hs (W.iret S.1 S.2.1 hr (fun t ht hW => ⟨⟨r, (), rfl, rfl, by show bk D x A g' t t.heap; rw [ht]; exact hQ.moved hW.alike⟩, hS.F ht⟩) hS.2.2 hdg hlocks)
theorem b_rZ (S : CallFix p m c cc nL s args Ts own) (hr : meth.sig.returnType = some .boolean) (hlocks : meth.locks = false) {r : Int32} {g' : Sg} {r0 : Int32 × Sg} (hQ : bk D x A g' s H) (hS : va_S A s.heap H locs) (hf : ((p_z r).bind fun z => some (z, g')) = some r0) (hc : cells ≤ mc) (hs : slots ≤ ms) (hdg : decode cc pc = .ok (.ireturn, 1)) : W p l e R s m args below meth c H locs cells slots (MQ below (b_M D x A r0) args s mc ms A) (F0 m pc ls [.int r]) := by
  unfold p_z at hf
  by_cases hz : r = 0 ∨ r = 1
  · rw [if_pos hz] at hf
    cases hf
    exact W.widen hc hs (W.zret S.1 S.2.1 hr (p_nz hz).1 (fun t ht hW => ⟨⟨r, (), rfl, rfl, by show bk D x A g' t t.heap; rw [ht]; exact hQ.moved hW.alike⟩, hS.F ht⟩) hS.2.2 hdg hlocks)
  · rw [if_neg hz] at hf
    cases hf
theorem b_rR (S : CallFix p m c cc nL s args Ts own) (hr : meth.sig.returnType = some .boolean) (hlocks : meth.locks = false) {r r0 : Int32} (hS : va_S p_no s.heap H locs) (hf : p_z r = some r0) (hc : cells ≤ mc) (hs : slots ≤ ms) (hdg : decode cc pc = .ok (.ireturn, 1)) : W p l e R s m args below meth c H locs cells slots (MQ below (p_Ri r0) args s mc ms p_no) (F0 m pc ls [.int r]) := by
  unfold p_z at hf
  by_cases hz : r = 0 ∨ r = 1
  · rw [if_pos hz] at hf
    cases hf
    exact W.widen hc hs (W.zret S.1 S.2.1 hr (p_nz hz).1 (fun t ht hW => ⟨⟨r, (), rfl, rfl, trivial⟩, hS.F ht⟩) hS.2.2 hdg hlocks)
  · rw [if_neg hz] at hf
    cases hf
end BK
/-! the component's own calls -/
theorem mX_tick (l : Launch) (D : va_G) (x sz : Nat) (g : Sg) : Met l yX3_tick wsX3_tick rX3_tick (b_P D x p_tt p_no sz g [.ref x]) (p_Ri (aTick g)) 0 0 p_no := m_ex (ι := (Nat → Nat) × IT × PT) (Pz := fun z => p_pre D z.1 p_tt (gh g z.2.1 z.2.2) [.ref (z.1 0)]) (Qz := fun _ => p_Ri (aTick g)) (fz := fun _ => p_no) fun a s ⟨h1, h2, ⟨ad, E, P, h3, h4, h5⟩, h6⟩ => ⟨(ad, E, P), kX3_tick l D ad (gh g E P) 0 _ (S_tick g E P), ⟨(show a = #[.ref (ad 0)] by rw [h3]; exact h1), h2, h5⟩, fun _ _ h => h, fun _ h => h⟩
theorem mX_windows (l : Launch) (D : va_G) (x sz : Nat) (g : Sg) : Met l yX3_windows wsX3_windows rX3_windows (b_P D x p_tt p_no sz g [.ref x]) (p_Ri (aWins g)) 0 0 p_no := m_ex (ι := (Nat → Nat) × IT × PT) (Pz := fun z => p_pre D z.1 p_tt (gh g z.2.1 z.2.2) [.ref (z.1 0)]) (Qz := fun _ => p_Ri (aWins g)) (fz := fun _ => p_no) fun a s ⟨h1, h2, ⟨ad, E, P, h3, h4, h5⟩, h6⟩ => ⟨(ad, E, P), kX3_windows l D ad (gh g E P) 0 _ (S_windows h4), ⟨(show a = #[.ref (ad 0)] by rw [h3]; exact h1), h2, h5⟩, fun _ _ h => h, fun _ h => h⟩
theorem mX_free (l : Launch) (D : va_G) (x sz : Nat) (g : Sg) : Met l yX3_free wsX3_free rX3_free (b_P D x p_tt p_no sz g [.ref x]) (p_Ri (aFree g)) 0 0 p_no := m_ex (ι := (Nat → Nat) × IT × PT) (Pz := fun z => p_pre D z.1 p_tt (gh g z.2.1 z.2.2) [.ref (z.1 0)]) (Qz := fun _ => p_Ri (aFree g)) (fz := fun _ => p_no) fun a s ⟨h1, h2, ⟨ad, E, P, h3, h4, h5⟩, h6⟩ => ⟨(ad, E, P), kX3_free l D ad (gh g E P) 0 _ (S_free h4), ⟨(show a = #[.ref (ad 0)] by rw [h3]; exact h1), h2, h5⟩, fun _ _ h => h, fun _ h => h⟩
theorem mX_damage (l : Launch) (D : va_G) (x sz : Nat) (g : Sg) : Met l yX3_damage wsX3_damage rX3_damage (b_P D x p_tt p_no sz g [.ref x]) (p_Ri (aDmg g)) 0 0 p_no := m_ex (ι := (Nat → Nat) × IT × PT) (Pz := fun z => p_pre D z.1 p_tt (gh g z.2.1 z.2.2) [.ref (z.1 0)]) (Qz := fun _ => p_Ri (aDmg g)) (fz := fun _ => p_no) fun a s ⟨h1, h2, ⟨ad, E, P, h3, h4, h5⟩, h6⟩ => ⟨(ad, E, P), kX3_damage l D ad (gh g E P) 0 _ (S_damage h4), ⟨(show a = #[.ref (ad 0)] by rw [h3]; exact h1), h2, h5⟩, fun _ _ h => h, fun _ h => h⟩
theorem mX_show (l : Launch) (D : va_G) (x sz : Nat) (A : Nat → Prop) (g : Sg) : Met l yX3_show wsX3_show rX3_show (b_P D x A A sz g [.ref x]) (b_M D x A (aShow g)) 0 0 A := m_ex (ι := (Nat → Nat) × IT × PT) (Pz := fun z => p_pre D z.1 (p_A z.1 (gh g z.2.1 z.2.2)) (gh g z.2.1 z.2.2) [.ref (z.1 0)]) (Qz := fun z => p_Mi D z.1 (p_A z.1 (gh g z.2.1 z.2.2)) ((aShow g).1, gh (aShow g).2 z.2.1 z.2.2)) (fz := fun z => p_A z.1 (gh g z.2.1 z.2.2)) fun a s ⟨h1, h2, ⟨ad, E, P, h3, h4, h5⟩, h6⟩ => ⟨(ad, E, P), kX3_show l D ad (gh g E P) 0 _ (S_show h4).1, ⟨(show a = #[.ref (ad 0)] by rw [h3]; exact h1), h2, h5.self⟩, fun o t ⟨⟨v, u, k1, k2, k3⟩, k4⟩ => ⟨⟨v, (), k1, by rw [k2], ad, E, P, h3, (S_show h4).2, k3.mono fun q f _ hx => p_sub h5 _ hx⟩, k4.1, fun q hq hA => k4.2 q hq fun hz => hA (p_sub h5 _ hz)⟩, fun q hq => p_sub h5 _ hq⟩
theorem aSeen_z {g : Sg} {E : IT} {P : PT} (hR : GC g E P) {w v : Int32} (hf : fX3_isSeen (gh g E P) 0 w = some (.inr v)) : v = 0 ∨ v = 1 := by
  rcases wp_cs w g.2.1 with ⟨-, h2⟩ | ⟨p, u, h1, h2, rfl, h4⟩
  · have q := (R_n hR h2).1.1.1.1.2
    rw [show hC g.1 E P g.2.2 = gh g E P from rfl, hf] at q
    cases q
  · have q := (R_y hR h2 h4).1.1.1.1.2
    rw [show hC g.1 E P g.2.2 = gh g E P from rfl, hf] at q
    have q2 := Sum.inr.inj (Option.some.inj q)
    rw [q2]
    cases seen g.1 g.2.1 u
    · exact Or.inl rfl
    · exact Or.inr rfl
theorem p_nzd_of {d : Int32} {u : Unit} (h : p_nzd d = some u) : ¬ d = 0 := fun z => by rw [p_nzd, if_pos z] at h; cases h
theorem p_z_or {v r : Int32} (h : p_z v = some r) : v = 0 ∨ v = 1 := by
  unfold p_z at h
  by_cases hz : v = 0 ∨ v = 1
  · exact hz
  · rw [if_neg hz] at h; cases h
theorem b_eqM {l : Launch} {y : MethodName} {ws : List Cond} {rm : Room} {Pc : Array Value → State → Prop} {D : va_G} {x : Nat} {A : Nat → Prop} {r r' : Int32 × Sg} {mc ms : Nat} {free : Addr → Prop} (h : Met l y ws rm Pc (b_M D x A r) mc ms free) (e : some r = some r') : Met l y ws rm Pc (b_M D x A r') mc ms free := by
  cases e
  exact h
theorem p_ti {x : Int32} {n : Int} (h : x.toInt = n) (k : Int32) (hk : k.toInt = n) : x = k := Int32.toInt_inj.mp (h.trans hk.symm)
theorem p_tout12 {x : Int32} (h0 : ¬ x = 0) (h1 : ¬ x = 1) (h2 : ¬ x = 2) (h3 : ¬ x = 3) (h4 : ¬ x = 4) (h5 : ¬ x = 5) (h6 : ¬ x = 6) (h7 : ¬ x = 7) (h8 : ¬ x = 8) (h9 : ¬ x = 9) (h10 : ¬ x = 10) (h11 : ¬ x = 11) : x.toInt < 0 ∨ 11 < x.toInt := by
  have e0 : ¬ x.toInt = 0 := fun h => h0 (p_ti h 0 (by decide))
  have e1 : ¬ x.toInt = 1 := fun h => h1 (p_ti h 1 (by decide))
  have e2 : ¬ x.toInt = 2 := fun h => h2 (p_ti h 2 (by decide))
  have e3 : ¬ x.toInt = 3 := fun h => h3 (p_ti h 3 (by decide))
  have e4 : ¬ x.toInt = 4 := fun h => h4 (p_ti h 4 (by decide))
  have e5 : ¬ x.toInt = 5 := fun h => h5 (p_ti h 5 (by decide))
  have e6 : ¬ x.toInt = 6 := fun h => h6 (p_ti h 6 (by decide))
  have e7 : ¬ x.toInt = 7 := fun h => h7 (p_ti h 7 (by decide))
  have e8 : ¬ x.toInt = 8 := fun h => h8 (p_ti h 8 (by decide))
  have e9 : ¬ x.toInt = 9 := fun h => h9 (p_ti h 9 (by decide))
  have e10 : ¬ x.toInt = 10 := fun h => h10 (p_ti h 10 (by decide))
  have e11 : ¬ x.toInt = 11 := fun h => h11 (p_ti h 11 (by decide))
  omega
