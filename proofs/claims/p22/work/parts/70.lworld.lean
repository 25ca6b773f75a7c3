/-! THE LAW: its world: two brokers, apart, and the row of one int -/
theorem t_and (v : Int32) : ¬ (v &&& 2147483647) < 0 := by
  rw [Int32.lt_iff_toInt_lt]
  have h : (v &&& 2147483647).toBitVec.msb = false := by
    rw [Int32.toBitVec_and, BitVec.msb_and]
    simp
    intro _
    decide
  have h2 := BitVec.toInt_nonneg_of_msb_false h
  show ¬ (v &&& 2147483647).toBitVec.toInt < _
  have h3 : (0 : Int32).toInt = 0 := by decide
  omega
/-- drawn: some number that isn't negative -/
def d_P (b L : Nat) (xs : Nat → Int32) (As : List Value) : Array Value → State → Prop := va_Pc As (fun U => va_X b L xs U U.heap ∧ b < U.heap.size)
def d_R : Array Value → State → Outcome → State → Prop := va_Qi (fun z (_ : Unit) => ∃ m : Nat, m < 2147483648 ∧ z = nI m) (fun _ _ => True) p_no
abbrev rL_drawn : Room := { frames := 0, cells := 0, slots := 0, locals := 0 }
set_option maxHeartbeats 4000000 in
set_option maxRecDepth 100000 in
theorem kL_drawn (l : Launch) (b L : Nat) (xs : Nat → Int32) (j : Nat) (hj : j < 1000) (hL : L < 1000) : Met l yL_drawn wsL_drawn rL_drawn (d_P b L xs [.ref b, .int (nI j)]) d_R 0 0 p_no := by
  refine Met.ofW (cc := cL_drawn) (maxL := 2) (ret := some .int) (by decide) rfl ?_
  intro p e s m args below meth c s₁ B hml hv
  obtain ⟨hargs, hX, hbl⟩ := hv
  have hx := B.exec
  have hb := B.bytes
  have hr := B.returns
  have hts := atoms_spec (ws := wsL_drawn) B.pre
  have hown : s.vm.findClass RL = some m.cls := findClass_of_methodNamed B.named
  have hlocks := B.notSynchronized
  have hS : va_S p_no s.heap s.heap [] := va_S.rf
  obtain ⟨ls, hls, hLs⟩ := p_start (n := 2) hargs (by simp [p_cat, p_ci, p_cr, p_cn]) (Nat.le_of_ble_eq_true rfl)
  show W p l e rL_drawn s m args below meth c s.heap [] 0 0 (MQ below d_R args s 0 0 p_no) (entryFrame m args 2)
  rw [hls]
  clear hls
  have hLs : p_L ls 2 [(0, .ref b), (1, .int (nI j))] := hLs
  have fin : ∀ v : Int32, W p l e rL_drawn s m args below meth c s.heap [] 0 0 (MQ below d_R args s 0 0 p_no) (F0 m 22 ls [.int v]) := fun v => by
    refine lv_ldc (v := 2147483647) hx hb hown (hts (.constant RL 67 2147483647) (by decide +kernel)) dL_drawn_22 ?_
    refine lv_iand hx hb dL_drawn_24 ?_
    exact W.iret hx hb hr (fun t ht hW => ⟨⟨v &&& 2147483647, (), rfl, nI_of (t_and v), trivial⟩, hS.F ht⟩) hS.2.2 dL_drawn_25 hlocks
  refine lv_iload_n hx hb dL_drawn_0 rfl (lv_at hLs.1 1 rfl) ?_
  refine lv_aload_n hx hb dL_drawn_1 rfl (lv_at hLs.1 0 rfl) ?_
  refine va_slen hx hb hX hbl (fun h => h) hS dL_drawn_2 ?_
  refine lv_icmp_ge (tgt := 12) hx hb dL_drawn_3 (by decide) (fun _ => ?_) (fun h => ?_)
  · refine lv_ldc (v := 15525371) hx hb hown (hts (.constant RL 66 15525371) (by decide +kernel)) dL_drawn_12 ?_
    refine lv_iload_n hx hb dL_drawn_14 rfl (lv_at hLs.1 1 rfl) ?_
    refine lv_iconst (v := 3) hx hb dL_drawn_15 (by decide) ?_
    refine lv_iadd hx hb dL_drawn_16 ?_
    refine lv_imul hx hb dL_drawn_17 ?_
    refine lv_sipush (v := 13907) hx hb dL_drawn_18 (by decide) ?_
    refine lv_iadd hx hb dL_drawn_21 ?_
    exact fin _
  · have hjL : j < L := Nat.not_le.mp fun q => h ((nI_L (b := j) (a := L) (by omega) (by omega)).mpr q)
    refine lv_aload_n hx hb dL_drawn_6 rfl (lv_at hLs.1 0 rfl) ?_
    refine lv_iload_n hx hb dL_drawn_7 rfl (lv_at hLs.1 1 rfl) ?_
    refine va_sld hx hb hX hbl (fun h => h) hS (vp_in_nI (by omega) (by omega)) dL_drawn_8 ?_
    refine lv_goto (tgt := 22) hx hb dL_drawn_9 (by decide) ?_
    exact fin _
def lb_B (s : State) : Nat → Prop := fun q => s.heap.size ≤ q
def LW (D : va_G) (s : State) (x1 x2 y : Nat) (g1 g2 : Sg) (k : Int32) (H : Heap) : Prop := ∃ C1 C2 : Nat → Prop, (bk D x1 C1 g1 s H ∧ bk D x2 C2 g2 s H ∧ nk y k s H) ∧ (∀ q, C1 q → (s.heap.size ≤ q ∧ q < H.size) ∧ ¬ C2 q ∧ q ≠ y) ∧ (∀ q, C2 q → (s.heap.size ≤ q ∧ q < H.size) ∧ q ≠ y) ∧ s.heap.size ≤ y
theorem LW.swap {D : va_G} {s : State} {x1 x2 y : Nat} {g1 g2 : Sg} {k : Int32} {H : Heap} (h : LW D s x1 x2 y g1 g2 k H) : LW D s x2 x1 y g2 g1 k H := by
  obtain ⟨C1, C2, ⟨h1, h2, h3⟩, d1, d2, d3⟩ := h
  exact ⟨C2, C1, ⟨h2, h1, h3⟩, fun q hq => ⟨(d2 q hq).1, fun z => (d1 q z).2.1 hq, (d2 q hq).2⟩, fun q hq => ⟨(d1 q hq).1, (d1 q hq).2.2⟩, d3⟩
theorem LW.kept {D : va_G} {s : State} {x1 x2 y : Nat} {g1 g2 : Sg} {k : Int32} {H H1 : Heap} (h : LW D s x1 x2 y g1 g2 k H) (hz : H.size ≤ H1.size) (hk : ∀ q : Nat, q < H.size → H1[q]? = H[q]?) : LW D s x1 x2 y g1 g2 k H1 := by
  obtain ⟨C1, C2, ⟨h1, h2, h3⟩, d1, d2, d3⟩ := h
  exact ⟨C1, C2, ⟨h1.kept fun q hq _ => hk q hq, h2.kept fun q hq _ => hk q hq, h3.kept (hk y h3.lt)⟩, fun q hq => ⟨⟨(d1 q hq).1.1, Nat.lt_of_lt_of_le (d1 q hq).1.2 hz⟩, (d1 q hq).2⟩, fun q hq => ⟨⟨(d2 q hq).1.1, Nat.lt_of_lt_of_le (d2 q hq).1.2 hz⟩, (d2 q hq).2⟩, d3⟩
/-- what holds throughout -/
def LS2 (p : Program) (l : Launch) (s : State) (m : MethodId) (meth : Method) (c : Code) (D : va_G) (b L : Nat) (xs : Nat → Int32) : Prop := CallFix p m c cL_law 9 s #[Value.ref b] wsL_law RL ∧ l.stackTraces = false ∧ va_K D vwCl [] s ∧ p_E (lb_B s) s s.heap ∧ lb_ca s ∧ va_X b L xs s s.heap ∧ b < s.heap.size ∧ (meth.sig.returnType = ret ∧ meth.locks = false) ∧ L ≤ 260
theorem lw_arr (cA : ClassId) (f g : Nat → Value) (h : f 0 = g 0) : arrV cA 1 f = arrV cA 1 g := by
  unfold arrV
  have e : (fun j : Fin 1 => f j.val) = fun j : Fin 1 => g j.val := by
    funext j
    obtain ⟨j, hj⟩ := j
    have : j = 0 := by omega
    subst this
    exact h
  rw [e]
section LR
variable {p : Program} {l : Launch} {e : Env} {R : Room} {s : State} {m : MethodId} {args : Array Value} {below : List Frame} {meth : Method} {c : Code} {H : Heap} {locs : List Loc} {cells slots : Nat} {Q : State → Prop}
variable {cc : ByteArray} {pc : Nat} {ls : Array Slot} {st0 rest : List Value} {D : va_G} {mc ms x1 x2 y b L : Nat} {g1 g2 : Sg} {k v : Int32} {a : Array Value} {xs : Nat → Int32}
/-- a call that changes the first broker -/
theorem lw_mv {r : Int32 × Sg} (hE : p_E (lb_B s) s s.heap) (hW : LW D s x1 x2 y g1 g2 k H) (hS : va_S (lb_B s) s.heap H locs)
    (hr : ∀ A : Nat → Prop, (∀ q, H.size ≤ q → A q) → ¬ A y → bk D x1 A g1 s H → p_E A s H → nk y k s H → va_Run p l e R s m args below meth c H locs cells slots mc ms (F0 m pc ls st0) rest (b_M D x1 A r a) A)
    (kk : ∀ (H1 : Heap) (locs1 : List Loc), LW D s x1 x2 y r.2 g2 k H1 → va_S (lb_B s) s.heap H1 locs1 → W p l e R s m args below meth c H1 locs1 (cells + mc) (slots + ms) Q (F0 m (pc + 3) ls (.int r.1 :: rest))) : W p l e R s m args below meth c H locs cells slots Q (F0 m pc ls st0) := by
  obtain ⟨C1, C2, ⟨h1, h2, h3⟩, d1, d2, d3⟩ := hW
  have hAB : ∀ q, (C1 q ∨ H.size ≤ q) → lb_B s q := fun q hq => hq.elim (fun z => (d1 q z).1.1) fun z => Nat.le_trans hS.1 z
  have hyl := h3.lt
  have hAy : ¬ (C1 y ∨ H.size ≤ y) := fun hq => hq.elim (fun z => (d1 y z).2.2 rfl) fun z => absurd z (by omega)
  refine va_calli (hr (fun q => C1 q ∨ H.size ≤ q) (fun q hq => Or.inr hq) hAy (h1.mono fun q hq _ => Or.inl hq) ((hE.kept hS.2.1).narrow hAB) h3) hS (fun q _ hq => hAB q hq) (fun q hq => hAB q hq) fun z u t H1 locs1 ht hvm hp hB hz hk hS1 => ?_
  subst hp
  rw [ht] at hB
  have hB1 : bk D x1 (fun q => C1 q ∨ H.size ≤ q) r.2 s H1 := hB.moved hvm.symm
  refine kk H1 locs1 ⟨fun q => (C1 q ∨ H.size ≤ q) ∧ q < H1.size, C2, ⟨hB1.mono fun q hq hl => ⟨hq, hl⟩, h2.kept fun q hq hC => hk q hq fun hA => hA.elim (fun w => (d1 q w).2.1 hC) fun w => absurd hq (Nat.not_lt.mpr w), h3.kept (hk y hyl hAy)⟩, fun q hq => ⟨⟨hAB q hq.1, hq.2⟩, ?_, ?_⟩, fun q hq => ⟨⟨(d2 q hq).1.1, Nat.lt_of_lt_of_le (d2 q hq).1.2 hz⟩, (d2 q hq).2⟩, d3⟩ hS1
  · exact fun hC => hq.1.elim (fun w => (d1 q w).2.1 hC) fun w => absurd (d2 q hC).1.2 (Nat.not_lt.mpr w)
  · exact fun hy => hq.1.elim (fun w => (d1 q w).2.2 hy) fun w => by rw [hy] at w; omega
/-- a call that reads -/
theorem lw_rd (hW : LW D s x1 x2 y g1 g2 k H) (hS : va_S (lb_B s) s.heap H locs) (hr : va_Run p l e R s m args below meth c H locs cells slots mc ms (F0 m pc ls st0) rest (p_Ri v a) p_no)
    (kk : ∀ (H1 : Heap) (locs1 : List Loc), LW D s x1 x2 y g1 g2 k H1 → va_S (lb_B s) s.heap H1 locs1 → W p l e R s m args below meth c H1 locs1 (cells + mc) (slots + ms) Q (F0 m (pc + 3) ls (.int v :: rest))) : W p l e R s m args below meth c H locs cells slots Q (F0 m pc ls st0) :=
  va_calli hr hS (fun _ _ h => h.elim) (fun _ h => h.elim) fun z u t H1 locs1 ht hvm hp hB hz hk hS1 => by
    subst hp
    exact kk H1 locs1 (hW.kept hz fun q hq => hk q hq fun w => w) hS1
theorem lw_b1 (hW : LW D s x1 x2 y g1 g2 k H) : bk D x1 p_tt g1 s H ∧ bk D x2 p_tt g2 s H ∧ nk y k s H := by
  obtain ⟨C1, C2, ⟨h1, h2, h3⟩, -⟩ := hW
  exact ⟨h1.tt, h2.tt, h3⟩
theorem d_blind {As : List Value} : FrameBlind (d_P b L xs As) := fun a U g mk q => ⟨q.1, va_X.moved (u := U) (U := U.calling g mk a) (Vm.Alike.refl U.vm) q.2.1, q.2.2⟩
theorem d_pre {As : List Value} (hX : va_X b L xs s H) (hbl : b < H.size) : PreS s H (d_P b L xs As) As :=
  ⟨d_blind, fun U hU hW => ⟨rfl, by rw [hU]; exact hX.moved hW.alike, by rw [hU]; exact hbl⟩⟩
/-- drawn(s, j) -/
theorem lw_dr (hS : va_S (lb_B s) s.heap H locs) (hr : va_Run p l e R s m args below meth c H locs cells slots 0 0 (F0 m pc ls st0) rest (d_R a) p_no)
    (kk : ∀ (z : Nat) (H1 : Heap) (locs1 : List Loc), z < 2147483648 → H.size ≤ H1.size → (∀ q : Nat, q < H.size → H1[q]? = H[q]?) → va_S (lb_B s) s.heap H1 locs1 → W p l e R s m args below meth c H1 locs1 cells slots Q (F0 m (pc + 3) ls (.int (nI z) :: rest))) : W p l e R s m args below meth c H locs cells slots Q (F0 m pc ls st0) :=
  va_calli hr hS (fun _ _ h => h.elim) (fun _ h => h.elim) fun z u t H1 locs1 ht hvm hp hB hz hk hS1 => by
    obtain ⟨z', h1, rfl⟩ := hp
    exact kk z' H1 locs1 h1 hz (fun q hq => hk q hq fun w => w) hS1
theorem lw_n0 (hexec : p.tables.exec = Jvm.exec) (hb : c.code = cc) (hN : nk y k s H) (hdg : decode cc pc = .ok (.iaload, 1))
    (kk : W p l e R s m args below meth c H locs cells slots Q (F0 m (pc + 1) ls (.int k :: rest))) : W p l e R s m args below meth c H locs cells slots Q (F0 m pc ls (.int 0 :: .ref y :: rest)) := by
  obtain ⟨cA, hA, hc⟩ := hN
  exact W.iald (v := .int k) hexec hb hc (hA.1 1 (fun _ => .int k)) (fun q => by cases q) (by show ¬ ((0 : Int32) < 0 ∨ (arrV _ _ _).slots.size ≤ _); rw [arrV_size]; exact (by decide : ¬ ((0 : Int32) < 0 ∨ 1 ≤ (0 : Int32).toNatClampNeg))) (by show (arrV _ _ _).slots[_]? = _; rw [arrV_read _ _ (by decide : (0 : Int32).toNatClampNeg < 1)]) rfl rfl hdg kk
theorem lw_st {z : Int32} (hexec : p.tables.exec = Jvm.exec) (hb : c.code = cc) (hW : LW D s x1 x2 y g1 g2 k H) (hS : va_S (lb_B s) s.heap H locs) (hdg : decode cc pc = .ok (.iastore, 1))
    (kk : ∀ (H1 : Heap) (locs1 : List Loc), LW D s x1 x2 y g1 g2 z H1 → va_S (lb_B s) s.heap H1 locs1 → W p l e R s m args below meth c H1 locs1 cells slots Q (F0 m (pc + 1) ls rest)) : W p l e R s m args below meth c H locs cells slots Q (F0 m pc ls (.int z :: .int 0 :: .ref y :: rest)) := by
  obtain ⟨C1, C2, ⟨h1, h2, cA, hA, hc⟩, d1, d2, d3⟩ := hW
  refine W.iast hexec hb hc (hA.1 1 (fun _ => .int k)) (fun q => by cases q) (by show ¬ ((0 : Int32) < 0 ∨ (arrV _ _ _).slots.size ≤ _); rw [arrV_size]; exact (by decide : ¬ ((0 : Int32) < 0 ∨ 1 ≤ (0 : Int32).toNatClampNeg))) rfl rfl hdg fun H1 e1 zz oq => ?_
  refine kk H1 _ ⟨C1, C2, ⟨h1.kept fun q _ hC => oq q (d1 q hC).2.2, h2.kept fun q _ hC => oq q (d2 q hC).2, cA, hA, ?_⟩, fun q hq => ⟨⟨(d1 q hq).1.1, by rw [zz]; exact (d1 q hq).1.2⟩, (d1 q hq).2⟩, fun q hq => ⟨⟨(d2 q hq).1.1, by rw [zz]; exact (d2 q hq).1.2⟩, (d2 q hq).2⟩, d3⟩ (hS.put zz oq d3)
  rw [e1]
  show some ((arrV cA 1 (fun j => .int k)).setSlot _ _) = some (arrV cA 1 (fun j => .int z))
  rw [arrV_store]
  exact congrArg some (lw_arr cA _ _ (by rw [show (0 : Int32).toNatClampNeg = 0 by decide]; simp [updV]))
end LR
