/-! THE LAW'S BODY: its world -/
def lb_B (s : State) : Nat → Prop := fun q => s.heap.size ≤ q
def lb_ca (U : State) : Prop := (va_Nw (.castable xIO xIO) U ∧ va_Nw (.castable xIA xIA) U ∧ va_Nw (.castable xIS xIS) U) ∧ va_Nc xIS xIA U ∧ va_Nc xIA xIO U
theorem lb_ca.moved {s U : State} (hW : s.WarmedH U.vm) (h : lb_ca s) : lb_ca U := ⟨⟨va_Nw.warmC hW h.1.1, va_Nw.warmC hW h.1.2.1, va_Nw.warmC hW h.1.2.2⟩, va_Nc.moved hW.alike h.2.1, va_Nc.moved hW.alike h.2.2⟩
/-- the three heaps: the broker, the model, the row 'out' -/
def lb_Q (D : va_G) (s : State) (adC adM adO : Nat → Nat) (hc : PH) (I : IT) (f : Nat → Int64) (H : Heap) : Prop := (p_Q D adC (lb_B s) s hc H ∧ p_Q D adM (lb_B s) s (hM I) H ∧ p_Q D adO (lb_B s) s (hO f) H) ∧ ap2 adC adM hc (hM I) ∧ ap2 adC adO hc (hO f) ∧ ap2 adM adO (hM I) (hO f)
/-- what holds between two calls -/
def lb_I (D : va_G) (s : State) (x mo o : Nat) (H : Heap) : Prop := ∃ (I E : IT) (P : PT) (Ls : List Nat) (n : Nat) (adC adM adO : Nat → Nat) (f : Nat → Int64), RC I E P Ls n ∧ (adC 0 = x ∧ adM 0 = mo ∧ adO 0 = o) ∧ lb_Q D s adC adM adO (hC I E P n) I f H
/-- what holds throughout -/
def lb_S (p : Program) (l : Launch) (s : State) (m : MethodId) (meth : Method) (c : Code) (D : va_G) (b L : Nat) (xs : Nat → Int32) : Prop := CallFix p m c cL_law 7 s #[Value.ref b] wsL_law RL ∧ l.stackTraces = false ∧ va_K D vwCl [] s ∧ p_E (lb_B s) s s.heap ∧ lb_ca s ∧ va_X b L xs s s.heap ∧ b < s.heap.size ∧ (meth.sig.returnType = ret ∧ meth.locks = false) ∧ L ≤ 4096
abbrev lb_l (b x mo o : Nat) (i : Int32) : List (Nat × Value) := [(0, .ref b), (1, .ref x), (2, .ref mo), (3, .ref o), (4, .int i)]
def lb_z (v : Int32) : Int32 := if v = 0 then 0 else 1
theorem lb_z2 (v : Int32) : lb_z v = 0 ∨ lb_z v = 1 := by
  unfold lb_z
  by_cases h : v = 0
  · rw [if_pos h]; exact Or.inl rfl
  · rw [if_neg h]; exact Or.inr rfl
theorem lb_nB {s : State} {b : Nat} (h : b < s.heap.size) : ¬ lb_B s b := Nat.not_le.mpr h
section LB
variable {p : Program} {l : Launch} {e : Env} {R : Room} {s : State} {m : MethodId} {args : Array Value} {below : List Frame} {meth : Method} {c : Code} {H : Heap} {locs : List Loc} {cells slots : Nat} {Q : State → Prop}
variable {pc mc ms b L : Nat} {ls : Array Slot} {st0 rest : List Value} {D : va_G} {adC adM adO : Nat → Nat} {A : Nat → Prop} {hc : PH} {I : IT} {f : Nat → Int64} {a : Array Value} {k : Int32} {xs : Nat → Int32} {sz : Nat} {As : List Value}
theorem w_blindP : FrameBlind (w_P D adC adO A sz hc f As) := fun a U g mk q => ⟨q.1, va_K.moved (u := U) (U := U.calling g mk a) (Vm.Alike.refl U.vm) q.2.1, p_Q.moved (u := U) (U := U.calling g mk a) (Vm.Alike.refl U.vm) q.2.2.1, p_E.moved (s := U) (U := U.calling g mk a) (State.WarmedH.refl U) q.2.2.2.1, q.2.2.2.2.1, p_Q.moved (u := U) (U := U.calling g mk a) (Vm.Alike.refl U.vm) q.2.2.2.2.2.1, va_Nw.warmC (s := U) (U := U.calling g mk a) (State.WarmedH.refl U) q.2.2.2.2.2.2⟩
theorem w_blindPM : FrameBlind (w_PM D adC adO A sz hc f As) := fun a U g mk q => ⟨q.1, va_K.moved (u := U) (U := U.calling g mk a) (Vm.Alike.refl U.vm) q.2.1, p_Q.moved (u := U) (U := U.calling g mk a) (Vm.Alike.refl U.vm) q.2.2.1, p_E.moved (s := U) (U := U.calling g mk a) (State.WarmedH.refl U) q.2.2.2.1, q.2.2.2.2.1, p_Q.moved (u := U) (U := U.calling g mk a) (Vm.Alike.refl U.vm) q.2.2.2.2.2.1, lb_ca.moved (s := U) (U := U.calling g mk a) (State.WarmedH.refl U) q.2.2.2.2.2.2⟩
theorem w_blindPV : FrameBlind (w_PV D adC A sz hc As) := fun a U g mk q => ⟨q.1, va_K.moved (u := U) (U := U.calling g mk a) (Vm.Alike.refl U.vm) q.2.1, p_Q.moved (u := U) (U := U.calling g mk a) (Vm.Alike.refl U.vm) q.2.2.1, p_E.moved (s := U) (U := U.calling g mk a) (State.WarmedH.refl U) q.2.2.2.1, q.2.2.2.2.1, lb_ca.moved (s := U) (U := U.calling g mk a) (State.WarmedH.refl U) q.2.2.2.2.2⟩
theorem lb_pP (hK : va_K D vwCl [] s) (hQ : p_Q D adC p_tt s hc H) (hE : p_E A s H) (hz : H.size = sz) (hO1 : p_Q D adO p_tt s (hO f) H) (hca : lb_ca s) : PreS s H (w_P D adC adO A sz hc f As) As :=
  ⟨w_blindP, fun U hU hW => ⟨rfl, va_K.moved hW.alike hK, by rw [hU]; exact hQ.moved hW.alike, by rw [hU]; exact hE.moved hW, by rw [hU]; exact hz, by rw [hU]; exact hO1.moved hW.alike, va_Nw.warmC hW hca.1.1⟩⟩
theorem lb_pPM (hK : va_K D vwCl [] s) (hQ : p_Q D adC A s hc H) (hE : p_E A s H) (hz : H.size = sz) (hO1 : p_Q D adO p_tt s (hO f) H) (hca : lb_ca s) : PreS s H (w_PM D adC adO A sz hc f As) As :=
  ⟨w_blindPM, fun U hU hW => ⟨rfl, va_K.moved hW.alike hK, by rw [hU]; exact hQ.moved hW.alike, by rw [hU]; exact hE.moved hW, by rw [hU]; exact hz, by rw [hU]; exact hO1.moved hW.alike, lb_ca.moved hW hca⟩⟩
theorem lb_pPV (hK : va_K D vwCl [] s) (hQ : p_Q D adC A s hc H) (hE : p_E A s H) (hz : H.size = sz) (hca : lb_ca s) : PreS s H (w_PV D adC A sz hc As) As :=
  ⟨w_blindPV, fun U hU hW => ⟨rfl, va_K.moved hW.alike hK, by rw [hU]; exact hQ.moved hW.alike, by rw [hU]; exact hE.moved hW, by rw [hU]; exact hz, lb_ca.moved hW hca⟩⟩
/-- the JDK's words stay -/
theorem lb_E (S : lb_S p l s m meth c D b L xs) (hS : va_S (lb_B s) s.heap H locs) : p_E (lb_B s) s H := S.2.2.2.1.kept fun q h1 h2 => hS.2.1 q h1 h2
theorem lb_AN (hQ : p_Q D adC (lb_B s) s hc H) (hS : va_S (lb_B s) s.heap H locs) : ∀ x, p_AN adC hc H.size x → lb_B s x := fun x hx => hx.elim (p_sub hQ x) (fun h => Nat.le_trans hS.1 h)
theorem lb_Q.kept {H1 : Heap} (hQ : lb_Q D s adC adM adO hc I f H) (hk : ∀ q : Nat, q < H.size → H1[q]? = H[q]?) : lb_Q D s adC adM adO hc I f H1 := ⟨⟨hQ.1.1.kept fun x h _ => hk x h, hQ.1.2.1.kept fun x h _ => hk x h, hQ.1.2.2.kept fun x h _ => hk x h⟩, hQ.2⟩
theorem lb_O1 (hQ : lb_Q D s adC adM adO hc I f H) : lb_B s (adO 0) := (hQ.1.2.2.1 0 _ (hO_0 f)).2
/-- a wrapper of a call that changes the broker -/
theorem lb_cM {r : (String × PH) ⊕ (Int32 × PH)} (hr : va_Run p l e R s m args below meth c H locs cells slots mc ms (F0 m pc ls st0) rest (w_M D adC adO A k r f a) (fun q => A q ∨ q = adO 0)) (hQ : lb_Q D s adC adM adO hc I f H) (hS : va_S (lb_B s) s.heap H locs) (hA : ∀ x, A x → lb_B s x) (hAm : ∀ q e, hM I q = some e → ¬ A (adM q)) (hAo : ¬ A (adO 0))
    (kk : ∀ (u : Nat → Nat) (H1 : Heap) (locs1 : List Loc), u 0 = adC 0 → lb_Q D s u adM adO (w_hM r) I (w_fM f r) H1 → va_S (lb_B s) s.heap H1 locs1 → W p l e R s m args below meth c H1 locs1 (cells + mc) (slots + ms) Q (F0 m (pc + 3) ls (.int (w_cM k r) :: rest))) : W p l e R s m args below meth c H locs cells slots Q (F0 m pc ls st0) := by
  have hOB := lb_O1 hQ
  refine va_calli hr hS (fun q _ hq => hq.elim (hA q) fun z => by rw [z]; exact hOB) (fun q hq => hq.elim (hA q) fun z => by rw [z]; exact hOB) fun x u t H1 locs1 ht hvm hp hB hz hk hS1 => ?_
  obtain ⟨rfl, hu⟩ := hp
  rw [ht] at hB
  have hC1 : p_Q D u A s (w_hM r) H1 := hB.1.moved hvm.symm
  have hO1 : p_Q D adO p_tt s (hO (w_fM f r)) H1 := hB.2.moved hvm.symm
  exact kk u H1 locs1 hu ⟨⟨hC1.mono fun q e _ hx => hA _ hx, hQ.1.2.1.apart hk (fun q e hq hx => hx.elim (hAm q e hq) fun z => hQ.2.2.2 q 0 e _ hq (hO_0 f) z), hO1.mono fun q e hq _ => by rw [(hO_o hq).1]; exact hOB⟩, ap2.new hC1 hAm, ap2.new hC1 (fun q e hq => by rw [(hO_o hq).1]; exact hAo), hQ.2.2.2.o _⟩ hS1
/-- move's wrapper -/
theorem lb_cV {r : (String × PH) ⊕ PH} (hr : va_Run p l e R s m args below meth c H locs cells slots mc ms (F0 m pc ls st0) rest (w_V D adC A k r a) A) (hQ : lb_Q D s adC adM adO hc I f H) (hS : va_S (lb_B s) s.heap H locs) (hA : ∀ x, A x → lb_B s x) (hAm : ∀ q e, hM I q = some e → ¬ A (adM q)) (hAo : ¬ A (adO 0))
    (kk : ∀ (u : Nat → Nat) (H1 : Heap) (locs1 : List Loc), u 0 = adC 0 → lb_Q D s u adM adO (w_hV r) I f H1 → va_S (lb_B s) s.heap H1 locs1 → W p l e R s m args below meth c H1 locs1 (cells + mc) (slots + ms) Q (F0 m (pc + 3) ls (.int (w_cV k r) :: rest))) : W p l e R s m args below meth c H locs cells slots Q (F0 m pc ls st0) := by
  refine va_calli hr hS (fun q _ hq => hA q hq) hA fun x u t H1 locs1 ht hvm hp hB hz hk hS1 => ?_
  obtain ⟨rfl, hu⟩ := hp
  rw [ht] at hB
  have hC1 : p_Q D u A s (w_hV r) H1 := hB.moved hvm.symm
  have hAo2 : ∀ q e, hO f q = some e → ¬ A (adO q) := fun q e hq => by rw [(hO_o hq).1]; exact hAo
  exact kk u H1 locs1 hu ⟨⟨hC1.mono fun q e _ hx => hA _ hx, hQ.1.2.1.apart hk hAm, hQ.1.2.2.apart hk hAo2⟩, ap2.new hC1 hAm, ap2.new hC1 hAo2, hQ.2.2.2⟩ hS1
/-- a wrapper of a call that reads -/
theorem lb_cR {r : String ⊕ Int32} (hr : va_Run p l e R s m args below meth c H locs cells slots mc ms (F0 m pc ls st0) rest (w_R D adO r f a) (fun q => q = adO 0)) (hQ : lb_Q D s adC adM adO hc I f H) (hS : va_S (lb_B s) s.heap H locs)
    (kk : ∀ (H1 : Heap) (locs1 : List Loc), lb_Q D s adC adM adO hc I (w_f f r) H1 → va_S (lb_B s) s.heap H1 locs1 → W p l e R s m args below meth c H1 locs1 (cells + mc) (slots + ms) Q (F0 m (pc + 3) ls (.int (w_cd r) :: rest))) : W p l e R s m args below meth c H locs cells slots Q (F0 m pc ls st0) := by
  have hOB := lb_O1 hQ
  refine va_calli hr hS (fun q _ z => by rw [z]; exact hOB) (fun q z => by rw [z]; exact hOB) fun x u t H1 locs1 ht hvm hp hB hz hk hS1 => ?_
  subst hp
  rw [ht] at hB
  have hO1 : p_Q D adO p_tt s (hO (w_f f r)) H1 := hB.moved hvm.symm
  exact kk H1 locs1 ⟨⟨hQ.1.1.apart hk (fun q e hq z => hQ.2.2.1 q 0 e _ hq (hO_0 f) z), hQ.1.2.1.apart hk (fun q e hq z => hQ.2.2.2 q 0 e _ hq (hO_0 f) z), hO1.mono fun q e hq _ => by rw [(hO_o hq).1]; exact hOB⟩, hQ.2.1, hQ.2.2.1.o _, hQ.2.2.2.o _⟩ hS1
/-- a call of the reference -/
theorem lb_cMi {v : Int32} {J : IT} (hr : va_Run p l e R s m args below meth c H locs cells slots 0 0 (F0 m pc ls st0) rest (p_Mi D adM (p_A adM (hM I)) (v, hM J) a) (p_A adM (hM I))) (hQ : lb_Q D s adC adM adO hc I f H) (hS : va_S (lb_B s) s.heap H locs)
    (kk : ∀ (H1 : Heap) (locs1 : List Loc), lb_Q D s adC adM adO hc J f H1 → va_S (lb_B s) s.heap H1 locs1 → W p l e R s m args below meth c H1 locs1 cells slots Q (F0 m (pc + 3) ls (.int v :: rest))) : W p l e R s m args below meth c H locs cells slots Q (F0 m pc ls st0) := by
  have hA := p_sub hQ.1.2.1
  refine va_calli hr hS (fun q _ hq => hA q hq) hA fun x u t H1 locs1 ht hvm hp hB hz hk hS1 => ?_
  subst hp
  rw [ht] at hB
  have hM1 : p_Q D adM (p_A adM (hM I)) s (hM J) H1 := hB.moved hvm.symm
  exact kk H1 locs1 ⟨⟨hQ.1.1.apart hk hQ.2.1.symm.not, hM1.mono fun q e _ hx => hA _ hx, hQ.1.2.2.apart hk hQ.2.2.2.not⟩, hQ.2.1.m J, hQ.2.2.1, (hQ.2.2.2.symm.m J).symm⟩ hS1
theorem lb_cMv {J : IT} (hr : va_Run p l e R s m args below meth c H locs cells slots 0 0 (F0 m pc ls st0) rest (p_Mv D adM (p_A adM (hM I)) (hM J) a) (p_A adM (hM I))) (hQ : lb_Q D s adC adM adO hc I f H) (hS : va_S (lb_B s) s.heap H locs)
    (kk : ∀ (H1 : Heap) (locs1 : List Loc), lb_Q D s adC adM adO hc J f H1 → va_S (lb_B s) s.heap H1 locs1 → W p l e R s m args below meth c H1 locs1 cells slots Q (F0 m (pc + 3) ls rest)) : W p l e R s m args below meth c H locs cells slots Q (F0 m pc ls st0) := by
  have hA := p_sub hQ.1.2.1
  refine va_callv hr hS (fun q _ hq => hA q hq) hA fun u t H1 locs1 ht hvm hp hB hz hk hS1 => ?_
  rw [ht] at hB
  have hM1 : p_Q D adM (p_A adM (hM I)) s (hM J) H1 := hB.moved hvm.symm
  exact kk H1 locs1 ⟨⟨hQ.1.1.apart hk hQ.2.1.symm.not, hM1.mono fun q e _ hx => hA _ hx, hQ.1.2.2.apart hk hQ.2.2.2.not⟩, hQ.2.1.m J, hQ.2.2.1, (hQ.2.2.2.symm.m J).symm⟩ hS1
/-- the broker's show -/
theorem lb_cCi {v : Int32} {g : PH} (hr : va_Run p l e R s m args below meth c H locs cells slots 0 0 (F0 m pc ls st0) rest (p_Mi D adC (p_A adC hc) (v, g) a) (p_A adC hc)) (hQ : lb_Q D s adC adM adO hc I f H) (hS : va_S (lb_B s) s.heap H locs)
    (kk : ∀ (H1 : Heap) (locs1 : List Loc), lb_Q D s adC adM adO g I f H1 → va_S (lb_B s) s.heap H1 locs1 → W p l e R s m args below meth c H1 locs1 cells slots Q (F0 m (pc + 3) ls (.int v :: rest))) : W p l e R s m args below meth c H locs cells slots Q (F0 m pc ls st0) := by
  have hA := p_sub hQ.1.1
  refine va_calli hr hS (fun q _ hq => hA q hq) hA fun x u t H1 locs1 ht hvm hp hB hz hk hS1 => ?_
  subst hp
  rw [ht] at hB
  have hC1 : p_Q D adC (p_A adC hc) s g H1 := hB.moved hvm.symm
  exact kk H1 locs1 ⟨⟨hC1.mono fun q e _ hx => hA _ hx, hQ.1.2.1.apart hk hQ.2.1.not, hQ.1.2.2.apart hk hQ.2.2.1.not⟩, ap2.new hC1 hQ.2.1.not, ap2.new hC1 hQ.2.2.1.not, hQ.2.2.2⟩ hS1
/-- a call that changes nothing -/
theorem lb_cRi {v : Int32} (hr : va_Run p l e R s m args below meth c H locs cells slots 0 0 (F0 m pc ls st0) rest (p_Ri v a) p_no) (hQ : lb_Q D s adC adM adO hc I f H) (hS : va_S (lb_B s) s.heap H locs)
    (kk : ∀ (H1 : Heap) (locs1 : List Loc), lb_Q D s adC adM adO hc I f H1 → va_S (lb_B s) s.heap H1 locs1 → W p l e R s m args below meth c H1 locs1 cells slots Q (F0 m (pc + 3) ls (.int v :: rest))) : W p l e R s m args below meth c H locs cells slots Q (F0 m pc ls st0) :=
  va_calli hr hS (fun _ _ h => h.elim) (fun _ h => h.elim) fun x u t H1 locs1 ht hvm hp hB hz hk hS1 => by
    subst hp
    exact kk H1 locs1 (hQ.kept fun y hy => hk y hy fun z => z) hS1
/-- script[i + j] -/
theorem lb_rd {i j : Nat} {n : Int} (S : lb_S p l s m meth c D b L xs) (hS : va_S (lb_B s) s.heap H locs) (h0 : ls[0]? = some (.val (.ref b))) (h4 : ls[4]? = some (.val (.int (nI i)))) (hi : i + 8 ≤ L) (hj : j < 8) (hn : Int32.ofInt n = nI j)
    (d0 : decode cL_law pc = .ok (.aload_n 0, 1)) (d1 : decode cL_law (pc + 1) = .ok (.iload 4, 2)) (d3 : decode cL_law (pc + 3) = .ok (.iconst n, 1)) (d4 : decode cL_law (pc + 4) = .ok (.iadd, 1)) (d5 : decode cL_law (pc + 5) = .ok (.iaload, 1))
    (kk : W p l e R s m args below meth c H locs cells slots Q (F0 m (pc + 6) ls (.int (xs (i + j)) :: rest))) : W p l e R s m args below meth c H locs cells slots Q (F0 m pc ls rest) := by
  obtain ⟨⟨hx, hb, -⟩, -, -, -, -, hX, hbl, -, hL⟩ := S
  refine lv_aload_n hx hb d0 rfl h0 ?_
  refine lv_iload hx hb d1 h4 ?_
  refine lv_iconst hx hb d3 hn ?_
  refine lv_iadd hx hb d4 ?_
  rw [nI_add]
  refine va_sld hx hb hX hbl (lb_nB hbl) hS (vp_in_nI (by omega) (by omega)) d5 ?_
  rw [nI_clamp (by omega)]
  exact kk
theorem lb_rdb {i j : Nat} {n : Int} (S : lb_S p l s m meth c D b L xs) (hS : va_S (lb_B s) s.heap H locs) (h0 : ls[0]? = some (.val (.ref b))) (h4 : ls[4]? = some (.val (.int (nI i)))) (hi : i + 8 ≤ L) (hj : j < 8) (hn : (Int8.ofInt n).toInt32 = nI j)
    (d0 : decode cL_law pc = .ok (.aload_n 0, 1)) (d1 : decode cL_law (pc + 1) = .ok (.iload 4, 2)) (d3 : decode cL_law (pc + 3) = .ok (.bipush n, 2)) (d5 : decode cL_law (pc + 5) = .ok (.iadd, 1)) (d6 : decode cL_law (pc + 6) = .ok (.iaload, 1))
    (kk : W p l e R s m args below meth c H locs cells slots Q (F0 m (pc + 7) ls (.int (xs (i + j)) :: rest))) : W p l e R s m args below meth c H locs cells slots Q (F0 m pc ls rest) := by
  obtain ⟨⟨hx, hb, -⟩, -, -, -, -, hX, hbl, -, hL⟩ := S
  refine lv_aload_n hx hb d0 rfl h0 ?_
  refine lv_iload hx hb d1 h4 ?_
  refine lv_bipush hx hb d3 hn ?_
  refine lv_iadd hx hb d5 ?_
  rw [nI_add]
  refine va_sld hx hb hX hbl (lb_nB hbl) hS (vp_in_nI (by omega) (by omega)) d6 ?_
  rw [nI_clamp (by omega)]
  exact kk
/-- .. != 0 -/
theorem lb_bz {v : Int32} (S : lb_S p l s m meth c D b L xs) (d0 : decode cL_law pc = .ok (.ifCond .eq 7, 3)) (d3 : decode cL_law (pc + 3) = .ok (.iconst 1, 1)) (d4 : decode cL_law (pc + 4) = .ok (.goto 4, 3)) (d7 : decode cL_law (pc + 7) = .ok (.iconst 0, 1))
    (kk : W p l e R s m args below meth c H locs cells slots Q (F0 m (pc + 8) ls (.int (lb_z v) :: rest))) : W p l e R s m args below meth c H locs cells slots Q (F0 m pc ls (.int v :: rest)) := by
  obtain ⟨⟨hx, hb, -⟩, -⟩ := S
  refine lv_if_eq (tgt := pc + 7) hx hb d0 (by omega) (fun h => ?_) (fun h => ?_)
  · refine lv_iconst (v := 0) hx hb d7 (by decide) ?_
    rw [show lb_z v = 0 from if_pos h] at kk
    exact kk
  · refine lv_iconst (v := 1) hx hb d3 (by decide) ?_
    refine lv_goto (tgt := pc + 8) hx hb d4 (by omega) ?_
    rw [show lb_z v = 1 from if_neg h] at kk
    exact kk
end LB
