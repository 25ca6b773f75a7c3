/-! THROWING. What a throw in the class wants of the machine beside its words, and methods that return or throw. -/
def p_nm : List String := ["java/lang/RuntimeException", "java/lang/Exception"]
def p_BX : List Cond := (vx_atS RX3 54 "java/lang/IllegalArgumentException" p_nm ++ vx_atS RX3 67 "java/lang/IllegalStateException" p_nm ++ vx_atS RX3 183 "java/lang/IndexOutOfBoundsException" p_nm).filter (fun w => !goodWord w)
def p_cd (w : Cond) : Bool := match w with
  | .castable .. => true
  | .declares _ => true
  | _ => false
theorem p_BX_ok : ∀ w ∈ p_BX, p_cd w = true := by decide +kernel
theorem p_cd_tab {w : Cond} (hw : p_cd w = true) : w.onTables = true := by
  cases w <;> first | rfl | cases hw
theorem p_cd_warm {w : Cond} (hw : p_cd w = true) {s U : State} (hW : s.WarmedH U.vm) (h : va_Nw w s) : va_Nw w U := by
  cases w <;> first | exact va_Nw.warmC hW h | exact va_Nw.warmD hW h | cases hw
def p_T : List (Nat × String) := [(52, "the rectangle is not within the screen"), (57, "the period or the cost is out of range"), (65, "there are too many windows"), (80, "its pages cannot be lent"), (125, "ticks is out of range"), (128, "the tick would be above the last one"), (181, "there is no such window"), (184, "there is no such cell")]
def p_E (A : Nat → Prop) (U : State) (H : Heap) : Prop := vx_Zq Bundle.tN "UNASSIGNED_STACK" Bundle.steD A U H ∧ vx_Zq Bundle.tN "SUPPRESSED_SENTINEL" Bundle.listD A U H ∧ (∀ w ∈ p_BX, va_Nw w U) ∧ ∀ q ∈ p_T, ∃ sa, vk_R RX3 q.1 q.2 sa U
theorem p_E.moved {A : Nat → Prop} {s U : State} {H : Heap} (hW : s.WarmedH U.vm) (h : p_E A s H) : p_E A U H :=
  ⟨vx_Zq.moved hW.alike h.1, vx_Zq.moved hW.alike h.2.1, fun w hw => p_cd_warm (p_BX_ok w hw) hW (h.2.2.1 w hw), fun q hq => by
    obtain ⟨sa, h1⟩ := h.2.2.2 q hq
    exact ⟨sa, vk_R.warm hW h1⟩⟩
theorem p_E.kept {A : Nat → Prop} {U : State} {H H1 : Heap} (h : p_E A U H) (hq : ∀ a : Nat, a < H.size → ¬ A a → H1[a]? = H[a]?) : p_E A U H1 := ⟨h.1.kept hq, h.2.1.kept hq, h.2.2⟩
theorem p_E.narrow {A B : Nat → Prop} {U : State} {H : Heap} (h : p_E A U H) (hAB : ∀ q, B q → A q) : p_E B U H := ⟨h.1.narrow hAB, h.2.1.narrow hAB, h.2.2⟩
def p_AN (ad : Nat → Nat) (h : PH) (sz : Nat) : Nat → Prop := fun x => p_A ad h x ∨ sz ≤ x
def p_preE (D : va_G) (ad : Nat → Nat) (B A : Nat → Prop) (sz : Nat) (h : PH) (As : List Value) : Array Value → State → Prop := va_Pc As (fun U => va_K D vwCl [] U ∧ p_Q D ad B U h U.heap ∧ p_E A U U.heap ∧ U.heap.size = sz)
def p_TRi (r : String ⊕ Int32) : Array Value → State → Outcome → State → Prop := va_Qi (fun x (_ : Unit) => r = .inr x) (fun _ _ => True) p_no
def p_TRq (ad : Nat → Nat) (r : String ⊕ Option Nat) : Array Value → State → Outcome → State → Prop := va_Qq (fun x (_ : Unit) => ∃ v, r = .inr v ∧ x = v.map ad) (fun _ _ => True) p_no
def p_TRX {α : Type} (r : String ⊕ α) : String → State → State → Prop := vx_X (fun _ : Unit => True) (fun E _ _ => r = .inl E) p_no
def p_TMi (D : va_G) (ad : Nat → Nat) (A : Nat → Prop) (a0 : Nat) (r : (String × PH) ⊕ (Int32 × PH)) : Array Value → State → Outcome → State → Prop := va_Qi (fun x (u : (Nat → Nat) × PH) => r = .inr (x, u.2) ∧ u.1 a0 = ad a0) (fun u t => p_Q D u.1 A t u.2 t.heap) A
def p_TMv (D : va_G) (ad : Nat → Nat) (A : Nat → Prop) (a0 : Nat) (r : (String × PH) ⊕ PH) : Array Value → State → Outcome → State → Prop := va_Qv (fun u : (Nat → Nat) × PH => r = .inr u.2 ∧ u.1 a0 = ad a0) (fun u t => p_Q D u.1 A t u.2 t.heap) A
def p_TMX {α : Type} (D : va_G) (ad : Nat → Nat) (A : Nat → Prop) (a0 : Nat) (r : (String × PH) ⊕ α) : String → State → State → Prop := vx_X (fun u : (Nat → Nat) × PH => u.1 a0 = ad a0) (fun E u t => r = .inl (E, u.2) ∧ p_Q D u.1 A t u.2 t.heap) A
section
variable {p : Program} {l : Launch} {e : Env} {R : Room} {s : State} {m : MethodId} {args : Array Value} {below : List Frame} {meth : Method} {c : Code} {H : Heap} {locs : List Loc} {cells slots : Nat} {Q : State → Prop}
variable {mc ms : Nat} {free : Addr → Prop} {A0 A1 : Nat → Prop} {H0 : Heap} {a : Array Value} {pc : Nat} {ls : Array Slot} {st0 rest : List Value}
theorem vx_callq {S SX : Type} {post : Option Nat → S → Prop} {px : SX → Prop} {B : S → State → Prop} {BX : String → SX → State → Prop} {AX : Nat → Prop} (hr : vx_Run p l e R s m args below meth c H locs cells slots mc ms (F0 m pc ls st0) rest (va_Qq post B A1 a) (vx_X px BX AX) free) (hS : va_S A0 H0 H locs) (hA : ∀ q, q < H.size → A1 q → A0 q) (hf : ∀ q, free q → A0 q) (hAX : ∀ q, q < H.size → AX q → A0 q)
    (kx : ∀ (E : String) (ce : Cell) (q9 : Addr) (u : SX) (t : State) (H1 : Heap) (locs1 : List Loc), t.heap = H1 → s.vm.Alike t.vm → px u → BX E u t → H.size ≤ H1.size → (∀ q : Nat, q < H.size → ¬ AX q → H1[q]? = H[q]?) → va_S A0 H0 H1 locs1 → H1[q9]? = some ce → ce.vm = .none → s.vm.findClass E = some ce.cls → vx_W p l e R s m args below meth c H1 locs1 (cells + mc) (slots + ms) Q (F0 m pc ls rest) q9)
    (kk : ∀ (r : Option Nat) (u : S) (t : State) (H1 : Heap) (locs1 : List Loc), t.heap = H1 → s.vm.Alike t.vm → post r u → B u t → H.size ≤ H1.size → (∀ q : Nat, q < H.size → ¬ A1 q → H1[q]? = H[q]?) → va_S A0 H0 H1 locs1 → W p l e R s m args below meth c H1 locs1 (cells + mc) (slots + ms) Q (F0 m (pc + 3) ls (va_rf r :: rest))) : W p l e R s m args below meth c H locs cells slots Q (F0 m pc ls st0) := by
  intro T hT X
  rcases hr T hT X with ⟨v, st₀, t, T', L, h0, X', hL, e1, e2, ⟨⟨r, u, hv, hp, hb⟩, hF⟩, st⟩ | ⟨q, st₀, t, T', L, E, ce, h0, X', hL, e1, e2, ⟨u, hp, hb, hF⟩, hce, hcv, hcl, st⟩
  · cases hv
    obtain ⟨k1, k2, k3⟩ := vx_keep h0 e1 hS hA hf hL hF
    obtain ⟨t2, a1, b1⟩ := kk r u t T'.heap (locs ++ L) e1.symm (by rw [← e2]; exact X'.warmed.alike) hp hb k1 k2 k3 T' rfl X'
    exact ⟨t2, st t2 a1, b1⟩
  · obtain ⟨k1, k2, k3⟩ := vx_keep h0 e1 hS hAX hf hL hF
    obtain ⟨t2, a1, b1⟩ := kx E ce q u t T'.heap (locs ++ L) e1.symm (by rw [← e2]; exact X'.warmed.alike) hp hb k1 k2 k3 (by rw [e1]; exact hce) hcv hcl T' rfl X'
    exact ⟨t2, st.trans a1, b1⟩
end
section PT
variable {p : Program} {l : Launch} {e : Env} {R : Room} {s : State} {m : MethodId} {args : Array Value} {below : List Frame} {meth : Method} {c : Code} {H : Heap} {locs : List Loc} {cells slots : Nat} {Q : State → Prop}
variable {cc : ByteArray} {pc nL : Nat} {ls : Array Slot} {rest : List Value} {D : va_G} {ad ad1 : Nat → Nat} {A B : Nat → Prop} {h : PH} {Ts : List Cond} {own : String}
variable {mc ms a0 sz : Nat} {free : Addr → Prop} {Qc : Array Value → State → Outcome → State → Prop} {XC : String → State → State → Prop}
theorem p_blindE {As : List Value} : FrameBlind (p_preE D ad B A sz h As) := fun a U g mk q => ⟨q.1, va_K.moved (u := U) (U := U.calling g mk a) (Vm.Alike.refl U.vm) q.2.1, p_Q.moved (u := U) (U := U.calling g mk a) (Vm.Alike.refl U.vm) q.2.2.1, p_E.moved (s := U) (U := U.calling g mk a) (State.WarmedH.refl U) q.2.2.2.1, q.2.2.2.2⟩
theorem p_preVE {b ci : Nat} {u : Unit} {C : String} {T : u_T} {N : Nat} {As : List Value} (hK : va_K D vwCl [] s) (hQ : p_Q D ad B s h H) (hE : p_E A s H) (hz : H.size = sz) (ho : p_ob h b ci = some u) (hc : vwCl[ci]? = some (C, T, N)) : PreV s H C (ad b) (p_preE D ad B A sz h (.ref (ad b) :: As)) As := by
  obtain ⟨fs, hh⟩ := p_ob_of ho
  obtain ⟨r, h1, cell, g1, g2, g3, -⟩ := (hQ.1 b _ hh).1
  exact ⟨p_blindE, ⟨cell, g1, by rw [g3]; rfl, by rw [g2]; exact (hK.1 ci _ hc).2.1⟩, fun U hU hW => ⟨rfl, va_K.moved hW.alike hK, by rw [hU]; exact hQ.moved hW.alike, by rw [hU]; exact hE.moved hW, by rw [hU]; exact hz⟩⟩
/-- throw new X("text") -/
theorem p_throw {ik is ic : Nat} {cls text : String} (S : CallFix p m c cc nL s args Ts RX3) (hl : l.stackTraces = false) (hlocks : meth.locks = false) (hno : ∀ x ∈ c.exceptionTable.toList, False) (hcls : Bundle.fit cls = true)
    (hk : Cond.classLink RX3 ik cls ∈ Ts) (hini : Cond.initialized cls ∈ Ts) (hE : p_E A s s.heap) (htx : (is, text) ∈ p_T) (hgo : ∀ w ∈ (vx_atS RX3 ic cls p_nm).filter goodWord, w ∈ Ts) (hbx : ∀ w ∈ (vx_atS RX3 ic cls p_nm).filter (fun w => !goodWord w), w ∈ p_BX)
    (hgood : ∀ w ∈ Cond.classLink RX3 ik cls :: Cond.initialized cls :: vx_atS RX3 ic cls p_nm, vx_ot w = true) (hS : va_S A s.heap H locs) (hsize : ls.size = nL)
    (d0 : decode cc pc = .ok (.new ik, 3)) (d3 : decode cc (pc + 3) = .ok (.dup, 1)) (d4 : decode cc (pc + 4) = .ok (.ldc is, 2)) (d6 : decode cc (pc + 6) = .ok (.invokespecial ic, 3)) (d9 : decode cc (pc + 9) = .ok (.athrow, 1))
    (hRf : 5 < R.frames) (hRl : (rest.map fun v => v.category).sum + 82 ≤ R.locals) (hRc : cells + 1 ≤ R.cells) (hRs : slots + 6 ≤ R.slots)
    (hx : ∀ t : State, s.vm.Alike t.vm → H.size ≤ t.heap.size → (∀ q : Nat, q < H.size → t.heap[q]? = H[q]?) → XC cls s t) (hf : ∀ z ∈ locs, free z.base) (hc : cells + 1 ≤ mc) (hs : slots + 6 ≤ ms) :
    W p l e R s m args below meth c H locs cells slots (vx_MQ below Qc XC args s mc ms free) (F0 m pc ls rest) := by
  obtain ⟨sa, hstr⟩ := hE.2.2.2 _ htx
  exact vx_throwS S.1 S.2.1 hl (names := p_nm) S.2.2.2.1 hcls (by decide) (S.2.2.2.2 _ hk) (S.2.2.2.2 _ hini) hstr (vx_hat (B := p_BX) (fun w hw => S.2.2.2.2 w (hgo w hw)) hbx (fun w hw => va_Nw.use (p_cd_tab (p_BX_ok w hw)) (hE.2.2.1 w hw))) hgood hE.1 hE.2.1 hS (hsize.trans S.2.2.1.symm) d0 d3 d4 d6 d9
    (fun x hx => (hno x hx).elim) hRf hRl hRc hRs hlocks hx hf hc hs
theorem p_xR {α : Type} {r : String ⊕ α} {E : String} (hf : some (Sum.inl E) = some r) (hS : va_S p_no s.heap H locs) {t : State} (hz : H.size ≤ t.heap.size) (hk : ∀ q : Nat, q < H.size → t.heap[q]? = H[q]?) : p_TRX r E s t :=
  ⟨(), trivial, (Option.some.inj hf).symm, Nat.le_trans hS.1 hz, fun q h1 h2 => (hk q (Nat.lt_of_lt_of_le h1 hS.1)).trans (hS.2.1 q h1 h2)⟩
theorem p_xM {α : Type} {r : (String × PH) ⊕ α} {E : String} (hf : some (Sum.inl (E, h)) = some r) (hQ : p_Q D ad1 A s h H) (hS : va_S A s.heap H locs) (he : ad1 a0 = ad a0) {t : State} (hvm : s.vm.Alike t.vm) (hz : H.size ≤ t.heap.size) (hk : ∀ q : Nat, q < H.size → t.heap[q]? = H[q]?) : p_TMX D ad A a0 r E s t :=
  ⟨(ad1, h), he, ⟨(Option.some.inj hf).symm, (hQ.kept (fun x hx _ => hk x hx)).moved hvm⟩, Nat.le_trans hS.1 hz, fun q h1 h2 => (hk q (Nat.lt_of_lt_of_le h1 hS.1)).trans (hS.2.1 q h1 h2)⟩
variable {st0 : List Value} {a : Array Value}
/-- a call that returns -/
theorem p_cTq_r {v : Option Nat} (hr : vx_Run p l e R s m args below meth c H locs cells slots 1 6 (F0 m pc ls st0) rest (p_TRq ad (.inr v) a) (p_TRX (.inr v : String ⊕ Option Nat)) p_no) (hQ : p_Q D ad B s h H) (hS : va_S A s.heap H locs)
    (kk : ∀ (H1 : Heap) (locs1 : List Loc), p_Q D ad B s h H1 → va_S A s.heap H1 locs1 → W p l e R s m args below meth c H1 locs1 (cells + 1) (slots + 6) Q (F0 m (pc + 3) ls (va_rf (v.map ad) :: rest))) : W p l e R s m args below meth c H locs cells slots Q (F0 m pc ls st0) :=
  vx_callq hr hS (fun _ _ h => h.elim) (fun _ h => h.elim) (fun _ _ h => h.elim) (fun E ce q9 u t H1 locs1 ht hvm hp hB hz hk hS1 => by cases hB) fun x u t H1 locs1 ht hvm hp hB hz hk hS1 => by
    obtain ⟨v', h1, rfl⟩ := hp
    cases h1
    exact kk H1 locs1 (hQ.kept fun y hy _ => hk y hy fun z => z) hS1
/-- .. or throws, and so does the caller -/
theorem p_cTq_x {E : String} (hr : vx_Run p l e R s m args below meth c H locs cells slots 1 6 (F0 m pc ls st0) rest (p_TRq ad (.inl E) a) (p_TRX (.inl E : String ⊕ Option Nat)) p_no) (hS : va_S A s.heap H locs) (hno : ∀ x ∈ c.exceptionTable.toList, False) (hlocks : meth.locks = false)
    (hx : ∀ t : State, s.vm.Alike t.vm → H.size ≤ t.heap.size → (∀ q : Nat, q < H.size → t.heap[q]? = H[q]?) → XC E s t) (hf : ∀ x, A x → free x) (hc : cells + 1 ≤ mc) (hs : slots + 6 ≤ ms) :
    W p l e R s m args below meth c H locs cells slots (vx_MQ below Qc XC args s mc ms free) (F0 m pc ls st0) :=
  vx_callq hr hS (fun _ _ h => h.elim) (fun _ h => h.elim) (fun _ _ h => h.elim) (fun E' ce q9 u t H1 locs1 ht hvm hp hB hz hk hS1 g1 g2 g3 => by
    cases hB
    exact vx_out (fun x hx => (hno x hx).elim) hlocks g1 g2 g3 (fun t' h1 h2 => hx t' h2 (by rw [h1]; exact hz) (fun q hq => by rw [h1]; exact hk q hq fun z => z)) (fun z hz => hf _ (hS1.2.2 z hz)) hc hs) fun x u t H1 locs1 ht hvm hp hB hz hk hS1 => by
    obtain ⟨v', h1, -⟩ := hp
    cases h1
/-! ends -/
theorem p_tRi (S : CallFix p m c cc nL s args Ts own) (hr : meth.sig.returnType = some .int) (hlocks : meth.locks = false) {v : Int32} {r : String ⊕ Int32} (hS : va_S p_no s.heap H locs) (hf : some (Sum.inr v) = some r) (hc : cells ≤ mc) (hs : slots ≤ ms) (hdg : decode cc pc = .ok (.ireturn, 1)) : W p l e R s m args below meth c H locs cells slots (vx_MQ below (p_TRi r) XC args s mc ms p_no) (F0 m pc ls [.int v]) :=
  vx_ret (W.widen hc hs (W.iret S.1 S.2.1 hr (fun t ht hW => ⟨⟨v, (), rfl, (Option.some.inj hf).symm, trivial⟩, hS.F ht⟩) hS.2.2 hdg hlocks))
theorem p_tRz (S : CallFix p m c cc nL s args Ts own) (hr : meth.sig.returnType = some .boolean) (hlocks : meth.locks = false) {v : Int32} {r : String ⊕ Int32} (hS : va_S p_no s.heap H locs) (hf : ((p_z v).bind fun z => some (Sum.inr z)) = some r) (hc : cells ≤ mc) (hs : slots ≤ ms) (hdg : decode cc pc = .ok (.ireturn, 1)) : W p l e R s m args below meth c H locs cells slots (vx_MQ below (p_TRi r) XC args s mc ms p_no) (F0 m pc ls [.int v]) := by
  unfold p_z at hf
  by_cases hz : v = 0 ∨ v = 1
  · rw [if_pos hz] at hf
    exact vx_ret (W.widen hc hs (W.zret S.1 S.2.1 hr (p_nz hz).1 (fun t ht hW => ⟨⟨v, (), rfl, (Option.some.inj hf).symm, trivial⟩, hS.F ht⟩) hS.2.2 hdg hlocks))
  · rw [if_neg hz] at hf
    cases hf
theorem p_tRq (S : CallFix p m c cc nL s args Ts own) {C : String} (hr : meth.sig.returnType = some (.object C)) (hlocks : meth.locks = false) {v : Option Nat} {r : String ⊕ Option Nat} (hS : va_S p_no s.heap H locs) (hf : some (Sum.inr v) = some r) (hc : cells ≤ mc) (hs : slots ≤ ms) (hdg : decode cc pc = .ok (.areturn, 1)) : W p l e R s m args below meth c H locs cells slots (vx_MQ below (p_TRq ad r) XC args s mc ms p_no) (F0 m pc ls [va_rf (v.map ad)]) :=
  vx_ret (W.widen hc hs (W.aret S.1 S.2.1 hr (Or.inl ⟨C, rfl⟩) (va_rf_or _) (fun t ht hW => ⟨⟨v.map ad, (), rfl, ⟨v, (Option.some.inj hf).symm, rfl⟩, trivial⟩, hS.F ht⟩) hS.2.2 hdg hlocks))
theorem p_tMi (S : CallFix p m c cc nL s args Ts own) (hr : meth.sig.returnType = some .int) (hlocks : meth.locks = false) {v : Int32} {r : (String × PH) ⊕ (Int32 × PH)} (hQ : p_Q D ad1 A s h H) (hS : va_S A s.heap H locs) (he : ad1 a0 = ad a0) (hf : some (Sum.inr (v, h)) = some r) (hc : cells ≤ mc) (hs : slots ≤ ms) (hdg : decode cc pc = .ok (.ireturn, 1)) : W p l e R s m args below meth c H locs cells slots (vx_MQ below (p_TMi D ad A a0 r) XC args s mc ms A) (F0 m pc ls [.int v]) :=
  vx_ret (W.widen hc hs (W.iret S.1 S.2.1 hr (fun t ht hW => ⟨⟨v, (ad1, h), rfl, ⟨(Option.some.inj hf).symm, he⟩, by show p_Q D ad1 A t h t.heap; rw [ht]; exact hQ.moved hW.alike⟩, hS.F ht⟩) hS.2.2 hdg hlocks))
theorem p_tMv (S : CallFix p m c cc nL s args Ts own) (hr : meth.sig.returnType = none) (hlocks : meth.locks = false) {r : (String × PH) ⊕ PH} (hQ : p_Q D ad1 A s h H) (hS : va_S A s.heap H locs) (he : ad1 a0 = ad a0) (hf : some (Sum.inr h) = some r) (hc : cells ≤ mc) (hs : slots ≤ ms) (hdg : decode cc pc = .ok (.return_, 1)) : W p l e R s m args below meth c H locs cells slots (vx_MQ below (p_TMv D ad A a0 r) XC args s mc ms A) (F0 m pc ls []) :=
  vx_ret (W.widen hc hs (W.vret S.1 S.2.1 hr (fun t ht hW => ⟨⟨(ad1, h), rfl, ⟨(Option.some.inj hf).symm, he⟩, by show p_Q D ad1 A t h t.heap; rw [ht]; exact hQ.moved hW.alike⟩, hS.F ht⟩) hS.2.2 hdg hlocks))
end PT
/-! METHODS THAT MAKE CELLS, and throw nothing -/
def p_is (h : PH) (a : Nat) : Option Unit := match h a with
  | some _ => some ()
  | none => none
theorem p_is_ne {h : PH} {a : Nat} {u : Unit} (hv : p_is h a = some u) : h a ≠ none := by
  intro z
  rw [p_is, z] at hv
  cases hv
def p_preN (D : va_G) (ad : Nat → Nat) (B : Nat → Prop) (sz : Nat) (h : PH) (As : List Value) : Array Value → State → Prop := va_Pc As (fun U => va_K D vwCl [] U ∧ p_Q D ad B U h U.heap ∧ va_AO RX1 U ∧ U.heap.size = sz)
def p_NMv (D : va_G) (ad : Nat → Nat) (A : Nat → Prop) (a0 : Nat) (r : PH) : Array Value → State → Outcome → State → Prop := va_Qv (fun u : Nat → Nat => u a0 = ad a0) (fun u t => p_Q D u A t r t.heap) A
def p_NMf (D : va_G) (ad : Nat → Nat) (A : Nat → Prop) (h r : PH) : Array Value → State → Outcome → State → Prop := va_Qv (fun u : Nat → Nat => ∀ x, h x ≠ none → u x = ad x) (fun u t => p_Q D u A t r t.heap) A
section PN
variable {p : Program} {l : Launch} {e : Env} {R : Room} {s : State} {m : MethodId} {args : Array Value} {below : List Frame} {meth : Method} {c : Code} {H : Heap} {locs : List Loc} {cells slots : Nat} {Q : State → Prop}
variable {cc : ByteArray} {pc nL : Nat} {ls : Array Slot} {rest : List Value} {D : va_G} {ad ad1 : Nat → Nat} {A B : Nat → Prop} {h h0 h1 : PH} {Ts : List Cond} {own : String}
variable {mc ms a0 sz : Nat}
theorem p_blindN {As : List Value} : FrameBlind (p_preN D ad B sz h As) := fun a U g mk q => ⟨q.1, va_K.moved (u := U) (U := U.calling g mk a) (Vm.Alike.refl U.vm) q.2.1, p_Q.moved (u := U) (U := U.calling g mk a) (Vm.Alike.refl U.vm) q.2.2.1, va_AO.moved (u := U) (U := U.calling g mk a) (Vm.Alike.refl U.vm) q.2.2.2.1, q.2.2.2.2⟩
theorem p_preSN {As : List Value} (hK : va_K D vwCl [] s) (hQ : p_Q D ad B s h H) (hover : va_AO RX1 s) (hz : H.size = sz) : PreS s H (p_preN D ad (p_AN ad h sz) sz h As) As :=
  ⟨p_blindN, fun U hU hW => ⟨rfl, va_K.moved hW.alike hK, by rw [hU]; exact (hQ.mono fun q e he _ => Or.inl ⟨q, e, he, rfl⟩).moved hW.alike, hover.moved hW.alike, by rw [hU]; exact hz⟩⟩
theorem p_rNMv (S : CallFix p m c cc nL s args Ts own) (hr : meth.sig.returnType = none) (hlocks : meth.locks = false) {r : PH} (hQ : p_Q D ad1 A s h H) (hS : va_S A s.heap H locs) (he : ad1 a0 = ad a0) (hf : some h = some r) (hc : cells ≤ mc) (hs : slots ≤ ms) (hdg : decode cc pc = .ok (.return_, 1)) : W p l e R s m args below meth c H locs cells slots (MQ below (p_NMv D ad A a0 r) args s mc ms A) (F0 m pc ls []) := by
  cases hf
  exact W.widen hc hs (W.vret S.1 S.2.1 hr (fun t ht hW => ⟨⟨ad1, rfl, he, by show p_Q D ad1 A t h t.heap; rw [ht]; exact hQ.moved hW.alike⟩, hS.F ht⟩) hS.2.2 hdg hlocks)
theorem p_rNMf (S : CallFix p m c cc nL s args Ts own) (hr : meth.sig.returnType = none) (hlocks : meth.locks = false) {r : PH} (hQ : p_Q D ad1 A s h H) (hS : va_S A s.heap H locs) (he : ∀ x, h0 x ≠ none → ad1 x = ad x) (hf : some h = some r) (hc : cells ≤ mc) (hs : slots ≤ ms) (hdg : decode cc pc = .ok (.return_, 1)) : W p l e R s m args below meth c H locs cells slots (MQ below (p_NMf D ad A h0 r) args s mc ms A) (F0 m pc ls []) := by
  cases hf
  exact W.widen hc hs (W.vret S.1 S.2.1 hr (fun t ht hW => ⟨⟨ad1, rfl, he, by show p_Q D ad1 A t h t.heap; rw [ht]; exact hQ.moved hW.alike⟩, hS.F ht⟩) hS.2.2 hdg hlocks)
variable {st0 : List Value} {a : Array Value}
theorem p_subN (hQ : p_Q D ad A s h H) (hS : va_S A s.heap H locs) (hA : ∀ x, s.heap.size ≤ x → A x) : ∀ x, p_AN ad h H.size x → A x := fun x hx => by
  rcases hx with hx | hx
  · exact p_sub hQ x hx
  · exact hA x (Nat.le_trans hS.1 hx)
theorem p_cNf (hr : va_Run p l e R s m args below meth c H locs cells slots mc ms (F0 m pc ls st0) rest (p_NMf D ad (p_AN ad h H.size) h h1 a) (p_AN ad h H.size)) (hQ : p_Q D ad A s h H) (hS : va_S A s.heap H locs) (hA : ∀ x, s.heap.size ≤ x → A x)
    (kk : ∀ (ad1 : Nat → Nat) (H1 : Heap) (locs1 : List Loc), (∀ x, h x ≠ none → ad1 x = ad x) → p_Q D ad1 A s h1 H1 → va_S A s.heap H1 locs1 → W p l e R s m args below meth c H1 locs1 (cells + mc) (slots + ms) Q (F0 m (pc + 3) ls rest)) : W p l e R s m args below meth c H locs cells slots Q (F0 m pc ls st0) :=
  va_callv hr hS (fun x _ hx => p_subN hQ hS hA x hx) (fun x hx => p_subN hQ hS hA x hx) fun u t H1 locs1 ht hvm hp hB hz hk hS1 => by
    rw [ht] at hB
    exact kk u H1 locs1 hp ((hB.moved hvm.symm).mono fun q f _ hx => p_subN hQ hS hA _ hx) hS1
end PN
/-! a constructor that is called with more than eight places on the stack below -/
section PI
variable {p : Program} {l : Launch} {e : Env} {R : Room} {s : State} {m : MethodId} {args : Array Value} {below : List Frame} {meth : Method} {c : Code} {H : Heap} {locs : List Loc} {cells slots : Nat} {Q : State → Prop}
variable {pc : Nat} {ls : Array Slot}
theorem p_room16 {st rest : List Value} (h : (st.map fun v => v.category).sum ≤ 16) : 2 * (F0 m pc ls rest).monitorRoom + (st.map fun v => v.category).sum ≤ 16 := by
  have h0 : (F0 m pc ls rest).monitorRoom = 0 := rfl
  omega
variable {y : MethodName} {bytes cc : ByteArray} {maxL nL mc ms n index : Nat} {ret : Option FieldType} {ws : List Cond} {rm : Room} {Pc : Array Value → State → Prop} {Qc : Array Value → State → Outcome → State → Prop} {free : Addr → Prop} {Ts : List Cond} {own C : String} {b : Addr} {As rest : List Value} {g : JFrame}
theorem p_runI16 (S : CallFix p m c cc nL s args Ts own) (hM : Met l y ws rm Pc Qc mc ms free) (cw : CallB R s args own index y bytes maxL none ws rm mc ms n ∧ y.name = "<init>" ∧ (Cond.instanceMethod y).before args s = true) (hlo2 : 16 + (maxL + 11) + rm.locals ≤ R.locals) (hp : PreS s H Pc (.ref b :: As))
    (hg : g.method = m) (hn : As.length = n) (hsize : g.locals.size = nL) (hstack : g.stack = As.reverse ++ .ref b :: rest) (hW : 2 * g.monitorRoom + (rest.map fun v => v.category).sum ≤ 16) (hdg : decode cc g.pc = .ok (.invokespecial index, 3)) (hf : cells + mc ≤ R.cells ∧ slots + ms ≤ R.slots) :
    va_Run p l e R s m args below meth c H locs cells slots mc ms g rest (Qc (Value.ref b :: As).toArray) (free) := by
  obtain ⟨⟨hrc, hrs, hfr, hlo, hws, hcw, hcode, hini, hy, hlen, hl⟩, hy1, hin⟩ := cw
  have hK : Back l R p e below s args y 3 16 (PreOf R mc ms Pc) (PostOf Qc mc ms free) := back_of (bytes := bytes) (maxL := maxL) (ret := none) hM hp.1 hrc hrs hfr hlo2 hws hcw (fun a' U hW => word_at hW (Or.inl (by first | rfl | simp [Cond.onTables, Cond.keeps, Cond.steady])) hini)
  obtain ⟨hx, hb, hml, ho, -⟩ := S
  intro T hT X
  obtain ⟨v, vm₁, ⟨U', l2, c2, s2⟩, hW₁, X', ⟨g', mk, t, L, e1, e2, hq, h1, hL, h2, h3⟩, st⟩ := callI X hx (bytes := bytes) (maxL := maxL) ho hy1 hl hin hcode hy hK hg (hsize.trans hml.symm) (a := b) (argsL := As) (rest := rest) (fun sig h => hn.trans (hlen sig h)) hstack hW (by rw [hb]; exact hdg)
    (fun vm₁ hW₁ => ⟨hf.1, hf.2, hp.2 (T.setVm vm₁) hT hW₁⟩)
  dsimp only [Pt.U, Pt.locs, Pt.cells, Pt.slots] at X' e1 e2 h1 h2 h3 st
  subst h1; subst h2; subst h3
  exact ⟨v, (T.setVm vm₁).calling g' mk (Value.ref b :: As).toArray, t, U', L, hT, X', hL, e1, e2, hq, st⟩
end PI
theorem p_t1 : ∀ w ∈ (vx_atS RX3 54 "java/lang/IllegalArgumentException" p_nm).filter (fun w => !goodWord w), w ∈ p_BX := by decide +kernel
theorem p_t2 : ∀ w ∈ (vx_atS RX3 67 "java/lang/IllegalStateException" p_nm).filter (fun w => !goodWord w), w ∈ p_BX := by decide +kernel
theorem p_t3 : ∀ w ∈ (vx_atS RX3 183 "java/lang/IndexOutOfBoundsException" p_nm).filter (fun w => !goodWord w), w ∈ p_BX := by decide +kernel
theorem p_g1 : ∀ w ∈ Cond.classLink RX3 50 "java/lang/IllegalArgumentException" :: Cond.initialized "java/lang/IllegalArgumentException" :: vx_atS RX3 54 "java/lang/IllegalArgumentException" p_nm, vx_ot w = true := by decide +kernel
theorem p_g2 : ∀ w ∈ Cond.classLink RX3 63 "java/lang/IllegalStateException" :: Cond.initialized "java/lang/IllegalStateException" :: vx_atS RX3 67 "java/lang/IllegalStateException" p_nm, vx_ot w = true := by decide +kernel
theorem p_g3 : ∀ w ∈ Cond.classLink RX3 179 "java/lang/IndexOutOfBoundsException" :: Cond.initialized "java/lang/IndexOutOfBoundsException" :: vx_atS RX3 183 "java/lang/IndexOutOfBoundsException" p_nm, vx_ot w = true := by decide +kernel
