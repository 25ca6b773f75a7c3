/-! THE LAW: the row 'out', and bodies with handlers that always return -/
def hO (f : Nat → Int64) : PH := fun q => if q = 0 then some (.inl (3, 1, .inr (.inl f))) else none
theorem hO_0 (f : Nat → Int64) : hO f 0 = some (.inl (3, 1, .inr (.inl f))) := rfl
theorem hO_o {f : Nat → Int64} {q : Nat} {e : PE} (h : hO f q = some e) : q = 0 ∧ e = .inl (3, 1, .inr (.inl f)) := by
  unfold hO at h
  by_cases hq : q = 0
  · rw [if_pos hq] at h; exact ⟨hq, (Option.some.inj h).symm⟩
  · rw [if_neg hq] at h; cases h
section WR
variable {p : Program} {l : Launch} {e : Env} {R : Room} {s : State} {m : MethodId} {args : Array Value} {below : List Frame} {meth : Method} {c : Code} {H : Heap} {locs : List Loc} {cells slots : Nat} {Q : State → Prop}
variable {cc : ByteArray} {pc nL : Nat} {ls : Array Slot} {rest : List Value} {D : va_G} {ad : Nat → Nat} {A B : Nat → Prop} {h : PH} {Ts : List Cond} {own : String}
theorem p_lald (S : CallFix p m c cc nL s args Ts own) {f : Nat → Int64} (hQ : p_Q D ad B s (hO f) H) (hdg : decode cc pc = .ok (.laload, 1))
    (kk : W p l e R s m args below meth c H locs cells slots Q (F0 m (pc + 1) ls (.long (f 0) :: rest))) : W p l e R s m args below meth c H locs cells slots Q (F0 m pc ls (.int 0 :: .ref (ad 0) :: rest)) := by
  obtain ⟨cA, ⟨hA, -⟩, hcell⟩ := (hQ.1 0 _ (hO_0 f)).1
  have hin : ¬ ((0 : Int32) < 0 ∨ 1 ≤ (0 : Int32).toNatClampNeg) := by decide
  have hc : (0 : Int32).toNatClampNeg = 0 := by decide
  exact W.lald (v := .long (f 0)) S.1 S.2.1 hcell (hA 1 (fun j => .long (f j))) (fun q => by cases q) (by show ¬ ((0 : Int32) < 0 ∨ (arrV _ _ _).slots.size ≤ _); rw [arrV_size]; exact hin) (by show (arrV cA 1 (fun j => .long (f j))).slots[_]? = _; rw [hc, arrV_read _ _ (by decide)]) rfl rfl hdg kk
theorem p_last (S : CallFix p m c cc nL s args Ts own) {f : Nat → Int64} {x : Int64} (hQ : p_Q D ad B s (hO f) H) (hS : va_S A s.heap H locs) (hA0 : A (ad 0)) (hdg : decode cc pc = .ok (.lastore, 1))
    (kk : ∀ (H1 : Heap) (locs1 : List Loc), p_Q D ad B s (hO (vp_updL f 0 x)) H1 → (∀ q : Nat, q ≠ ad 0 → H1[q]? = H[q]?) → va_S A s.heap H1 locs1 → W p l e R s m args below meth c H1 locs1 cells slots Q (F0 m (pc + 1) ls rest)) : W p l e R s m args below meth c H locs cells slots Q (F0 m pc ls (.long x :: .int 0 :: .ref (ad 0) :: rest)) := by
  obtain ⟨⟨cA, hA, hcell⟩, hAa⟩ := hQ.1 0 _ (hO_0 f)
  have hin : ¬ ((0 : Int32) < 0 ∨ 1 ≤ (0 : Int32).toNatClampNeg) := by decide
  have hc : (0 : Int32).toNatClampNeg = 0 := by decide
  refine W.last S.1 S.2.1 hcell (hA.1 1 (fun j => .long (f j))) (fun q => by cases q) (by show ¬ ((0 : Int32) < 0 ∨ (arrV _ _ _).slots.size ≤ _); rw [arrV_size]; exact hin) rfl rfl hdg fun H1 e1 z oq => ?_
  have hup : p_up (hO f) 0 (.inl (3, 1, .inr (.inl (vp_updL f 0 x)))) = hO (vp_updL f 0 x) := by
    funext q
    unfold p_up hO
    by_cases hq : q = 0
    · rw [if_pos hq, if_pos hq]
    · rw [if_neg hq, if_neg hq, if_neg hq]
  refine kk H1 _ ?_ oq (hS.put z oq hA0)
  rw [← hup]
  refine hQ.set (hO_0 f) ⟨fun ci fs y h1 _ => (by cases h1), fun t n g j y h1 _ => (by cases h1)⟩ ⟨cA, hA, ?_⟩ oq
  rw [e1]
  show some ((arrV cA 1 (fun j => .long (f j))).setSlot _ _) = some (arrV cA 1 (fun j => .long (vp_updL f 0 x j)))
  rw [arrV_store, hc]
  congr 2
  funext q
  by_cases hq : q = 0
  · subst hq
    simp [updV, vp_updL]
  · simp [updV, vp_updL, hq]
end WR
/-- a body with handlers that always returns -/
theorem p_ofWH {l : Launch} {y : MethodName} {ws ws' : List Cond} {rm : Room} {Pc : Array Value → State → Prop} {Qc : Array Value → State → Outcome → State → Prop} {mc ms : Nat} {free : Addr → Prop} {cc : ByteArray} {maxL : Nat} {ret : Option FieldType} {hh : List (Nat × Nat × Nat × Nat)}
    (hy : plainName y.cls = true) (hw : ws = Cond.codeWith y cc maxL ret hh :: ws')
    (body : ∀ p e s m args below meth c s₁, BodyLoose p l y (headSpec ws rm) cc maxL ret e s m args below meth c s₁ → c.maxLocals = maxL → c.exceptionTable.toList = tableOf hh → Pc args s →
      W p l e (headSpec ws rm).room s m args below meth c s.heap [] 0 0 (MQ below Qc args s mc ms free) (entryFrame m args maxL)) : Met l y ws rm Pc Qc mc ms free := by
  refine MetFree.of_bodyS (code := cc) (maxLocals := maxL) (ret := ret) hy ?_ ?_
  · intro args s m h hn
    obtain ⟨m9, meth, c, hn9, h1, h2, h3, h4, -, h5, h6, -⟩ := Cond.codeWith_spec (atoms_spec (ws := ws) h _ (by rw [hw]; exact List.mem_cons_self))
    cases hn.symm.trans hn9
    exact ⟨meth, c, h1, h2, h3, h4, h5, h6⟩
  · intro p e s m args below meth c s₁ B hml hP _
    have hh0 : s₁.heap = s.heap := by rw [B.state]; rfl
    have ht : c.exceptionTable.toList = tableOf hh := vx_table (x := y) B (atoms_spec (ws := ws) B.pre _ (by rw [hw]; exact List.mem_cons_self))
    obtain ⟨t, a1, o, b1, b2, b3⟩ := body p e s m args below meth c s₁ B hml ht hP s₁ hh0 (Stand.of_body B)
    exact ⟨t, o, a1, b1, b2, b3⟩
