/-! THE LAW: what the component's cells refer to is there -/
theorem hC_ne_l {I E : IT} {P : PT} {n q : Nat} (h : q < 8) : hC I E P n q ≠ none := by rw [hC_l _ _ _ _ h]; exact fun z => by cases z
theorem hC_ne_w {I E : IT} {P : PT} {n i : Nat} (h : i < n) : hC I E P n (wa i) ≠ none := by rw [hC_w _ _ _ h]; exact fun z => by cases z
theorem hC_ne_t {I E : IT} {P : PT} {n i : Nat} (h : i < n) : hC I E P n (ta i) ≠ none := by rw [hC_t _ _ _ h]; exact fun z => by cases z
theorem rr_A {I E : IT} {P : PT} {n : Nat} (hP : pB P n) (m a : Nat) : p_rr (hC I E P n) (cA m (cR P a)) := by
  refine ⟨fun ci fs y h1 _ => (by cases h1), fun t k f j y h1 h2 => ?_⟩
  unfold cA at h1
  cases h1
  unfold cR at h2
  obtain ⟨i, hi, rfl⟩ := Option.map_eq_some_iff.mp h2
  exact hC_ne_w (hP a j i hi)
theorem rr_I {h : PH} (t k : Nat) (f : Nat → Int32) : p_rr h (.inl (t, k, .inl f)) := ⟨fun ci fs y h1 _ => (by cases h1), fun t n g j y h1 _ => (by cases h1)⟩
theorem rr_O {h : PH} {c : Nat} {fs : List Value} (hf : ∀ y, Value.ref y ∈ fs → h y ≠ none) : p_rr h (.inr (c, fs)) := ⟨fun ci gs y h1 h2 => by cases h1; exact hf y h2, fun t n g j y h1 _ => (by cases h1)⟩
theorem hC_rr {I E : IT} {P : PT} {n : Nat} (hP : pB P n) : ∀ q e, hC I E P n q = some e → p_rr (hC I E P n) e := fun q e h => by
  by_cases h8 : q < 8
  · rw [hC_l _ _ _ _ h8] at h
    cases h
    have : q = 0 ∨ q = 1 ∨ q = 2 ∨ q = 3 ∨ q = 4 ∨ q = 5 ∨ q = 6 ∨ q = 7 := by omega
    rcases this with rfl | rfl | rfl | rfl | rfl | rfl | rfl | rfl
    · refine rr_O fun y hy => ?_
      unfold cB at hy
      simp only [List.mem_cons, Value.ref.injEq, reduceCtorEq, List.not_mem_nil, or_false, false_or] at hy
      rcases hy with rfl | rfl | rfl | rfl | rfl <;> exact hC_ne_l (by decide)
    · refine rr_O fun y hy => ?_
      simp only [List.mem_cons, Value.ref.injEq, reduceCtorEq, List.not_mem_nil, or_false, false_or] at hy
      subst hy
      exact hC_ne_l (by decide)
    · exact rr_A hP 8 0
    · refine rr_O fun y hy => ?_
      simp only [List.mem_cons, Value.ref.injEq, reduceCtorEq, List.not_mem_nil, or_false, false_or] at hy
      subst hy
      exact hC_ne_l (by decide)
    · exact rr_A hP 8 1
    · exact rr_A hP 48 2
    · exact rr_I _ _ _
    · exact rr_I _ _ _
  · unfold hC at h
    rw [if_neg h8] at h
    by_cases h9 : q < 8 + 2 * n
    · rw [if_pos h9] at h
      by_cases h10 : q % 2 = 0
      · rw [if_pos h10] at h
        cases h
        refine rr_O fun y hy => ?_
        unfold cW at hy
        simp only [List.mem_cons, Value.ref.injEq, reduceCtorEq, List.not_mem_nil, or_false, false_or] at hy
        subst hy
        exact hC_ne_t (by omega)
      · rw [if_neg h10] at h
        cases h
        refine rr_O fun y hy => ?_
        unfold cT at hy
        simp only [List.mem_cons, reduceCtorEq, List.not_mem_nil, or_false, false_or] at hy
    · rw [if_neg h9] at h; cases h
theorem p_Q.sub {D : va_G} {ad : Nat → Nat} {B : Nat → Prop} {s : State} {I E : IT} {P : PT} {n : Nat} {g : PH} {H : Heap} (hQ : p_Q D ad B s g H) (hs : sub (hC I E P n) g) (hP : pB P n) : p_Q D ad B s (hC I E P n) H := hQ.less hs (hC_rr hP)
theorem hC_ob {I E : IT} {P : PT} {n : Nat} : p_ob (hC I E P n) 0 3 = some () := rfl
