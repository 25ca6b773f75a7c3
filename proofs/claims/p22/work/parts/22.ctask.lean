/-! THE COMPONENT: tasks. Whether a frame is under way, and its deadline: two fields here, one number in the reference -/
def nrm (I E : IT) (n : Nat) : Prop := ∀ i, i < n → E 3 i = b2i (!decide (I 15 i = -1)) ∧ (I 15 i ≠ -1 → E 0 i = I 15 i)
def eS (E E' : IT) : Prop := E' 1 = E 1 ∧ E' 2 = E 2
theorem eS.r (E : IT) : eS E E := ⟨rfl, rfl⟩
theorem eS.t {E F G : IT} (h : eS E F) (k : eS F G) : eS E G := ⟨k.1.trans h.1, k.2.trans h.2⟩
theorem eS.u {E : IT} {a : Nat} (k : Nat) (x : Int32) (h : a = 0 ∨ a = 3) : eS E (u2 E a k x) := ⟨u2_r _ _ _ (by omega), u2_r _ _ _ (by omega)⟩
theorem nrm.at {I E I' E' : IT} {n i : Nat} (h : nrm I E n) (h1 : ∀ j, j ≠ i → I' 15 j = I 15 j) (h2 : ∀ j, j ≠ i → E' 3 j = E 3 j) (h3 : ∀ j, j ≠ i → E' 0 j = E 0 j) (hi : E' 3 i = b2i (!decide (I' 15 i = -1)) ∧ (I' 15 i ≠ -1 → E' 0 i = I' 15 i)) : nrm I' E' n := fun j hj => by
  by_cases e : j = i
  · rw [e]; exact hi
  · rw [h1 j e, h2 j e, h3 j e]; exact h j hj
theorem nrm.of {I E I' E' : IT} {n : Nat} (h : nrm I E n) (h1 : I' 15 = I 15) (h2 : E' 3 = E 3) (h3 : E' 0 = E 0) : nrm I' E' n := fun j hj => by
  rw [h1, h2, h3]; exact h j hj
theorem nrm.n {I E : IT} {n i : Nat} (h : nrm I E n) (hi : i < n) (h1 : I 15 i = -1) : E 3 i = 0 := by
  rw [(h i hi).1, h1]; rfl
theorem nrm.y {I E : IT} {n i : Nat} (h : nrm I E n) (hi : i < n) (h1 : I 15 i ≠ -1) : E 3 i = 1 ∧ E 0 i = I 15 i :=
  ⟨by rw [(h i hi).1, decide_eq_false h1]; rfl, (h i hi).2 h1⟩
theorem T_drop {I E : IT} {P : PT} {n i : Nat} (h : i < n) (hN : nrm I E n) : ∃ E', fX0_drop (hC I E P n) (ta i) (I 0 1) = some (hC (drpI I i) E' P n) ∧ nrm (drpI I i) E' n ∧ eS E E' := by
  by_cases h1 : I 15 i = -1
  · refine ⟨E, ?_, ?_, eS.r E⟩
    · rw [fX0_drop, T_gi6 I E P h, Option.bind_some, hN.n h h1, if_pos rfl, fX0_drop_17, drpI, if_pos h1]
    · rw [drpI, if_pos h1]; exact hN
  · refine ⟨u2 E 3 i 0, ?_, ?_, eS.u _ _ (by omega)⟩
    · rw [fX0_drop, T_gi6 I E P h, Option.bind_some, (hN.y h h1).1, if_neg e10, T_s6 _ _ _ h _ (Or.inl rfl), Option.bind_some, T_s5 _ _ _ h, Option.bind_some, fX0_drop_17, drpI, if_neg h1]
      refine congrArg some (hC_I _ _ _ _ _ ?_ ?_ fun a q1 q2 q3 => ?_).symm
      · rw [u2_a _ _ _ _ (by omega), u2_a _ _ _ _ (by omega), u2_a _ _ _ _ (by omega)]
      · rw [u2_a _ _ _ _ (by omega), u2_a _ _ _ _ (by omega), u2_a _ _ _ _ (by omega)]
      · funext j; simp [u2, q3]
    · rw [drpI, if_neg h1]
      refine hN.at (i := i) (fun j hj => ?_) (fun j hj => ?_) (fun j hj => ?_) ⟨?_, ?_⟩
      · rw [u2_a _ _ _ _ (by omega), u2_k _ _ _ hj]
      · rw [u2_k _ _ _ hj]
      · rw [u2_a _ _ _ _ (by omega)]
      · rw [u2_s, u2_a _ _ _ _ (by omega), u2_s]; rfl
      · rw [u2_a _ _ _ _ (by omega), u2_s]; exact fun q => absurd rfl q
def bgI (I : IT) (i : Nat) (x : Int32) : IT := u2 (u2 I 16 i 0) 15 i x
theorem T_begin {I E : IT} {P : PT} {n i : Nat} (h : i < n) (hN : nrm I E n) {x : Int32} (hx : x ≠ -1) : ∃ E', fX0_begin (hC I E P n) (ta i) x = some (hC (bgI I i x) E' P n) ∧ nrm (bgI I i x) E' n ∧ eS E E' := by
  refine ⟨u2 (u2 E 3 i 1) 0 i x, ?_, ?_, (eS.u _ _ (by omega)).t (eS.u _ _ (by omega))⟩
  · rw [fX0_begin, T_s6 _ _ _ h _ (Or.inr rfl), Option.bind_some, T_s7 _ _ _ h, Option.bind_some, T_s8 _ _ _ h, Option.bind_some, bgI, hC_15]
  · refine hN.at (i := i) (fun j hj => ?_) (fun j hj => ?_) (fun j hj => ?_) ⟨?_, ?_⟩
    · rw [bgI, u2_k _ _ _ hj, u2_a _ _ _ _ (by omega)]
    · rw [u2_a _ _ _ _ (by omega), u2_k _ _ _ hj]
    · rw [u2_k _ _ _ hj, u2_a _ _ _ _ (by omega)]
    · rw [u2_a _ _ _ _ (by omega), u2_s, bgI, u2_s, decide_eq_false hx]; rfl
    · rw [u2_s, bgI, u2_s]; exact fun _ => rfl
theorem T_due {I E : IT} {P : PT} {n i : Nat} (h : i < n) (hN : nrm I E n) (hx : I 0 1 + I 7 i * I 11 i ≠ -1) : ∃ E', fX0_beginIfDue (hC I E P n) (ta i) (I 0 1) = some (hC (if I 15 i = -1 then (if I 0 1 < I 14 i then I else bgI I i (I 0 1 + I 7 i * I 11 i)) else I) E' P n) ∧ nrm (if I 15 i = -1 then (if I 0 1 < I 14 i then I else bgI I i (I 0 1 + I 7 i * I 11 i)) else I) E' n ∧ eS E E' := by
  by_cases h1 : I 15 i = -1
  · rw [if_pos h1]
    by_cases h2 : I 0 1 < I 14 i
    · rw [if_pos h2]
      refine ⟨E, ?_, hN, eS.r E⟩
      rw [fX0_beginIfDue, T_gi6 I E P h, Option.bind_some, hN.n h h1, if_pos rfl, T_gi5 I E P h, Option.bind_some, if_pos h2, fX0_beginIfDue_30]
    · rw [if_neg h2]
      obtain ⟨E', q1, q2, q3⟩ := T_begin (P := P) h hN hx
      refine ⟨E', ?_, q2, q3⟩
      rw [fX0_beginIfDue, T_gi6 I E P h, Option.bind_some, hN.n h h1, if_pos rfl, T_gi5 I E P h, Option.bind_some, if_neg h2, T_gi0 I E P h, Option.bind_some, T_gi2 I E P h, Option.bind_some, T_ob I E P h, Option.bind_some, q1, Option.bind_some, fX0_beginIfDue_30]
  · rw [if_neg h1]
    refine ⟨E, ?_, hN, eS.r E⟩
    rw [fX0_beginIfDue, T_gi6 I E P h, Option.bind_some, (hN.y h h1).1, if_neg e10, fX0_beginIfDue_30]
theorem T_hurry {I E : IT} {P : PT} {n i : Nat} (h : i < n) (hN : nrm I E n) (h9 : ¬ I 9 i = 0) (hx : I 0 1 + (I 7 i + 1) / 2 ≠ -1) : ∃ E', fX0_hurry (hC I E P n) (ta i) (I 0 1) = some (hC (inpI I i) E' P n) ∧ nrm (inpI I i) E' n ∧ eS E E' := by
  unfold inpI
  rw [if_neg h9]
  by_cases h1 : I 15 i = -1
  · rw [if_pos h1]
    obtain ⟨E', q1, q2, q3⟩ := T_begin (P := P) h hN hx
    refine ⟨E', ?_, q2, q3⟩
    rw [fX0_hurry, T_gi0 I E P h, Option.bind_some, T_gi6 I E P h, Option.bind_some, hN.n h h1, if_pos rfl, T_ob I E P h, Option.bind_some, q1, Option.bind_some, fX0_hurry_39]
    rfl
  · rw [if_neg h1]
    by_cases h2 : I 15 i ≤ I 0 1 + (I 7 i + 1) / 2
    · rw [if_pos h2]
      refine ⟨E, ?_, hN, eS.r E⟩
      rw [fX0_hurry, T_gi0 I E P h, Option.bind_some, T_gi6 I E P h, Option.bind_some, (hN.y h h1).1, if_neg e10, T_gi8 I E P h, Option.bind_some, (hN.y h h1).2, if_pos h2, fX0_hurry_39]
    · rw [if_neg h2]
      refine ⟨u2 E 0 i (I 0 1 + (I 7 i + 1) / 2), ?_, ?_, eS.u _ _ (by omega)⟩
      · rw [fX0_hurry, T_gi0 I E P h, Option.bind_some, T_gi6 I E P h, Option.bind_some, (hN.y h h1).1, if_neg e10, T_gi8 I E P h, Option.bind_some, (hN.y h h1).2, if_neg h2, T_s8 _ _ _ h, Option.bind_some, fX0_hurry_39, hC_15]
      · refine hN.at (i := i) (fun j hj => ?_) (fun j hj => ?_) (fun j hj => ?_) ⟨?_, ?_⟩
        · rw [u2_k _ _ _ hj]
        · rw [u2_a _ _ _ _ (by omega)]
        · rw [u2_k _ _ _ hj]
        · rw [u2_a _ _ _ _ (by omega), (hN.y h h1).1, u2_s, decide_eq_false hx]; rfl
        · rw [u2_s, u2_s]; exact fun _ => rfl
theorem W_lose {I E : IT} {P : PT} {n i : Nat} (h : i < n) (hN : nrm I E n) : ∃ E', fX1_loseSurface (hC I E P n) (wa i) (I 0 1) = some (hC (lseI I i) E' P n) ∧ nrm (lseI I i) E' n ∧ eS E E' := by
  have hN2 : nrm (u2 (u2 I 9 i 0) 10 i 0) E n := hN.of (by rw [u2_r _ _ _ (by omega), u2_r _ _ _ (by omega)]) rfl rfl
  obtain ⟨E', q1, q2, q3⟩ := T_drop (P := P) h hN2
  refine ⟨E', ?_, q2, q3⟩
  rw [fX1_loseSurface, W_s8 _ _ _ h _ (Or.inl rfl), Option.bind_some, W_s9 _ _ _ h, Option.bind_some, W_gr _ _ _ h, Option.bind_some, T_ob _ _ _ h, Option.bind_some]
  rw [show (u2 (u2 I 9 i 0) 10 i 0) 0 1 = I 0 1 by rw [u2_a _ _ _ _ (by omega), u2_a _ _ _ _ (by omega)]] at q1
  rw [q1, Option.bind_some]
  rfl
theorem T_finish {I E : IT} {P : PT} {n i : Nat} (h : i < n) (hN : nrm I E n) (h1 : I 15 i ≠ -1) (h2 : ¬ I 15 i < I 0 1) (h3 : 0 ≤ I 13 i ∧ I 13 i < 3) : ∃ E', fX0_finish (hC (u2 I 10 i (I 10 i + 1)) E P n) (ta i) = some (hC (finI I i) E' P n) ∧ nrm (finI I i) E' n ∧ eS E E' := by
  have hN3 : ∀ J : IT, (∀ j, J 15 j = if j = i then -1 else I 15 j) → nrm J (u2 E 3 i 0) n := fun J hJ => by
    refine hN.at (i := i) (fun j hj => ?_) (fun j hj => ?_) (fun j hj => ?_) ⟨?_, ?_⟩
    · rw [hJ, if_neg hj]
    · rw [u2_k _ _ _ hj]
    · rw [u2_a _ _ _ _ (by omega)]
    · rw [u2_s, hJ, if_pos rfl]; rfl
    · rw [hJ, if_pos rfl]; exact fun q => absurd rfl q
  refine ⟨u2 E 3 i 0, ?_, hN3 _ (fun j => ?_), eS.u _ _ (by omega)⟩
  · rw [fX0_finish, T_s6 _ _ _ h _ (Or.inl rfl), Option.bind_some, T_gi8 _ _ _ h, Option.bind_some, T_s5 _ _ _ h, Option.bind_some, T_gi4 _ _ _ h, Option.bind_some, T_s4 _ _ _ h, Option.bind_some, T_gi4 _ _ _ h, Option.bind_some, u2_s, u2_a _ _ _ _ (show (13 : Nat) ≠ 14 by omega), u2_a _ _ _ _ (show (13 : Nat) ≠ 10 by omega), u2_a _ _ _ _ (show (0 : Nat) ≠ 3 by omega), (hN.y h h1).2]
    unfold finI
    rw [if_neg h2]
    by_cases h4 : I 13 i + 1 < 3
    · rw [if_pos h4, if_neg (fun q => by rw [q] at h4; exact absurd h4 (by decide)), fX0_finish_58]
      refine congrArg some (hC_I _ _ _ _ _ ?_ ?_ fun a q1 q2 q3 => ?_).symm
      · rw [u2_a _ _ _ _ (by omega)]
      · rw [u2_a _ _ _ _ (by omega)]
      · exact u2_r _ _ _ q3
    · rw [if_neg h4, if_pos (by obtain ⟨h5, h6⟩ := h3; grind), T_s4 _ _ _ h, Option.bind_some, T_gi2 _ _ _ h, Option.bind_some]
      have e11 : (u2 (u2 (u2 (u2 I 10 i (I 10 i + 1)) 14 i (I 15 i)) 13 i (I 13 i + 1)) 13 i 0) 11 i = I 11 i := by
        rw [u2_a _ _ _ _ (by omega), u2_a _ _ _ _ (by omega), u2_a _ _ _ _ (by omega), u2_a _ _ _ _ (by omega)]
      rw [e11]
      by_cases h5 : I 11 i ≤ 1
      · rw [if_pos h5, if_pos h5, fX0_finish_55, T_s2 _ _ _ h, Option.bind_some, fX0_finish_58]
        refine congrArg some (hC_I _ _ _ _ _ ?_ ?_ fun a q1 q2 q3 => ?_).symm
        · simp [u2]
        · simp [u2]
        · funext j; simp only [u2]; grind
      · rw [if_neg h5, if_neg h5, Option.bind_some, fX0_finish_55, T_s2 _ _ _ h, Option.bind_some, fX0_finish_58]
        refine congrArg some (hC_I _ _ _ _ _ ?_ ?_ fun a q1 q2 q3 => ?_).symm
        · simp [u2]
        · simp [u2]
        · funext j; simp only [u2]; grind
  · unfold finI
    rw [if_neg h2]
    by_cases h4 : I 13 i + 1 = 3
    · rw [if_pos h4]; simp [u2]
    · rw [if_neg h4]; simp [u2]
theorem T_miss {I E : IT} {P : PT} {n i : Nat} (h : i < n) (hN : nrm I E n) (h1 : I 15 i ≠ -1) (h2 : I 15 i + I 7 i * I 11 i ≠ -1) (h3 : 0 ≤ I 11 i ∧ I 11 i ≤ 8) (h4 : I 11 i = 1 ∨ I 11 i = 2 ∨ I 11 i = 4 ∨ I 11 i = 8) : ∃ E', fX0_miss (hC I E P n) (ta i) = some (hC (missI I i) E' P n) ∧ nrm (missI I i) E' n ∧ eS E E' := by
  have h5 : (if 8 ≤ 2 * I 11 i then 8 else 2 * I 11 i) = if 8 ≤ I 11 i then 8 else I 11 i * 2 := by
    rcases h4 with q | q | q | q <;> rw [q] <;> decide
  refine ⟨u2 E 0 i (I 15 i + I 7 i * I 11 i), ?_, ?_, eS.u _ _ (by omega)⟩
  · have e7 : ∀ (y z : Int32), (u2 (u2 I 12 i y) 13 i z) 7 i = I 7 i := fun y z => by rw [u2_a _ _ _ _ (by omega), u2_a _ _ _ _ (by omega)]
    have e11 : ∀ (y z : Int32), (u2 (u2 I 12 i y) 13 i z) 11 i = I 11 i := fun y z => by rw [u2_a _ _ _ _ (by omega), u2_a _ _ _ _ (by omega)]
    rw [fX0_miss, T_gi3 _ _ _ h, Option.bind_some, T_s3 _ _ _ h, Option.bind_some, T_s4 _ _ _ h, Option.bind_some, T_gi8 _ _ _ h, Option.bind_some, T_gi0 _ _ _ h, Option.bind_some, T_gi2 _ _ _ h, Option.bind_some, e7, e11, (hN.y h h1).2, T_s8 _ _ _ h, Option.bind_some, T_gi2 _ _ _ h, Option.bind_some, e11]
    unfold missI
    rw [h5]
    have fin : ∀ z : Int32, hC (u2 (u2 (u2 (u2 I 12 i (I 12 i + 1)) 13 i 0) 15 i (I 15 i + I 7 i * I 11 i)) 11 i z) (u2 E 0 i (I 15 i + I 7 i * I 11 i)) P n = hC (u2 (u2 (u2 I 12 i (I 12 i + 1)) 13 i 0) 11 i z) (u2 E 0 i (I 15 i + I 7 i * I 11 i)) P n := fun z => hC_I _ _ _ _ _ (by simp [u2]) (by simp [u2]) (fun a q1 q2 q3 => by funext j; simp [u2, q3])
    rw [fin]
    by_cases h6 : 8 ≤ I 11 i
    · rw [if_pos h6, if_pos h6, fX0_miss_54, T_s2 _ _ _ h, Option.bind_some]
    · rw [if_neg h6, if_neg h6, Option.bind_some, fX0_miss_54, T_s2 _ _ _ h, Option.bind_some]
  · unfold missI
    refine hN.at (i := i) (fun j hj => ?_) (fun j hj => ?_) (fun j hj => ?_) ⟨?_, ?_⟩
    · simp [u2, hj]
    · rw [u2_a _ _ _ _ (by omega)]
    · rw [u2_k _ _ _ hj]
    · rw [u2_a _ _ _ _ (by omega), u2_a _ _ _ _ (by omega), u2_s, (hN.y h h1).1, decide_eq_false h2]; rfl
    · rw [u2_s, u2_a _ _ _ _ (by omega), u2_s]; exact fun _ => rfl
