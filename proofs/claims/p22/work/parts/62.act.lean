/-! CALLS THAT ARE REFUSED -/
theorem A_ar {g : Sg} {x1 x2 x3 x4 x5 x6 x7 : Int32} (h : okA x1 x2 x3 x4 x6 x7 = false) : aOpen g x1 x2 x3 x4 x5 x6 x7 = (kAR, g) := by
  unfold aOpen
  rw [if_neg (by rw [h]; decide)]
theorem inB_f {v lo hi : Int32} (h : v < lo ∨ hi < v) : inB v lo hi = false := by
  unfold inB
  rcases h with h | h
  · rw [decide_eq_false (Int32.not_le.mpr h)]; rfl
  · rw [decide_eq_false (Int32.not_le.mpr h), Bool.and_false]
theorem wp_no {L : List Nat} {w : Int32} (h : ∀ v, v ∈ L → nI v ≠ w) : ∀ k, wp w k L = none := by
  induction L with
  | nil => intro k; rfl
  | cons x l ih =>
    intro k
    unfold wp
    rw [if_neg (h x List.mem_cons_self)]
    exact ih (fun v hv => h v (List.mem_cons_of_mem _ hv)) _
theorem ref_513 {g : Sg} (h : INV g) {c r w : Int32} (hc : inB c 0 7 = false) (hr : inB r 0 5 = false) (k : Int32) : fL_refuses_513 k g c r 1 w = some (1, g) := by
  have e584 : fL_refuses_584 k g 1 = some (1, g) := rfl
  unfold fL_refuses_513
  rw [if_neg (by decide), e584]
  by_cases h1 : w < 0
  · rw [if_pos h1]
  · rw [if_neg h1]
    unfold aPlace aW
    rcases wp_cs w g.2.1 with ⟨h2, -⟩ | ⟨p, v, h2, h3, -, -⟩
    · rw [h2, if_pos (by decide)]
    · obtain ⟨-, ⟨w1, w2⟩, w3, w4⟩ := h.gk v (List.mem_of_getElem? h3)
      have hp : p < g.2.1.length := (List.getElem?_eq_some_iff.mp h3).1
      have h8 := h.L8
      have m1 : ∀ (x y : Int32), (inB x 0 (8 - g.1 4 v) && inB y 0 (6 - g.1 5 v)) = false → aMove g w x y = (kAR, g) := fun x y q => by
        unfold aMove
        rw [h2]
        dsimp only
        rw [q, if_neg (by decide)]
      have hc2 : inB c 0 (8 - g.1 4 v) = false := by
        unfold inB at hc ⊢
        simp only [Bool.and_eq_false_iff, decide_eq_false_iff_not] at hc ⊢
        rcases hc with q | q
        · exact Or.inl q
        · right; generalize g.1 4 v = z at *; grind
      have hr2 : inB r 0 (6 - g.1 5 v) = false := by
        unfold inB at hr ⊢
        simp only [Bool.and_eq_false_iff, decide_eq_false_iff_not] at hr ⊢
        rcases hr with q | q
        · exact Or.inl q
        · right; generalize g.1 5 v = z at *; grind
      have h82 : inB 8 0 (8 - g.1 4 v) = false := by
        apply inB_f
        right; generalize g.1 4 v = z at *; grind
      rw [h2]
      dsimp only
      rw [if_neg (nI_lt0 (by omega)), m1 c 0 (by rw [hc2]; rfl), Option.bind_some, if_pos rfl]
      dsimp only
      rw [m1 0 r (by rw [hr2, Bool.and_false]), Option.bind_some, if_pos rfl]
      dsimp only
      rw [m1 8 6 (by rw [h82]; rfl), Option.bind_some, if_pos rfl]
      rfl
theorem ref_489 {g : Sg} (h : INV g) {c r : Int32} (hc : inB c 0 7 = false) (hr : inB r 0 5 = false) (x : Int32) : fL_refuses_489 (nI g.2.2) g x c r = some (1, g) := by
  have h40 := h.n40
  unfold fL_refuses_489 fL_refuses_494
  by_cases hk : nI g.2.2 = 0
  · rw [if_pos hk]; exact ref_513 h hc hr _
  · rw [if_neg hk, show p_nzd (nI g.2.2) = some () from if_neg hk, Option.bind_some]
    exact ref_513 h hc hr _
theorem ref_77 {g : Sg} (h : INV g) {m : Nat} (hm : m < 10000) {w c r : Int32} (hw : ∀ v, v ∈ g.2.1 → nI v ≠ w) (hc : inB c 0 7 = false) (hr : inB r 0 5 = false) : fL_refuses_77 (nI g.2.2) g (nI m) w c r = some (1, g) := by
  have h40 := h.n40
  have h8 := h.L8
  have m0 : 0 ≤ nI m := nI_pos' (by omega)
  have m1 : nI m ≤ 10000 := (nI_leI (a := m) (b := 10000) (by omega) (by omega)).mpr (by omega)
  have a8 : nI m - nI m / 8 * 8 = nI (m % 8) := pk_rem (d := 8) (by omega) (by decide) (by decide)
  have a6 : nI m - nI m / 6 * 6 = nI (m % 6) := pk_rem (d := 6) (by omega) (by decide) (by decide)
  have b8 : 0 ≤ nI (m % 8) ∧ nI (m % 8) ≤ 7 := ⟨nI_pos' (by omega), (nI_L (b := 7) (by omega) (by decide)).mpr (by omega)⟩
  have b6 : 0 ≤ nI (m % 6) ∧ nI (m % 6) ≤ 5 := ⟨nI_pos' (by omega), (nI_L (b := 5) (by omega) (by decide)).mpr (by omega)⟩
  have o1 : aOpen g c 0 1 1 0 5 5 = (kAR, g) := A_ar (by simp [okA, hc])
  have o2 : aOpen g 0 r 1 1 0 5 5 = (kAR, g) := A_ar (by simp [okA, hr])
  have o3 : aOpen g (nI (m % 8)) 0 (9 - nI (m % 8)) 1 1 5 5 = (kAR, g) := A_ar (by
    have : inB (9 - nI (m % 8)) 1 (8 - nI (m % 8)) = false := inB_f (Or.inr (by generalize nI (m % 8) = z at *; grind))
    simp [okA, this])
  have o4 : aOpen g 0 (nI (m % 6)) 1 (7 - nI (m % 6)) 1 5 5 = (kAR, g) := A_ar (by
    have : inB (7 - nI (m % 6)) 1 (6 - nI (m % 6)) = false := inB_f (Or.inr (by generalize nI (m % 6) = z at *; grind))
    simp [okA, this])
  have o5 : aOpen g 0 0 0 1 0 5 5 = (kAR, g) := A_ar (by decide)
  have neg : ∀ hi, inB (-nI m) 1 hi = false := fun hi => inB_f (Or.inl (by generalize nI m = z at *; grind))
  have o6 : aOpen g 0 0 1 (-nI m) 0 5 5 = (kAR, g) := A_ar (by simp [okA, neg])
  have o7 : aOpen g 0 0 1 1 0 (101 + nI m) 5 = (kAR, g) := A_ar (by
    have : inB (101 + nI m) 1 100 = false := inB_f (Or.inr (by generalize nI m = z at *; grind))
    simp [okA, this])
  have o8 : aOpen g 0 0 1 1 0 (-nI m) 5 = (kAR, g) := A_ar (by simp [okA, neg])
  have o9 : aOpen g 0 0 1 1 0 5 (21 + nI m) = (kAR, g) := A_ar (by
    have : inB (21 + nI m) 1 20 = false := inB_f (Or.inr (by generalize nI m = z at *; grind))
    simp [okA, this])
  have o10 : aOpen g 0 0 1 1 0 5 (-nI m) = (kAR, g) := A_ar (by simp [okA, neg])
  have hn := wp_no hw 0
  have c1 : aClose g w = (kIX, g) := by unfold aClose; rw [hn]
  have c2 : aMove g w c r = (kIX, g) := by unfold aMove; rw [hn]
  have c3 : aLay g w 1 = (kIX, g) := by unfold aLay; rw [hn]
  have p1 : aPass g (-nI m) = (kAR, g) := by unfold aPass; rw [neg, if_neg (by decide)]
  have p2 : aPass g (201 + nI m) = (kAR, g) := by unfold aPass; rw [inB_f (Or.inr (by generalize nI m = z at *; grind)), if_neg (by decide)]
  have d1 : cell c 0 = false := by simp [cell, hc]
  have d2 : cell 0 r = false := by simp [cell, hr]
  have i1 : aInput g c 0 = (kIX, g) := by unfold aInput; rw [d1, if_neg (by decide)]
  have i2 : aInput g 0 r = (kIX, g) := by unfold aInput; rw [d2, if_neg (by decide)]
  have t1 : aAt g c 0 = kIX := by unfold aAt; rw [d1, if_neg (by decide)]
  have t2 : aAt g 0 r = kIX := by unfold aAt; rw [d2, if_neg (by decide)]
  have r1 : aPlace g w = kIX := by unfold aPlace aW; rw [hn]
  have r2 : aSeen g w = kIX := by unfold aSeen aW; rw [hn]
  have r3 : aPages g w = kIX := by unfold aPages aW; rw [hn]
  have r4 : aPic g w = kIX := by unfold aPic aW; rw [hn]
  have r5 : aPace g w = kIX := by unfold aPace aW; rw [hn]
  have r6 : aMiss g w = kIX := by unfold aMiss aW; rw [hn]
  have r7 : aDead g w = kIX := by unfold aDead aW; rw [hn]
  have e489 := ref_489 h hc hr (nI m)
  have e473 : 8 ≤ g.2.1.length ∨ 40 ≤ g.2.2 → fL_refuses_473 (nI g.2.2) g (nI m) c r = some (1, g) := fun hq => by
    have o11 : aOpen g 0 0 1 1 1 5 5 = (kST, g) := by
      unfold aOpen
      rw [if_pos (by decide), if_pos hq]
    unfold fL_refuses_473
    rw [p_z_1, Option.bind_some, o11, Option.bind_some, if_pos rfl]
    exact e489
  unfold fL_refuses_77
  rw [a8, a6]
  simp only [p_z_0, p_z_1, Option.bind_some, o1, o2, o3, o4, o5, o6, o7, o8, o9, o10, c1, c2, c3, p1, p2, i1, i2, t1, t2, r1, r2, r3, r4, r5, r6, r7, if_true]
  unfold aWins
  by_cases q1 : (8 : Int32) ≤ nI g.2.1.length
  · rw [if_pos q1]
    exact e473 (Or.inl ((le8 (by omega)).mp q1))
  · rw [if_neg q1]
    by_cases q2 : nI g.2.2 < 40
    · rw [if_pos q2]; exact e489
    · rw [if_neg q2]
      exact e473 (Or.inr (Nat.not_lt.mp fun z => q2 ((nI_T (b := 40) (by omega) (by decide)).mpr z)))
theorem ref_ok {g : Sg} (h : INV g) {m : Nat} (hm : m < 10000) : fL_refuses (nI g.2.2) g (nI m) = some (1, g) := by
  have h40 := h.n40
  have a50 : nI m - nI m / 50 * 50 = nI (m % 50) := pk_rem (d := 50) (by omega) (by decide) (by decide)
  have b50 : 0 ≤ nI (m % 50) ∧ nI (m % 50) ≤ 49 := ⟨nI_pos' (by omega), (nI_L (b := 49) (by omega) (by decide)).mpr (by omega)⟩
  have lo : ∀ hi, inB ((-1) - nI (m % 50)) 0 hi = false := fun hi => inB_f (Or.inl (by generalize nI (m % 50) = z at *; grind))
  have hi1 : inB (8 + nI (m % 50)) 0 7 = false := inB_f (Or.inr (by generalize nI (m % 50) = z at *; grind))
  have hi2 : inB (6 + nI (m % 50)) 0 5 = false := inB_f (Or.inr (by generalize nI (m % 50) = z at *; grind))
  have w1 : ∀ v, v ∈ g.2.1 → nI v ≠ (-1) - nI (m % 50) := fun v hv e => by
    have hp : 0 ≤ nI v := nI_pos' (by have := h.lt v hv; omega)
    rw [e] at hp
    generalize nI (m % 50) = z at *
    grind
  have w2 : ∀ v, v ∈ g.2.1 → nI v ≠ nI g.2.2 + nI (m % 50) := fun v hv e => by
    have := h.lt v hv
    rw [nI_add, nI_E (by omega) (by omega)] at e
    omega
  unfold fL_refuses
  by_cases h2 : nI m - nI m / 2 * 2 = 0
  · rw [if_pos h2]
    unfold fL_refuses_11
    rw [if_neg (by decide), a50]
    unfold fL_refuses_33
    rw [if_neg (by decide), a50]
    unfold fL_refuses_55
    rw [if_neg (by decide), a50]
    exact ref_77 h hm w1 (lo _) (lo _)
  · rw [if_neg h2]
    unfold fL_refuses_11
    rw [if_pos rfl, a50]
    unfold fL_refuses_33
    rw [if_pos rfl, a50]
    unfold fL_refuses_55
    rw [if_pos rfl, a50]
    exact ref_77 h hm w2 hi1 hi2
/-! TWO BROKERS WITH THE SAME NUMBERS ARE ALIKE -/
theorem al_115 (g : Sg) {n : Nat} (hn : n ≤ 40) : ∀ (f j : Nat), n < j + f → j ≤ n → fL_alike_115 (nI n) g f 1 (nI j) = some 1 := by
  intro f
  induction f with
  | zero => intro j h1 h2; omega
  | succ f ih =>
    intro j h1 h2
    unfold fL_alike_115
    by_cases hj : nI n ≤ nI j
    · rw [if_pos hj]; rfl
    · have : j < n := Nat.not_le.mp fun q => hj ((nI_L (by omega) (by omega)).mpr q)
      rw [if_neg hj, if_neg (by decide), if_pos rfl, if_pos rfl, if_pos rfl, if_pos rfl, if_pos rfl, if_pos rfl, if_pos rfl]
      unfold fL_alike_238
      rw [nI_1]
      exact ih (j + 1) (by omega) (by omega)
theorem al_56 (g : Sg) {n : Nat} (hn : n ≤ 40) : ∀ (f j : Nat), 48 ≤ j + 5 * f → 0 < f → j < 60 → fL_alike_56 (nI n) g (f + 1) 1 (nI j) = some 1 := by
  intro f
  induction f with
  | zero => intro j h1 h2; omega
  | succ f ih =>
    intro j h1 h2 h3
    unfold fL_alike_56
    by_cases hj : (48 : Int32) ≤ nI j
    · rw [if_pos hj]; exact al_115 g hn 49 0 (by omega) (by omega)
    · have h48 : j < 48 := Nat.not_le.mp fun q => hj ((nI_L (a := 48) (by decide) (by omega)).mpr q)
      rw [if_neg hj, if_neg (by decide), if_pos rfl]
      unfold fL_alike_104
      rw [show nI j + 5 = nI (j + 5) from nI_add j 5]
      by_cases hf : f = 0
      · subst hf
        unfold fL_alike_56
        rw [if_pos (show (48 : Int32) ≤ nI (j + 5) from (nI_L (a := 48) (by decide) (by omega)).mpr (by omega))]
        exact al_115 g hn 49 0 (by omega) (by omega)
      · exact ih (j + 5) (by omega) (by omega) (by omega)
theorem al_ok (g : Sg) {n : Nat} (hn : n ≤ 40) {m : Nat} (hm : m < 2 ^ 31) : fL_alike (nI n) g (nI m) = some 1 := by
  unfold fL_alike
  rw [if_pos rfl, if_pos rfl, if_pos rfl, if_pos rfl]
  unfold fL_alike_49
  rw [show nI m - nI m / 5 * 5 = nI (m % 5) from pk_rem (d := 5) hm (by decide) (by decide)]
  exact al_56 g hn 48 (m % 5) (by omega) (by omega) (by omega)
/-! AN ACT: one call of both, or ticks one by one -/
def stp (g : Sg) (o : Bool) (r : Int32 × Sg) : Prop := if o = true then ∃ x1 x2 x3 x4 x5 x6 x7, (x5 = 0 ∨ x5 = 1) ∧ r = aOpen g x1 x2 x3 x4 x5 x6 x7 else r = (aWins g, g) ∨ (∃ w, r = aClose g w) ∨ (∃ w c q, r = aMove g w c q) ∨ (∃ w b, r = aLay g w b) ∨ (∃ c q, r = aInput g c q) ∨ r = aShow g ∨ ∃ T, (1 ≤ T ∧ T ≤ 40) ∧ r = aPass g (nI T)
theorem itI_add (L : List Nat) (n : Nat) : ∀ (a b : Nat) (I : IT), itI L n (a + b) I = itI L n b (itI L n a I) := by
  intro a
  induction a with
  | zero => intro b I; rw [Nat.zero_add]; rfl
  | succ a ih => intro b I; rw [show a + 1 + b = (a + b) + 1 by omega]; exact ih b (passI L n I)
theorem aPass_n {g : Sg} {T : Nat} (h1 : 1 ≤ T) (h2 : T ≤ 200) (ht : g.1 0 1 + nI T ≤ 100000) : aPass g (nI T) = (itI g.2.1 g.2.2 T g.1 0 1, itI g.2.1 g.2.2 T g.1, g.2.1, g.2.2) := by
  unfold aPass
  have e : inB (nI T) 1 200 = true := by
    unfold inB
    rw [decide_eq_true (show (1 : Int32) ≤ nI T from (nI_L (a := 1) (by decide) (by omega)).mpr h1), decide_eq_true (show nI T ≤ (200 : Int32) from (nI_L (b := 200) (by omega) (by decide)).mpr h2)]
    rfl
  rw [if_pos e, if_pos ht, nI_clamp (by omega)]
theorem ac_298 {g : Sg} (h : INV g) (ht : g.1 0 1 ≤ 90000) {T : Nat} (h1 : 1 ≤ T) (h2 : T ≤ 40) (k : Int32) : ∀ (f j : Nat), T ≤ j + f → 1 ≤ j → j ≤ T → fL_act_298 k (f + 1) (itI g.2.1 g.2.2 (j - 1) g.1, g.2.1, g.2.2) 1 (nI T) (nI j) = some (aPass g (nI T)) := by
  have tk : ∀ M, M ≤ 40 → itI g.2.1 g.2.2 M g.1 0 1 + 1 ≤ 100000 := fun M hM => by
    have q := (it_XA (n := g.2.2) h.nd M g.1 (by omega) h.2.1 h.tk0.1 (by
      have a1 : 0 ≤ nI M := nI_pos' (by omega)
      have a2 : nI M ≤ 40 := (nI_L (b := 40) (by omega) (by decide)).mpr hM
      have := h.tk0.1
      generalize nI M = y at *; generalize g.1 0 1 = t at *; grind) h.tk0.2).2.2
    rw [q]
    have a1 : 0 ≤ nI M := nI_pos' (by omega)
    have a2 : nI M ≤ 40 := (nI_L (b := 40) (by omega) (by decide)).mpr hM
    have := h.tk0.1
    generalize nI M = y at *; generalize g.1 0 1 = t at *; grind
  have htT : g.1 0 1 + nI T ≤ 100000 := by
    have a1 : 0 ≤ nI T := nI_pos' (by omega)
    have a2 : nI T ≤ 40 := (nI_L (b := 40) (by omega) (by decide)).mpr h2
    have := h.tk0.1
    generalize nI T = y at *; generalize g.1 0 1 = t at *; grind
  have one : ∀ M, M ≤ 40 → aPass (itI g.2.1 g.2.2 M g.1, g.2.1, g.2.2) 1 = (itI g.2.1 g.2.2 (M + 1) g.1 0 1, itI g.2.1 g.2.2 (M + 1) g.1, g.2.1, g.2.2) := fun M hM => by
    rw [itI_add]
    exact aPass_n (T := 1) (g := (itI g.2.1 g.2.2 M g.1, g.2.1, g.2.2)) (by omega) (by omega) (tk M hM)
  have fin : ∀ f : Nat, fL_act_298 k (f + 1) (itI g.2.1 g.2.2 (T - 1) g.1, g.2.1, g.2.2) 1 (nI T) (nI T) = some (aPass g (nI T)) := fun f => by
    unfold fL_act_298
    rw [if_pos (Int32.le_refl _)]
    unfold fL_act_321
    rw [if_neg (by decide)]
    unfold fL_act_332
    rw [one _ (by omega), Option.bind_some, show T - 1 + 1 = T by omega, aPass_n h1 (by omega) htT]
  intro f
  induction f with
  | zero =>
    intro j h3 h5 h6
    have hjT : j = T := by omega
    subst hjT
    exact fin 0
  | succ f ih =>
    intro j h3 h5 h6
    by_cases hjT : j = T
    · subst hjT
      exact fin (f + 1)
    · have hlt : j < T := by omega
      unfold fL_act_298
      rw [if_neg (fun q => by have := (nI_L (by omega) (by omega)).mp q; omega), if_neg (by decide), one _ (by omega), Option.bind_some, nI_1, show j - 1 + 1 = (j + 1) - 1 by omega]
      exact ih (j + 1) (by omega) (by omega) (by omega)
theorem ac_291 {g : Sg} (h : INV g) (ht : g.1 0 1 ≤ 90000) {d y : Nat} (hd : 1 ≤ d ∧ d ≤ 40) (hy : y < 2 ^ 31) (k : Int32) : ∃ T, (1 ≤ T ∧ T ≤ 40) ∧ fL_act_291 k g 0 (nI d) (nI y) 1 = some (aPass g (nI T)) ∧ fL_act_291 k g 1 (nI d) (nI y) 1 = some (aPass g (nI T)) := by
  have hm : y % d < d := Nat.mod_lt _ (by omega)
  have e : 1 + (nI y - nI y / nI d * nI d) = nI (1 + y % d) := by
    rw [pk_rem hy (by omega) (by omega)]
    exact nI_add 1 (y % d)
  have hz : p_nzd (nI d) = some () := if_neg (nI_ne0 (by omega) (by omega))
  refine ⟨1 + y % d, ⟨by omega, by omega⟩, ?_, ?_⟩
  · unfold fL_act_291
    rw [hz, Option.bind_some, e]
    unfold fL_act_298
    have e2 : fL_act_321 k g 0 (nI (1 + y % d)) = some (aPass g (nI (1 + y % d))) := by
      unfold fL_act_321
      rw [if_pos rfl]
      rfl
    by_cases hj : nI (1 + y % d) ≤ 1
    · rw [if_pos hj, e2]
    · rw [if_neg hj, if_pos rfl, e2]
  · unfold fL_act_291
    rw [hz, Option.bind_some, e]
    exact ac_298 h ht (T := 1 + y % d) (by omega) (by omega) k 48 1 (by omega) (by omega) (by omega)
theorem nz8 : ∀ c : Fin 8, p_nzd (8 - nI c) = some () := by decide +kernel
theorem nz6 : ∀ c : Fin 6, p_nzd (6 - nI c) = some () := by decide +kernel
theorem ac_92 (k : Int32) (g : Sg) {y : Nat} (hy : y < 2 ^ 31) : ∃ x1 x2 x3 x4 x5 x6 x7, (x5 = 0 ∨ x5 = 1) ∧ fL_act_92 k g (nI y) = some (aOpen g x1 x2 x3 x4 x5 x6 x7) := by
  unfold fL_act_92
  have e8 : nI y - nI y / 8 * 8 = nI (y % 8) := pk_rem (d := 8) hy (by decide) (by decide)
  have e88 : nI y / 8 = nI (y / 8) := pk_div (d := 8) hy (by decide) (by decide)
  have e6 : nI y / 8 - nI y / 8 / 6 * 6 = nI (y / 8 % 6) := by rw [e88]; exact pk_rem (d := 6) (by omega) (by decide) (by decide)
  rw [e8, e6, show p_nzd (8 - nI (y % 8)) = some () from nz8 ⟨y % 8, by omega⟩, Option.bind_some, show p_nzd (6 - nI (y / 8 % 6)) = some () from nz6 ⟨y / 8 % 6, by omega⟩, Option.bind_some]
  split
  · unfold fL_act_157
    rw [p_z_1, Option.bind_some, Option.bind_some]
    exact ⟨_, _, _, _, _, _, _, Or.inr rfl, rfl⟩
  · unfold fL_act_157
    rw [p_z_0, Option.bind_some, Option.bind_some]
    exact ⟨_, _, _, _, _, _, _, Or.inl rfl, rfl⟩
theorem ac_22 {g : Sg} (h : INV g) (ht : g.1 0 1 ≤ 90000) {m y : Nat} (hm : m < 2 ^ 31) (hy : y < 2 ^ 31) (k w : Int32) : ∃ r, stp g (decide (m % 16 < 4)) r ∧ fL_act_22 k g (nI m) 0 (nI y) w = some r ∧ fL_act_22 k g (nI m) 1 (nI y) w = some r := by
  have e16 : nI m - nI m / 16 * 16 = nI (m % 16) := pk_rem (d := 16) hm (by decide) (by decide)
  unfold fL_act_22
  rw [e16]
  have hz : m % 16 < 16 := Nat.mod_lt _ (by decide)
  generalize m % 16 = z at hz ⊢
  have hz2 : z = 0 ∨ z = 1 ∨ z = 2 ∨ z = 3 ∨ z = 4 ∨ z = 5 ∨ z = 6 ∨ z = 7 ∨ z = 8 ∨ z = 9 ∨ z = 10 ∨ z = 11 ∨ z = 12 ∨ z = 13 ∨ z = 14 ∨ z = 15 := by omega
  rcases hz2 with rfl | rfl | rfl | rfl | rfl | rfl | rfl | rfl | rfl | rfl | rfl | rfl | rfl | rfl | rfl | rfl
  · obtain ⟨x1, x2, x3, x4, x5, x6, x7, h5, q⟩ := ac_92 k g hy
    rw [if_pos (show nI 0 = 0 by decide)]
    exact ⟨_, ⟨x1, x2, x3, x4, x5, x6, x7, h5, rfl⟩, q, q⟩
  · obtain ⟨x1, x2, x3, x4, x5, x6, x7, h5, q⟩ := ac_92 k g hy
    rw [if_neg (show ¬ nI 1 = 0 by decide), if_pos (show nI 1 = 1 by decide)]
    exact ⟨_, ⟨x1, x2, x3, x4, x5, x6, x7, h5, rfl⟩, q, q⟩
  · obtain ⟨x1, x2, x3, x4, x5, x6, x7, h5, q⟩ := ac_92 k g hy
    rw [if_neg (show ¬ nI 2 = 0 by decide), if_neg (show ¬ nI 2 = 1 by decide), if_pos (show nI 2 = 2 by decide)]
    exact ⟨_, ⟨x1, x2, x3, x4, x5, x6, x7, h5, rfl⟩, q, q⟩
  · obtain ⟨x1, x2, x3, x4, x5, x6, x7, h5, q⟩ := ac_92 k g hy
    rw [if_neg (show ¬ nI 3 = 0 by decide), if_neg (show ¬ nI 3 = 1 by decide), if_neg (show ¬ nI 3 = 2 by decide), if_pos (show nI 3 = 3 by decide)]
    exact ⟨_, ⟨x1, x2, x3, x4, x5, x6, x7, h5, rfl⟩, q, q⟩
  · rw [if_neg (show ¬ nI 4 = 0 by decide), if_neg (show ¬ nI 4 = 1 by decide), if_neg (show ¬ nI 4 = 2 by decide), if_neg (show ¬ nI 4 = 3 by decide), if_pos (show nI 4 = 4 by decide)]
    by_cases hq : nI y / 40 - nI y / 40 / 2 * 2 = 0
    · rw [if_pos hq]
      exact ⟨_, Or.inl rfl, rfl, rfl⟩
    · rw [if_neg hq]
      exact ⟨_, Or.inr (Or.inl ⟨_, rfl⟩), rfl, rfl⟩
  · rw [if_neg (show ¬ nI 5 = 0 by decide), if_neg (show ¬ nI 5 = 1 by decide), if_neg (show ¬ nI 5 = 2 by decide), if_neg (show ¬ nI 5 = 3 by decide), if_neg (show ¬ nI 5 = 4 by decide), if_pos (show nI 5 = 5 by decide)]
    exact ⟨_, Or.inr (Or.inr (Or.inl ⟨_, _, _, rfl⟩)), rfl, rfl⟩
  · rw [if_neg (show ¬ nI 6 = 0 by decide), if_neg (show ¬ nI 6 = 1 by decide), if_neg (show ¬ nI 6 = 2 by decide), if_neg (show ¬ nI 6 = 3 by decide), if_neg (show ¬ nI 6 = 4 by decide), if_neg (show ¬ nI 6 = 5 by decide), if_pos (show nI 6 = 6 by decide)]
    exact ⟨_, Or.inr (Or.inr (Or.inl ⟨_, _, _, rfl⟩)), rfl, rfl⟩
  · rw [if_neg (show ¬ nI 7 = 0 by decide), if_neg (show ¬ nI 7 = 1 by decide), if_neg (show ¬ nI 7 = 2 by decide), if_neg (show ¬ nI 7 = 3 by decide), if_neg (show ¬ nI 7 = 4 by decide), if_neg (show ¬ nI 7 = 5 by decide), if_neg (show ¬ nI 7 = 6 by decide), if_pos (show nI 7 = 7 by decide)]
    unfold fL_act_229
    by_cases hq : nI y / 40 - nI y / 40 / 2 * 2 = 0
    · rw [if_pos hq]
      exact ⟨_, Or.inr (Or.inr (Or.inr (Or.inl ⟨_, _, rfl⟩))), rfl, rfl⟩
    · rw [if_neg hq]
      exact ⟨_, Or.inr (Or.inr (Or.inr (Or.inl ⟨_, _, rfl⟩))), rfl, rfl⟩
  · rw [if_neg (show ¬ nI 8 = 0 by decide), if_neg (show ¬ nI 8 = 1 by decide), if_neg (show ¬ nI 8 = 2 by decide), if_neg (show ¬ nI 8 = 3 by decide), if_neg (show ¬ nI 8 = 4 by decide), if_neg (show ¬ nI 8 = 5 by decide), if_neg (show ¬ nI 8 = 6 by decide), if_neg (show ¬ nI 8 = 7 by decide), if_pos (show nI 8 = 8 by decide)]
    unfold fL_act_229
    by_cases hq : nI y / 40 - nI y / 40 / 2 * 2 = 0
    · rw [if_pos hq]
      exact ⟨_, Or.inr (Or.inr (Or.inr (Or.inl ⟨_, _, rfl⟩))), rfl, rfl⟩
    · rw [if_neg hq]
      exact ⟨_, Or.inr (Or.inr (Or.inr (Or.inl ⟨_, _, rfl⟩))), rfl, rfl⟩
  · rw [if_neg (show ¬ nI 9 = 0 by decide), if_neg (show ¬ nI 9 = 1 by decide), if_neg (show ¬ nI 9 = 2 by decide), if_neg (show ¬ nI 9 = 3 by decide), if_neg (show ¬ nI 9 = 4 by decide), if_neg (show ¬ nI 9 = 5 by decide), if_neg (show ¬ nI 9 = 6 by decide), if_neg (show ¬ nI 9 = 7 by decide), if_neg (show ¬ nI 9 = 8 by decide), if_pos (show nI 9 = 9 by decide)]
    exact ⟨_, Or.inr (Or.inr (Or.inr (Or.inr (Or.inl ⟨_, _, rfl⟩)))), rfl, rfl⟩
  · rw [if_neg (show ¬ nI 10 = 0 by decide), if_neg (show ¬ nI 10 = 1 by decide), if_neg (show ¬ nI 10 = 2 by decide), if_neg (show ¬ nI 10 = 3 by decide), if_neg (show ¬ nI 10 = 4 by decide), if_neg (show ¬ nI 10 = 5 by decide), if_neg (show ¬ nI 10 = 6 by decide), if_neg (show ¬ nI 10 = 7 by decide), if_neg (show ¬ nI 10 = 8 by decide), if_neg (show ¬ nI 10 = 9 by decide), if_pos (show nI 10 = 10 by decide)]
    exact ⟨_, Or.inr (Or.inr (Or.inr (Or.inr (Or.inl ⟨_, _, rfl⟩)))), rfl, rfl⟩
  · rw [if_neg (show ¬ nI 11 = 0 by decide), if_neg (show ¬ nI 11 = 1 by decide), if_neg (show ¬ nI 11 = 2 by decide), if_neg (show ¬ nI 11 = 3 by decide), if_neg (show ¬ nI 11 = 4 by decide), if_neg (show ¬ nI 11 = 5 by decide), if_neg (show ¬ nI 11 = 6 by decide), if_neg (show ¬ nI 11 = 7 by decide), if_neg (show ¬ nI 11 = 8 by decide), if_neg (show ¬ nI 11 = 9 by decide), if_neg (show ¬ nI 11 = 10 by decide), if_pos (show nI 11 = 11 by decide)]
    exact ⟨_, Or.inr (Or.inr (Or.inr (Or.inr (Or.inr (Or.inl rfl))))), rfl, rfl⟩
  · rw [if_neg (show ¬ nI 12 = 0 by decide), if_neg (show ¬ nI 12 = 1 by decide), if_neg (show ¬ nI 12 = 2 by decide), if_neg (show ¬ nI 12 = 3 by decide), if_neg (show ¬ nI 12 = 4 by decide), if_neg (show ¬ nI 12 = 5 by decide), if_neg (show ¬ nI 12 = 6 by decide), if_neg (show ¬ nI 12 = 7 by decide), if_neg (show ¬ nI 12 = 8 by decide), if_neg (show ¬ nI 12 = 9 by decide), if_neg (show ¬ nI 12 = 10 by decide), if_neg (show ¬ nI 12 = 11 by decide)]
    by_cases hq : nI y - nI y / 3 * 3 = 0
    · rw [if_pos hq, if_pos hq]
      obtain ⟨T, q1, q2, q3⟩ := ac_291 h ht (d := 40) (by omega) hy k
      exact ⟨_, Or.inr (Or.inr (Or.inr (Or.inr (Or.inr (Or.inr ⟨T, q1, rfl⟩))))), q2, q3⟩
    · rw [if_neg hq, if_neg hq]
      obtain ⟨T, q1, q2, q3⟩ := ac_291 h ht (d := 6) (by omega) hy k
      exact ⟨_, Or.inr (Or.inr (Or.inr (Or.inr (Or.inr (Or.inr ⟨T, q1, rfl⟩))))), q2, q3⟩
  · rw [if_neg (show ¬ nI 13 = 0 by decide), if_neg (show ¬ nI 13 = 1 by decide), if_neg (show ¬ nI 13 = 2 by decide), if_neg (show ¬ nI 13 = 3 by decide), if_neg (show ¬ nI 13 = 4 by decide), if_neg (show ¬ nI 13 = 5 by decide), if_neg (show ¬ nI 13 = 6 by decide), if_neg (show ¬ nI 13 = 7 by decide), if_neg (show ¬ nI 13 = 8 by decide), if_neg (show ¬ nI 13 = 9 by decide), if_neg (show ¬ nI 13 = 10 by decide), if_neg (show ¬ nI 13 = 11 by decide)]
    by_cases hq : nI y - nI y / 3 * 3 = 0
    · rw [if_pos hq, if_pos hq]
      obtain ⟨T, q1, q2, q3⟩ := ac_291 h ht (d := 40) (by omega) hy k
      exact ⟨_, Or.inr (Or.inr (Or.inr (Or.inr (Or.inr (Or.inr ⟨T, q1, rfl⟩))))), q2, q3⟩
    · rw [if_neg hq, if_neg hq]
      obtain ⟨T, q1, q2, q3⟩ := ac_291 h ht (d := 6) (by omega) hy k
      exact ⟨_, Or.inr (Or.inr (Or.inr (Or.inr (Or.inr (Or.inr ⟨T, q1, rfl⟩))))), q2, q3⟩
  · rw [if_neg (show ¬ nI 14 = 0 by decide), if_neg (show ¬ nI 14 = 1 by decide), if_neg (show ¬ nI 14 = 2 by decide), if_neg (show ¬ nI 14 = 3 by decide), if_neg (show ¬ nI 14 = 4 by decide), if_neg (show ¬ nI 14 = 5 by decide), if_neg (show ¬ nI 14 = 6 by decide), if_neg (show ¬ nI 14 = 7 by decide), if_neg (show ¬ nI 14 = 8 by decide), if_neg (show ¬ nI 14 = 9 by decide), if_neg (show ¬ nI 14 = 10 by decide), if_neg (show ¬ nI 14 = 11 by decide)]
    by_cases hq : nI y - nI y / 3 * 3 = 0
    · rw [if_pos hq, if_pos hq]
      obtain ⟨T, q1, q2, q3⟩ := ac_291 h ht (d := 40) (by omega) hy k
      exact ⟨_, Or.inr (Or.inr (Or.inr (Or.inr (Or.inr (Or.inr ⟨T, q1, rfl⟩))))), q2, q3⟩
    · rw [if_neg hq, if_neg hq]
      obtain ⟨T, q1, q2, q3⟩ := ac_291 h ht (d := 6) (by omega) hy k
      exact ⟨_, Or.inr (Or.inr (Or.inr (Or.inr (Or.inr (Or.inr ⟨T, q1, rfl⟩))))), q2, q3⟩
  · rw [if_neg (show ¬ nI 15 = 0 by decide), if_neg (show ¬ nI 15 = 1 by decide), if_neg (show ¬ nI 15 = 2 by decide), if_neg (show ¬ nI 15 = 3 by decide), if_neg (show ¬ nI 15 = 4 by decide), if_neg (show ¬ nI 15 = 5 by decide), if_neg (show ¬ nI 15 = 6 by decide), if_neg (show ¬ nI 15 = 7 by decide), if_neg (show ¬ nI 15 = 8 by decide), if_neg (show ¬ nI 15 = 9 by decide), if_neg (show ¬ nI 15 = 10 by decide), if_neg (show ¬ nI 15 = 11 by decide)]
    by_cases hq : nI y - nI y / 3 * 3 = 0
    · rw [if_pos hq, if_pos hq]
      obtain ⟨T, q1, q2, q3⟩ := ac_291 h ht (d := 40) (by omega) hy k
      exact ⟨_, Or.inr (Or.inr (Or.inr (Or.inr (Or.inr (Or.inr ⟨T, q1, rfl⟩))))), q2, q3⟩
    · rw [if_neg hq, if_neg hq]
      obtain ⟨T, q1, q2, q3⟩ := ac_291 h ht (d := 6) (by omega) hy k
      exact ⟨_, Or.inr (Or.inr (Or.inr (Or.inr (Or.inr (Or.inr ⟨T, q1, rfl⟩))))), q2, q3⟩

theorem ac_ok {g : Sg} (h : INV g) (ht : g.1 0 1 ≤ 90000) {m : Nat} (hm : m < 2 ^ 31) : ∃ r, stp g (decide (m % 16 < 4)) r ∧ fL_act (nI g.2.2) g (nI m) 0 = some r ∧ fL_act (nI g.2.2) g (nI m) 1 = some r := by
  unfold fL_act
  rw [show nI m / 16 = nI (m / 16) from pk_div (d := 16) hm (by decide) (by decide)]
  by_cases hk : nI g.2.2 = 0
  · rw [if_pos hk, if_pos hk]
    exact ac_22 h ht hm (by omega) _ _
  · rw [if_neg hk, if_neg hk, show p_nzd (nI g.2.2) = some () from if_neg hk, Option.bind_some, Option.bind_some]
    exact ac_22 h ht hm (by omega) _ _
theorem stp_INV {g : Sg} (h : INV g) {o : Bool} {r : Int32 × Sg} (hs : stp g o r) : INV r.2 := by
  unfold stp at hs
  split at hs
  · obtain ⟨x1, x2, x3, x4, x5, x6, x7, h5, rfl⟩ := hs
    exact h.opn x1 x2 x3 x4 x5 x6 x7 h5
  · rcases hs with rfl | ⟨w, rfl⟩ | ⟨w, c, q, rfl⟩ | ⟨w, b, rfl⟩ | ⟨c, q, rfl⟩ | rfl | ⟨T, -, rfl⟩
    · exact h
    · exact h.close w
    · exact h.move w c q
    · exact h.lay w b
    · exact h.input c q
    · exact h.show
    · exact h.pass _
theorem kAR_n : kAR < 0 := by decide
theorem kST_n : kST < 0 := by decide
theorem stp_n {g : Sg} (h : INV g) {o : Bool} {r : Int32 × Sg} (hs : stp g o r) : r.2.2.2 = g.2.2 + if o = true ∧ 0 ≤ r.1 then 1 else 0 := by
  unfold stp at hs
  cases o with
  | true =>
    rw [if_pos rfl] at hs
    obtain ⟨x1, x2, x3, x4, x5, x6, x7, h5, rfl⟩ := hs
    have f : ∀ z : Int32, z < 0 → ∀ g2 : Sg, g2.2.2 = g.2.2 → g2.2.2 = g.2.2 + if (true = true ∧ 0 ≤ z) then 1 else 0 := fun z hz g2 e => by
      rw [if_neg (fun q => Int32.not_le.mpr hz q.2)]
      exact e
    unfold aOpen
    by_cases hc : okA x1 x2 x3 x4 x6 x7 = true
    · rw [if_pos hc]
      by_cases h2 : 8 ≤ g.2.1.length ∨ 40 ≤ g.2.2
      · rw [if_pos h2]; exact f kST kST_n g rfl
      · rw [if_neg h2]
        cases hl : lendI (g.2.1 ++ [g.2.2]) g.2.2 (opI g.1 g.2.2 g.2.1.length x1 x2 x3 x4 x5) with
        | none => exact f kST kST_n (_, g.2.1, g.2.2) rfl
        | some J =>
          dsimp only
          rw [if_pos ⟨rfl, nI_pos' (by omega)⟩]
    · rw [if_neg hc]; exact f kAR kAR_n g rfl
  | false =>
    rw [if_neg (by decide)] at hs
    rw [if_neg (fun q => by cases q.1), Nat.add_zero]
    rcases hs with rfl | ⟨w, rfl⟩ | ⟨w, c, q, rfl⟩ | ⟨w, b, rfl⟩ | ⟨c, q, rfl⟩ | rfl | ⟨T, -, rfl⟩
    · rfl
    · unfold aClose; cases wp w 0 g.2.1 <;> rfl
    · unfold aMove
      cases wp w 0 g.2.1 with
      | none => rfl
      | some z => dsimp only; split <;> rfl
    · unfold aLay
      cases wp w 0 g.2.1 with
      | none => rfl
      | some z => dsimp only; split <;> rfl
    · unfold aInput; split <;> rfl
    · rfl
    · unfold aPass
      split
      · split <;> rfl
      · rfl
/-- how far the tick goes -/
theorem stp_t {g : Sg} (h : INV g) {o : Bool} {r : Int32 × Sg} (hs : stp g o r) {N : Nat} (hN : N ≤ 2000) (ht : g.1 0 1 ≤ nI N) : r.2.1 0 1 ≤ nI (N + 40) := by
  have hN2 : nI N ≤ 2000 := (nI_leI (a := N) (b := 2000) (by omega) (by omega)).mpr hN
  have hN0 : 0 ≤ nI N := nI_pos' (by omega)
  have same : ∀ z : Int32, z = g.1 0 1 → z ≤ nI (N + 40) := fun z hz => by
    rw [hz, ← nI_add, show nI 40 = (40 : Int32) by decide]
    generalize nI N = y at *; generalize g.1 0 1 = t at *; grind
  unfold stp at hs
  split at hs
  · obtain ⟨x1, x2, x3, x4, x5, x6, x7, h5, rfl⟩ := hs
    refine same _ ?_
    unfold aOpen
    split
    · split
      · rfl
      · have t0 : opI g.1 g.2.2 g.2.1.length x1 x2 x3 x4 x5 0 1 = g.1 0 1 := opI_0 (by omega)
        cases hl : lendI (g.2.1 ++ [g.2.2]) g.2.2 (opI g.1 g.2.2 g.2.1.length x1 x2 x3 x4 x5) with
        | none =>
          dsimp only
          rw [rf_0 _ _ (by omega), u2_k _ _ _ (by omega), t0]
        | some J =>
          dsimp only
          rw [lA_low _ _ (by omega), opJ, u2_k _ _ _ (by omega), u2_a _ _ _ _ (by omega), u2_a _ _ _ _ (by omega), u2_a _ _ _ _ (by omega), u2_a _ _ _ _ (by omega), u2_a _ _ _ _ (by omega), rf_0 _ _ (by omega), lend_0 hl, t0]
    · rfl
  · rcases hs with rfl | ⟨w, rfl⟩ | ⟨w, c, q, rfl⟩ | ⟨w, b, rfl⟩ | ⟨c, q, rfl⟩ | rfl | ⟨T, hT, rfl⟩
    · exact same _ rfl
    · refine same _ ?_
      unfold aClose
      cases wp w 0 g.2.1 with
      | none => rfl
      | some z => dsimp only; rw [lA_low _ _ (by omega), clI, u2_k _ _ _ (by omega), shl_r _ _ _ (by omega)]
    · refine same _ ?_
      unfold aMove
      cases wp w 0 g.2.1 with
      | none => rfl
      | some z =>
        dsimp only
        split
        · dsimp only; rw [lA_low _ _ (by omega), mvI_r _ (by omega) (by omega)]
        · rfl
    · refine same _ ?_
      unfold aLay
      cases wp w 0 g.2.1 with
      | none => rfl
      | some z =>
        dsimp only
        split
        · dsimp only; rw [lA_low _ _ (by omega), dnI, u2_r _ _ _ (by omega), shr_r _ _ (by omega)]
        · dsimp only; rw [lA_low _ _ (by omega), upI, u2_r _ _ _ (by omega), shl_r _ _ _ (by omega)]
    · refine same _ ?_
      unfold aInput
      split
      · dsimp only
        cases sh g.1 c q g.2.1 with
        | none => rfl
        | some w => exact inpI_o _ (Or.inl ⟨by decide, by decide⟩)
      · rfl
    · refine same _ ?_
      unfold aShow
      dsimp only
      rw [shSs_low _ _ _ (by omega)]
    · have hT0 : 0 ≤ nI T := nI_pos' (by omega)
      have hT2 : nI T ≤ 40 := (nI_L (b := 40) (by omega) (by decide)).mpr hT.2
      have t0 := h.tk0.1
      have hb : g.1 0 1 + nI T ≤ 100000 := by generalize nI N = y at *; generalize g.1 0 1 = t at *; generalize nI T = u at *; grind
      rw [aPass_n hT.1 (by omega) hb]
      dsimp only
      rw [(it_XA (n := g.2.2) h.nd T g.1 (by omega) h.2.1 h.tk0.1 hb h.tk0.2).2.2, ← nI_add, show nI 40 = (40 : Int32) by decide]
      generalize nI N = y at *; generalize g.1 0 1 = t at *; generalize nI T = u at *; grind
