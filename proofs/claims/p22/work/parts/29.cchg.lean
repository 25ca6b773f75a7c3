/-! THE COMPONENT: advance, move, close, lay -/
theorem C_fits (h : PH) (c r w t : Int32) : fX3_fits h c r w t = some (b2i (!decide (8 - c < w) && !decide (6 - r < t))) := by
  simp only [fX3_fits, fX3_fits_20, fX3_fits_21]
  by_cases b1 : 8 - c < w
  · simp [b1, b2i, p_z]
  · by_cases b2 : 6 - r < t <;> simp [b1, b2, b2i, p_z]
theorem M_advA {I E : IT} {P : PT} {n : Nat} {t : Int32} (h : inB t 1 200 = false) : fX3_advance (hC I E P n) 0 t = some (.inl ("java/lang/IllegalArgumentException", hC I E P n)) := by
  rw [fX3_advance]
  by_cases h1 : t < 1
  · rw [if_pos h1, fX3_advance_12]
  · rw [if_neg h1]
    by_cases h2 : t ≤ 200
    · unfold inB at h
      rw [decide_eq_true (Int32.not_lt.mp h1), decide_eq_true h2] at h
      cases h
    · rw [if_neg h2, fX3_advance_12]
theorem inB_p {t lo hi : Int32} (h : inB t lo hi = true) : lo ≤ t ∧ t ≤ hi := by
  unfold inB at h
  simp only [Bool.and_eq_true, decide_eq_true_eq] at h
  exact h
theorem M_advS {I E : IT} {P : PT} {n : Nat} {t : Int32} (h : inB t 1 200 = true) (h2 : ¬ I 0 1 + t ≤ 100000) : fX3_advance (hC I E P n) 0 t = some (.inl ("java/lang/IllegalStateException", hC I E P n)) := by
  rw [fX3_advance, if_neg (Int32.not_lt.mpr (inB_p h).1), if_pos (inB_p h).2, C_gi7, Option.bind_some, if_neg h2]
theorem itI_low (L : List Nat) (n : Nat) : ∀ (j : Nat) (I : IT) {a : Nat}, (1 ≤ a ∧ a < 10) → itI L n j I a = I a := by
  intro j
  induction j with
  | zero => intro I a _; rfl
  | succ j ih => intro I a h; rw [itI, ih _ h, passI_low _ _ _ h]
theorem itI_0 (L : List Nat) (n : Nat) : ∀ (j : Nat) (I : IT) {k : Nat}, k ≠ 1 → itI L n j I 0 k = I 0 k := by
  intro j
  induction j with
  | zero => intro I k _; rfl
  | succ j ih => intro I k h; rw [itI, ih _ h, passI_0 _ _ _ h]
theorem passI_17 (L : List Nat) (n : Nat) (I : IT) {a : Nat} (ha : 16 < a) : passI L n I a = I a := by
  unfold passI
  rw [msFs_low _ _ (by omega), drwI_low _ _ (by omega), stSs_low _ _ _ (by omega)]
theorem itI_17 (L : List Nat) (n : Nat) : ∀ (j : Nat) (I : IT) {a : Nat}, 16 < a → itI L n j I a = I a := by
  intro j
  induction j with
  | zero => intro I a _; rfl
  | succ j ih => intro I a h; rw [itI, ih _ h, passI_17 _ _ _ h]
theorem stSs_o (L : List Nat) : ∀ (l : List Nat) (I : IT) {j a : Nat}, j ∉ l → l.foldl (stS L) I a j = I a j := by
  intro l
  induction l with
  | nil => intro I j a _; rfl
  | cons x l ih => intro I j a h; rw [List.foldl_cons, ih _ (fun q => h (List.mem_cons_of_mem _ q)), stS_o L I (Or.inr (fun q => h (by rw [q]; exact List.mem_cons_self)))]
theorem passI_o {L : List Nat} (hd : L.Nodup) (n : Nat) (I : IT) {j a : Nat} (hj : j ∉ L) (ha : 1 ≤ a) : passI L n I a j = I a j := by
  have hv : j ∉ lvf L 0 n := fun q => hj (lvf_in q)
  unfold passI
  rw [msFs_p _ _ _ _ hd ha, if_neg hj]
  rw [← stSs_o L (lvf L 0 n) I (a := a) hv]
  have hb : ∀ v, (lvf L 0 n).foldl (efI ((lvf L 0 n).foldl (stS L) I)) none = some v → v ∈ L := fun v h => by
    rcases efI_mem _ _ _ h with h | h
    · cases h
    · exact lvf_in h
  generalize (lvf L 0 n).foldl (stS L) I = J at hb ⊢
  generalize (lvf L 0 n).foldl (efI J) none = b at hb ⊢
  unfold drwI
  cases b with
  | none => dsimp only; rw [u2_a _ _ _ _ (by omega)]
  | some w =>
    have e : j ≠ w := fun q => hj (by rw [q]; exact hb w rfl)
    dsimp only
    split
    · rw [finI_o _ (Or.inr e)]; simp [u2, e]; omega
    · simp [u2, e]; omega
theorem itI_o {L : List Nat} (hd : L.Nodup) (n : Nat) : ∀ (m : Nat) (I : IT) {j a : Nat}, j ∉ L → 1 ≤ a → itI L n m I a j = I a j := by
  intro m
  induction m with
  | zero => intro I j a _ _; rfl
  | succ m ih => intro I j a hj ha; rw [itI, ih _ hj ha, passI_o hd n I hj ha]
theorem M_advY {I E : IT} {P : PT} {L : List Nat} {n M : Nat} (h : RC I E P L n) (hM1 : M ≤ 200) (hi : inB (nI M) 1 200 = true) (h2 : I 0 1 + nI M ≤ 100000) : ∃ E', fX3_advance (hC I E P n) 0 (nI M) = some (.inr (itI L n M I 0 1, hC (itI L n M I) E' P n)) ∧ RC (itI L n M I) E' P L n := by
  obtain ⟨⟨hS, hB, hT, hP⟩, ⟨hF, ht, hz, hs⟩, ⟨hR, h02, hn⟩⟩ := h
  obtain ⟨E', q1, q2, q3, q4, q5⟩ := K_adv (M := M) hM1 M 0 300 I E hS hB hF ht h2 (by omega) (by omega)
  rw [nI_0] at q1
  refine ⟨E', ?_, ⟨q2, hB.e q5, fun q hq => ?_, hP⟩, ⟨q3, q4, hz.of (fun i hi a h1 h2 => itI_o hS.2.1 n M I (fun q => by have := hS.1.1.2.2 i q; omega) (by omega)), hs.of (itI_17 _ _ _ _ (by omega)) (itI_17 _ _ _ _ (by omega))⟩, ⟨hR.of (itI_0 _ _ _ _ (by omega)) (itI_low _ _ _ _ (by omega)), by rw [itI_0 _ _ _ _ (by omega)]; exact h02, hn⟩⟩
  · rw [fX3_advance, if_neg (Int32.not_lt.mpr (inB_p hi).1), if_pos (inB_p hi).2, C_gi7, Option.bind_some, if_pos h2]
    exact q1
  · rw [geo_shc (fun a h1 h2 => itI_low L n M I (by omega)) L q]; exact hT q hq
/-- after a change of the stack or of a rectangle -/
theorem S_re {K E : IT} {P : PT} {L : List Nat} {n : Nat} (hc : cP K E P L n) (hB : bN E P L n) (hP : pB P n) (hF : Fa 1 K L) (ht : tb K 100000) (hz : uz K n) (hs : sI K) (hR : RM L K) (h2 : K 0 2 = nI n) (hn : n ≤ 40) : ∃ E' P', fX3_rearrange (hC K E P n) 0 = some (hC (lA L K) E' P' n) ∧ RC (lA L K) E' P' L n := by
  obtain ⟨E', P', q1, q2, q3, q4, q5⟩ := S_rearrange hc
  have d := dk.a L K
  have hm : ∀ i, i ∈ L → i < n := hc.1.1.2.2
  refine ⟨E', P', q1, ⟨q2, ⟨by rw [q4 0 (by omega)]; exact hB.1, by rw [q3]; exact hB.2⟩, fun q hq => by rw [q5 q, if_pos hq], fun a q i hi => ?_⟩, ⟨hF.dk d, ?_, hz.of (fun i hi a h1 h3 => d.2.2 a i (fun q => by have := hm i q; omega)), hs.of (lA_low _ _ (by omega)) (lA_low _ _ (by omega))⟩, ⟨hR.la, by rw [lA_low _ _ (by omega)]; exact h2, hn⟩⟩
  · by_cases ha : a = 2
    · subst ha
      rw [q5 q] at hi
      split at hi
      · exact hm i (sh_mem L hi)
      · exact hP 2 q i hi
    · rw [q4 a ha] at hi
      exact hP a q i hi
  · unfold tb; rw [lA_low _ _ (by omega)]; exact ht
/-! move -/
theorem mv_eq {I : IT} {v : Nat} (hg : gOK I v) (c r : Int32) : (cell c r && (!decide (8 - c < I 4 v) && !decide (6 - r < I 5 v))) = (inB c 0 (8 - I 4 v) && inB r 0 (6 - I 5 v)) := by
  obtain ⟨⟨⟨a1, a2⟩, a3, a4⟩, ⟨a5, a6⟩, a7, a8⟩ := hg
  unfold cell inB
  rw [Bool.eq_iff_iff]
  simp only [Bool.and_eq_true, Bool.not_eq_true', decide_eq_true_eq, decide_eq_false_iff_not]
  constructor
  · rintro ⟨⟨⟨h1, h2⟩, h3, h4⟩, h5, h6⟩
    refine ⟨⟨h1, ?_⟩, h3, ?_⟩ <;> grind
  · rintro ⟨⟨h1, h2⟩, h3, h4⟩
    refine ⟨⟨⟨h1, ?_⟩, h3, ?_⟩, ?_, ?_⟩ <;> grind
theorem M_moveN {I E : IT} {P : PT} {L : List Nat} {n : Nat} (h : RC I E P L n) {x x2 x3 : Int32} (hx : plc x 0 L = -1) : fX3_move (hC I E P n) 0 x x2 x3 = some (.inl ("java/lang/IndexOutOfBoundsException", hC I E P n)) := by
  rw [fX3_move, C_ob, Option.bind_some, F_no h hx, Option.bind_some]
theorem M_moveB {I E : IT} {P : PT} {L : List Nat} {n p v : Nat} (h : RC I E P L n) (hp : L[p]? = some v) {x2 x3 : Int32} (hb : (inB x2 0 (8 - I 4 v) && inB x3 0 (6 - I 5 v)) = false) : fX3_move (hC I E P n) 0 (nI v) x2 x3 = some (.inl ("java/lang/IllegalArgumentException", hC I E P n)) := by
  obtain ⟨q, -, hv, hm⟩ := F_yes h hp
  rw [← mv_eq (h.1.1.1.2.1 v hm)] at hb
  rw [fX3_move, C_ob, Option.bind_some, q, Option.bind_some]
  dsimp only
  rw [C_isCell, Option.bind_some]
  cases hc : cell x2 x3 with
  | false => rw [if_pos (show b2i false = 0 from rfl), fX3_move_33]
  | true =>
    rw [hc, Bool.true_and] at hb
    rw [if_neg (show ¬ b2i true = 0 by decide), Option.bind_some, W_gi3 _ _ _ hv, Option.bind_some, W_gi4 _ _ _ hv, Option.bind_some, C_fits, Option.bind_some, hb, if_pos (show b2i false = 0 from rfl), fX3_move_33]
theorem mvI_o (I : IT) {v a j : Nat} {x2 x3 : Int32} (h : (a ≠ 2 ∧ a ≠ 3) ∨ j ≠ v) : mvI I v x2 x3 a j = I a j := by
  unfold mvI
  rcases h with ⟨h1, h2⟩ | h
  · rw [u2_a _ _ _ _ h2, u2_a _ _ _ _ h1]
  · simp [u2, h]
theorem mvI_r (I : IT) {v a : Nat} {x2 x3 : Int32} (h1 : a ≠ 2) (h2 : a ≠ 3) : mvI I v x2 x3 a = I a := by funext j; exact mvI_o I (Or.inl ⟨h1, h2⟩)
theorem M_moveY {I E : IT} {P : PT} {L : List Nat} {n p v : Nat} (h : RC I E P L n) (hp : L[p]? = some v) {x2 x3 : Int32} (hb : (inB x2 0 (8 - I 4 v) && inB x3 0 (6 - I 5 v)) = true) : ∃ E' P', fX3_move (hC I E P n) 0 (nI v) x2 x3 = some (.inr (hC (lA L (mvI I v x2 x3)) E' P' n)) ∧ RC (lA L (mvI I v x2 x3)) E' P' L n := by
  obtain ⟨q, -, hv, hm⟩ := F_yes h hp
  obtain ⟨⟨hS, hB, hT, hP⟩, ⟨hF, ht, hz, hs⟩, ⟨hR, h02, hn⟩⟩ := h
  have hg := hS.1.2.1 v hm
  have hb1 := hb
  rw [← mv_eq hg, Bool.and_eq_true] at hb1
  obtain ⟨hc, hf⟩ := hb1
  have row : ∀ a, a ≠ 2 → a ≠ 3 → mvI I v x2 x3 a = I a := fun a h1 h2 => mvI_r I h1 h2
  have hcP : cP (mvI I v x2 x3) E P L n := by
    refine ⟨⟨hS.1.1, fun i hi => ?_, hS.1.2.2⟩, hS.2.1, hS.2.2.2.1.of (row 15 (by omega) (by omega)) rfl rfl, ?_⟩
    · have g := hS.1.2.1 i hi
      by_cases e : i = v
      · subst e
        obtain ⟨-, g5, g6⟩ := g
        obtain ⟨a, b, ha, hb2, e1, e2⟩ := cell_nI hc
        obtain ⟨c1, c2⟩ := inB_p (show inB x2 0 7 = true by unfold cell at hc; exact (Bool.and_eq_true _ _ ▸ hc).1)
        obtain ⟨c3, c4⟩ := inB_p (show inB x3 0 5 = true by unfold cell at hc; exact (Bool.and_eq_true _ _ ▸ hc).2)
        unfold gOK
        rw [row 4 (by omega) (by omega), row 5 (by omega) (by omega), show mvI I i x2 x3 2 i = x2 by unfold mvI; rw [u2_a _ _ _ _ (by omega), u2_s], show mvI I i x2 x3 3 i = x3 by unfold mvI; rw [u2_s]]
        exact ⟨⟨⟨c1, c2⟩, c3, c4⟩, g5, g6⟩
      · unfold gOK
        rw [mvI_o I (Or.inr e), mvI_o I (Or.inr e), mvI_o I (Or.inr e), mvI_o I (Or.inr e)]
        exact g
    · rw [hS.2.2.2.2]
      have : frf (mvI I v x2 x3) = frf I := by
        funext a i
        unfold frf need
        rw [row 9 (by omega) (by omega), row 4 (by omega) (by omega), row 5 (by omega) (by omega)]
      rw [fr, fr, this]
  obtain ⟨E', P', q1, q2⟩ := S_re hcP hB hP (fun w hw => (hF w hw).of (by rw [row 0 (by omega) (by omega)]) (fun a h1 h2 => by rw [row a (by omega) (by omega)])) (by unfold tb; rw [row 0 (by omega) (by omega)]; exact ht) (hz.of (fun i _ a h1 h2 => by rw [row a (by omega) (by omega)])) (hs.of (row _ (by omega) (by omega)) (row _ (by omega) (by omega))) (hR.of (by rw [row 0 (by omega) (by omega)]) (row 1 (by omega) (by omega))) (by rw [row 0 (by omega) (by omega)]; exact h02) hn
  refine ⟨E', P', ?_, q2⟩
  rw [fX3_move, C_ob, Option.bind_some, q, Option.bind_some]
  dsimp only
  rw [C_isCell, Option.bind_some, hc, if_neg (show ¬ b2i true = 0 by decide), Option.bind_some, W_gi3 _ _ _ hv, Option.bind_some, W_gi4 _ _ _ hv, Option.bind_some, C_fits, Option.bind_some, hf, if_neg (show ¬ b2i true = 0 by decide), W_s1 _ _ _ hv, Option.bind_some, W_s2 _ _ _ hv, Option.bind_some, C_ob, Option.bind_some]
  show (fX3_rearrange (hC (mvI I v x2 x3) E P n) 0).bind _ = _
  rw [q1, Option.bind_some]
