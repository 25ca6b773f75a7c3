/-! THE REFERENCE: advance, open, close, move, lay -/
theorem mRef0 (I : IT) : fX4_refused (hM I) 0 0 = some (0, hM (rf I 0)) := by rw [mRefused]; rfl
theorem mRef1 (I : IT) : fX4_refused (hM I) 0 1 = some (1, hM (rf I 1)) := by rw [mRefused]; rfl
theorem mRef2 (I : IT) : fX4_refused (hM I) 0 2 = some (1, hM (rf I 2)) := by rw [mRefused]; rfl
theorem le8 {a : Nat} (h : a < 1000) : (8 : Int32) ≤ nI a ↔ 8 ≤ a := nI_L (a := 8) (by decide) h
theorem le40 {a : Nat} (h : a < 1000) : (40 : Int32) ≤ nI a ↔ 40 ≤ a := nI_L (a := 40) (by decide) h
def itI (L : List Nat) (n : Nat) : Nat → IT → IT
  | 0, I => I
  | j + 1, I => itI L n j (passI L n I)
theorem passI_low (L : List Nat) (n : Nat) (I : IT) {a : Nat} (ha : (1 ≤ a ∧ a < 10)) : passI L n I a = I a := by
  unfold passI
  rw [msFs_low _ _ (by omega), drwI_low _ _ (by omega), stSs_low _ _ _ (by omega)]
theorem passI_0 (L : List Nat) (n : Nat) (I : IT) {k : Nat} (hk : k ≠ 1) : passI L n I 0 k = I 0 k := by
  unfold passI
  rw [msFs_low _ _ (by omega), drwI_0 _ _ hk, stSs_low _ _ _ (by omega)]
theorem RM.pass {L : List Nat} {I : IT} (hR : RM L I) (n : Nat) : RM L (passI L n I) := hR.of (passI_0 _ _ _ (by omega)) (passI_low _ _ _ (by omega))
theorem mAdvance_42 {L : List Nat} {n M : Nat} (hn : n ≤ 40) (hMM : M < 1000) : ∀ (j k f : Nat) (I : IT), RM L I → I 0 2 = nI n → k + j = M → j < f → fX4_advance_42 f (hM I) 0 (nI M) (nI k) = some (itI L n j I 0 1, hM (itI L n j I)) := by
  intro j
  induction j with
  | zero =>
    intro k f I hR h0 hk hf
    obtain ⟨f, rfl⟩ : ∃ g, f = g + 1 := ⟨f - 1, by omega⟩
    rw [fX4_advance_42, if_pos ((nI_L (by omega) (by omega)).mpr (by omega)), hM_gi1, Option.bind_some]
    rfl
  | succ j ih =>
    intro k f I hR h0 hk hf
    obtain ⟨f, rfl⟩ : ∃ g, f = g + 1 := ⟨f - 1, by omega⟩
    rw [fX4_advance_42, if_neg (fun q => by have := (nI_L (by omega) (by omega)).mp q; omega), hM_ob, Option.bind_some, mPass hn hR h0, Option.bind_some, nI_1]
    exact ih (k + 1) f _ (hR.pass n) (by rw [passI_0 _ _ _ (by omega)]; exact h0) (by omega) (by omega)
theorem mAdv_r {I : IT} {t : Int32} (h : inB t 1 200 = false) : fX4_advance (hM I) 0 t = some (0, hM (rf I 1)) := by
  rw [fX4_advance, mIn, Option.bind_some, h, if_pos (show b2i false = 0 from rfl), fX4_advance_32, hM_ob, Option.bind_some, mRef1, Option.bind_some, if_neg e10]
theorem mAdv_s {I : IT} {t : Int32} (h : inB t 1 200 = true) (h2 : ¬ I 0 1 + t ≤ 100000) : fX4_advance (hM I) 0 t = some (0, hM (rf I 2)) := by
  rw [fX4_advance, mIn, Option.bind_some, h, if_neg (show ¬ b2i true = 0 by decide), hM_gi1, Option.bind_some, if_neg h2, fX4_advance_32, hM_ob, Option.bind_some, mRef2, Option.bind_some, if_neg e10]
theorem mAdv_y {L : List Nat} {n M : Nat} {I : IT} (hn : n ≤ 40) (hR : RM L I) (h0 : I 0 2 = nI n) (hM1 : M ≤ 200) (h : inB (nI M) 1 200 = true) (h2 : I 0 1 + nI M ≤ 100000) : fX4_advance (hM I) 0 (nI M) = some (itI L n M (rf I 0) 0 1, hM (itI L n M (rf I 0))) := by
  have k := mAdvance_42 (M := M) hn (by omega) M 0 300 (rf I 0) (hR.rf 0) (by rw [rf_0 _ _ (by omega)]; exact h0) (by omega) (by omega)
  rw [nI_0] at k
  rw [fX4_advance, mIn, Option.bind_some, h, if_neg (show ¬ b2i true = 0 by decide), hM_gi1, Option.bind_some, if_pos h2, fX4_advance_32, hM_ob, Option.bind_some, mRef0, Option.bind_some, if_pos rfl]
  exact k
/-! open -/
def okA (x1 x2 x3 x4 x6 x7 : Int32) : Bool := (((((inB x1 0 7 && inB x2 0 5) && inB x3 1 (8 - x1)) && inB x4 1 (6 - x2)) && inB x6 1 100) && inB x7 1 20)
def opI (I : IT) (n m : Nat) (x1 x2 x3 x4 x5 : Int32) : IT := u2 (u2 (u2 (u2 (u2 (u2 (u2 I 2 n x1) 3 n x2) 4 n x3) 5 n x4) 6 n x5) 1 m (nI n)) 0 3 (nI (m + 1))
def opJ (J : IT) (n : Nat) (x6 x7 : Int32) : IT := u2 (u2 (u2 (u2 (u2 (u2 J 7 n x6) 8 n x7) 11 n 1) 14 n (J 0 1)) 15 n (-1)) 0 2 (nI (n + 1))
theorem mOpen_r {I : IT} {x1 x2 x3 x4 x5 x6 x7 : Int32} (h : okA x1 x2 x3 x4 x6 x7 = false) : fX4_open (hM I) 0 x1 x2 x3 x4 x5 x6 x7 = some (0, hM (rf I 1)) := by
  have e82 : fX4_open_82 (hM I) 0 x1 x2 x3 x4 x5 x6 x7 = some (0, hM (rf I 1)) := by
    rw [fX4_open_82, fX4_open_83, if_pos rfl, fX4_open_112, fX4_open_113, if_pos rfl, fX4_open_192, if_pos rfl, fX4_open_212, hM_ob, Option.bind_some, mRef1, Option.bind_some, if_neg e10]
  have e23 : fX4_open_23 (hM I) 0 x1 x2 x3 x4 x5 x6 x7 = some (0, hM (rf I 1)) := by
    rw [fX4_open_23, fX4_open_24, if_pos rfl]
    exact e82
  unfold okA at h
  rw [fX4_open, mIn, Option.bind_some]
  cases h1 : inB x1 0 7 with
  | false => rw [if_pos (show b2i false = 0 from rfl)]; exact e23
  | true =>
    rw [if_neg (show ¬ b2i true = 0 by decide), mIn, Option.bind_some]
    cases h2 : inB x2 0 5 with
    | false => rw [if_pos (show b2i false = 0 from rfl)]; exact e23
    | true =>
      rw [if_neg (show ¬ b2i true = 0 by decide), fX4_open_24, if_neg e10, mIn, Option.bind_some]
      cases h3 : inB x3 1 (8 - x1) with
      | false => rw [if_pos (show b2i false = 0 from rfl)]; exact e82
      | true =>
        rw [if_neg (show ¬ b2i true = 0 by decide), mIn, Option.bind_some]
        cases h4 : inB x4 1 (6 - x2) with
        | false => rw [if_pos (show b2i false = 0 from rfl)]; exact e82
        | true =>
          rw [if_neg (show ¬ b2i true = 0 by decide), mIn, Option.bind_some]
          cases h5 : inB x6 1 100 with
          | false => rw [if_pos (show b2i false = 0 from rfl)]; exact e82
          | true =>
            rw [if_neg (show ¬ b2i true = 0 by decide), mIn, Option.bind_some]
            cases h6 : inB x7 1 20 with
            | false => rw [if_pos (show b2i false = 0 from rfl)]; exact e82
            | true => rw [h1, h2, h3, h4, h5, h6] at h; cases h
theorem mOpen_83 {I : IT} {x1 x2 x3 x4 x5 x6 x7 : Int32} (h : okA x1 x2 x3 x4 x6 x7 = true) : fX4_open (hM I) 0 x1 x2 x3 x4 x5 x6 x7 = fX4_open_83 (hM I) 0 x1 x2 x3 x4 x5 x6 x7 1 := by
  unfold okA at h
  simp only [Bool.and_eq_true] at h
  obtain ⟨⟨⟨⟨⟨h1, h2⟩, h3⟩, h4⟩, h5⟩, h6⟩ := h
  have e1 : ¬ b2i true = 0 := by decide
  rw [fX4_open, mIn, Option.bind_some, h1, if_neg e1, mIn, Option.bind_some, h2, if_neg e1, fX4_open_24, if_neg e10, mIn, Option.bind_some, h3, if_neg e1, mIn, Option.bind_some, h4, if_neg e1, mIn, Option.bind_some, h5, if_neg e1, mIn, Option.bind_some, h6, if_neg e1]
theorem mOpen_f {L : List Nat} {n : Nat} {I : IT} (hR : RM L I) (h0 : I 0 2 = nI n) (hn : n ≤ 40) {x1 x2 x3 x4 x5 x6 x7 : Int32} (h : okA x1 x2 x3 x4 x6 x7 = true) (hf : 8 ≤ L.length ∨ 40 ≤ n) : fX4_open (hM I) 0 x1 x2 x3 x4 x5 x6 x7 = some (0, hM (rf I 2)) := by
  have e112 : fX4_open_112 (hM I) 0 x1 x2 x3 x4 x5 x6 x7 1 = some (0, hM (rf I 2)) := by
    rw [fX4_open_112, fX4_open_113, if_pos rfl, fX4_open_192, if_neg e10, if_pos rfl, fX4_open_212, hM_ob, Option.bind_some, mRef2, Option.bind_some, if_neg e10]
  rw [mOpen_83 h, fX4_open_83, if_neg e10, hM_gi3, Option.bind_some, hR.1]
  by_cases h1 : 8 ≤ L.length
  · rw [if_pos ((le8 (by have := hR.2.1; omega)).mpr h1)]
    exact e112
  · rw [if_neg (fun q => h1 ((le8 (by have := hR.2.1; omega)).mp q)), hM_gi2, Option.bind_some, h0, if_pos ((le40 (by omega)).mpr (by omega))]
    exact e112
theorem RM.op {L : List Nat} {n : Nat} {I : IT} (hR : RM L I) (hL : L.length < 8) (hn : n < 40) (x1 x2 x3 x4 x5 : Int32) : RM (L ++ [n]) (opI I n L.length x1 x2 x3 x4 x5) := by
  refine ⟨?_, by simp; omega, fun k v h => ?_⟩
  · rw [opI, u2_s]
    simp
  · have e : ∀ j, opI I n L.length x1 x2 x3 x4 x5 1 j = if j = L.length then nI n else I 1 j := fun j => by
      unfold opI
      rw [u2_a _ _ _ _ (by omega)]
      by_cases hj : j = L.length
      · rw [if_pos hj, hj, u2_s]
      · rw [if_neg hj, u2_k _ _ _ hj]
        simp only [u2_a _ _ _ _ (show (1 : Nat) ≠ 2 by omega), u2_a _ _ _ _ (show (1 : Nat) ≠ 3 by omega), u2_a _ _ _ _ (show (1 : Nat) ≠ 4 by omega), u2_a _ _ _ _ (show (1 : Nat) ≠ 5 by omega), u2_a _ _ _ _ (show (1 : Nat) ≠ 6 by omega)]
    rw [e]
    by_cases hk : k < L.length
    · rw [List.getElem?_append_left hk] at h
      rw [if_neg (by omega)]
      exact hR.2.2 k v h
    · have hk2 : k = L.length := by
        have := (List.getElem?_eq_some_iff.mp h).1
        simp at this
        omega
      subst hk2
      simp at h
      rw [if_pos rfl, ← h]
      exact ⟨rfl, hn⟩
theorem op_03 {I : IT} {n m : Nat} {x1 x2 x3 x4 x5 : Int32} : opI I n m x1 x2 x3 x4 x5 0 3 = nI (m + 1) := by rw [opI, u2_s]
theorem op_02 {I : IT} {n m : Nat} {x1 x2 x3 x4 x5 : Int32} : opI I n m x1 x2 x3 x4 x5 0 2 = I 0 2 := by
  unfold opI
  rw [u2_k _ _ _ (show (2 : Nat) ≠ 3 by omega), u2_a _ _ _ _ (show (0 : Nat) ≠ 1 by omega), u2_a _ _ _ _ (show (0 : Nat) ≠ 6 by omega), u2_a _ _ _ _ (show (0 : Nat) ≠ 5 by omega), u2_a _ _ _ _ (show (0 : Nat) ≠ 4 by omega), u2_a _ _ _ _ (show (0 : Nat) ≠ 3 by omega), u2_a _ _ _ _ (show (0 : Nat) ≠ 2 by omega)]
theorem mFrame {I : IT} {n : Nat} (h0 : I 0 2 = nI n) (hn : n < 40) (x1 x2 x3 x4 : Int32) : fX4_frame (hM I) 0 x1 x2 x3 x4 = some (hM (u2 (u2 (u2 (u2 I 2 n x1) 3 n x2) 4 n x3) 5 n x4)) := by
  simp -implicitDefEqProofs only [fX4_frame, Option.bind_some, hM_gr5, hM_gr6, hM_gr7, hM_gr8, hM_gi2, h0, hM_st2 _ _ hn, hM_st3 _ _ hn, hM_st4 _ _ hn, hM_st5 _ _ hn, u2_a _ _ _ _ (show (0 : Nat) ≠ 2 by omega), u2_a _ _ _ _ (show (0 : Nat) ≠ 3 by omega), u2_a _ _ _ _ (show (0 : Nat) ≠ 4 by omega)]
theorem mOpen_113 {L : List Nat} {n : Nat} {I : IT} (hR : RM L I) (h0 : I 0 2 = nI n) (hL : L.length < 8) (hn : n < 40) {x1 x2 x3 x4 x5 x6 x7 : Int32} (h5 : x5 = 0 ∨ x5 = 1) :
    fX4_open_113 (hM I) 0 x1 x2 x3 x4 x5 x6 x7 1 1 = (fX4_lend (hM (opI I n L.length x1 x2 x3 x4 x5)) 0 (nI n)).bind fun y79 => (p_gi y79.2 0 4 3).bind fun v81 => if y79.1 = 0 then (fX4_open_188 y79.2 0 x6 x7 1 y79.1 1 v81 0) else (fX4_open_188 y79.2 0 x6 x7 1 y79.1 0 v81 0) := by
  rw [fX4_open_113, if_neg e10, hM_ob, Option.bind_some, mFrame h0 hn, Option.bind_some, hM_gr9, Option.bind_some, hM_gi2, Option.bind_some]
  have g0 : u2 (u2 (u2 (u2 I 2 n x1) 3 n x2) 4 n x3) 5 n x4 0 2 = nI n := by
    rw [u2_a _ _ _ _ (show (0 : Nat) ≠ 5 by omega), u2_a _ _ _ _ (show (0 : Nat) ≠ 4 by omega), u2_a _ _ _ _ (show (0 : Nat) ≠ 3 by omega), u2_a _ _ _ _ (show (0 : Nat) ≠ 2 by omega), h0]
  have g3 : u2 (u2 (u2 (u2 I 2 n x1) 3 n x2) 4 n x3) 5 n x4 0 3 = nI L.length := by
    rw [u2_a _ _ _ _ (show (0 : Nat) ≠ 5 by omega), u2_a _ _ _ _ (show (0 : Nat) ≠ 4 by omega), u2_a _ _ _ _ (show (0 : Nat) ≠ 3 by omega), u2_a _ _ _ _ (show (0 : Nat) ≠ 2 by omega), hR.1]
  unfold opI
  generalize u2 (u2 (u2 (u2 I 2 n x1) 3 n x2) 4 n x3) 5 n x4 = K at g0 g3 ⊢
  rw [g0, hM_sb6 _ _ hn h5, Option.bind_some, hM_gr4, Option.bind_some, hM_gi3, Option.bind_some, hM_gi2, Option.bind_some, u2_a _ _ _ _ (show (0 : Nat) ≠ 6 by omega), u2_a _ _ _ _ (show (0 : Nat) ≠ 6 by omega), g0, g3, hM_st1 _ _ hL, Option.bind_some, hM_gi3, Option.bind_some, u2_a _ _ _ _ (show (0 : Nat) ≠ 1 by omega), u2_a _ _ _ _ (show (0 : Nat) ≠ 6 by omega), g3, nI_1, hM_si3, Option.bind_some, hM_gi2, Option.bind_some, u2_k _ _ _ (show (2 : Nat) ≠ 3 by omega), u2_a _ _ _ _ (show (0 : Nat) ≠ 1 by omega), u2_a _ _ _ _ (show (0 : Nat) ≠ 6 by omega), g0, hM_ob, Option.bind_some]
theorem mOpen_n {J : IT} {m : Nat} (g3 : J 0 3 = nI (m + 1)) {x6 x7 : Int32} : fX4_open_188 (hM J) 0 x6 x7 1 0 1 (nI (m + 1)) 0 = some (0, hM (rf (u2 J 0 3 (nI m)) 2)) := by
  rw [fX4_open_188, hM_si3, Option.bind_some, fX4_open_192, if_neg e10, if_pos rfl, nI_pred, fX4_open_212, hM_ob, Option.bind_some, mRef2, Option.bind_some, if_neg e10]
theorem mOpen_j {L : List Nat} {n : Nat} {K : IT} (r2 : K 0 2 = nI n) (hRr : RM (L ++ [n]) K) (hn : n < 40) {x6 x7 : Int32} : RM (L ++ [n]) (opJ K n x6 x7) := by
  refine hRr.of ?_ ?_
  · unfold opJ
    rw [u2_k _ _ _ (show (3 : Nat) ≠ 2 by omega), u2_a _ _ _ _ (show (0 : Nat) ≠ 15 by omega), u2_a _ _ _ _ (show (0 : Nat) ≠ 14 by omega), u2_a _ _ _ _ (show (0 : Nat) ≠ 11 by omega), u2_a _ _ _ _ (show (0 : Nat) ≠ 8 by omega), u2_a _ _ _ _ (show (0 : Nat) ≠ 7 by omega)]
  · unfold opJ
    rw [u2_r _ _ _ (show (1 : Nat) ≠ 0 by omega), u2_r _ _ _ (show (1 : Nat) ≠ 15 by omega), u2_r _ _ _ (show (1 : Nat) ≠ 14 by omega), u2_r _ _ _ (show (1 : Nat) ≠ 11 by omega), u2_r _ _ _ (show (1 : Nat) ≠ 8 by omega), u2_r _ _ _ (show (1 : Nat) ≠ 7 by omega)]
theorem opJ_02 {K : IT} {n : Nat} {x6 x7 : Int32} : opJ K n x6 x7 0 2 = nI (n + 1) := by rw [opJ, u2_s]
theorem mOpen_t {L : List Nat} {n : Nat} {K : IT} (r2 : K 0 2 = nI n) (hRr : RM (L ++ [n]) K) (hn : n < 40) {x6 x7 : Int32} :
    ((p_gr (hM K) 0 4 10).bind fun a_6 => (p_gi (hM K) 0 4 2).bind fun v8 => (p_st (hM K) a_6 v8 x6).bind fun h_10 => (p_gr h_10 0 4 11).bind fun a_12 => (p_gi h_10 0 4 2).bind fun v14 => (p_st h_10 a_12 v14 x7).bind fun h_16 => (p_gr h_16 0 4 14).bind fun a_18 => (p_gi h_16 0 4 2).bind fun v20 => (p_st h_16 a_18 v20 1).bind fun h_22 => (p_gr h_22 0 4 17).bind fun a_24 => (p_gi h_22 0 4 2).bind fun v26 => (p_gi h_22 0 4 1).bind fun v28 => (p_st h_22 a_24 v26 v28).bind fun h_30 => (p_gr h_30 0 4 18).bind fun a_32 => (p_gi h_30 0 4 2).bind fun v34 => (p_st h_30 a_32 v34 (-1)).bind fun h_36 => (p_gi h_36 0 4 2).bind fun v38 => (p_si h_36 0 4 2 (v38 + 1)).bind fun h_40 => (p_ob h_40 0 4).bind fun _ => (fX4_lendAll h_40 0).bind fun h_44 => (p_gi h_44 0 4 2).bind fun v46 => some ((v46 - 1), h_44))
    = some (nI n, hM (lA (L ++ [n]) (opJ K n x6 x7))) := by
  have z7 : ∀ (J : IT) (x : Int32) (k : Nat), u2 J 7 n x 0 k = J 0 k := fun J x k => u2_a _ _ _ _ (by omega)
  have z8 : ∀ (J : IT) (x : Int32) (k : Nat), u2 J 8 n x 0 k = J 0 k := fun J x k => u2_a _ _ _ _ (by omega)
  have z11 : ∀ (J : IT) (x : Int32) (k : Nat), u2 J 11 n x 0 k = J 0 k := fun J x k => u2_a _ _ _ _ (by omega)
  have z14 : ∀ (J : IT) (x : Int32) (k : Nat), u2 J 14 n x 0 k = J 0 k := fun J x k => u2_a _ _ _ _ (by omega)
  have z15 : ∀ (J : IT) (x : Int32) (k : Nat), u2 J 15 n x 0 k = J 0 k := fun J x k => u2_a _ _ _ _ (by omega)
  have e : u2 (u2 (u2 (u2 (u2 (u2 K 7 n x6) 8 n x7) 11 n 1) 14 n (K 0 1)) 15 n (-1)) 0 2 (nI (n + 1)) = opJ K n x6 x7 := rfl
  rw [hM_gr10, Option.bind_some, hM_gi2, Option.bind_some, r2, hM_st7 _ _ hn, Option.bind_some, hM_gr11, Option.bind_some, hM_gi2, Option.bind_some, z7, r2, hM_st8 _ _ hn, Option.bind_some, hM_gr14, Option.bind_some, hM_gi2, Option.bind_some, z8, z7, r2, hM_st11 _ _ hn, Option.bind_some, hM_gr17, Option.bind_some, hM_gi2, Option.bind_some, hM_gi1, Option.bind_some, z11, z11, z8, z7, z8, z7, r2, hM_st14 _ _ hn, Option.bind_some, hM_gr18, Option.bind_some, hM_gi2, Option.bind_some, z14, z11, z8, z7, r2, hM_st15 _ _ hn, Option.bind_some, hM_gi2, Option.bind_some, z15, z14, z11, z8, z7, r2, nI_1, hM_si2, Option.bind_some, e, hM_ob, Option.bind_some, mLendAll (mOpen_j r2 hRr hn), Option.bind_some, hM_gi2, Option.bind_some, lA_low _ _ (by omega), opJ_02, nI_pred]
theorem mOpen_s {L : List Nat} {n : Nat} {J : IT} (j3 : J 0 3 = nI (L.length + 1)) (j2 : J 0 2 = nI n) (hR : RM (L ++ [n]) J) (hn : n < 40) {x6 x7 : Int32} : fX4_open_188 (hM J) 0 x6 x7 1 1 0 (nI (L.length + 1)) 0 = some (nI n, hM (lA (L ++ [n]) (opJ (rf J 0) n x6 x7))) := by
  have hJ : u2 J 0 3 (nI (L.length + 1) - 0) = J := by
    rw [show nI (L.length + 1) - 0 = nI (L.length + 1) by grind, ← j3]
    exact u2_same J 0 3
  rw [fX4_open_188, hM_si3, Option.bind_some, hJ, fX4_open_192, if_neg e10, if_neg e10, fX4_open_212, hM_ob, Option.bind_some, mRef0, Option.bind_some, if_pos rfl]
  exact mOpen_t (by rw [rf_0 _ _ (by omega)]; exact j2) (hR.rf 0) hn
def openI (L : List Nat) (n : Nat) (I : IT) (x1 x2 x3 x4 x5 x6 x7 : Int32) : Int32 × IT := match lendI (L ++ [n]) n (opI I n L.length x1 x2 x3 x4 x5) with
  | none => (0, rf (u2 (opI I n L.length x1 x2 x3 x4 x5) 0 3 (nI L.length)) 2)
  | some J => (nI n, lA (L ++ [n]) (opJ (rf J 0) n x6 x7))
theorem mOpen_y {L : List Nat} {n : Nat} {I : IT} (hR : RM L I) (h0 : I 0 2 = nI n) (hL : L.length < 8) (hn : n < 40) {x1 x2 x3 x4 x5 x6 x7 : Int32} (h : okA x1 x2 x3 x4 x6 x7 = true) (h5 : x5 = 0 ∨ x5 = 1) :
    fX4_open (hM I) 0 x1 x2 x3 x4 x5 x6 x7 = some ((openI L n I x1 x2 x3 x4 x5 x6 x7).1, hM (openI L n I x1 x2 x3 x4 x5 x6 x7).2) := by
  have hR2 := hR.op hL hn x1 x2 x3 x4 x5
  rw [mOpen_83 h, fX4_open_83, if_neg e10, hM_gi3, Option.bind_some, hR.1, if_neg (fun q => by have := (le8 (by omega)).mp q; omega), hM_gi2, Option.bind_some, h0, if_neg (fun q => by have := (le40 (by omega)).mp q; omega), mOpen_113 hR h0 hL hn h5, mLend hn hR2]
  unfold openI
  cases hl : lendI (L ++ [n]) n (opI I n L.length x1 x2 x3 x4 x5) with
  | none =>
    dsimp only
    rw [Option.bind_some, hM_gi3, Option.bind_some, if_pos rfl, op_03]
    exact mOpen_n op_03
  | some J =>
    have j3 : J 0 3 = nI (L.length + 1) := by rw [lendI_low hl (by omega)]; exact op_03
    have j2 : J 0 2 = nI n := by rw [lendI_low hl (by omega), op_02]; exact h0
    dsimp only
    rw [Option.bind_some, hM_gi3, Option.bind_some, if_neg e10, j3]
    exact mOpen_s j3 j2 (hR2.lend hl) hn
