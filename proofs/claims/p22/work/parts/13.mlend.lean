/-! THE REFERENCE: pages lent and taken back -/
theorem RM.of {L : List Nat} {I J : IT} (hR : RM L I) (h0 : J 0 3 = I 0 3) (h1 : J 1 = I 1) : RM L J := ⟨by rw [h0]; exact hR.1, hR.2.1, fun k n h => by rw [h1]; exact hR.2.2 k n h⟩
theorem RM.u {L : List Nat} {I : IT} (hR : RM L I) {a : Nat} (k : Nat) (x : Int32) (h : 2 ≤ a) : RM L (u2 I a k x) := hR.of (u2_a _ _ _ _ (by omega)) (u2_r _ _ _ (by omega))
/-- the same rectangles -/
def geo (I J : IT) : Prop := ∀ a, 2 ≤ a → a ≤ 6 → J a = I a
theorem geo.rf (I : IT) : geo I I := fun _ _ _ => rfl
theorem geo.tr {I J K : IT} (h1 : geo I J) (h2 : geo J K) : geo I K := fun a q r => (h2 a q r).trans (h1 a q r)
theorem geo.u (I : IT) {a : Nat} (k : Nat) (x : Int32) (h : 7 ≤ a) : geo I (u2 I a k x) := fun b q r => u2_r _ _ _ (by omega)
theorem geo.u0 (I : IT) (k : Nat) (x : Int32) : geo I (u2 I 0 k x) := fun b q r => u2_r _ _ _ (by omega)
theorem geo_cv {I J : IT} (h : geo I J) (n : Nat) (c r : Int32) : cv J n c r = cv I n c r := by
  unfold cv
  rw [h 2 (by omega) (by omega), h 3 (by omega) (by omega), h 4 (by omega) (by omega), h 5 (by omega) (by omega), h 6 (by omega) (by omega)]
theorem geo_sh {I J : IT} (h : geo I J) (c r : Int32) (L : List Nat) : sh J c r L = sh I c r L := by
  unfold sh
  simp only [geo_cv h]
theorem geo_shc {I J : IT} (h : geo I J) (L : List Nat) (k : Nat) : shc J L k = shc I L k := geo_sh h _ _ _
theorem geo_seen {I J : IT} (h : geo I J) (L : List Nat) (w : Nat) : seen J L w = seen I L w := by
  unfold seen
  simp only [geo_shc h]
theorem geo_need {I J : IT} (h : geo I J) (n : Nat) : need J n = need I n := by
  unfold need
  rw [h 4 (by omega) (by omega), h 5 (by omega) (by omega)]
theorem mFine (I : IT) (x : Int32) : fX4_fine (hM I) 0 x = some (x, hM (u2 I 0 0 0)) := by
  simp only [fX4_fine, hM_si0, Option.bind_some]
theorem mRefused (I : IT) (x : Int32) : fX4_refused (hM I) 0 x = some (b2i (!decide (x = 0)), hM (u2 I 0 0 x)) := by
  simp only [fX4_refused, fX4_refused_14, hM_si0, Option.bind_some]
  by_cases h : x = 0 <;> simp [h, p_z, b2i]
theorem mNoWindow {L : List Nat} {I : IT} (hR : RM L I) (w : Int32) : fX4_noWindow (hM I) 0 w = some (b2i (decide (plc w 0 L = -1)), hM (u2 I 0 0 (b2i (decide (plc w 0 L = -1))))) := by
  simp only [fX4_noWindow, fX4_noWindow_15, hM_ob, Option.bind_some, mPlace hR, mRefused]
  by_cases h : plc w 0 L = -1 <;> simp [h, p_z, b2i]
/-- a frame under way is gone -/
def drpI (I : IT) (n : Nat) : IT := if I 15 n = -1 then I else u2 (u2 I 15 n (-1)) 14 n (I 0 1)
def lseI (I : IT) (n : Nat) : IT := drpI (u2 (u2 I 9 n 0) 10 n 0) n
theorem mDrop (I : IT) {n : Nat} (hn : n < 40) : fX4_drop (hM I) 0 (nI n) = some (hM (drpI I n)) := by
  simp only [fX4_drop, fX4_drop_27, hM_gr18, hM_gr17, Option.bind_some, hM_ld15 I hn, hM_st15 I _ hn, hM_gi1, hM_st14 _ _ hn, drpI]
  by_cases h : I 15 n = -1
  · simp [h]
  · simp [h, u2_a]
theorem mLose (I : IT) {n : Nat} (hn : n < 40) : fX4_lose (hM I) 0 (nI n) = some (hM (lseI I n)) := by
  simp only [fX4_lose, hM_gr12, hM_gr13, Option.bind_some, hM_sb9 I _ hn (Or.inl rfl), hM_st10 _ _ hn, hM_ob, mDrop _ hn, lseI]
theorem drpI_geo (I : IT) (n : Nat) : geo I (drpI I n) := by
  unfold drpI
  by_cases h : I 15 n = -1
  · rw [if_pos h]; exact geo.rf I
  · rw [if_neg h]; exact (geo.u I _ _ (by omega)).tr (geo.u _ _ _ (by omega))
theorem lseI_geo (I : IT) (n : Nat) : geo I (lseI I n) := ((geo.u I _ _ (by omega)).tr (geo.u _ _ _ (by omega))).tr (drpI_geo _ _)
theorem drpI_low (I : IT) (n : Nat) {a : Nat} (h : a < 14 ∨ 15 < a) : drpI I n a = I a := by
  unfold drpI
  by_cases h1 : I 15 n = -1
  · rw [if_pos h1]
  · rw [if_neg h1, u2_r _ _ _ (by omega), u2_r _ _ _ (by omega)]
theorem lseI_low (I : IT) (n : Nat) {a : Nat} (h : a < 9 ∨ (10 < a ∧ a < 14) ∨ 15 < a) : lseI I n a = I a := by
  unfold lseI
  rw [drpI_low _ _ (by omega), u2_r _ _ _ (by omega), u2_r _ _ _ (by omega)]
theorem RM.lse {L : List Nat} {I : IT} (hR : RM L I) (n : Nat) : RM L (lseI I n) := hR.of (by rw [lseI_low _ _ (Or.inl (by decide))]) (lseI_low _ _ (Or.inl (by decide)))
/-- those that can lose their pages do, from the bottom up, until there are enough -/
def tk (L : List Nat) (w : Nat) : List Nat → IT → IT
  | [], I => I
  | n :: l, I => if need I w ≤ fr I L then I else if cl I L n w = true then tk L w l (lseI I n) else tk L w l I
def thf (I : IT) (L : List Nat) (w : Nat) (a : Int32) (n : Nat) : Int32 := a + (if cl I L n w = true then need I n else 0)
def lendI (L : List Nat) (w : Nat) (I : IT) : Option IT := if need I w ≤ L.foldl (thf I L w) (fr I L) then some (u2 (tk L w L I) 9 w 1) else none
theorem mLend_65 {L : List Nat} {w : Nat} (hw : w < 40) : ∀ (l : List Nat) (k f : Nat) (I : IT), RM L I → L.drop k = l → k ≤ L.length → l.length < f → fX4_lend_65 f (hM I) 0 (nI w) (nI k) = some (1, hM (u2 (tk L w l I) 9 w 1)) := by
  intro l
  have e115 : ∀ I : IT, fX4_lend_115 (hM I) 0 (nI w) = some (1, hM (u2 I 9 w 1)) := fun I => by
    simp only [fX4_lend_115, hM_gr12, Option.bind_some, hM_sb9 I _ hw (Or.inr rfl), p_z_1]
  induction l with
  | nil =>
    intro k f I hR hl hk hf
    obtain ⟨f, rfl⟩ : ∃ g, f = g + 1 := ⟨f - 1, by omega⟩
    have h9 := drop_nil hl
    obtain ⟨h1, h2, h3⟩ := hR
    rw [fX4_lend_65]
    simp only [hM_gi3, Option.bind_some, h1]
    rw [if_pos ((nI_L (by omega) (by omega)).mpr h9), e115]
    rfl
  | cons n l ih =>
    intro k f I hR hl hk hf
    obtain ⟨f, rfl⟩ : ∃ g, f = g + 1 := ⟨f - 1, by omega⟩
    obtain ⟨g1, g2, g3⟩ := drop_cons hl
    obtain ⟨h1, h2, h3⟩ := id hR
    obtain ⟨h4, h5⟩ := h3 k n g1
    have hf2 : l.length < f := by simp at hf; omega
    rw [fX4_lend_65]
    simp only [hM_gi3, Option.bind_some, h1, hM_ob, mFree hR, mNeed I hw, hM_gr4, hM_ld1 I (show k < 8 by omega), h4, mCanLose hR h5 hw, b2i_0, fX4_lend_109, nI_1, mLose I h5, e115]
    rw [if_neg (fun q => by have := (nI_L (by omega) (by omega)).mp q; omega)]
    unfold tk
    by_cases h6 : need I w ≤ fr I L
    · rw [if_pos h6, if_pos h6]
    · rw [if_neg h6, if_neg h6]
      cases h7 : cl I L n w with
      | false => simp only [if_true]; rw [ih (k + 1) f I hR g2 (by omega) hf2]; simp
      | true => simp only [Bool.true_eq_false, if_false, if_true]; rw [ih (k + 1) f _ (hR.lse n) g2 (by omega) hf2]
theorem mLend_7 {L : List Nat} {w : Nat} (hw : w < 40) {I : IT} (hR : RM L I) : ∀ (l : List Nat) (k f : Nat) (a : Int32), L.drop k = l → k ≤ L.length → l.length < f → fX4_lend_7 f (hM I) 0 (nI w) a (nI k) = if need I w ≤ l.foldl (thf I L w) a then some (1, hM (u2 (tk L w L I) 9 w 1)) else some (0, hM I) := by
  intro l
  obtain ⟨h1, h2, h3⟩ := id hR
  induction l with
  | nil =>
    intro k f a hl hk hf
    obtain ⟨f, rfl⟩ : ∃ g, f = g + 1 := ⟨f - 1, by omega⟩
    have h9 := drop_nil hl
    have h8 := mLend_65 hw L 0 64 I hR rfl (Nat.zero_le _) (by omega)
    rw [nI_0] at h8
    rw [fX4_lend_7]
    simp only [hM_gi3, Option.bind_some, h1, hM_ob, mNeed I hw, h8, p_z_0]
    rw [if_pos ((nI_L (by omega) (by omega)).mpr h9)]
    rfl
  | cons n l ih =>
    intro k f a hl hk hf
    obtain ⟨f, rfl⟩ : ∃ g, f = g + 1 := ⟨f - 1, by omega⟩
    obtain ⟨g1, g2, g3⟩ := drop_cons hl
    obtain ⟨h4, h5⟩ := h3 k n g1
    have hf2 : l.length < f := by simp at hf; omega
    rw [fX4_lend_7]
    simp only [hM_gi3, Option.bind_some, h1, hM_ob, mNeed I h5, hM_gr4, hM_ld1 I (show k < 8 by omega), h4, mCanLose hR h5 hw, b2i_0, fX4_lend_44, nI_1]
    rw [if_neg (fun q => by have := (nI_L (by omega) (by omega)).mp q; omega), List.foldl_cons]
    rw [ih (k + 1) f _ g2 (by omega) hf2, ih (k + 1) f _ g2 (by omega) hf2]
    cases h7 : cl I L n w <;> simp [thf, h7]
theorem mLend {L : List Nat} {w : Nat} (hw : w < 40) {I : IT} (hR : RM L I) : fX4_lend (hM I) 0 (nI w) = match lendI L w I with
    | none => some (0, hM I)
    | some J => some (1, hM J) := by
  have h := mLend_7 hw hR L 0 64 (fr I L) rfl (Nat.zero_le _) (by have := hR.2.1; omega)
  rw [nI_0] at h
  have e : fX4_lend (hM I) 0 (nI w) = fX4_lend_7 64 (hM I) 0 (nI w) (fr I L) 0 := by
    rw [fX4_lend, hM_ob, Option.bind_some, mFree hR, Option.bind_some]
  rw [e, h]
  unfold lendI
  by_cases h6 : need I w ≤ L.foldl (thf I L w) (fr I L)
  · rw [if_pos h6, if_pos h6]
  · rw [if_neg h6, if_neg h6]
theorem tk_low (L : List Nat) (w : Nat) : ∀ (l : List Nat) (I : IT) {a : Nat}, (a < 9 ∨ (10 < a ∧ a < 14) ∨ 15 < a) → tk L w l I a = I a := by
  intro l
  induction l with
  | nil => intro I a h; rfl
  | cons n l ih =>
    intro I a h
    unfold tk
    by_cases h6 : need I w ≤ fr I L
    · rw [if_pos h6]
    · rw [if_neg h6]
      cases h7 : cl I L n w with
      | false => simp only [Bool.false_eq_true, if_false]; exact ih I h
      | true => simp only [if_true]; rw [ih _ h, lseI_low _ _ h]
theorem lendI_low {L : List Nat} {w : Nat} {I J : IT} (h : lendI L w I = some J) {a : Nat} (ha : a < 9 ∨ (10 < a ∧ a < 14) ∨ 15 < a) : J a = I a := by
  unfold lendI at h
  by_cases h6 : need I w ≤ L.foldl (thf I L w) (fr I L)
  · rw [if_pos h6] at h
    cases h
    rw [u2_r _ _ _ (by omega), tk_low _ _ _ _ ha]
  · rw [if_neg h6] at h
    cases h
theorem lendI_geo {L : List Nat} {w : Nat} {I J : IT} (h : lendI L w I = some J) : geo I J := fun a h1 h2 => lendI_low h (by omega)
theorem RM.lend {L : List Nat} {w : Nat} {I J : IT} (hR : RM L I) (h : lendI L w I = some J) : RM L J := hR.of (by rw [lendI_low h (by omega)]) (lendI_low h (by omega))
/-- pages for all that are seen and have none, from the top down -/
def stL (L : List Nat) (I : IT) (n : Nat) : IT := if I 9 n = 0 ∧ seen I L n = true then (lendI L n I).getD I else I
def lA (L : List Nat) (I : IT) : IT := L.reverse.foldl (stL L) I
theorem stL_low (L : List Nat) (I : IT) (n : Nat) {a : Nat} (ha : a < 9 ∨ (10 < a ∧ a < 14) ∨ 15 < a) : stL L I n a = I a := by
  unfold stL
  by_cases h : I 9 n = 0 ∧ seen I L n = true
  · rw [if_pos h]
    cases h9 : lendI L n I with
    | none => rfl
    | some J => exact lendI_low h9 ha
  · rw [if_neg h]
theorem stLs_low (L : List Nat) : ∀ (l : List Nat) (I : IT) {a : Nat}, (a < 9 ∨ (10 < a ∧ a < 14) ∨ 15 < a) → l.foldl (stL L) I a = I a := by
  intro l
  induction l with
  | nil => intro I a h; rfl
  | cons n l ih => intro I a h; rw [List.foldl_cons, ih _ h, stL_low _ _ _ h]
theorem RM.st {L : List Nat} {I : IT} (hR : RM L I) (n : Nat) : RM L (stL L I n) := hR.of (by rw [stL_low _ _ _ (by omega)]) (stL_low _ _ _ (by omega))
theorem RM.la {L : List Nat} {I : IT} (hR : RM L I) : RM L (lA L I) := hR.of (by unfold lA; rw [stLs_low _ _ _ (by omega)]) (stLs_low _ _ _ (by omega))
theorem lA_low (L : List Nat) (I : IT) {a : Nat} (ha : a < 9 ∨ (10 < a ∧ a < 14) ∨ 15 < a) : lA L I a = I a := stLs_low L _ I ha
theorem mLendAll_7 {L : List Nat} : ∀ (k f : Nat) (I : IT), RM L I → k ≤ L.length → k < f → fX4_lendAll_7 f (hM I) 0 (nI k - 1) = some (hM ((L.take k).reverse.foldl (stL L) I)) := by
  intro k
  induction k with
  | zero =>
    intro f I hR hk hf
    obtain ⟨f, rfl⟩ : ∃ g, f = g + 1 := ⟨f - 1, by omega⟩
    rw [fX4_lendAll_7]
    rfl
  | succ k ih =>
    intro f I hR hk hf
    obtain ⟨f, rfl⟩ : ∃ g, f = g + 1 := ⟨f - 1, by omega⟩
    obtain ⟨h1, h2, h3⟩ := id hR
    have g1 : L[k]? = some L[k] := List.getElem?_eq_getElem (by omega)
    obtain ⟨h4, h5⟩ := h3 k _ g1
    have e : nI k + (-1) = nI k - 1 := by grind
    rw [fX4_lendAll_7, nI_pred, if_neg (nI_pos (by omega))]
    simp only [hM_gr4, hM_gr12, Option.bind_some, hM_ld1 I (show k < 8 by omega), h4, hM_ld9 I h5, hM_ob, mIsShown hR h5, b2i_0, fX4_lendAll_49, mLend h5 hR, e]
    rw [take_succ' g1, List.reverse_append, List.reverse_singleton, List.singleton_append, List.foldl_cons]
    unfold stL
    by_cases h6 : I 9 L[k] = 0
    · cases h7 : seen I L L[k] with
      | false =>
        simp only [h6, if_true, Bool.false_eq_true, and_false, if_false]
        exact ih f I hR (by omega) (by omega)
      | true =>
        cases h8 : lendI L L[k] I with
        | none =>
          simp only [h6, if_true, Bool.true_eq_false, and_true, if_false, Option.bind_some, Option.getD_none]
          exact ih f I hR (by omega) (by omega)
        | some J =>
          simp only [h6, if_true, Bool.true_eq_false, and_true, if_false, Option.bind_some, Option.getD_some]
          exact ih f J (hR.lend h8) (by omega) (by omega)
    · simp only [h6, if_false, false_and]
      exact ih f I hR (by omega) (by omega)
theorem mLendAll {L : List Nat} {I : IT} (hR : RM L I) : fX4_lendAll (hM I) 0 = some (hM (lA L I)) := by
  have h := mLendAll_7 L.length 64 I hR (Nat.le_refl _) (by have := hR.2.1; omega)
  rw [List.take_length] at h
  simp only [fX4_lendAll, hM_gi3, Option.bind_some, hR.1]
  exact h
