/-! THE REFERENCE: what only reads -/
def inB (v lo hi : Int32) : Bool := decide (lo ≤ v) && decide (v ≤ hi)
theorem mIn (h : PH) (v lo hi : Int32) : fX4_in h v lo hi = some (b2i (inB v lo hi)) := by
  unfold fX4_in fX4_in_14 fX4_in_15 inB
  by_cases h1 : v < lo
  · have h2 : ¬ lo ≤ v := Int32.not_le.mpr h1
    simp [h1, h2, b2i, p_z]
  · have h2 : lo ≤ v := Int32.not_lt.mp h1
    by_cases h3 : hi < v
    · have h4 : ¬ v ≤ hi := Int32.not_le.mpr h3
      simp [h1, h2, h3, h4, b2i, p_z]
    · have h4 : v ≤ hi := Int32.not_lt.mp h3
      simp [h1, h2, h3, h4, b2i, p_z]
/-- does window n cover the cell c, r -/
def cv (I : IT) (n : Nat) (c r : Int32) : Bool := (inB c (I 2 n) (I 2 n + I 4 n - 1) && inB r (I 3 n) (I 3 n + I 5 n - 1)) && (decide (I 6 n = 0) || decide ((c + r) - (c + r) / 2 * 2 = 0))
theorem mCovers (I : IT) {n : Nat} (hn : n < 40) (c r : Int32) : fX4_covers (hM I) 0 (nI n) c r = some (b2i (cv I n c r)) := by
  simp only [fX4_covers, fX4_covers_60, fX4_covers_61, fX4_covers_85, fX4_covers_89, fX4_covers_90, hM_gr5, hM_gr6, hM_gr7, hM_gr8, hM_gr9, Option.bind_some, hM_ld2 I hn, hM_ld3 I hn, hM_ld4 I hn, hM_ld5 I hn, hM_ld6 I hn, mIn, b2i_0]
  unfold cv
  cases inB c (I 2 n) (I 2 n + I 4 n - 1) <;> cases inB r (I 3 n) (I 3 n + I 5 n - 1) <;> by_cases h1 : I 6 n = 0 <;> by_cases h2 : (c + r) - (c + r) / 2 * 2 = 0 <;> simp [h1, h2, b2i, p_z]
/-- the state's list: the stack from the bottom up -/
def RM (L : List Nat) (I : IT) : Prop := I 0 3 = nI L.length ∧ L.length ≤ 8 ∧ ∀ (k n : Nat), L[k]? = some n → I 1 k = nI n ∧ n < 40
def plc (w : Int32) : Nat → List Nat → Int32
  | _, [] => -1
  | k, n :: l => if nI n = w then nI k else plc w (k + 1) l
theorem drop_cons {L l : List Nat} {k n : Nat} (h : L.drop k = n :: l) : L[k]? = some n ∧ L.drop (k + 1) = l ∧ k < L.length := by
  have h1 : k < L.length := by
    rcases Nat.lt_or_ge k L.length with q | q
    · exact q
    · rw [List.drop_of_length_le q] at h; cases h
  rw [List.drop_eq_getElem_cons h1] at h
  cases h
  exact ⟨List.getElem?_eq_getElem h1, rfl, h1⟩
theorem drop_nil {L : List Nat} {k : Nat} (h : L.drop k = []) : L.length ≤ k := List.drop_eq_nil_iff.mp h
theorem mPlace_2 {L : List Nat} {I : IT} (hR : RM L I) (w : Int32) : ∀ (l : List Nat) (k f : Nat), L.drop k = l → k ≤ L.length → l.length < f → fX4_placeIn_2 f (hM I) 0 w (nI k) = some (plc w k l) := by
  intro l
  obtain ⟨h1, h2, h3⟩ := hR
  induction l with
  | nil =>
    intro k f hl hk hf
    obtain ⟨f, rfl⟩ : ∃ g, f = g + 1 := ⟨f - 1, by omega⟩
    have := drop_nil hl
    rw [fX4_placeIn_2]
    simp only [hM_gi3, Option.bind_some, h1]
    rw [if_pos ((nI_L (by omega) (by omega)).mpr this)]
    rfl
  | cons n l ih =>
    intro k f hl hk hf
    obtain ⟨f, rfl⟩ : ∃ g, f = g + 1 := ⟨f - 1, by omega⟩
    obtain ⟨g1, g2, g3⟩ := drop_cons hl
    obtain ⟨h4, h5⟩ := h3 k n g1
    rw [fX4_placeIn_2]
    simp only [hM_gi3, Option.bind_some, h1, hM_gr4, hM_ld1 I (show k < 8 by omega), h4, nI_1]
    rw [if_neg (fun q => by have := (nI_L (by omega) (by omega)).mp q; omega)]
    by_cases hw : nI n = w
    · simp [plc, hw]
    · rw [if_neg hw, ih (k + 1) f g2 (by omega) (by simp at hf; omega)]
      simp [plc, hw]
theorem mPlace {L : List Nat} {I : IT} (hR : RM L I) (w : Int32) : fX4_placeIn (hM I) 0 w = some (plc w 0 L) := by
  have h := mPlace_2 hR w L 0 64 rfl (Nat.zero_le _) (by have := hR.2.1; omega)
  rw [nI_0] at h
  exact h
/-- which window of a stack the cell c, r shows -/
def sh (I : IT) (c r : Int32) (L : List Nat) : Option Nat := L.foldl (fun a n => if cv I n c r = true then some n else a) none
theorem sh_app (I : IT) (c r : Int32) (L : List Nat) (n : Nat) : sh I c r (L ++ [n]) = if cv I n c r = true then some n else sh I c r L := by
  simp [sh, List.foldl_append]
theorem sh_mem {I : IT} {c r : Int32} : ∀ (L : List Nat) {n : Nat}, sh I c r L = some n → n ∈ L := by
  intro L
  have key : ∀ (l : List Nat) (a : Option Nat) (n : Nat), l.foldl (fun a n => if cv I n c r = true then some n else a) a = some n → a = some n ∨ n ∈ l := by
    intro l
    induction l with
    | nil => intro a n h; exact Or.inl h
    | cons x l ih =>
      intro a n h
      rcases ih _ n h with h1 | h1
      · by_cases hc : cv I x c r = true
        · simp [hc] at h1
          exact Or.inr (by rw [h1]; exact List.mem_cons_self)
        · simp [hc] at h1
          exact Or.inl h1
      · exact Or.inr (List.mem_cons_of_mem _ h1)
  intro n h
  rcases key L none n h with h1 | h1
  · cases h1
  · exact h1
theorem RM.mem {L : List Nat} {I : IT} (hR : RM L I) {n : Nat} (h : n ∈ L) : n < 40 := by
  obtain ⟨k, hk⟩ := List.getElem?_of_mem h
  exact (hR.2.2 k n hk).2
theorem take_succ' {L : List Nat} {k n : Nat} (h : L[k]? = some n) : L.take (k + 1) = L.take k ++ [n] := by
  rw [List.take_add_one, h]; rfl
theorem mShownAt_7 {L : List Nat} {I : IT} (hR : RM L I) (c r : Int32) : ∀ (k f : Nat), k ≤ L.length → k < f → fX4_shownAt_7 f (hM I) 0 c r (nI k - 1) = some (o2i (sh I c r (L.take k))) := by
  intro k
  obtain ⟨h1, h2, h3⟩ := hR
  induction k with
  | zero =>
    intro f hk hf
    obtain ⟨f, rfl⟩ : ∃ g, f = g + 1 := ⟨f - 1, by omega⟩
    rw [fX4_shownAt_7]
    rfl
  | succ k ih =>
    intro f hk hf
    obtain ⟨f, rfl⟩ : ∃ g, f = g + 1 := ⟨f - 1, by omega⟩
    have g1 : L[k]? = some L[k] := List.getElem?_eq_getElem (by omega)
    obtain ⟨h4, h5⟩ := h3 k _ g1
    rw [fX4_shownAt_7, nI_pred, if_neg (nI_pos (by omega))]
    simp only [hM_gr4, Option.bind_some, hM_ld1 I (show k < 8 by omega), h4, hM_ob, mCovers I h5, b2i_0]
    rw [take_succ' g1, sh_app]
    have e : nI k + (-1) = nI k - 1 := by grind
    cases hc : cv I L[k] c r with
    | false => simp only [if_true, e]; rw [ih f (by omega) (by omega)]; simp
    | true => simp [o2i]
theorem mShownAt {L : List Nat} {I : IT} (hR : RM L I) (c r : Int32) : fX4_shownAt (hM I) 0 c r = some (o2i (sh I c r L)) := by
  have h := mShownAt_7 hR c r L.length 64 (Nat.le_refl _) (by have := hR.2.1; omega)
  rw [List.take_length] at h
  rw [fX4_shownAt]
  simp only [hM_gi3, Option.bind_some, hR.1]
  exact h
theorem nI_d8 {k : Nat} (h : k < 1000) : nI k / 8 = nI (k / 8) := pk_div (d := 8) (by omega) (by decide) (by decide)
theorem nI_m8 {k : Nat} (h : k < 1000) : nI k - nI k / 8 * 8 = nI (k % 8) := pk_rem (d := 8) (by omega) (by decide) (by decide)
theorem nI_m8b {k : Nat} (h : k < 1000) : nI k - nI (k / 8) * 8 = nI (k % 8) := by rw [← nI_d8 h]; exact nI_m8 h
/-- is window w seen -/
def shc (I : IT) (L : List Nat) (k : Nat) : Option Nat := sh I (nI (k % 8)) (nI (k / 8)) L
def seen (I : IT) (L : List Nat) (w : Nat) : Bool := (List.range' 0 48).any fun k => decide (shc I L k = some w)
theorem o2i_eq {o : Option Nat} {w : Nat} (ho : ∀ n, o = some n → n < 1000) (hw : w < 1000) : o2i o = nI w ↔ o = some w := by
  cases o with
  | none => simp only [o2i]; exact ⟨fun h => absurd h.symm (nI_nm1 hw), fun h => by cases h⟩
  | some n => simp only [o2i, Option.some.injEq]; exact nI_E (ho n rfl) hw
theorem mIsShown_4 {L : List Nat} {I : IT} (hR : RM L I) {w : Nat} (hw : w < 40) : ∀ (m k f : Nat) (b : Bool), k + m = 48 → m < f → fX4_isShown_4 f (hM I) 0 (nI w) (b2i b) (nI k) = some (b2i (b || (List.range' k m).any fun k => decide (shc I L k = some w))) := by
  intro m
  induction m with
  | zero =>
    intro k f b hk hf
    obtain ⟨f, rfl⟩ : ∃ g, f = g + 1 := ⟨f - 1, by omega⟩
    rw [fX4_isShown_4]
    have e : (48 : Int32) ≤ nI k := by rw [show k = 48 by omega]; decide
    rw [if_pos e, p_z_b]
    simp
  | succ m ih =>
    intro k f b hk hf
    obtain ⟨f, rfl⟩ : ∃ g, f = g + 1 := ⟨f - 1, by omega⟩
    have e : ¬ (48 : Int32) ≤ nI k := fun q => by
      have := (nI_L (a := 48) (by decide) (by omega)).mp q
      omega
    rw [fX4_isShown_4, if_neg e]
    simp only [fX4_isShown_30, fX4_isShown_35, hM_ob, Option.bind_some, nI_d8 (show k < 1000 by omega), nI_m8b (show k < 1000 by omega), mShownAt hR, nI_1]
    have hs : o2i (sh I (nI (k % 8)) (nI (k / 8)) L) = nI w ↔ shc I L k = some w := o2i_eq (fun n h => by have := hR.mem (sh_mem L h); omega) (by omega)
    have hT := ih (k + 1) f true (by omega) (by omega)
    have hF := ih (k + 1) f false (by omega) (by omega)
    simp only [b2i_t, b2i_f, Bool.true_or, Bool.false_or] at hT hF
    rw [List.range'_succ, List.any_cons]
    cases b with
    | true => simp [b2i_t, hT]
    | false =>
      simp only [b2i_f, if_true, hs]
      by_cases hq : shc I L k = some w
      · simp [hq, hT, b2i_t]
      · simp [hq, hF]
theorem mIsShown {L : List Nat} {I : IT} (hR : RM L I) {w : Nat} (hw : w < 40) : fX4_isShown (hM I) 0 (nI w) = some (b2i (seen I L w)) := by
  have h := mIsShown_4 hR hw 48 0 64 false rfl (by decide)
  rw [nI_0, b2i_f, Bool.false_or] at h
  exact h
def need (I : IT) (n : Nat) : Int32 := (I 4 n * I 5 n + 3) / 4
theorem mNeed (I : IT) {n : Nat} (hn : n < 40) : fX4_need (hM I) 0 (nI n) = some (need I n) := by
  simp only [fX4_need, hM_gr7, hM_gr8, Option.bind_some, hM_ld4 I hn, hM_ld5 I hn]
  rfl
/-- how many pages are left -/
def frf (I : IT) (a : Int32) (n : Nat) : Int32 := a - (if I 9 n = 0 then 0 else need I n)
def fr (I : IT) (L : List Nat) : Int32 := L.foldl (frf I) 24
theorem mFree_5 {L : List Nat} {I : IT} (hR : RM L I) : ∀ (l : List Nat) (k f : Nat) (a : Int32), L.drop k = l → k ≤ L.length → l.length < f → fX4_freePages_5 f (hM I) 0 a (nI k) = some (l.foldl (frf I) a) := by
  intro l
  obtain ⟨h1, h2, h3⟩ := hR
  induction l with
  | nil =>
    intro k f a hl hk hf
    obtain ⟨f, rfl⟩ : ∃ g, f = g + 1 := ⟨f - 1, by omega⟩
    have := drop_nil hl
    rw [fX4_freePages_5]
    simp only [hM_gi3, Option.bind_some, h1]
    rw [if_pos ((nI_L (by omega) (by omega)).mpr this)]
    rfl
  | cons n l ih =>
    intro k f a hl hk hf
    obtain ⟨f, rfl⟩ : ∃ g, f = g + 1 := ⟨f - 1, by omega⟩
    obtain ⟨g1, g2, g3⟩ := drop_cons hl
    obtain ⟨h4, h5⟩ := h3 k n g1
    rw [fX4_freePages_5]
    simp only [hM_gi3, Option.bind_some, h1, hM_gr4, hM_gr12, hM_ld1 I (show k < 8 by omega), h4, hM_ld9 I h5, fX4_freePages_42, nI_1, hM_ob, mNeed I h5]
    rw [if_neg (fun q => by have := (nI_L (by omega) (by omega)).mp q; omega)]
    rw [ih (k + 1) f _ g2 (by omega) (by simp at hf; omega), ih (k + 1) f _ g2 (by omega) (by simp at hf; omega)]
    by_cases hs : I 9 n = 0
    · simp [hs, frf]
    · simp [hs, frf]
theorem mFree {L : List Nat} {I : IT} (hR : RM L I) : fX4_freePages (hM I) 0 = some (fr I L) := by
  have h := mFree_5 hR L 0 64 24 rfl (Nat.zero_le _) (by have := hR.2.1; omega)
  rw [nI_0] at h
  exact h
def cl (I : IT) (L : List Nat) (v w : Nat) : Bool := !decide (v = w) && (!decide (I 9 v = 0) && !seen I L v)
theorem mCanLose {L : List Nat} {I : IT} (hR : RM L I) {v w : Nat} (hv : v < 40) (hw : w < 40) : fX4_canLose (hM I) 0 (nI v) (nI w) = some (b2i (cl I L v w)) := by
  simp only [fX4_canLose, fX4_canLose_26, fX4_canLose_27, hM_gr12, Option.bind_some, hM_ld9 I hv, hM_ob, mIsShown hR hv, nI_E (show v < 1000 by omega) (show w < 1000 by omega), b2i_0]
  unfold cl
  by_cases h1 : v = w <;> by_cases h2 : I 9 v = 0 <;> cases seen I L v <;> simp [h1, h2, p_z, b2i]
