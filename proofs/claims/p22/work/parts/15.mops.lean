/-! THE REFERENCE: its calls -/
abbrev rf (I : IT) (x : Int32) : IT := u2 I 0 0 x
theorem RM.rf {L : List Nat} {I : IT} (hR : RM L I) (x : Int32) : RM L (rf I x) := hR.of (u2_k _ _ _ (by omega)) (u2_r _ _ _ (by omega))
theorem rf_a (I : IT) (x : Int32) {a : Nat} (h : 1 ≤ a) : rf I x a = I a := u2_r _ _ _ (by omega)
theorem rf_0 (I : IT) (x : Int32) {k : Nat} (h : 1 ≤ k) : rf I x 0 k = I 0 k := u2_k _ _ _ (by omega)
theorem rf_geo (I : IT) (x : Int32) : geo I (rf I x) := geo.u0 _ _ _
theorem plc_or {w : Int32} : ∀ (l : List Nat) (k : Nat), plc w k l = -1 ∨ ∃ p v, l[p]? = some v ∧ w = nI v ∧ plc w k l = nI (k + p) := by
  intro l
  induction l with
  | nil => intro k; exact Or.inl rfl
  | cons n l ih =>
    intro k
    unfold plc
    by_cases h : nI n = w
    · rw [if_pos h]
      exact Or.inr ⟨0, n, rfl, h.symm, rfl⟩
    · rw [if_neg h]
      rcases ih (k + 1) with h1 | ⟨p, v, h1, h2, h3⟩
      · exact Or.inl h1
      · exact Or.inr ⟨p + 1, v, h1, h2, by rw [h3]; congr 1; omega⟩
/-- is there such a window: where -/
def inL (L : List Nat) (w : Int32) : Prop := ∃ v, v ∈ L ∧ w = nI v
theorem RM.cs {L : List Nat} {I : IT} (hR : RM L I) (w : Int32) : (plc w 0 L = -1 ∧ ∀ v, v ∈ L → w ≠ nI v) ∨ ∃ p v, L[p]? = some v ∧ w = nI v ∧ plc w 0 L = nI p ∧ v < 40 ∧ p < 8 := by
  rcases plc_or (w := w) L 0 with h | ⟨p, v, h1, h2, h3⟩
  · refine Or.inl ⟨h, fun v hv e => ?_⟩
    subst e
    exact (hR.plcm (by have := hR.mem hv; omega)).mp h hv
  · have hp : p < L.length := (List.getElem?_eq_some_iff.mp h1).1
    exact Or.inr ⟨p, v, h1, h2, by rw [h3, Nat.zero_add], (hR.2.2 p v h1).2, by have := hR.2.1; omega⟩
theorem mNo {L : List Nat} {I : IT} (hR : RM L I) {w : Int32} (h : plc w 0 L = -1) : fX4_noWindow (hM I) 0 w = some (1, hM (rf I 1)) := by
  rw [mNoWindow hR, decide_eq_true h]
  rfl
theorem mYes {L : List Nat} {I : IT} (hR : RM L I) {w : Int32} {p : Nat} (h : plc w 0 L = nI p) (hp : p < 8) : fX4_noWindow (hM I) 0 w = some (0, hM (rf I 0)) := by
  rw [mNoWindow hR, decide_eq_false (by rw [h]; exact nI_nm1 (by omega))]
  rfl
theorem e10 : ¬ (1 : Int32) = 0 := by decide
theorem mTick (I : IT) : fX4_tick (hM I) 0 = some (I 0 1, hM (rf I 0)) := by
  rw [fX4_tick, hM_gi1, Option.bind_some, hM_ob, Option.bind_some, mFine, Option.bind_some]
theorem mWindows {L : List Nat} {I : IT} (hR : RM L I) : fX4_windows (hM I) 0 = some (nI L.length, hM (rf I 0)) := by
  rw [fX4_windows, hM_gi3, Option.bind_some, hM_ob, Option.bind_some, mFine, Option.bind_some, hR.1]
theorem mFreeC {L : List Nat} {I : IT} (hR : RM L I) : fX4_free (hM I) 0 = some (fr I L, hM (rf I 0)) := by
  rw [fX4_free, hM_ob, Option.bind_some, mFree hR, Option.bind_some, Option.bind_some, mFine, Option.bind_some]
theorem mPlaceOf_n {L : List Nat} {I : IT} (hR : RM L I) {w : Int32} (h : plc w 0 L = -1) : fX4_placeOf (hM I) 0 w = some (0, hM (rf I 1)) := by
  rw [fX4_placeOf, hM_ob, Option.bind_some, mNo hR h, Option.bind_some, if_neg e10]; rfl
theorem mPlaceOf_y {L : List Nat} {I : IT} (hR : RM L I) {w : Int32} {p : Nat} (h : plc w 0 L = nI p) (hp : p < 8) : fX4_placeOf (hM I) 0 w = some (nI p, hM (rf I 0)) := by
  rw [fX4_placeOf, hM_ob, Option.bind_some, mYes hR h hp, Option.bind_some, if_pos rfl, hM_ob, Option.bind_some, mPlace (hR.rf 0), Option.bind_some, h]; rfl
theorem mIsSeen_n {L : List Nat} {I : IT} (hR : RM L I) {w : Int32} (h : plc w 0 L = -1) : fX4_isSeen (hM I) 0 w = some (0, hM (rf I 1)) := by
  rw [fX4_isSeen, hM_ob, Option.bind_some, mNo hR h, Option.bind_some, if_neg e10]; rfl
theorem mIsSeen_y {L : List Nat} {I : IT} (hR : RM L I) {v p : Nat} (h : plc (nI v) 0 L = nI p) (hp : p < 8) (hv : v < 40) : fX4_isSeen (hM I) 0 (nI v) = some (b2i (seen I L v), hM (rf I 0)) := by
  rw [fX4_isSeen, hM_ob, Option.bind_some, mYes hR h hp, Option.bind_some, if_pos rfl, hM_ob, Option.bind_some, mIsShown (hR.rf 0) hv, Option.bind_some, geo_seen (rf_geo I 0)]
  cases seen I L v <;> rfl
theorem mPagesOf_n {L : List Nat} {I : IT} (hR : RM L I) {w : Int32} (h : plc w 0 L = -1) : fX4_pagesOf (hM I) 0 w = some (0, hM (rf I 1)) := by
  rw [fX4_pagesOf, hM_ob, Option.bind_some, mNo hR h, Option.bind_some, if_neg e10]; rfl
theorem mPagesOf_y {L : List Nat} {I : IT} (hR : RM L I) {v p : Nat} (h : plc (nI v) 0 L = nI p) (hp : p < 8) (hv : v < 40) : fX4_pagesOf (hM I) 0 (nI v) = some (if I 9 v = 0 then 0 else need I v, hM (rf I 0)) := by
  rw [fX4_pagesOf, hM_ob, Option.bind_some, mYes hR h hp, Option.bind_some, if_pos rfl, hM_gr12, Option.bind_some, hM_ld9 _ hv, Option.bind_some, hM_ob, Option.bind_some, mNeed _ hv, Option.bind_some, geo_need (rf_geo I 0), rf_a I 0 (by omega)]
  by_cases h9 : I 9 v = 0
  · rw [if_pos h9, if_pos h9]; rfl
  · rw [if_neg h9, if_neg h9]; rfl
theorem mPicture_n {L : List Nat} {I : IT} (hR : RM L I) {w : Int32} (h : plc w 0 L = -1) : fX4_picture (hM I) 0 w = some (0, hM (rf I 1)) := by
  rw [fX4_picture, hM_ob, Option.bind_some, mNo hR h, Option.bind_some, if_neg e10]; rfl
theorem mPicture_y {L : List Nat} {I : IT} (hR : RM L I) {v p : Nat} (h : plc (nI v) 0 L = nI p) (hp : p < 8) (hv : v < 40) : fX4_picture (hM I) 0 (nI v) = some (I 10 v, hM (rf I 0)) := by
  rw [fX4_picture, hM_ob, Option.bind_some, mYes hR h hp, Option.bind_some, if_pos rfl, hM_gr13, Option.bind_some, hM_ld10 _ hv, Option.bind_some, rf_a I 0 (by omega)]; rfl
theorem mPace_n {L : List Nat} {I : IT} (hR : RM L I) {w : Int32} (h : plc w 0 L = -1) : fX4_pace (hM I) 0 w = some (0, hM (rf I 1)) := by
  rw [fX4_pace, hM_ob, Option.bind_some, mNo hR h, Option.bind_some, if_neg e10]; rfl
theorem mPace_y {L : List Nat} {I : IT} (hR : RM L I) {v p : Nat} (h : plc (nI v) 0 L = nI p) (hp : p < 8) (hv : v < 40) : fX4_pace (hM I) 0 (nI v) = some (I 11 v, hM (rf I 0)) := by
  rw [fX4_pace, hM_ob, Option.bind_some, mYes hR h hp, Option.bind_some, if_pos rfl, hM_gr14, Option.bind_some, hM_ld11 _ hv, Option.bind_some, rf_a I 0 (by omega)]; rfl
theorem mMisses_n {L : List Nat} {I : IT} (hR : RM L I) {w : Int32} (h : plc w 0 L = -1) : fX4_misses (hM I) 0 w = some (0, hM (rf I 1)) := by
  rw [fX4_misses, hM_ob, Option.bind_some, mNo hR h, Option.bind_some, if_neg e10]; rfl
theorem mMisses_y {L : List Nat} {I : IT} (hR : RM L I) {v p : Nat} (h : plc (nI v) 0 L = nI p) (hp : p < 8) (hv : v < 40) : fX4_misses (hM I) 0 (nI v) = some (I 12 v, hM (rf I 0)) := by
  rw [fX4_misses, hM_ob, Option.bind_some, mYes hR h hp, Option.bind_some, if_pos rfl, hM_gr15, Option.bind_some, hM_ld12 _ hv, Option.bind_some, rf_a I 0 (by omega)]; rfl
theorem mDeadline_n {L : List Nat} {I : IT} (hR : RM L I) {w : Int32} (h : plc w 0 L = -1) : fX4_deadline (hM I) 0 w = some (0, hM (rf I 1)) := by
  rw [fX4_deadline, hM_ob, Option.bind_some, mNo hR h, Option.bind_some, if_neg e10]; rfl
theorem mDeadline_y {L : List Nat} {I : IT} (hR : RM L I) {v p : Nat} (h : plc (nI v) 0 L = nI p) (hp : p < 8) (hv : v < 40) : fX4_deadline (hM I) 0 (nI v) = some (I 15 v, hM (rf I 0)) := by
  rw [fX4_deadline, hM_ob, Option.bind_some, mYes hR h hp, Option.bind_some, if_pos rfl, hM_gr18, Option.bind_some, hM_ld15 _ hv, Option.bind_some, rf_a I 0 (by omega)]; rfl
/-! cells -/
def cell (c r : Int32) : Bool := inB c 0 7 && inB r 0 5
theorem mNoCell (I : IT) (c r : Int32) : fX4_noCell (hM I) 0 c r = some (b2i (!cell c r), hM (rf I (b2i (!cell c r)))) := by
  simp only [fX4_noCell, fX4_noCell_24, fX4_noCell_25, hM_ob, Option.bind_some, mIn, mRefused, b2i_0]
  unfold cell
  cases inB c 0 7 <;> cases inB r 0 5 <;> rfl
theorem mCellY {I : IT} {c r : Int32} (h : cell c r = true) : fX4_noCell (hM I) 0 c r = some (0, hM (rf I 0)) := by rw [mNoCell, h]; rfl
theorem mCellN {I : IT} {c r : Int32} (h : cell c r = false) : fX4_noCell (hM I) 0 c r = some (1, hM (rf I 1)) := by rw [mNoCell, h]; rfl
theorem mAt_n {I : IT} {c r : Int32} (h : cell c r = false) : fX4_at (hM I) 0 c r = some (0, hM (rf I 1)) := by
  rw [fX4_at, hM_ob, Option.bind_some, mCellN h, Option.bind_some, if_neg e10]; rfl
theorem mAt_y {L : List Nat} {I : IT} (hR : RM L I) {c r : Int32} (h : cell c r = true) : fX4_at (hM I) 0 c r = some (o2i (sh I c r L), hM (rf I 0)) := by
  rw [fX4_at, hM_ob, Option.bind_some, mCellY h, Option.bind_some, if_pos rfl, hM_ob, Option.bind_some, mShownAt (hR.rf 0), Option.bind_some, geo_sh (rf_geo I 0)]; rfl
def inpI (I : IT) (w : Nat) : IT := if I 9 w = 0 then I else if I 15 w = -1 then u2 (u2 I 16 w 0) 15 w (I 0 1 + (I 7 w + 1) / 2) else if I 15 w ≤ I 0 1 + (I 7 w + 1) / 2 then I else u2 I 15 w (I 0 1 + (I 7 w + 1) / 2)
theorem mInput_n {I : IT} {c r : Int32} (h : cell c r = false) : fX4_input (hM I) 0 c r = some (0, hM (rf I 1)) := by
  rw [fX4_input, hM_ob, Option.bind_some, mCellN h, Option.bind_some, if_neg e10]
theorem mInput_y {L : List Nat} {I : IT} (hR : RM L I) {c r : Int32} (h : cell c r = true) : fX4_input (hM I) 0 c r = some (o2i (sh I c r L), hM (match sh I c r L with | none => rf I 0 | some w => inpI (rf I 0) w)) := by
  rw [fX4_input, hM_ob, Option.bind_some, mCellY h, Option.bind_some, if_pos rfl, hM_ob, Option.bind_some, mShownAt (hR.rf 0), Option.bind_some, geo_sh (rf_geo I 0)]
  cases hs : sh I c r L with
  | none => rfl
  | some w =>
    have hw : w < 40 := hR.mem (sh_mem L hs)
    show (if nI w = -1 then _ else _) = some (nI w, _)
    rw [if_neg (nI_nm1 (show w < 1000 by omega))]
    generalize rf I 0 = J
    show ((p_gr (hM J) 0 4 12).bind _) = _
    simp only [hM_gr12, hM_gr10, hM_gr18, Option.bind_some, hM_ld9 _ hw, hM_ld7 _ hw, hM_ld15 _ hw, hM_gi1, hM_ob, mBegin _ hw, hM_st15 _ _ hw, fX4_input_88, inpI, o2i]
    by_cases h1 : J 9 w = 0
    · simp only [h1, if_true]
    · by_cases h2 : J 15 w = -1
      · simp only [h1, h2, if_true, if_false]
      · by_cases h3 : J 15 w ≤ J 0 1 + (J 7 w + 1) / 2
        · simp only [h1, h2, h3, if_true, if_false]
        · simp only [h1, h2, h3, if_false]
/-! damage -/
def pcS (I : IT) (L : List Nat) (k : Nat) : Int32 := match shc I L k with
  | none => 0
  | some w => I 10 w
def sam (I : IT) (L : List Nat) (k : Nat) : Bool := decide (o2i (shc I L k) = I 17 k) && (decide (shc I L k = none) || decide (pcS I L k = I 18 k))
def dmf (I : IT) (L : List Nat) (a : Int32) (k : Nat) : Int32 := a + (if sam I L k = true then 0 else 1)
def dmg (I : IT) (L : List Nat) : Int32 := (List.range' 0 48).foldl (dmf I L) 0
theorem mDamage_4 {L : List Nat} {I : IT} (hR : RM L I) : ∀ (m k f : Nat) (a : Int32), k + m = 48 → m < f → fX4_countDamage_4 f (hM I) 0 a (nI k) = some ((List.range' k m).foldl (dmf I L) a) := by
  intro m
  induction m with
  | zero =>
    intro k f a hk hf
    obtain ⟨f, rfl⟩ : ∃ g, f = g + 1 := ⟨f - 1, by omega⟩
    have e : (48 : Int32) ≤ nI k := by rw [show k = 48 by omega]; decide
    rw [fX4_countDamage_4, if_pos e]
    rfl
  | succ m ih =>
    intro k f a hk hf
    obtain ⟨f, rfl⟩ : ∃ g, f = g + 1 := ⟨f - 1, by omega⟩
    have e : ¬ (48 : Int32) ≤ nI k := fun q => by
      have := (nI_L (a := 48) (by decide) (by omega)).mp q
      omega
    have hk48 : k < 48 := by omega
    have ih2 := fun b => ih (k + 1) f b (by omega) (by omega)
    rw [fX4_countDamage_4, if_neg e]
    simp only [hM_ob, Option.bind_some, nI_d8 (show k < 1000 by omega), nI_m8b (show k < 1000 by omega), mShownAt hR, hM_gr20, hM_gr21, hM_gr13, hM_ld17 I hk48, hM_ld18 I hk48, fX4_countDamage_53, fX4_countDamage_57, fX4_countDamage_58, fX4_countDamage_71, nI_1, ih2, e10, if_false, if_true]
    rw [List.range'_succ, List.foldl_cons]
    have hsh : sh I (nI (k % 8)) (nI (k / 8)) L = shc I L k := rfl
    rw [hsh]
    have hd : dmf I L a k = a + (if sam I L k = true then 0 else 1) := rfl
    rw [hd]
    unfold sam pcS
    cases hs : shc I L k with
    | none =>
      by_cases h1 : o2i none = I 17 k
      · simp only [h1, if_true, decide_true, Bool.true_or, Bool.and_self]
        rw [← h1]
        simp [o2i]
      · simp only [h1, if_false, decide_false, Bool.false_and]
        simp
    | some w =>
      have hw : w < 40 := hR.mem (sh_mem L hs)
      have e3 : ¬ o2i (some w) = -1 := nI_nm1 (show w < 1000 by omega)
      have e4 : p_ld (hM I) 10 0 (o2i (some w)) = some (I 10 w) := hM_ld10 I hw
      simp only [e3, if_false, e4, Option.bind_some]
      by_cases h1 : o2i (some w) = I 17 k <;> by_cases h2 : I 10 w = I 18 k <;> simp [h1, h2]
theorem mDamage {L : List Nat} {I : IT} (hR : RM L I) : fX4_countDamage (hM I) 0 = some (dmg I L) := by
  have h := mDamage_4 hR 48 0 64 0 rfl (by decide)
  rw [nI_0] at h
  rw [fX4_countDamage]
  exact h
theorem mDamageC {L : List Nat} {I : IT} (hR : RM L I) : fX4_damage (hM I) 0 = some (dmg I L, hM (rf I 0)) := by
  rw [fX4_damage, hM_ob, Option.bind_some, mDamage hR, Option.bind_some, Option.bind_some, mFine, Option.bind_some]
def shS (L : List Nat) (I : IT) (k : Nat) : IT := u2 (u2 I 17 k (o2i (shc I L k))) 18 k (pcS I L k)
theorem shS_low (L : List Nat) (I : IT) (k : Nat) {a : Nat} (h : a < 17) : shS L I k a = I a := by
  unfold shS
  rw [u2_r _ _ _ (by omega), u2_r _ _ _ (by omega)]
theorem mShow_7 {L : List Nat} (d : Int32) : ∀ (m k f : Nat) (I : IT), RM L I → k + m = 48 → m < f → fX4_show_7 f (hM I) 0 d (nI k) = some (d, hM (rf ((List.range' k m).foldl (shS L) I) 0)) := by
  intro m
  induction m with
  | zero =>
    intro k f I hR hk hf
    obtain ⟨f, rfl⟩ : ∃ g, f = g + 1 := ⟨f - 1, by omega⟩
    have e : (48 : Int32) ≤ nI k := by rw [show k = 48 by omega]; decide
    rw [fX4_show_7, if_pos e, hM_ob, Option.bind_some, mFine, Option.bind_some]
    rfl
  | succ m ih =>
    intro k f I hR hk hf
    obtain ⟨f, rfl⟩ : ∃ g, f = g + 1 := ⟨f - 1, by omega⟩
    have e : ¬ (48 : Int32) ≤ nI k := fun q => by
      have := (nI_L (a := 48) (by decide) (by omega)).mp q
      omega
    have hk48 : k < 48 := by omega
    have hsh : sh I (nI (k % 8)) (nI (k / 8)) L = shc I L k := rfl
    have ih2 := ih (k + 1) f (shS L I k) (hR.of (by rw [shS_low _ _ _ (by omega)]) (shS_low _ _ _ (by omega))) (by omega) (by omega)
    rw [fX4_show_7, if_neg e]
    simp only [hM_ob, Option.bind_some, nI_d8 (show k < 1000 by omega), nI_m8b (show k < 1000 by omega), mShownAt hR, hM_gr20, hM_gr21, hM_gr13, hM_st17 _ _ hk48, hM_st18 _ _ hk48, fX4_show_53, nI_1, hsh]
    rw [List.range'_succ, List.foldl_cons, ← ih2]
    unfold shS pcS
    cases hs : shc I L k with
    | none => rfl
    | some w =>
      have hw : w < 40 := hR.mem (sh_mem L hs)
      have e3 : ¬ o2i (some w) = -1 := nI_nm1 (show w < 1000 by omega)
      have e4 : ∀ J, p_ld (hM J) 10 0 (o2i (some w)) = some (J 10 w) := fun J => hM_ld10 J hw
      simp only [e3, if_false, e4, Option.bind_some, u2_a I _ _ _ (show (10 : Nat) ≠ 17 by omega)]
theorem mShow {L : List Nat} {I : IT} (hR : RM L I) : fX4_show (hM I) 0 = some (dmg I L, hM (rf ((List.range' 0 48).foldl (shS L) I) 0)) := by
  have h := mShow_7 (dmg I L) 48 0 64 I hR rfl (by decide)
  rw [nI_0] at h
  rw [fX4_show, hM_ob, Option.bind_some, mDamage hR, Option.bind_some]
  exact h
