/-! THE REFERENCE: a tick -/
theorem plc_m1 {w : Nat} (hw : w < 1000) : ∀ (l : List Nat) (k : Nat), (∀ x ∈ l, x < 1000) → k + l.length < 1000 → (plc (nI w) k l = -1 ↔ w ∉ l) := by
  intro l
  induction l with
  | nil => intro k _ _; simp [plc]
  | cons n l ih =>
    intro k hl hk
    simp only [List.length_cons] at hk
    have hn := hl n List.mem_cons_self
    unfold plc
    by_cases h : nI n = nI w
    · rw [if_pos h]
      have e := (nI_E hn hw).mp h
      subst e
      simp [nI_nm1 (show k < 1000 by omega)]
    · rw [if_neg h, ih (k + 1) (fun x hx => hl x (List.mem_cons_of_mem _ hx)) (by omega)]
      have e : ¬ w = n := fun z => h (by rw [z])
      simp [e]
theorem RM.plcm {L : List Nat} {I : IT} (hR : RM L I) {w : Nat} (hw : w < 1000) : plc (nI w) 0 L = -1 ↔ w ∉ L :=
  plc_m1 hw L 0 (fun x hx => by have := hR.mem hx; omega) (by have := hR.2.1; omega)
theorem mBegin (I : IT) {w : Nat} (hw : w < 40) (x : Int32) : fX4_begin (hM I) 0 (nI w) x = some (hM (u2 (u2 I 16 w 0) 15 w x)) := by
  simp only [fX4_begin, hM_gr19, hM_gr18, Option.bind_some, hM_st16 I _ hw, hM_st15 _ _ hw]
/-- the windows by rising numbers -/
def lvf (L : List Nat) (k m : Nat) : List Nat := (List.range' k m).filter fun w => decide (w ∈ L)
theorem lvf_s (L : List Nat) (k m : Nat) : lvf L k (m + 1) = if k ∈ L then k :: lvf L (k + 1) m else lvf L (k + 1) m := by
  unfold lvf
  rw [List.range'_succ, List.filter_cons]
  by_cases h : k ∈ L <;> simp [h]
theorem lvf_mem {L : List Nat} {k m w : Nat} : w ∈ lvf L k m ↔ (k ≤ w ∧ w < k + m) ∧ w ∈ L := by
  simp [lvf, List.mem_range'_1]
def stS (L : List Nat) (I : IT) (w : Nat) : IT := if I 9 w = 0 ∨ seen I L w = false then drpI I w else if I 15 w = -1 then (if I 0 1 < I 14 w then I else u2 (u2 I 16 w 0) 15 w (I 0 1 + I 7 w * I 11 w)) else I
theorem stS_low (L : List Nat) (I : IT) (w : Nat) {a : Nat} (ha : a < 14 ∨ 16 < a) : stS L I w a = I a := by
  unfold stS
  split
  · exact drpI_low _ _ (by omega)
  · split
    · split
      · rfl
      · rw [u2_r _ _ _ (by omega), u2_r _ _ _ (by omega)]
    · rfl
theorem stSs_low (L : List Nat) : ∀ (l : List Nat) (I : IT) {a : Nat}, (a < 14 ∨ 16 < a) → l.foldl (stS L) I a = I a := by
  intro l
  induction l with
  | nil => intro I a h; rfl
  | cons n l ih => intro I a h; rw [List.foldl_cons, ih _ h, stS_low _ _ _ h]
theorem RM.ss {L : List Nat} {I : IT} (hR : RM L I) (w : Nat) : RM L (stS L I w) := hR.of (by rw [stS_low _ _ _ (by omega)]) (stS_low _ _ _ (by omega))
theorem RM.sss {L : List Nat} {I : IT} (hR : RM L I) (l : List Nat) : RM L (l.foldl (stS L) I) := hR.of (by rw [stSs_low _ _ _ (by omega)]) (stSs_low _ _ _ (by omega))
theorem mStart_2 {L : List Nat} {n : Nat} (hn : n ≤ 40) : ∀ (m k f : Nat) (I : IT), RM L I → I 0 2 = nI n → k + m = n → m < f → fX4_start_2 f (hM I) 0 (nI k) = some (hM ((lvf L k m).foldl (stS L) I)) := by
  intro m
  induction m with
  | zero =>
    intro k f I hR h0 hk hf
    obtain ⟨f, rfl⟩ : ∃ g, f = g + 1 := ⟨f - 1, by omega⟩
    rw [fX4_start_2]
    simp only [hM_gi2, Option.bind_some, h0]
    rw [if_pos ((nI_L (by omega) (by omega)).mpr (by omega))]
    rfl
  | succ m ih =>
    intro k f I hR h0 hk hf
    obtain ⟨f, rfl⟩ : ∃ g, f = g + 1 := ⟨f - 1, by omega⟩
    have hk40 : k < 40 := by omega
    have ih2 := fun I hR h0 => ih (k + 1) f I hR h0 (by omega) (by omega)
    rw [fX4_start_2]
    simp only [hM_gi2, Option.bind_some, h0, hM_ob, mPlace hR, hR.plcm (show k < 1000 by omega), fX4_start_90, fX4_start_36, hM_gr12, hM_gr18, hM_gr17, hM_gr10, hM_gr14, hM_ld9 I hk40, hM_ld15 I hk40, hM_ld14 I hk40, hM_ld7 I hk40, hM_ld11 I hk40, hM_gi1, mIsShown hR hk40, b2i_0, mDrop I hk40, mBegin I hk40, nI_1]
    rw [if_neg (fun q => by have := (nI_L (by omega) (by omega)).mp q; omega), lvf_s]
    by_cases h1 : k ∈ L
    · simp only [h1, not_true_eq_false, if_false, if_true, List.foldl_cons]
      have hss := ih2 (stS L I k) (hR.ss k) (by rw [stS_low _ _ _ (by omega)]; exact h0)
      rw [← hss]
      unfold stS
      by_cases h2 : I 9 k = 0
      · simp [h2]
      · cases h3 : seen I L k with
        | false => simp [h2]
        | true =>
          by_cases h4 : I 15 k = -1
          · by_cases h5 : I 0 1 < I 14 k <;> simp [h2, h4, h5]
          · simp [h2, h4]
    · simp only [h1, not_false_eq_true, if_true, if_false]
      exact ih2 I hR h0
theorem mStart {L : List Nat} {n : Nat} {I : IT} (hn : n ≤ 40) (hR : RM L I) (h0 : I 0 2 = nI n) : fX4_start (hM I) 0 = some (hM ((lvf L 0 n).foldl (stS L) I)) := by
  have h := mStart_2 hn n 0 64 I hR h0 (by omega) (by omega)
  rw [nI_0] at h
  rw [fX4_start]
  exact h
/-- the frame with the earliest deadline -/
def efI (I : IT) (b : Option Nat) (w : Nat) : Option Nat := if I 15 w = -1 then b else match b with
  | none => some w
  | some v => if I 15 v ≤ I 15 w then some v else some w
theorem efI_mem {I : IT} : ∀ (l : List Nat) (b : Option Nat) (n : Nat), l.foldl (efI I) b = some n → b = some n ∨ n ∈ l := by
  intro l
  induction l with
  | nil => intro b n h; exact Or.inl h
  | cons x l ih =>
    intro b n h
    rcases ih _ n h with h1 | h1
    · unfold efI at h1
      split at h1
      · exact Or.inl h1
      · split at h1
        · cases h1; exact Or.inr List.mem_cons_self
        · split at h1
          · exact Or.inl h1
          · cases h1; exact Or.inr List.mem_cons_self
    · exact Or.inr (List.mem_cons_of_mem _ h1)
theorem mEarliest_4 {L : List Nat} {n : Nat} {I : IT} (hn : n ≤ 40) (hR : RM L I) (h0 : I 0 2 = nI n) : ∀ (m k f : Nat) (b : Option Nat), (∀ v, b = some v → v < 40) → k + m = n → m < f → fX4_earliest_4 f (hM I) 0 (o2i b) (nI k) = some (o2i ((lvf L k m).foldl (efI I) b)) := by
  intro m
  induction m with
  | zero =>
    intro k f b hb hk hf
    obtain ⟨f, rfl⟩ : ∃ g, f = g + 1 := ⟨f - 1, by omega⟩
    rw [fX4_earliest_4]
    simp only [hM_gi2, Option.bind_some, h0]
    rw [if_pos ((nI_L (by omega) (by omega)).mpr (by omega))]
    rfl
  | succ m ih =>
    intro k f b hb hk hf
    obtain ⟨f, rfl⟩ : ∃ g, f = g + 1 := ⟨f - 1, by omega⟩
    have hk40 : k < 40 := by omega
    have ihb := ih (k + 1) f b hb (by omega) (by omega)
    have ihk := ih (k + 1) f (some k) (fun v h => by cases h; exact hk40) (by omega) (by omega)
    rw [fX4_earliest_4]
    simp only [hM_gi2, Option.bind_some, h0, hM_ob, mPlace hR, hR.plcm (show k < 1000 by omega), fX4_earliest_35, fX4_earliest_36, fX4_earliest_61, fX4_earliest_65, fX4_earliest_66, hM_gr18, hM_ld15 I hk40, nI_1]
    rw [if_neg (fun q => by have := (nI_L (by omega) (by omega)).mp q; omega), lvf_s]
    have e10 : ¬ (1 : Int32) = 0 := by decide
    by_cases h1 : k ∈ L
    · simp only [h1, not_true_eq_false, if_false, if_true, List.foldl_cons, e10]
      unfold efI
      by_cases h2 : I 15 k = -1
      · simp only [h2, if_true]
        exact ihb
      · simp only [h2, if_false]
        cases b with
        | none => simp only [o2i, if_true]; exact ihk
        | some v =>
          have hv := hb v rfl
          simp only [o2i, nI_nm1 (show v < 1000 by omega), if_false, hM_ld15 I hv, Option.bind_some]
          by_cases h3 : I 15 v ≤ I 15 k
          · simp only [h3, if_true]; exact ihb
          · simp only [h3, if_false]; exact ihk
    · simp only [h1, not_false_eq_true, if_true, if_false]
      exact ihb
theorem mEarliest {L : List Nat} {n : Nat} {I : IT} (hn : n ≤ 40) (hR : RM L I) (h0 : I 0 2 = nI n) : fX4_earliest (hM I) 0 = some (o2i ((lvf L 0 n).foldl (efI I) none)) := by
  have h := mEarliest_4 hn hR h0 n 0 64 none (fun v h => by cases h) (by omega) (by omega)
  rw [nI_0] at h
  rw [fX4_earliest]
  exact h
def finI (I : IT) (w : Nat) : IT :=
  if (if I 15 w < I 0 1 then 0 else I 13 w + 1) = 3 then u2 (u2 (u2 (u2 (u2 (u2 I 10 w (I 10 w + 1)) 14 w (I 15 w)) 13 w (if I 15 w < I 0 1 then 0 else I 13 w + 1)) 15 w (-1)) 11 w (if I 11 w ≤ 1 then 1 else I 11 w / 2)) 13 w 0
  else u2 (u2 (u2 (u2 I 10 w (I 10 w + 1)) 14 w (I 15 w)) 13 w (if I 15 w < I 0 1 then 0 else I 13 w + 1)) 15 w (-1)
theorem mFinish (I : IT) {w : Nat} (hw : w < 40) : fX4_finish (hM I) 0 (nI w) = some (hM (finI I w)) := by
  simp only [fX4_finish, fX4_finish_52, fX4_finish_97, fX4_finish_105, hM_gr13, hM_gr14, hM_gr16, hM_gr17, hM_gr18, Option.bind_some, hM_ld10 _ hw, hM_ld11 _ hw, hM_ld13 _ hw, hM_ld15 _ hw, hM_st10 _ _ hw, hM_st11 _ _ hw, hM_st13 _ _ hw, hM_st14 _ _ hw, hM_st15 _ _ hw, hM_gi1, finI]
  by_cases h1 : I 15 w < I 0 1
  · simp [h1, u2_a, u2_s]
  · by_cases h2 : I 13 w + 1 = 3
    · by_cases h3 : I 11 w ≤ 1 <;> simp [h1, h2, h3, u2_a, u2_s]
    · simp [h1, h2, u2_a, u2_s]
def missI (I : IT) (w : Nat) : IT := u2 (u2 (u2 (u2 I 12 w (I 12 w + 1)) 13 w 0) 15 w (I 15 w + I 7 w * I 11 w)) 11 w (if 8 ≤ 2 * I 11 w then 8 else 2 * I 11 w)
theorem mMiss (I : IT) {w : Nat} (hw : w < 40) : fX4_miss (hM I) 0 (nI w) = some (hM (missI I w)) := by
  simp only [fX4_miss, fX4_miss_70, hM_gr10, hM_gr14, hM_gr15, hM_gr16, hM_gr18, Option.bind_some, hM_ld7 _ hw, hM_ld11 _ hw, hM_ld12 _ hw, hM_ld15 _ hw, hM_st11 _ _ hw, hM_st12 _ _ hw, hM_st13 _ _ hw, hM_st15 _ _ hw, missI]
  by_cases h1 : 8 ≤ 2 * I 11 w <;> simp [h1, u2_a, u2_s]
def msF (I : IT) (w : Nat) : IT := if I 15 w = I 0 1 then missI I w else I
theorem missI_low (I : IT) (w : Nat) {a : Nat} (ha : a < 11 ∨ a = 14 ∨ 15 < a) : missI I w a = I a := by
  unfold missI
  rw [u2_r _ _ _ (by omega), u2_r _ _ _ (by omega), u2_r _ _ _ (by omega), u2_r _ _ _ (by omega)]
theorem msF_low (I : IT) (w : Nat) {a : Nat} (ha : a < 11 ∨ a = 14 ∨ 15 < a) : msF I w a = I a := by
  unfold msF
  split
  · exact missI_low I w ha
  · rfl
theorem msFs_low : ∀ (l : List Nat) (I : IT) {a : Nat}, (a < 11 ∨ a = 14 ∨ 15 < a) → l.foldl msF I a = I a := by
  intro l
  induction l with
  | nil => intro I a h; rfl
  | cons n l ih => intro I a h; rw [List.foldl_cons, ih _ h, msF_low _ _ h]
theorem finI_low (I : IT) (w : Nat) {a : Nat} (ha : a < 10 ∨ a = 12 ∨ 15 < a) : finI I w a = I a := by
  unfold finI
  generalize (if I 15 w < I 0 1 then (0 : Int32) else I 13 w + 1) = t
  split
  · rw [u2_r _ _ _ (by omega), u2_r _ _ _ (by omega), u2_r _ _ _ (by omega), u2_r _ _ _ (by omega), u2_r _ _ _ (by omega), u2_r _ _ _ (by omega)]
  · rw [u2_r _ _ _ (by omega), u2_r _ _ _ (by omega), u2_r _ _ _ (by omega), u2_r _ _ _ (by omega)]
theorem mPass_74 {L : List Nat} : ∀ (l : List Nat) (k f : Nat) (I : IT), RM L I → L.drop k = l → k ≤ L.length → l.length < f → fX4_pass_74 f (hM I) 0 (nI k) = some (hM (l.foldl msF I)) := by
  intro l
  induction l with
  | nil =>
    intro k f I hR hl hk hf
    obtain ⟨f, rfl⟩ : ∃ g, f = g + 1 := ⟨f - 1, by omega⟩
    have h9 := drop_nil hl
    obtain ⟨h1, h2, h3⟩ := hR
    rw [fX4_pass_74]
    simp only [hM_gi3, Option.bind_some, h1]
    rw [if_pos ((nI_L (by omega) (by omega)).mpr h9)]
    rfl
  | cons n l ih =>
    intro k f I hR hl hk hf
    obtain ⟨f, rfl⟩ : ∃ g, f = g + 1 := ⟨f - 1, by omega⟩
    obtain ⟨g1, g2, g3⟩ := drop_cons hl
    obtain ⟨h1, h2, h3⟩ := id hR
    obtain ⟨h4, h5⟩ := h3 k n g1
    have hf2 : l.length < f := by simp at hf; omega
    rw [fX4_pass_74]
    simp only [hM_gi3, Option.bind_some, h1, hM_ob, hM_gr4, hM_gr18, hM_ld1 I (show k < 8 by omega), h4, hM_ld15 I h5, hM_gi1, mMiss I h5, fX4_pass_110, nI_1]
    rw [if_neg (fun q => by have := (nI_L (by omega) (by omega)).mp q; omega), List.foldl_cons]
    unfold msF
    by_cases h6 : I 15 n = I 0 1
    · simp only [h6, if_true]
      exact ih (k + 1) f _ (hR.of (by rw [missI_low _ _ (by omega)]) (missI_low _ _ (by omega))) g2 (by omega) hf2
    · simp only [h6, if_false]
      exact ih (k + 1) f I hR g2 (by omega) hf2
def drwI (I : IT) (b : Option Nat) : IT := match b with
  | none => u2 I 0 1 (I 0 1 + 1)
  | some w => if I 16 w + 1 = I 8 w then finI (u2 (u2 I 16 w (I 16 w + 1)) 0 1 (I 0 1 + 1)) w else u2 (u2 I 16 w (I 16 w + 1)) 0 1 (I 0 1 + 1)
def passI (L : List Nat) (n : Nat) (I : IT) : IT := L.foldl msF (drwI ((lvf L 0 n).foldl (stS L) I) ((lvf L 0 n).foldl (efI ((lvf L 0 n).foldl (stS L) I)) none))
theorem drwI_low (I : IT) (b : Option Nat) {a : Nat} (ha : (1 ≤ a ∧ a < 10) ∨ a = 12 ∨ 16 < a) : drwI I b a = I a := by
  unfold drwI
  split
  · rw [u2_r _ _ _ (by omega)]
  · split
    · rw [finI_low _ _ (by omega), u2_r _ _ _ (by omega), u2_r _ _ _ (by omega)]
    · rw [u2_r _ _ _ (by omega), u2_r _ _ _ (by omega)]
theorem drwI_0 (I : IT) (b : Option Nat) {k : Nat} (hk : k ≠ 1) : drwI I b 0 k = I 0 k := by
  unfold drwI
  split
  · rw [u2_k _ _ _ hk]
  · split
    · rw [finI_low _ _ (by omega), u2_k _ _ _ hk, u2_a _ _ _ _ (by omega)]
    · rw [u2_k _ _ _ hk, u2_a _ _ _ _ (by omega)]
theorem mPass72 {L : List Nat} {K : IT} (hK : RM L K) : fX4_pass_72 (hM K) 0 = some (hM (L.foldl msF K)) := by
  have h := mPass_74 L 0 64 K hK rfl (Nat.zero_le _) (by have := hK.2.1; omega)
  rw [nI_0] at h
  rw [fX4_pass_72]
  exact h
theorem mPassN {L : List Nat} {J : IT} (hJ : RM L J) : fX4_pass_23 (hM J) 0 (-1) 0 16 = some (hM (L.foldl msF (drwI J none))) := by
  have e : u2 J 16 0 (J 16 0 + 0) = J := by rw [show J 16 0 + 0 = J 16 0 by grind]; exact u2_same J 16 0
  have s := hM_st16 J (k := 0) (J 16 0 + 0) (by omega)
  have d := hM_ld16 J (k := 0) (by omega)
  rw [nI_0] at s d
  rw [fX4_pass_23, d, Option.bind_some, if_pos rfl, fX4_pass_35, s, Option.bind_some, e, hM_gi1, Option.bind_some, hM_si1, Option.bind_some, if_pos rfl]
  exact mPass72 (hJ.of (u2_k _ _ _ (by omega)) (u2_r _ _ _ (by omega)))
theorem mPassS {L : List Nat} {J : IT} (hJ : RM L J) {w : Nat} (hw : w < 40) : fX4_pass_23 (hM J) 0 (nI w) (nI w) 16 = some (hM (L.foldl msF (drwI J (some w)))) := by
  have hK : RM L (u2 (u2 J 16 w (J 16 w + 1)) 0 1 (J 0 1 + 1)) := hJ.of (by rw [u2_k _ _ _ (by omega), u2_a _ _ _ _ (by omega)]) (by rw [u2_r _ _ _ (by omega), u2_r _ _ _ (by omega)])
  have e1 : u2 (u2 J 16 w (J 16 w + 1)) 0 1 (J 0 1 + 1) 16 w = J 16 w + 1 := by rw [u2_a _ _ _ _ (by omega), u2_s]
  have e2 : u2 (u2 J 16 w (J 16 w + 1)) 0 1 (J 0 1 + 1) 8 w = J 8 w := by rw [u2_a _ _ _ _ (by omega), u2_a _ _ _ _ (by omega)]
  have e3 : u2 J 16 w (J 16 w + 1) 0 1 = J 0 1 := u2_a _ _ _ _ (by omega)
  rw [fX4_pass_23, hM_ld16 _ hw, Option.bind_some, if_neg (nI_nm1 (show w < 1000 by omega)), fX4_pass_35, hM_st16 _ _ hw, Option.bind_some, hM_gi1, Option.bind_some, e3, hM_si1, Option.bind_some, if_neg (nI_nm1 (show w < 1000 by omega))]
  unfold drwI
  dsimp only
  generalize u2 (u2 J 16 w (J 16 w + 1)) 0 1 (J 0 1 + 1) = K at hK e1 e2 ⊢
  rw [hM_gr19, Option.bind_some, hM_ld16 _ hw, Option.bind_some, hM_gr11, Option.bind_some, hM_ld8 _ hw, Option.bind_some, e1, e2]
  by_cases h6 : J 16 w + 1 = J 8 w
  · rw [if_pos h6, if_pos h6, hM_ob, Option.bind_some, mFinish _ hw, Option.bind_some]
    exact mPass72 (hK.of (by rw [finI_low _ _ (by omega)]) (finI_low _ _ (by omega)))
  · rw [if_neg h6, if_neg h6]
    exact mPass72 hK
theorem mPass {L : List Nat} {n : Nat} {I : IT} (hn : n ≤ 40) (hR : RM L I) (h0 : I 0 2 = nI n) : fX4_pass (hM I) 0 = some (hM (passI L n I)) := by
  have hJ := hR.sss (lvf L 0 n)
  have hJ0 : (lvf L 0 n).foldl (stS L) I 0 2 = nI n := by rw [stSs_low _ _ _ (by omega)]; exact h0
  have hm : ∀ w, (lvf L 0 n).foldl (efI ((lvf L 0 n).foldl (stS L) I)) none = some w → w < 40 := fun w hw => by
    rcases efI_mem _ _ _ hw with h | h
    · cases h
    · have := (lvf_mem.mp h).1; omega
  unfold passI
  rw [fX4_pass, hM_ob, Option.bind_some, mStart hn hR h0, Option.bind_some, hM_ob, Option.bind_some, mEarliest hn hJ hJ0, Option.bind_some, hM_gr19, Option.bind_some]
  generalize (lvf L 0 n).foldl (stS L) I = J at hJ hJ0 hm ⊢
  generalize (lvf L 0 n).foldl (efI J) none = b at hm ⊢
  cases b with
  | none =>
    show (if (-1 : Int32) = -1 then _ else _) = _
    rw [if_pos rfl]
    exact mPassN hJ
  | some w =>
    have hw := hm w rfl
    show (if nI w = -1 then fX4_pass_23 (hM J) 0 (nI w) 0 16 else fX4_pass_23 (hM J) 0 (nI w) (nI w) 16) = _
    rw [if_neg (nI_nm1 (show w < 1000 by omega))]
    exact mPassS hJ hw
