/-! THE REFERENCE: close, move, lay -/
theorem eI_g {L : List Nat} {p k : Nat} : (L.eraseIdx p)[k]? = if k < p then L[k]? else L[k + 1]? := List.getElem?_eraseIdx
/-- the stack's row, from k on one down -/
def shl : Nat → Nat → IT → IT
  | 0, _, I => I
  | j + 1, k, I => shl j (k + 1) (u2 I 1 k (I 1 (k + 1)))
theorem shl_r (j : Nat) : ∀ (k : Nat) (I : IT) {a : Nat}, a ≠ 1 → shl j k I a = I a := by
  induction j with
  | zero => intro k I a _; rfl
  | succ j ih => intro k I a h; rw [shl, ih _ _ h, u2_r _ _ _ h]
theorem shl_1 (j : Nat) : ∀ (k i : Nat) (I : IT), shl j k I 1 i = if k ≤ i ∧ i < k + j then I 1 (i + 1) else I 1 i := by
  induction j with
  | zero => intro k i I; rw [if_neg (by omega)]; rfl
  | succ j ih =>
    intro k i I
    rw [shl, ih]
    by_cases h1 : i = k
    · subst h1
      rw [if_neg (by omega), if_pos (by omega), u2_s]
    · by_cases h2 : k ≤ i ∧ i < k + (j + 1)
      · rw [if_pos (by omega), if_pos h2, u2_k _ _ _ (by omega)]
      · rw [if_neg (by omega), if_neg h2, u2_k _ _ _ h1]
def shr : Nat → IT → IT
  | 0, I => I
  | j + 1, I => shr j (u2 I 1 (j + 1) (I 1 j))
theorem shr_r (j : Nat) : ∀ (I : IT) {a : Nat}, a ≠ 1 → shr j I a = I a := by
  induction j with
  | zero => intro I a _; rfl
  | succ j ih => intro I a h; rw [shr, ih _ h, u2_r _ _ _ h]
theorem shr_1 (j : Nat) : ∀ (i : Nat) (I : IT), shr j I 1 i = if 1 ≤ i ∧ i ≤ j then I 1 (i - 1) else I 1 i := by
  induction j with
  | zero => intro i I; rw [if_neg (by omega)]; rfl
  | succ j ih =>
    intro i I
    rw [shr, ih]
    by_cases h1 : i = j + 1
    · subst h1
      rw [if_neg (by omega), if_pos (by omega), u2_s]
      rfl
    · by_cases h2 : 1 ≤ i ∧ i ≤ j + 1
      · rw [if_pos (by omega), if_pos h2, u2_k _ _ _ (by omega)]
      · rw [if_neg (by omega), if_neg h2, u2_k _ _ _ h1]
def clI (I : IT) (p m : Nat) : IT := u2 (shl (m - 1 - p) p I) 0 3 (nI (m - 1))
def dnI (I : IT) (p v : Nat) : IT := u2 (shr p I) 1 0 (nI v)
def upI (I : IT) (p m v : Nat) : IT := u2 (shl (m - 1 - p) p I) 1 (m - 1) (nI v)
theorem RM.cl {L : List Nat} {I : IT} (hR : RM L I) {p : Nat} (hp : p < L.length) : RM (L.eraseIdx p) (clI I p L.length) := by
  have hl : (L.eraseIdx p).length = L.length - 1 := List.length_eraseIdx_of_lt hp
  have h8 := hR.2.1
  refine ⟨?_, by omega, fun k n h => ?_⟩
  · rw [clI, u2_s, hl]
  · rw [clI, u2_r _ _ _ (by omega), shl_1]
    rw [eI_g] at h
    by_cases hk : k < p
    · rw [if_pos hk] at h
      rw [if_neg (by omega)]
      exact hR.2.2 k n h
    · rw [if_neg hk] at h
      have := (List.getElem?_eq_some_iff.mp h).1
      rw [if_pos (by omega)]
      exact hR.2.2 (k + 1) n h
theorem RM.up {L : List Nat} {I : IT} (hR : RM L I) {p v : Nat} (hp : p < L.length) (hv : v < 40) : RM (L.eraseIdx p ++ [v]) (upI I p L.length v) := by
  have hl : (L.eraseIdx p).length = L.length - 1 := List.length_eraseIdx_of_lt hp
  have h8 := hR.2.1
  refine ⟨?_, by simp; omega, fun k n h => ?_⟩
  · rw [upI, u2_a _ _ _ _ (by omega), shl_r _ _ _ (by omega), hR.1, List.length_append, hl]
    congr 1
    simp
    omega
  · rw [upI]
    by_cases hk : k < L.length - 1
    · rw [u2_k _ _ _ (by omega), shl_1]
      rw [List.getElem?_append_left (by omega), eI_g] at h
      by_cases hk : k < p
      · rw [if_pos hk] at h
        rw [if_neg (by omega)]
        exact hR.2.2 k n h
      · rw [if_neg hk] at h
        rw [if_pos (by omega)]
        exact hR.2.2 (k + 1) n h
    · have hk2 : k = L.length - 1 := by
        have := (List.getElem?_eq_some_iff.mp h).1
        rw [List.length_append, hl] at this
        simp at this
        omega
      subst hk2
      rw [u2_s]
      rw [List.getElem?_append_right (by omega), hl, Nat.sub_self] at h
      cases h
      exact ⟨rfl, hv⟩
theorem RM.dn {L : List Nat} {I : IT} (hR : RM L I) {p v : Nat} (hp : p < L.length) (hv : v < 40) : RM (v :: L.eraseIdx p) (dnI I p v) := by
  have hl : (L.eraseIdx p).length = L.length - 1 := List.length_eraseIdx_of_lt hp
  have h8 := hR.2.1
  refine ⟨?_, by simp; omega, fun k n h => ?_⟩
  · rw [dnI, u2_a _ _ _ _ (by omega), shr_r _ _ (by omega), hR.1, List.length_cons, hl]
    congr 1
    omega
  · rw [dnI]
    cases k with
    | zero =>
      rw [u2_s]
      cases h
      exact ⟨rfl, hv⟩
    | succ k =>
      rw [u2_k _ _ _ (by omega), shr_1]
      rw [List.getElem?_cons_succ, eI_g] at h
      by_cases hk : k < p
      · rw [if_pos hk] at h
        rw [if_pos (by omega)]
        exact hR.2.2 k n h
      · rw [if_neg hk] at h
        rw [if_neg (by omega)]
        exact hR.2.2 (k + 1) n h
theorem mClose_16 {L : List Nat} {m : Nat} (hm : m ≤ 8) : ∀ (j k f : Nat) (I : IT), k + j + 1 = m → j < f → I 0 3 = nI m → RM L (u2 (shl j k I) 0 3 (nI (m - 1))) → fX4_close_16 f (hM I) 0 (nI k) = some (nI (m - 1), hM (lA L (u2 (shl j k I) 0 3 (nI (m - 1))))) := by
  intro j
  induction j with
  | zero =>
    intro k f I hk hf h3 hR
    obtain ⟨f, rfl⟩ : ∃ g, f = g + 1 := ⟨f - 1, by omega⟩
    have e : nI m - 1 = nI (m - 1) := by
      obtain ⟨q, rfl⟩ : ∃ q, m = q + 1 := ⟨m - 1, by omega⟩
      rw [nI_pred]; rfl
    have hR' : RM L (u2 I 0 3 (nI (m - 1))) := hR
    rw [fX4_close_16, hM_gi3, Option.bind_some, nI_1, h3, if_pos ((nI_L (by omega) (by omega)).mpr (by omega)), Option.bind_some, e, hM_si3, Option.bind_some, hM_ob, Option.bind_some, mLendAll hR', Option.bind_some, hM_gi3, Option.bind_some, lA_low _ _ (by omega), u2_s]
    rfl
  | succ j ih =>
    intro k f I hk hf h3 hR
    obtain ⟨f, rfl⟩ : ∃ g, f = g + 1 := ⟨f - 1, by omega⟩
    rw [fX4_close_16, hM_gi3, Option.bind_some, nI_1, h3, if_neg (fun q => by have := (nI_L (by omega) (by omega)).mp q; omega), hM_gr4, Option.bind_some, Option.bind_some, hM_ld1 I (show k + 1 < 8 by omega), Option.bind_some, hM_st1 _ _ (show k < 8 by omega), Option.bind_some]
    exact ih (k + 1) f _ (by omega) (by omega) (by rw [u2_a _ _ _ _ (by omega)]; exact h3) hR
theorem mClose_n {L : List Nat} {I : IT} (hR : RM L I) {w : Int32} (h : plc w 0 L = -1) : fX4_close (hM I) 0 w = some (0, hM (rf I 1)) := by
  rw [fX4_close, hM_ob, Option.bind_some, mNo hR h, Option.bind_some, if_neg e10]
theorem mClose_y {L : List Nat} {I : IT} (hR : RM L I) {w : Int32} {p : Nat} (h : plc w 0 L = nI p) (hp : p < L.length) : fX4_close (hM I) 0 w = some (nI (L.length - 1), hM (lA (L.eraseIdx p) (clI (rf I 0) p L.length))) := by
  have h8 := hR.2.1
  rw [fX4_close, hM_ob, Option.bind_some, mYes hR h (by omega), Option.bind_some, if_pos rfl, hM_ob, Option.bind_some, mPlace (hR.rf 0), Option.bind_some, h]
  exact mClose_16 h8 (L.length - 1 - p) p 64 _ (by omega) (by omega) (by rw [rf_0 _ _ (by omega)]; exact hR.1) ((hR.rf 0).cl hp)
/-! move -/
def mvI (I : IT) (v : Nat) (x2 x3 : Int32) : IT := u2 (u2 I 2 v x2) 3 v x3
theorem mMove_82 {I : IT} {w x2 x3 x : Int32} (h : x ≠ 0) : fX4_move_82 (hM I) 0 w x2 x3 x 0 = some (hM (rf I x)) := by
  rw [fX4_move_82, hM_ob, Option.bind_some, mRefused, Option.bind_some, if_neg (by simp [h, b2i]), fX4_move_106]
theorem mMove_n {L : List Nat} {I : IT} (hR : RM L I) {w x2 x3 : Int32} (h : plc w 0 L = -1) : fX4_move (hM I) 0 w x2 x3 = some (hM (rf I 1)) := by
  rw [fX4_move, hM_ob, Option.bind_some, mPlace hR, Option.bind_some, if_pos h, fX4_move_14, if_pos rfl, fX4_move_59, fX4_move_60, if_pos rfl, mMove_82 (by decide)]
theorem mMove_b {L : List Nat} {I : IT} (hR : RM L I) {v p : Nat} {x2 x3 : Int32} (h : plc (nI v) 0 L = nI p) (hp : p < 8) (hv : v < 40) (hb : (inB x2 0 (8 - I 4 v) && inB x3 0 (6 - I 5 v)) = false) : fX4_move (hM I) 0 (nI v) x2 x3 = some (hM (rf I 2)) := by
  have q : fX4_move_59 (hM I) 0 (nI v) x2 x3 1 = some (hM (rf I 2)) := by
    rw [fX4_move_59, fX4_move_60, if_neg e10, if_pos rfl, mMove_82 (by decide)]
  rw [fX4_move, hM_ob, Option.bind_some, mPlace hR, Option.bind_some, h, if_neg (nI_nm1 (by omega)), fX4_move_14, if_neg e10, hM_gr7, Option.bind_some, hM_ld4 I hv, Option.bind_some, mIn, Option.bind_some]
  cases h1 : inB x2 0 (8 - I 4 v) with
  | false => rw [if_pos (show b2i false = 0 from rfl)]; exact q
  | true =>
    rw [if_neg (show ¬ b2i true = 0 by decide), hM_gr8, Option.bind_some, hM_ld5 I hv, Option.bind_some, mIn, Option.bind_some]
    cases h2 : inB x3 0 (6 - I 5 v) with
    | false => rw [if_pos (show b2i false = 0 from rfl)]; exact q
    | true => rw [h1, h2] at hb; cases hb
theorem mMove_y {L : List Nat} {I : IT} (hR : RM L I) {v p : Nat} {x2 x3 : Int32} (h : plc (nI v) 0 L = nI p) (hp : p < 8) (hv : v < 40) (hb : (inB x2 0 (8 - I 4 v) && inB x3 0 (6 - I 5 v)) = true) : fX4_move (hM I) 0 (nI v) x2 x3 = some (hM (lA L (mvI (rf I 0) v x2 x3))) := by
  rw [Bool.and_eq_true] at hb
  obtain ⟨h1, h2⟩ := hb
  have hR2 : RM L (u2 (u2 (rf I 0) 2 v x2) 3 v x3) := ((hR.rf 0).u v x2 (by omega)).u v x3 (by omega)
  rw [fX4_move, hM_ob, Option.bind_some, mPlace hR, Option.bind_some, h, if_neg (nI_nm1 (by omega)), fX4_move_14, if_neg e10, hM_gr7, Option.bind_some, hM_ld4 I hv, Option.bind_some, mIn, Option.bind_some, h1, if_neg (show ¬ b2i true = 0 by decide), hM_gr8, Option.bind_some, hM_ld5 I hv, Option.bind_some, mIn, Option.bind_some, h2, if_neg (show ¬ b2i true = 0 by decide), fX4_move_60, if_neg e10, if_neg e10, fX4_move_82, hM_ob, Option.bind_some, mRef0, Option.bind_some, if_pos rfl, hM_gr5, Option.bind_some, hM_st2 _ _ hv, Option.bind_some, hM_gr6, Option.bind_some, hM_st3 _ _ hv, Option.bind_some, hM_ob, Option.bind_some, mLendAll hR2, Option.bind_some, fX4_move_106]
  rfl
/-! lay -/
theorem mLay_up {M : List Nat} {m v : Nat} (x3 : Int32) (hm : m ≤ 8) : ∀ (j k f : Nat) (I : IT), k + j + 1 = m → j < f → RM M (u2 (shl j k I) 1 (m - 1) (nI v)) → fX4_lay_46 f (hM I) 0 (nI v) x3 (nI (m - 1)) 1 (nI k) = some (x3, hM (lA M (u2 (shl j k I) 1 (m - 1) (nI v)))) := by
  intro j
  induction j with
  | zero =>
    intro k f I hk hf hR
    obtain ⟨f, rfl⟩ : ∃ g, f = g + 1 := ⟨f - 1, by omega⟩
    have e : k = m - 1 := by omega
    have hR' : RM M (u2 I 1 (m - 1) (nI v)) := hR
    rw [fX4_lay_46, if_pos (by rw [e]), hM_gr4, Option.bind_some, hM_st1 _ _ (by omega), Option.bind_some, hM_ob, Option.bind_some, mLendAll hR', Option.bind_some]
    rfl
  | succ j ih =>
    intro k f I hk hf hR
    obtain ⟨f, rfl⟩ : ∃ g, f = g + 1 := ⟨f - 1, by omega⟩
    rw [fX4_lay_46, if_neg (fun q => by have := (nI_E (by omega) (by omega)).mp q; omega), hM_gr4, Option.bind_some, Option.bind_some, nI_1, hM_ld1 I (show k + 1 < 8 by omega), Option.bind_some, hM_st1 _ _ (show k < 8 by omega), Option.bind_some]
    exact ih (k + 1) f _ (by omega) (by omega) hR
theorem mLay_dn {M : List Nat} {v : Nat} (x3 : Int32) : ∀ (j f : Nat) (I : IT), j < 8 → j < f → RM M (u2 (shr j I) 1 0 (nI v)) → fX4_lay_46 f (hM I) 0 (nI v) x3 0 (-1) (nI j) = some (x3, hM (lA M (u2 (shr j I) 1 0 (nI v)))) := by
  intro j
  induction j with
  | zero =>
    intro f I hj hf hR
    obtain ⟨f, rfl⟩ : ∃ g, f = g + 1 := ⟨f - 1, by omega⟩
    have hR' : RM M (u2 I 1 0 (nI v)) := hR
    have e := hM_st1 I (k := 0) (nI v) (by omega)
    rw [nI_0] at e
    rw [fX4_lay_46, if_pos nI_0, hM_gr4, Option.bind_some, e, Option.bind_some, hM_ob, Option.bind_some, mLendAll hR', Option.bind_some]
    rfl
  | succ j ih =>
    intro f I hj hf hR
    obtain ⟨f, rfl⟩ : ∃ g, f = g + 1 := ⟨f - 1, by omega⟩
    have e : nI (j + 1) + (-1) = nI j := by have := nI_pred j; grind
    rw [fX4_lay_46, if_neg (fun q => by rw [← nI_0] at q; have := (nI_E (by omega) (by omega)).mp q; omega), hM_gr4, Option.bind_some, Option.bind_some, e, hM_ld1 I (show j < 8 by omega), Option.bind_some, hM_st1 _ _ (show j + 1 < 8 by omega), Option.bind_some]
    exact ih f _ (by omega) (by omega) hR
theorem mLay_n {L : List Nat} {I : IT} (hR : RM L I) {w x2 : Int32} (h : plc w 0 L = -1) : fX4_lay (hM I) 0 w x2 = some (0, hM (rf I 1)) := by
  rw [fX4_lay, hM_ob, Option.bind_some, mNo hR h, Option.bind_some, if_neg e10]
theorem mLay_u {L : List Nat} {I : IT} (hR : RM L I) {x2 : Int32} {p v : Nat} (h : plc (nI v) 0 L = nI p) (hp : p < L.length) (hv : v < 40) (hx : x2 ≠ 0) : fX4_lay (hM I) 0 (nI v) x2 = some (nI p, hM (lA (L.eraseIdx p ++ [v]) (upI (rf I 0) p L.length v))) := by
  have h8 := hR.2.1
  have e : nI L.length - 1 = nI (L.length - 1) := by
    obtain ⟨q, hq⟩ : ∃ q, L.length = q + 1 := ⟨L.length - 1, by omega⟩
    rw [hq, nI_pred]; rfl
  rw [fX4_lay, hM_ob, Option.bind_some, mYes hR h (by omega), Option.bind_some, if_pos rfl, hM_ob, Option.bind_some, mPlace (hR.rf 0), Option.bind_some, h, if_neg hx, hM_gi3, Option.bind_some, (hR.rf 0).1, e, fX4_lay_30, if_neg hx, fX4_lay_41]
  exact mLay_up (nI p) h8 (L.length - 1 - p) p 64 _ (by omega) (by omega) ((hR.rf 0).up hp hv)
theorem mLay_d {L : List Nat} {I : IT} (hR : RM L I) {p v : Nat} (h : plc (nI v) 0 L = nI p) (hp : p < L.length) (hv : v < 40) : fX4_lay (hM I) 0 (nI v) 0 = some (nI p, hM (lA (v :: L.eraseIdx p) (dnI (rf I 0) p v))) := by
  have h8 := hR.2.1
  rw [fX4_lay, hM_ob, Option.bind_some, mYes hR h (by omega), Option.bind_some, if_pos rfl, hM_ob, Option.bind_some, mPlace (hR.rf 0), Option.bind_some, h, if_pos rfl, fX4_lay_30, if_pos rfl, fX4_lay_41]
  exact mLay_dn (nI p) p 64 _ (by omega) (by omega) ((hR.rf 0).dn hp hv)
theorem mThrown (I : IT) : fX4_thrown (hM I) 0 = some (I 0 0) := by rw [fX4_thrown, hM_gi0, Option.bind_some]
