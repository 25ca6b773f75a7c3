/-! THE REFERENCE'S HEAP: the object at 0, its rows at 1 (stack), 2 columns, 3 rows, 4 widths, 5 heights, 6 isClear, 7 periods, 8 costs, 9 hasSurface, 10 pictures, 11 paces, 12 misses, 13 inTime, 14 dues, 15 deadlines, 16 slices, 17 shownWindows, 18 shownPictures; I 0 0 refusal, I 0 1 tick, I 0 2 opened, I 0 3 many -/
abbrev IT : Type := Nat → Nat → Int32
def u2 (I : IT) (a k : Nat) (x : Int32) : IT := fun b j => if b = a ∧ j = k then x else I b j
def mT (a : Nat) : Nat := if a = 6 ∨ a = 9 then 1 else 0
def mN (a : Nat) : Nat := if a = 1 then 8 else if a ≤ 16 then 40 else 48
def mF (I : IT) : List Value := [.int (I 0 0), .int (I 0 1), .int (I 0 2), .int (I 0 3), .ref 1, .ref 2, .ref 3, .ref 4, .ref 5, .ref 6, .ref 7, .ref 8, .ref 9, .ref 10, .ref 11, .ref 12, .ref 13, .ref 14, .ref 15, .ref 16, .ref 17, .ref 18]
theorem p_ld_eq {h : PH} {a t n : Nat} {f : Nat → Int32} {i : Int32} (hh : h a = some (.inl (t, n, .inl f))) (hi : ¬ (i < 0 ∨ n ≤ i.toNatClampNeg)) : p_ld h a t i = some (f i.toNatClampNeg) := by
  unfold p_ld
  rw [hh]
  exact if_pos ⟨rfl, hi⟩
theorem p_st_eq {h : PH} {a n : Nat} {f : Nat → Int32} {i x : Int32} (hh : h a = some (.inl (0, n, .inl f))) (hi : ¬ (i < 0 ∨ n ≤ i.toNatClampNeg)) : p_st h a i x = some (p_up h a (.inl (0, n, .inl (upd f i.toNatClampNeg x)))) := by
  unfold p_st
  rw [hh]
  exact if_pos ⟨rfl, hi⟩
theorem p_sb_eq {h : PH} {a n : Nat} {f : Nat → Int32} {i x : Int32} (hh : h a = some (.inl (1, n, .inl f))) (hi : ¬ (i < 0 ∨ n ≤ i.toNatClampNeg)) (hx : x = 0 ∨ x = 1) : p_sb h a i x = some (p_up h a (.inl (1, n, .inl (upd f i.toNatClampNeg x)))) := by
  unfold p_sb
  rw [hh]
  exact if_pos ⟨⟨rfl, hi⟩, hx⟩
def hM (I : IT) : PH := fun q => if q = 0 then some (.inr (4, mF I)) else if q ≤ 18 then some (.inl (mT q, mN q, .inl (I q))) else none
theorem hM_0 (I : IT) : hM I 0 = some (.inr (4, mF I)) := rfl
theorem hM_a (I : IT) {a : Nat} (h1 : 1 ≤ a) (h2 : a ≤ 18) : hM I a = some (.inl (mT a, mN a, .inl (I a))) := by
  unfold hM
  rw [if_neg (by omega), if_pos h2]
theorem u2_s (I : IT) (a k : Nat) (x : Int32) : u2 I a k x a k = x := by simp [u2]
theorem u2_k (I : IT) (a : Nat) {k j : Nat} (x : Int32) (h : j ≠ k) : u2 I a k x a j = I a j := by simp [u2, h]
theorem u2_a (I : IT) {a b : Nat} (k j : Nat) (x : Int32) (h : b ≠ a) : u2 I a k x b j = I b j := by simp [u2, h]
theorem u2_r (I : IT) {a b : Nat} (k : Nat) (x : Int32) (h : b ≠ a) : u2 I a k x b = I b := by funext j; simp [u2, h]
theorem u2_same (I : IT) (a k : Nat) : u2 I a k (I a k) = I := by
  funext b j
  unfold u2
  by_cases h : b = a ∧ j = k
  · rw [if_pos h, h.1, h.2]
  · rw [if_neg h]
theorem u2_upd (I : IT) (a k : Nat) (x : Int32) : u2 I a k x a = upd (I a) k x := by
  funext j
  by_cases h : j = k <;> simp [u2, upd, h]
theorem hM_up (I : IT) {a k : Nat} (x : Int32) (h1 : 1 ≤ a) (h2 : a ≤ 18) : p_up (hM I) a (.inl (mT a, mN a, .inl (upd (I a) k x))) = hM (u2 I a k x) := by
  funext q
  unfold p_up
  by_cases hq : q = a
  · subst hq
    rw [if_pos rfl, hM_a _ h1 h2, u2_upd]
  · rw [if_neg hq]
    unfold hM
    by_cases h0 : q = 0
    · rw [if_pos h0, if_pos h0]
      simp only [mF, u2_a I k _ x (show (0 : Nat) ≠ a by omega)]
    · rw [if_neg h0, if_neg h0, u2_r I k x hq]

theorem hM_gi0 (I : IT) : p_gi (hM I) 0 4 0 = some (I 0 0) := rfl
theorem hM_si0 (I : IT) (x : Int32) : p_si (hM I) 0 4 0 x = some (hM (u2 I 0 0 x)) := by
  have e : p_up (hM I) 0 (.inr (4, (mF I).set 0 (.int x))) = hM (u2 I 0 0 x) := by
    funext q
    unfold p_up hM
    by_cases h0 : q = 0
    · rw [if_pos h0, if_pos h0]
      simp [mF, u2]
    · rw [if_neg h0, if_neg h0, if_neg h0, u2_r I 0 x h0]
  rw [← e]
  rfl
theorem hM_gi1 (I : IT) : p_gi (hM I) 0 4 1 = some (I 0 1) := rfl
theorem hM_si1 (I : IT) (x : Int32) : p_si (hM I) 0 4 1 x = some (hM (u2 I 0 1 x)) := by
  have e : p_up (hM I) 0 (.inr (4, (mF I).set 1 (.int x))) = hM (u2 I 0 1 x) := by
    funext q
    unfold p_up hM
    by_cases h0 : q = 0
    · rw [if_pos h0, if_pos h0]
      simp [mF, u2]
    · rw [if_neg h0, if_neg h0, if_neg h0, u2_r I 1 x h0]
  rw [← e]
  rfl
theorem hM_gi2 (I : IT) : p_gi (hM I) 0 4 2 = some (I 0 2) := rfl
theorem hM_si2 (I : IT) (x : Int32) : p_si (hM I) 0 4 2 x = some (hM (u2 I 0 2 x)) := by
  have e : p_up (hM I) 0 (.inr (4, (mF I).set 2 (.int x))) = hM (u2 I 0 2 x) := by
    funext q
    unfold p_up hM
    by_cases h0 : q = 0
    · rw [if_pos h0, if_pos h0]
      simp [mF, u2]
    · rw [if_neg h0, if_neg h0, if_neg h0, u2_r I 2 x h0]
  rw [← e]
  rfl
theorem hM_gi3 (I : IT) : p_gi (hM I) 0 4 3 = some (I 0 3) := rfl
theorem hM_si3 (I : IT) (x : Int32) : p_si (hM I) 0 4 3 x = some (hM (u2 I 0 3 x)) := by
  have e : p_up (hM I) 0 (.inr (4, (mF I).set 3 (.int x))) = hM (u2 I 0 3 x) := by
    funext q
    unfold p_up hM
    by_cases h0 : q = 0
    · rw [if_pos h0, if_pos h0]
      simp [mF, u2]
    · rw [if_neg h0, if_neg h0, if_neg h0, u2_r I 3 x h0]
  rw [← e]
  rfl
theorem hM_gr4 (I : IT) : p_gr (hM I) 0 4 4 = some 1 := rfl
theorem hM_gr5 (I : IT) : p_gr (hM I) 0 4 5 = some 2 := rfl
theorem hM_gr6 (I : IT) : p_gr (hM I) 0 4 6 = some 3 := rfl
theorem hM_gr7 (I : IT) : p_gr (hM I) 0 4 7 = some 4 := rfl
theorem hM_gr8 (I : IT) : p_gr (hM I) 0 4 8 = some 5 := rfl
theorem hM_gr9 (I : IT) : p_gr (hM I) 0 4 9 = some 6 := rfl
theorem hM_gr10 (I : IT) : p_gr (hM I) 0 4 10 = some 7 := rfl
theorem hM_gr11 (I : IT) : p_gr (hM I) 0 4 11 = some 8 := rfl
theorem hM_gr12 (I : IT) : p_gr (hM I) 0 4 12 = some 9 := rfl
theorem hM_gr13 (I : IT) : p_gr (hM I) 0 4 13 = some 10 := rfl
theorem hM_gr14 (I : IT) : p_gr (hM I) 0 4 14 = some 11 := rfl
theorem hM_gr15 (I : IT) : p_gr (hM I) 0 4 15 = some 12 := rfl
theorem hM_gr16 (I : IT) : p_gr (hM I) 0 4 16 = some 13 := rfl
theorem hM_gr17 (I : IT) : p_gr (hM I) 0 4 17 = some 14 := rfl
theorem hM_gr18 (I : IT) : p_gr (hM I) 0 4 18 = some 15 := rfl
theorem hM_gr19 (I : IT) : p_gr (hM I) 0 4 19 = some 16 := rfl
theorem hM_gr20 (I : IT) : p_gr (hM I) 0 4 20 = some 17 := rfl
theorem hM_gr21 (I : IT) : p_gr (hM I) 0 4 21 = some 18 := rfl
theorem hM_ob (I : IT) : p_ob (hM I) 0 4 = some () := rfl
theorem p_nIin {k n : Nat} (hk : k < n) (hn : n ≤ 1000) : ¬ (nI k < 0 ∨ n ≤ (nI k).toNatClampNeg) := vp_in_nI hk (by omega)
theorem p_nIc {k : Nat} (hk : k < 1000) : (nI k).toNatClampNeg = k := nI_clamp (by omega)
theorem hM_ld1 (I : IT) {k : Nat} (hk : k < 8) : p_ld (hM I) 1 0 (nI k) = some (I 1 k) := by
  rw [p_ld_eq (show hM I 1 = some (.inl (0, 8, .inl (I 1))) from hM_a I (by decide) (by decide)) (p_nIin hk (by decide)), p_nIc (by omega)]
theorem hM_st1 (I : IT) {k : Nat} (x : Int32) (hk : k < 8) : p_st (hM I) 1 (nI k) x = some (hM (u2 I 1 k x)) := by
  rw [p_st_eq (show hM I 1 = some (.inl (0, 8, .inl (I 1))) from hM_a I (by decide) (by decide)) (p_nIin hk (by decide)), p_nIc (by omega), ← hM_up I x (by decide) (by decide)]
  rfl
theorem hM_ld2 (I : IT) {k : Nat} (hk : k < 40) : p_ld (hM I) 2 0 (nI k) = some (I 2 k) := by
  rw [p_ld_eq (show hM I 2 = some (.inl (0, 40, .inl (I 2))) from hM_a I (by decide) (by decide)) (p_nIin hk (by decide)), p_nIc (by omega)]
theorem hM_st2 (I : IT) {k : Nat} (x : Int32) (hk : k < 40) : p_st (hM I) 2 (nI k) x = some (hM (u2 I 2 k x)) := by
  rw [p_st_eq (show hM I 2 = some (.inl (0, 40, .inl (I 2))) from hM_a I (by decide) (by decide)) (p_nIin hk (by decide)), p_nIc (by omega), ← hM_up I x (by decide) (by decide)]
  rfl
theorem hM_ld3 (I : IT) {k : Nat} (hk : k < 40) : p_ld (hM I) 3 0 (nI k) = some (I 3 k) := by
  rw [p_ld_eq (show hM I 3 = some (.inl (0, 40, .inl (I 3))) from hM_a I (by decide) (by decide)) (p_nIin hk (by decide)), p_nIc (by omega)]
theorem hM_st3 (I : IT) {k : Nat} (x : Int32) (hk : k < 40) : p_st (hM I) 3 (nI k) x = some (hM (u2 I 3 k x)) := by
  rw [p_st_eq (show hM I 3 = some (.inl (0, 40, .inl (I 3))) from hM_a I (by decide) (by decide)) (p_nIin hk (by decide)), p_nIc (by omega), ← hM_up I x (by decide) (by decide)]
  rfl
theorem hM_ld4 (I : IT) {k : Nat} (hk : k < 40) : p_ld (hM I) 4 0 (nI k) = some (I 4 k) := by
  rw [p_ld_eq (show hM I 4 = some (.inl (0, 40, .inl (I 4))) from hM_a I (by decide) (by decide)) (p_nIin hk (by decide)), p_nIc (by omega)]
theorem hM_st4 (I : IT) {k : Nat} (x : Int32) (hk : k < 40) : p_st (hM I) 4 (nI k) x = some (hM (u2 I 4 k x)) := by
  rw [p_st_eq (show hM I 4 = some (.inl (0, 40, .inl (I 4))) from hM_a I (by decide) (by decide)) (p_nIin hk (by decide)), p_nIc (by omega), ← hM_up I x (by decide) (by decide)]
  rfl
theorem hM_ld5 (I : IT) {k : Nat} (hk : k < 40) : p_ld (hM I) 5 0 (nI k) = some (I 5 k) := by
  rw [p_ld_eq (show hM I 5 = some (.inl (0, 40, .inl (I 5))) from hM_a I (by decide) (by decide)) (p_nIin hk (by decide)), p_nIc (by omega)]
theorem hM_st5 (I : IT) {k : Nat} (x : Int32) (hk : k < 40) : p_st (hM I) 5 (nI k) x = some (hM (u2 I 5 k x)) := by
  rw [p_st_eq (show hM I 5 = some (.inl (0, 40, .inl (I 5))) from hM_a I (by decide) (by decide)) (p_nIin hk (by decide)), p_nIc (by omega), ← hM_up I x (by decide) (by decide)]
  rfl
theorem hM_ld6 (I : IT) {k : Nat} (hk : k < 40) : p_ld (hM I) 6 1 (nI k) = some (I 6 k) := by
  rw [p_ld_eq (show hM I 6 = some (.inl (1, 40, .inl (I 6))) from hM_a I (by decide) (by decide)) (p_nIin hk (by decide)), p_nIc (by omega)]
theorem hM_sb6 (I : IT) {k : Nat} (x : Int32) (hk : k < 40) (hx : x = 0 ∨ x = 1) : p_sb (hM I) 6 (nI k) x = some (hM (u2 I 6 k x)) := by
  rw [p_sb_eq (show hM I 6 = some (.inl (1, 40, .inl (I 6))) from hM_a I (by decide) (by decide)) (p_nIin hk (by decide)) hx, p_nIc (by omega), ← hM_up I x (by decide) (by decide)]
  rfl
theorem hM_ld7 (I : IT) {k : Nat} (hk : k < 40) : p_ld (hM I) 7 0 (nI k) = some (I 7 k) := by
  rw [p_ld_eq (show hM I 7 = some (.inl (0, 40, .inl (I 7))) from hM_a I (by decide) (by decide)) (p_nIin hk (by decide)), p_nIc (by omega)]
theorem hM_st7 (I : IT) {k : Nat} (x : Int32) (hk : k < 40) : p_st (hM I) 7 (nI k) x = some (hM (u2 I 7 k x)) := by
  rw [p_st_eq (show hM I 7 = some (.inl (0, 40, .inl (I 7))) from hM_a I (by decide) (by decide)) (p_nIin hk (by decide)), p_nIc (by omega), ← hM_up I x (by decide) (by decide)]
  rfl
theorem hM_ld8 (I : IT) {k : Nat} (hk : k < 40) : p_ld (hM I) 8 0 (nI k) = some (I 8 k) := by
  rw [p_ld_eq (show hM I 8 = some (.inl (0, 40, .inl (I 8))) from hM_a I (by decide) (by decide)) (p_nIin hk (by decide)), p_nIc (by omega)]
theorem hM_st8 (I : IT) {k : Nat} (x : Int32) (hk : k < 40) : p_st (hM I) 8 (nI k) x = some (hM (u2 I 8 k x)) := by
  rw [p_st_eq (show hM I 8 = some (.inl (0, 40, .inl (I 8))) from hM_a I (by decide) (by decide)) (p_nIin hk (by decide)), p_nIc (by omega), ← hM_up I x (by decide) (by decide)]
  rfl
theorem hM_ld9 (I : IT) {k : Nat} (hk : k < 40) : p_ld (hM I) 9 1 (nI k) = some (I 9 k) := by
  rw [p_ld_eq (show hM I 9 = some (.inl (1, 40, .inl (I 9))) from hM_a I (by decide) (by decide)) (p_nIin hk (by decide)), p_nIc (by omega)]
theorem hM_sb9 (I : IT) {k : Nat} (x : Int32) (hk : k < 40) (hx : x = 0 ∨ x = 1) : p_sb (hM I) 9 (nI k) x = some (hM (u2 I 9 k x)) := by
  rw [p_sb_eq (show hM I 9 = some (.inl (1, 40, .inl (I 9))) from hM_a I (by decide) (by decide)) (p_nIin hk (by decide)) hx, p_nIc (by omega), ← hM_up I x (by decide) (by decide)]
  rfl
theorem hM_ld10 (I : IT) {k : Nat} (hk : k < 40) : p_ld (hM I) 10 0 (nI k) = some (I 10 k) := by
  rw [p_ld_eq (show hM I 10 = some (.inl (0, 40, .inl (I 10))) from hM_a I (by decide) (by decide)) (p_nIin hk (by decide)), p_nIc (by omega)]
theorem hM_st10 (I : IT) {k : Nat} (x : Int32) (hk : k < 40) : p_st (hM I) 10 (nI k) x = some (hM (u2 I 10 k x)) := by
  rw [p_st_eq (show hM I 10 = some (.inl (0, 40, .inl (I 10))) from hM_a I (by decide) (by decide)) (p_nIin hk (by decide)), p_nIc (by omega), ← hM_up I x (by decide) (by decide)]
  rfl
theorem hM_ld11 (I : IT) {k : Nat} (hk : k < 40) : p_ld (hM I) 11 0 (nI k) = some (I 11 k) := by
  rw [p_ld_eq (show hM I 11 = some (.inl (0, 40, .inl (I 11))) from hM_a I (by decide) (by decide)) (p_nIin hk (by decide)), p_nIc (by omega)]
theorem hM_st11 (I : IT) {k : Nat} (x : Int32) (hk : k < 40) : p_st (hM I) 11 (nI k) x = some (hM (u2 I 11 k x)) := by
  rw [p_st_eq (show hM I 11 = some (.inl (0, 40, .inl (I 11))) from hM_a I (by decide) (by decide)) (p_nIin hk (by decide)), p_nIc (by omega), ← hM_up I x (by decide) (by decide)]
  rfl
theorem hM_ld12 (I : IT) {k : Nat} (hk : k < 40) : p_ld (hM I) 12 0 (nI k) = some (I 12 k) := by
  rw [p_ld_eq (show hM I 12 = some (.inl (0, 40, .inl (I 12))) from hM_a I (by decide) (by decide)) (p_nIin hk (by decide)), p_nIc (by omega)]
theorem hM_st12 (I : IT) {k : Nat} (x : Int32) (hk : k < 40) : p_st (hM I) 12 (nI k) x = some (hM (u2 I 12 k x)) := by
  rw [p_st_eq (show hM I 12 = some (.inl (0, 40, .inl (I 12))) from hM_a I (by decide) (by decide)) (p_nIin hk (by decide)), p_nIc (by omega), ← hM_up I x (by decide) (by decide)]
  rfl
theorem hM_ld13 (I : IT) {k : Nat} (hk : k < 40) : p_ld (hM I) 13 0 (nI k) = some (I 13 k) := by
  rw [p_ld_eq (show hM I 13 = some (.inl (0, 40, .inl (I 13))) from hM_a I (by decide) (by decide)) (p_nIin hk (by decide)), p_nIc (by omega)]
theorem hM_st13 (I : IT) {k : Nat} (x : Int32) (hk : k < 40) : p_st (hM I) 13 (nI k) x = some (hM (u2 I 13 k x)) := by
  rw [p_st_eq (show hM I 13 = some (.inl (0, 40, .inl (I 13))) from hM_a I (by decide) (by decide)) (p_nIin hk (by decide)), p_nIc (by omega), ← hM_up I x (by decide) (by decide)]
  rfl
theorem hM_ld14 (I : IT) {k : Nat} (hk : k < 40) : p_ld (hM I) 14 0 (nI k) = some (I 14 k) := by
  rw [p_ld_eq (show hM I 14 = some (.inl (0, 40, .inl (I 14))) from hM_a I (by decide) (by decide)) (p_nIin hk (by decide)), p_nIc (by omega)]
theorem hM_st14 (I : IT) {k : Nat} (x : Int32) (hk : k < 40) : p_st (hM I) 14 (nI k) x = some (hM (u2 I 14 k x)) := by
  rw [p_st_eq (show hM I 14 = some (.inl (0, 40, .inl (I 14))) from hM_a I (by decide) (by decide)) (p_nIin hk (by decide)), p_nIc (by omega), ← hM_up I x (by decide) (by decide)]
  rfl
theorem hM_ld15 (I : IT) {k : Nat} (hk : k < 40) : p_ld (hM I) 15 0 (nI k) = some (I 15 k) := by
  rw [p_ld_eq (show hM I 15 = some (.inl (0, 40, .inl (I 15))) from hM_a I (by decide) (by decide)) (p_nIin hk (by decide)), p_nIc (by omega)]
theorem hM_st15 (I : IT) {k : Nat} (x : Int32) (hk : k < 40) : p_st (hM I) 15 (nI k) x = some (hM (u2 I 15 k x)) := by
  rw [p_st_eq (show hM I 15 = some (.inl (0, 40, .inl (I 15))) from hM_a I (by decide) (by decide)) (p_nIin hk (by decide)), p_nIc (by omega), ← hM_up I x (by decide) (by decide)]
  rfl
theorem hM_ld16 (I : IT) {k : Nat} (hk : k < 40) : p_ld (hM I) 16 0 (nI k) = some (I 16 k) := by
  rw [p_ld_eq (show hM I 16 = some (.inl (0, 40, .inl (I 16))) from hM_a I (by decide) (by decide)) (p_nIin hk (by decide)), p_nIc (by omega)]
theorem hM_st16 (I : IT) {k : Nat} (x : Int32) (hk : k < 40) : p_st (hM I) 16 (nI k) x = some (hM (u2 I 16 k x)) := by
  rw [p_st_eq (show hM I 16 = some (.inl (0, 40, .inl (I 16))) from hM_a I (by decide) (by decide)) (p_nIin hk (by decide)), p_nIc (by omega), ← hM_up I x (by decide) (by decide)]
  rfl
theorem hM_ld17 (I : IT) {k : Nat} (hk : k < 48) : p_ld (hM I) 17 0 (nI k) = some (I 17 k) := by
  rw [p_ld_eq (show hM I 17 = some (.inl (0, 48, .inl (I 17))) from hM_a I (by decide) (by decide)) (p_nIin hk (by decide)), p_nIc (by omega)]
theorem hM_st17 (I : IT) {k : Nat} (x : Int32) (hk : k < 48) : p_st (hM I) 17 (nI k) x = some (hM (u2 I 17 k x)) := by
  rw [p_st_eq (show hM I 17 = some (.inl (0, 48, .inl (I 17))) from hM_a I (by decide) (by decide)) (p_nIin hk (by decide)), p_nIc (by omega), ← hM_up I x (by decide) (by decide)]
  rfl
theorem hM_ld18 (I : IT) {k : Nat} (hk : k < 48) : p_ld (hM I) 18 0 (nI k) = some (I 18 k) := by
  rw [p_ld_eq (show hM I 18 = some (.inl (0, 48, .inl (I 18))) from hM_a I (by decide) (by decide)) (p_nIin hk (by decide)), p_nIc (by omega)]
theorem hM_st18 (I : IT) {k : Nat} (x : Int32) (hk : k < 48) : p_st (hM I) 18 (nI k) x = some (hM (u2 I 18 k x)) := by
  rw [p_st_eq (show hM I 18 = some (.inl (0, 48, .inl (I 18))) from hM_a I (by decide) (by decide)) (p_nIin hk (by decide)), p_nIc (by omega), ← hM_up I x (by decide) (by decide)]
  rfl
theorem p_z_0 : p_z 0 = some 0 := rfl
theorem p_z_1 : p_z 1 = some 1 := rfl
def b2i (b : Bool) : Int32 := if b = true then 1 else 0
theorem p_z_b (b : Bool) : p_z (b2i b) = some (b2i b) := by cases b <;> rfl
theorem b2i_0 {b : Bool} : b2i b = 0 ↔ b = false := by cases b <;> simp [b2i]
theorem b2i_t : b2i true = 1 := rfl
theorem b2i_f : b2i false = 0 := rfl
def o2i (o : Option Nat) : Int32 := match o with
  | none => -1
  | some n => nI n
theorem nI_nm1 {n : Nat} (h : n < 1000) : ¬ nI n = -1 := fun q => by
  have a := nI_toInt (n := n) (by omega)
  rw [q] at a
  have b : (-1 : Int32).toInt = -1 := by decide
  omega
theorem o2i_m1 {o : Option Nat} (h : ∀ n, o = some n → n < 1000) : o2i o = -1 ↔ o = none := by
  cases o with
  | none => simp [o2i]
  | some n => simp [o2i, nI_nm1 (h n rfl)]
theorem nI_E {a b : Nat} (ha : a < 1000) (hb : b < 1000) : nI a = nI b ↔ a = b := nI_eq (by omega) (by omega)
theorem nI_L {a b : Nat} (ha : a < 1000) (hb : b < 1000) : nI a ≤ nI b ↔ a ≤ b := nI_leI (by omega) (by omega)
theorem nI_T {a b : Nat} (ha : a < 1000) (hb : b < 1000) : nI a < nI b ↔ a < b := nI_ltI (by omega) (by omega)
