/-! THE COMPONENT'S HEAP: the broker at 0, its lists at 1 (items 2) and 3 (items 4), the topmost ones at 5, what was shown at 6 and 7, window i at wa i, its task at ta i. I: the same numbers as in the reference's heap. E: 0 lastTick, 1 isOnScreen, 2 0 free pages, 2 1 and 2 2 the lists' sizes, 3 isUnderWay. P: 0, 1 the lists' items, 2 the topmost ones, as numbers of windows -/
def wa (i : Nat) : Nat := 8 + 2 * i
def ta (i : Nat) : Nat := 9 + 2 * i
abbrev PT : Type := Nat → Nat → Option Nat
def p2 (P : PT) (a k : Nat) (x : Option Nat) : PT := fun b j => if b = a ∧ j = k then x else P b j
def cB (I E : IT) : List Value := [.ref 1, .ref 3, .ref 5, .ref 6, .ref 7, .int (I 0 2), .int (E 2 0), .int (I 0 1)]
def cW (I E : IT) (i : Nat) : List Value := [.int (nI i), .int (I 2 i), .int (I 3 i), .int (I 4 i), .int (I 5 i), .int (I 6 i), .ref (ta i), .int (E 1 i), .int (I 9 i), .int (I 10 i)]
def cT (I E : IT) (i : Nat) : List Value := [.int (I 7 i), .int (I 8 i), .int (I 11 i), .int (I 12 i), .int (I 13 i), .int (I 14 i), .int (E 3 i), .int (I 16 i), .int (E 0 i)]
def cR (P : PT) (a : Nat) : Nat → Option Nat := fun k => (P a k).map wa
def cA (n : Nat) (f : Nat → Option Nat) : PE := .inl (2, n, .inr (.inr (.inr (.inr f))))
def cL (I E : IT) (P : PT) (q : Nat) : PE := if q = 0 then .inr (3, cB I E) else if q = 1 then .inr (2, [.ref 2, .int (E 2 1)]) else if q = 2 then cA 8 (cR P 0) else if q = 3 then .inr (2, [.ref 4, .int (E 2 2)]) else if q = 4 then cA 8 (cR P 1) else if q = 5 then cA 48 (cR P 2) else if q = 6 then .inl (0, 48, .inl (I 17)) else .inl (0, 48, .inl (I 18))
def hC (I E : IT) (P : PT) (n : Nat) : PH := fun q => if q < 8 then some (cL I E P q) else if q < 8 + 2 * n then (if q % 2 = 0 then some (.inr (1, cW I E ((q - 8) / 2))) else some (.inr (0, cT I E ((q - 9) / 2)))) else none
theorem p2_s (P : PT) (a k : Nat) (x : Option Nat) : p2 P a k x a k = x := by simp [p2]
theorem p2_k (P : PT) (a : Nat) {k j : Nat} (x : Option Nat) (h : j ≠ k) : p2 P a k x a j = P a j := by simp [p2, h]
theorem p2_a (P : PT) {a b : Nat} (k j : Nat) (x : Option Nat) (h : b ≠ a) : p2 P a k x b j = P b j := by simp [p2, h]
theorem p2_r (P : PT) {a b : Nat} (k : Nat) (x : Option Nat) (h : b ≠ a) : p2 P a k x b = P b := by funext j; simp [p2, h]
theorem p2_up (P : PT) (a k : Nat) (x : Option Nat) : cR (p2 P a k x) a = va_up (cR P a) k (x.map wa) := by
  funext j
  by_cases h : j = k <;> simp [p2, cR, va_up, h]
theorem cR_o (P : PT) {a b : Nat} (k : Nat) (x : Option Nat) (h : b ≠ a) : cR (p2 P a k x) b = cR P b := by
  funext j
  simp [p2, cR, h]
theorem wa_inj {i j : Nat} : wa i = wa j ↔ i = j := by unfold wa; omega
theorem hC_l (I E : IT) (P : PT) (n : Nat) {q : Nat} (h : q < 8) : hC I E P n q = some (cL I E P q) := by
  unfold hC
  rw [if_pos h]
theorem hC_w (I E : IT) (P : PT) {n i : Nat} (h : i < n) : hC I E P n (wa i) = some (.inr (1, cW I E i)) := by
  unfold hC wa
  rw [if_neg (by omega), if_pos (by omega), if_pos (by omega), show (8 + 2 * i - 8) / 2 = i by omega]
theorem hC_t (I E : IT) (P : PT) {n i : Nat} (h : i < n) : hC I E P n (ta i) = some (.inr (0, cT I E i)) := by
  unfold hC ta
  rw [if_neg (by omega), if_pos (by omega), if_neg (by omega), show (9 + 2 * i - 9) / 2 = i by omega]
theorem hC_upL (I E I' E' : IT) (P P' : PT) (n : Nat) {a : Nat} (h : a < 8) (hl : ∀ q, q < 8 → q ≠ a → cL I' E' P' q = cL I E P q) (hw : ∀ j, cW I' E' j = cW I E j) (ht : ∀ j, cT I' E' j = cT I E j) : p_up (hC I E P n) a (cL I' E' P' a) = hC I' E' P' n := by
  funext q
  unfold p_up
  by_cases hq : q = a
  · subst hq
    rw [if_pos rfl, hC_l _ _ _ _ h]
  · rw [if_neg hq]
    unfold hC
    by_cases h8 : q < 8
    · rw [if_pos h8, if_pos h8, hl q h8 hq]
    · rw [if_neg h8, if_neg h8, hw, ht]
theorem hC_upW (I E I' E' : IT) (P : PT) {n i : Nat} (h : i < n) (hl : ∀ q, cL I' E' P q = cL I E P q) (hw : ∀ j, j ≠ i → cW I' E' j = cW I E j) (ht : ∀ j, cT I' E' j = cT I E j) : p_up (hC I E P n) (wa i) (.inr (1, cW I' E' i)) = hC I' E' P n := by
  funext q
  unfold p_up
  by_cases hq : q = wa i
  · subst hq
    rw [if_pos rfl, hC_w _ _ _ h]
  · rw [if_neg hq]
    unfold hC
    by_cases h8 : q < 8
    · rw [if_pos h8, if_pos h8, hl]
    · rw [if_neg h8, if_neg h8, ht]
      by_cases h9 : q < 8 + 2 * n
      · rw [if_pos h9, if_pos h9]
        by_cases h10 : q % 2 = 0
        · rw [if_pos h10, if_pos h10, hw _ (fun e => hq (by unfold wa; omega))]
        · rw [if_neg h10, if_neg h10]
      · rw [if_neg h9, if_neg h9]
theorem hC_upT (I E I' E' : IT) (P : PT) {n i : Nat} (h : i < n) (hl : ∀ q, cL I' E' P q = cL I E P q) (hw : ∀ j, cW I' E' j = cW I E j) (ht : ∀ j, j ≠ i → cT I' E' j = cT I E j) : p_up (hC I E P n) (ta i) (.inr (0, cT I' E' i)) = hC I' E' P n := by
  funext q
  unfold p_up
  by_cases hq : q = ta i
  · subst hq
    rw [if_pos rfl, hC_t _ _ _ h]
  · rw [if_neg hq]
    unfold hC
    by_cases h8 : q < 8
    · rw [if_pos h8, if_pos h8, hl]
    · rw [if_neg h8, if_neg h8, hw]
      by_cases h9 : q < 8 + 2 * n
      · rw [if_pos h9, if_pos h9]
        by_cases h10 : q % 2 = 0
        · rw [if_pos h10, if_pos h10]
        · rw [if_neg h10, if_neg h10, ht _ (fun e => hq (by unfold ta; omega))]
      · rw [if_neg h9, if_neg h9]
theorem p_g_eq {h : PH} {a ci : Nat} {fs : List Value} (hh : h a = some (.inr (ci, fs))) (k : Nat) : p_g h a ci k = fs[k]? := by
  unfold p_g
  rw [hh]
  exact if_pos rfl
theorem p_gi_eq {h : PH} {a ci k : Nat} {fs : List Value} {x : Int32} (hh : h a = some (.inr (ci, fs))) (hk : fs[k]? = some (.int x)) : p_gi h a ci k = some x := by
  unfold p_gi
  rw [p_g_eq hh, hk]
theorem p_gr_eq {h : PH} {a ci k : Nat} {fs : List Value} {x : Nat} (hh : h a = some (.inr (ci, fs))) (hk : fs[k]? = some (.ref x)) : p_gr h a ci k = some x := by
  unfold p_gr
  rw [p_g_eq hh, hk]
theorem p_ob_eq {h : PH} {a ci : Nat} {fs : List Value} (hh : h a = some (.inr (ci, fs))) : p_ob h a ci = some () := by
  unfold p_ob
  rw [hh]
  exact if_pos rfl
theorem p_s_eq {h : PH} {a ci k : Nat} {fs : List Value} {v : Value} (hh : h a = some (.inr (ci, fs))) (hk : k < fs.length) : p_s h a ci k v = some (p_up h a (.inr (ci, fs.set k v))) := by
  unfold p_s
  rw [hh]
  exact if_pos ⟨rfl, hk⟩
theorem p_si_eq {h : PH} {a ci k : Nat} {fs : List Value} {x : Int32} (hh : h a = some (.inr (ci, fs))) (hk : k < fs.length) : p_si h a ci k x = some (p_up h a (.inr (ci, fs.set k (.int x)))) := p_s_eq hh hk
theorem p_sz_eq {h : PH} {a ci k : Nat} {fs : List Value} {x : Int32} (hh : h a = some (.inr (ci, fs))) (hk : k < fs.length) (hx : x = 0 ∨ x = 1) : p_sz h a ci k x = some (p_up h a (.inr (ci, fs.set k (.int x)))) := by
  unfold p_sz
  rw [if_pos hx]
  exact p_s_eq hh hk
theorem p_ldr_eq {h : PH} {a n : Nat} {f : Nat → Option Nat} {i : Int32} (hh : h a = some (cA n f)) (hi : ¬ (i < 0 ∨ n ≤ i.toNatClampNeg)) : p_ldr h a i = some (f i.toNatClampNeg) := by
  unfold p_ldr
  rw [hh]
  exact if_pos ⟨rfl, hi⟩
theorem p_str_eq {h : PH} {a n : Nat} {f : Nat → Option Nat} {i : Int32} {r : Option Nat} (hh : h a = some (cA n f)) (hi : ¬ (i < 0 ∨ n ≤ i.toNatClampNeg)) (hr : p_wo h r = some ()) : p_str h a i r = some (p_up h a (cA n (va_up f i.toNatClampNeg r))) := by
  unfold p_str
  rw [hh]
  exact if_pos ⟨⟨rfl, hi⟩, hr⟩

theorem C_gr0 (I E : IT) (P : PT) (n : Nat) : p_gr (hC I E P n) 0 3 0 = some 1 := rfl
theorem C_gr1 (I E : IT) (P : PT) (n : Nat) : p_gr (hC I E P n) 0 3 1 = some 3 := rfl
theorem C_gr2 (I E : IT) (P : PT) (n : Nat) : p_gr (hC I E P n) 0 3 2 = some 5 := rfl
theorem C_gr3 (I E : IT) (P : PT) (n : Nat) : p_gr (hC I E P n) 0 3 3 = some 6 := rfl
theorem C_gr4 (I E : IT) (P : PT) (n : Nat) : p_gr (hC I E P n) 0 3 4 = some 7 := rfl
theorem C_gi5 (I E : IT) (P : PT) (n : Nat) : p_gi (hC I E P n) 0 3 5 = some (I 0 2) := rfl
theorem C_gi6 (I E : IT) (P : PT) (n : Nat) : p_gi (hC I E P n) 0 3 6 = some (E 2 0) := rfl
theorem C_gi7 (I E : IT) (P : PT) (n : Nat) : p_gi (hC I E P n) 0 3 7 = some (I 0 1) := rfl
theorem C_ob (I E : IT) (P : PT) (n : Nat) : p_ob (hC I E P n) 0 3 = some () := rfl
theorem C_si5 (I E : IT) (P : PT) (n : Nat) (x : Int32) : p_si (hC I E P n) 0 3 5 x = some (hC (u2 I 0 2 x) (E) P n) := by
  rw [← hC_upL I E (u2 I 0 2 x) (E) P P n (a := 0) (by decide) (fun q hq hne => by
      have : q = 0 ∨ q = 1 ∨ q = 2 ∨ q = 3 ∨ q = 4 ∨ q = 5 ∨ q = 6 ∨ q = 7 := by omega
      rcases this with rfl | rfl | rfl | rfl | rfl | rfl | rfl | rfl <;> first | exact absurd rfl hne | rfl) (fun j => rfl) (fun j => rfl)]
  rfl

theorem C_si6 (I E : IT) (P : PT) (n : Nat) (x : Int32) : p_si (hC I E P n) 0 3 6 x = some (hC (I) (u2 E 2 0 x) P n) := by
  rw [← hC_upL I E (I) (u2 E 2 0 x) P P n (a := 0) (by decide) (fun q hq hne => by
      have : q = 0 ∨ q = 1 ∨ q = 2 ∨ q = 3 ∨ q = 4 ∨ q = 5 ∨ q = 6 ∨ q = 7 := by omega
      rcases this with rfl | rfl | rfl | rfl | rfl | rfl | rfl | rfl <;> first | exact absurd rfl hne | rfl) (fun j => rfl) (fun j => rfl)]
  rfl

theorem C_si7 (I E : IT) (P : PT) (n : Nat) (x : Int32) : p_si (hC I E P n) 0 3 7 x = some (hC (u2 I 0 1 x) (E) P n) := by
  rw [← hC_upL I E (u2 I 0 1 x) (E) P P n (a := 0) (by decide) (fun q hq hne => by
      have : q = 0 ∨ q = 1 ∨ q = 2 ∨ q = 3 ∨ q = 4 ∨ q = 5 ∨ q = 6 ∨ q = 7 := by omega
      rcases this with rfl | rfl | rfl | rfl | rfl | rfl | rfl | rfl <;> first | exact absurd rfl hne | rfl) (fun j => rfl) (fun j => rfl)]
  rfl

theorem C_bob (I E : IT) (P : PT) (n : Nat) : p_ob (hC I E P n) 1 2 = some () := rfl
theorem C_bgr (I E : IT) (P : PT) (n : Nat) : p_gr (hC I E P n) 1 2 0 = some 2 := rfl
theorem C_bgi (I E : IT) (P : PT) (n : Nat) : p_gi (hC I E P n) 1 2 1 = some (E 2 1) := rfl
theorem C_bsi (I E : IT) (P : PT) (n : Nat) (x : Int32) : p_si (hC I E P n) 1 2 1 x = some (hC (I) (u2 E 2 1 x) P n) := by
  rw [← hC_upL I E (I) (u2 E 2 1 x) P P n (a := 1) (by decide) (fun q hq hne => by
      have : q = 0 ∨ q = 1 ∨ q = 2 ∨ q = 3 ∨ q = 4 ∨ q = 5 ∨ q = 6 ∨ q = 7 := by omega
      rcases this with rfl | rfl | rfl | rfl | rfl | rfl | rfl | rfl <;> first | exact absurd rfl hne | rfl) (fun j => rfl) (fun j => rfl)]
  rfl

theorem C_blen (I E : IT) (P : PT) (n : Nat) : p_len (hC I E P n) 2 = some 8 := rfl
theorem C_sob (I E : IT) (P : PT) (n : Nat) : p_ob (hC I E P n) 3 2 = some () := rfl
theorem C_sgr (I E : IT) (P : PT) (n : Nat) : p_gr (hC I E P n) 3 2 0 = some 4 := rfl
theorem C_sgi (I E : IT) (P : PT) (n : Nat) : p_gi (hC I E P n) 3 2 1 = some (E 2 2) := rfl
theorem C_ssi (I E : IT) (P : PT) (n : Nat) (x : Int32) : p_si (hC I E P n) 3 2 1 x = some (hC (I) (u2 E 2 2 x) P n) := by
  rw [← hC_upL I E (I) (u2 E 2 2 x) P P n (a := 3) (by decide) (fun q hq hne => by
      have : q = 0 ∨ q = 1 ∨ q = 2 ∨ q = 3 ∨ q = 4 ∨ q = 5 ∨ q = 6 ∨ q = 7 := by omega
      rcases this with rfl | rfl | rfl | rfl | rfl | rfl | rfl | rfl <;> first | exact absurd rfl hne | rfl) (fun j => rfl) (fun j => rfl)]
  rfl

theorem C_slen (I E : IT) (P : PT) (n : Nat) : p_len (hC I E P n) 4 = some 8 := rfl
theorem C_bldr (I E : IT) (P : PT) (n : Nat) {k : Nat} (hk : k < 8) : p_ldr (hC I E P n) 2 (nI k) = some ((P 0 k).map wa) := by
  rw [p_ldr_eq (show hC I E P n 2 = some (cA 8 (cR P 0)) from rfl) (p_nIin hk (by decide)), p_nIc (by omega)]
  rfl
theorem C_bstr (I E : IT) (P : PT) (n : Nat) {k : Nat} (x : Option Nat) (hk : k < 8) (hx : ∀ i, x = some i → i < n) : p_str (hC I E P n) 2 (nI k) (x.map wa) = some (hC I E (p2 P 0 k x) n) := by
  have hw : p_wo (hC I E P n) (x.map wa) = some () := by
    cases x with
    | none => rfl
    | some i => exact p_ob_eq (hC_w I E P (hx i rfl))
  rw [p_str_eq (show hC I E P n 2 = some (cA 8 (cR P 0)) from rfl) (p_nIin hk (by decide)) hw, p_nIc (by omega), ← p2_up, ← hC_upL I E I E P (p2 P 0 k x) n (a := 2) (by decide) (fun q hq hne => by
      have : q = 0 ∨ q = 1 ∨ q = 2 ∨ q = 3 ∨ q = 4 ∨ q = 5 ∨ q = 6 ∨ q = 7 := by omega
      rcases this with rfl | rfl | rfl | rfl | rfl | rfl | rfl | rfl <;> first | exact absurd rfl hne | rfl | exact congrArg (cA _) (cR_o P k x (by decide))) (fun j => rfl) (fun j => rfl)]
  rfl
theorem C_sldr (I E : IT) (P : PT) (n : Nat) {k : Nat} (hk : k < 8) : p_ldr (hC I E P n) 4 (nI k) = some ((P 1 k).map wa) := by
  rw [p_ldr_eq (show hC I E P n 4 = some (cA 8 (cR P 1)) from rfl) (p_nIin hk (by decide)), p_nIc (by omega)]
  rfl
theorem C_sstr (I E : IT) (P : PT) (n : Nat) {k : Nat} (x : Option Nat) (hk : k < 8) (hx : ∀ i, x = some i → i < n) : p_str (hC I E P n) 4 (nI k) (x.map wa) = some (hC I E (p2 P 1 k x) n) := by
  have hw : p_wo (hC I E P n) (x.map wa) = some () := by
    cases x with
    | none => rfl
    | some i => exact p_ob_eq (hC_w I E P (hx i rfl))
  rw [p_str_eq (show hC I E P n 4 = some (cA 8 (cR P 1)) from rfl) (p_nIin hk (by decide)) hw, p_nIc (by omega), ← p2_up, ← hC_upL I E I E P (p2 P 1 k x) n (a := 4) (by decide) (fun q hq hne => by
      have : q = 0 ∨ q = 1 ∨ q = 2 ∨ q = 3 ∨ q = 4 ∨ q = 5 ∨ q = 6 ∨ q = 7 := by omega
      rcases this with rfl | rfl | rfl | rfl | rfl | rfl | rfl | rfl <;> first | exact absurd rfl hne | rfl | exact congrArg (cA _) (cR_o P k x (by decide))) (fun j => rfl) (fun j => rfl)]
  rfl
theorem C_mldr (I E : IT) (P : PT) (n : Nat) {k : Nat} (hk : k < 48) : p_ldr (hC I E P n) 5 (nI k) = some ((P 2 k).map wa) := by
  rw [p_ldr_eq (show hC I E P n 5 = some (cA 48 (cR P 2)) from rfl) (p_nIin hk (by decide)), p_nIc (by omega)]
  rfl
theorem C_mstr (I E : IT) (P : PT) (n : Nat) {k : Nat} (x : Option Nat) (hk : k < 48) (hx : ∀ i, x = some i → i < n) : p_str (hC I E P n) 5 (nI k) (x.map wa) = some (hC I E (p2 P 2 k x) n) := by
  have hw : p_wo (hC I E P n) (x.map wa) = some () := by
    cases x with
    | none => rfl
    | some i => exact p_ob_eq (hC_w I E P (hx i rfl))
  rw [p_str_eq (show hC I E P n 5 = some (cA 48 (cR P 2)) from rfl) (p_nIin hk (by decide)) hw, p_nIc (by omega), ← p2_up, ← hC_upL I E I E P (p2 P 2 k x) n (a := 5) (by decide) (fun q hq hne => by
      have : q = 0 ∨ q = 1 ∨ q = 2 ∨ q = 3 ∨ q = 4 ∨ q = 5 ∨ q = 6 ∨ q = 7 := by omega
      rcases this with rfl | rfl | rfl | rfl | rfl | rfl | rfl | rfl <;> first | exact absurd rfl hne | rfl | exact congrArg (cA _) (cR_o P k x (by decide))) (fun j => rfl) (fun j => rfl)]
  rfl
theorem C_ld6 (I E : IT) (P : PT) (n : Nat) {k : Nat} (hk : k < 48) : p_ld (hC I E P n) 6 0 (nI k) = some (I 17 k) := by
  rw [p_ld_eq (show hC I E P n 6 = some (.inl (0, 48, .inl (I 17))) from rfl) (p_nIin hk (by decide)), p_nIc (by omega)]
theorem C_st6 (I E : IT) (P : PT) (n : Nat) {k : Nat} (x : Int32) (hk : k < 48) : p_st (hC I E P n) 6 (nI k) x = some (hC (u2 I 17 k x) E P n) := by
  rw [p_st_eq (show hC I E P n 6 = some (.inl (0, 48, .inl (I 17))) from rfl) (p_nIin hk (by decide)), p_nIc (by omega), ← u2_upd, ← hC_upL I E (u2 I 17 k x) E P P n (a := 6) (by decide) (fun q hq hne => by
      have : q = 0 ∨ q = 1 ∨ q = 2 ∨ q = 3 ∨ q = 4 ∨ q = 5 ∨ q = 6 ∨ q = 7 := by omega
      rcases this with rfl | rfl | rfl | rfl | rfl | rfl | rfl | rfl <;> first | exact absurd rfl hne | rfl | (simp [cL, u2_r])) (fun j => rfl) (fun j => rfl)]
  rfl
theorem C_ld7 (I E : IT) (P : PT) (n : Nat) {k : Nat} (hk : k < 48) : p_ld (hC I E P n) 7 0 (nI k) = some (I 18 k) := by
  rw [p_ld_eq (show hC I E P n 7 = some (.inl (0, 48, .inl (I 18))) from rfl) (p_nIin hk (by decide)), p_nIc (by omega)]
theorem C_st7 (I E : IT) (P : PT) (n : Nat) {k : Nat} (x : Int32) (hk : k < 48) : p_st (hC I E P n) 7 (nI k) x = some (hC (u2 I 18 k x) E P n) := by
  rw [p_st_eq (show hC I E P n 7 = some (.inl (0, 48, .inl (I 18))) from rfl) (p_nIin hk (by decide)), p_nIc (by omega), ← u2_upd, ← hC_upL I E (u2 I 18 k x) E P P n (a := 7) (by decide) (fun q hq hne => by
      have : q = 0 ∨ q = 1 ∨ q = 2 ∨ q = 3 ∨ q = 4 ∨ q = 5 ∨ q = 6 ∨ q = 7 := by omega
      rcases this with rfl | rfl | rfl | rfl | rfl | rfl | rfl | rfl <;> first | exact absurd rfl hne | rfl | (simp [cL, u2_r])) (fun j => rfl) (fun j => rfl)]
  rfl
theorem W_ob (I E : IT) (P : PT) {n i : Nat} (h : i < n) : p_ob (hC I E P n) (wa i) 1 = some () := p_ob_eq (hC_w I E P h)
theorem W_gi0 (I E : IT) (P : PT) {n i : Nat} (h : i < n) : p_gi (hC I E P n) (wa i) 1 0 = some (nI i) := p_gi_eq (hC_w I E P h) rfl
theorem W_gi1 (I E : IT) (P : PT) {n i : Nat} (h : i < n) : p_gi (hC I E P n) (wa i) 1 1 = some (I 2 i) := p_gi_eq (hC_w I E P h) rfl
theorem W_gi2 (I E : IT) (P : PT) {n i : Nat} (h : i < n) : p_gi (hC I E P n) (wa i) 1 2 = some (I 3 i) := p_gi_eq (hC_w I E P h) rfl
theorem W_gi3 (I E : IT) (P : PT) {n i : Nat} (h : i < n) : p_gi (hC I E P n) (wa i) 1 3 = some (I 4 i) := p_gi_eq (hC_w I E P h) rfl
theorem W_gi4 (I E : IT) (P : PT) {n i : Nat} (h : i < n) : p_gi (hC I E P n) (wa i) 1 4 = some (I 5 i) := p_gi_eq (hC_w I E P h) rfl
theorem W_gi5 (I E : IT) (P : PT) {n i : Nat} (h : i < n) : p_gi (hC I E P n) (wa i) 1 5 = some (I 6 i) := p_gi_eq (hC_w I E P h) rfl
theorem W_gi7 (I E : IT) (P : PT) {n i : Nat} (h : i < n) : p_gi (hC I E P n) (wa i) 1 7 = some (E 1 i) := p_gi_eq (hC_w I E P h) rfl
theorem W_gi8 (I E : IT) (P : PT) {n i : Nat} (h : i < n) : p_gi (hC I E P n) (wa i) 1 8 = some (I 9 i) := p_gi_eq (hC_w I E P h) rfl
theorem W_gi9 (I E : IT) (P : PT) {n i : Nat} (h : i < n) : p_gi (hC I E P n) (wa i) 1 9 = some (I 10 i) := p_gi_eq (hC_w I E P h) rfl
theorem W_gr (I E : IT) (P : PT) {n i : Nat} (h : i < n) : p_gr (hC I E P n) (wa i) 1 6 = some (ta i) := p_gr_eq (hC_w I E P h) rfl
theorem W_s1 (I E : IT) (P : PT) {n i : Nat} (h : i < n) (x : Int32) : p_si (hC I E P n) (wa i) 1 1 x = some (hC (u2 I 2 i x) (E) P n) := by
  rw [p_si_eq (hC_w I E P h) (show _ < (cW I E i).length by simp [cW]), ← hC_upW I E (u2 I 2 i x) (E) P h (fun q => rfl) (fun j hj => by simp [cW, u2, hj]) (fun j => rfl)]
  congr 4
  simp [cW, u2]

theorem W_s2 (I E : IT) (P : PT) {n i : Nat} (h : i < n) (x : Int32) : p_si (hC I E P n) (wa i) 1 2 x = some (hC (u2 I 3 i x) (E) P n) := by
  rw [p_si_eq (hC_w I E P h) (show _ < (cW I E i).length by simp [cW]), ← hC_upW I E (u2 I 3 i x) (E) P h (fun q => rfl) (fun j hj => by simp [cW, u2, hj]) (fun j => rfl)]
  congr 4
  simp [cW, u2]

theorem W_s7 (I E : IT) (P : PT) {n i : Nat} (h : i < n) (x : Int32) (hx : x = 0 ∨ x = 1) : p_sz (hC I E P n) (wa i) 1 7 x = some (hC (I) (u2 E 1 i x) P n) := by
  rw [p_sz_eq (hC_w I E P h) (show _ < (cW I E i).length by simp [cW]) hx, ← hC_upW I E (I) (u2 E 1 i x) P h (fun q => rfl) (fun j hj => by simp [cW, u2, hj]) (fun j => rfl)]
  congr 4
  simp [cW, u2]

theorem W_s8 (I E : IT) (P : PT) {n i : Nat} (h : i < n) (x : Int32) (hx : x = 0 ∨ x = 1) : p_sz (hC I E P n) (wa i) 1 8 x = some (hC (u2 I 9 i x) (E) P n) := by
  rw [p_sz_eq (hC_w I E P h) (show _ < (cW I E i).length by simp [cW]) hx, ← hC_upW I E (u2 I 9 i x) (E) P h (fun q => rfl) (fun j hj => by simp [cW, u2, hj]) (fun j => rfl)]
  congr 4
  simp [cW, u2]

theorem W_s9 (I E : IT) (P : PT) {n i : Nat} (h : i < n) (x : Int32) : p_si (hC I E P n) (wa i) 1 9 x = some (hC (u2 I 10 i x) (E) P n) := by
  rw [p_si_eq (hC_w I E P h) (show _ < (cW I E i).length by simp [cW]), ← hC_upW I E (u2 I 10 i x) (E) P h (fun q => rfl) (fun j hj => by simp [cW, u2, hj]) (fun j => rfl)]
  congr 4
  simp [cW, u2]

theorem T_ob (I E : IT) (P : PT) {n i : Nat} (h : i < n) : p_ob (hC I E P n) (ta i) 0 = some () := p_ob_eq (hC_t I E P h)
theorem T_gi0 (I E : IT) (P : PT) {n i : Nat} (h : i < n) : p_gi (hC I E P n) (ta i) 0 0 = some (I 7 i) := p_gi_eq (hC_t I E P h) rfl
theorem T_gi1 (I E : IT) (P : PT) {n i : Nat} (h : i < n) : p_gi (hC I E P n) (ta i) 0 1 = some (I 8 i) := p_gi_eq (hC_t I E P h) rfl
theorem T_gi2 (I E : IT) (P : PT) {n i : Nat} (h : i < n) : p_gi (hC I E P n) (ta i) 0 2 = some (I 11 i) := p_gi_eq (hC_t I E P h) rfl
theorem T_gi3 (I E : IT) (P : PT) {n i : Nat} (h : i < n) : p_gi (hC I E P n) (ta i) 0 3 = some (I 12 i) := p_gi_eq (hC_t I E P h) rfl
theorem T_gi4 (I E : IT) (P : PT) {n i : Nat} (h : i < n) : p_gi (hC I E P n) (ta i) 0 4 = some (I 13 i) := p_gi_eq (hC_t I E P h) rfl
theorem T_gi5 (I E : IT) (P : PT) {n i : Nat} (h : i < n) : p_gi (hC I E P n) (ta i) 0 5 = some (I 14 i) := p_gi_eq (hC_t I E P h) rfl
theorem T_gi6 (I E : IT) (P : PT) {n i : Nat} (h : i < n) : p_gi (hC I E P n) (ta i) 0 6 = some (E 3 i) := p_gi_eq (hC_t I E P h) rfl
theorem T_gi7 (I E : IT) (P : PT) {n i : Nat} (h : i < n) : p_gi (hC I E P n) (ta i) 0 7 = some (I 16 i) := p_gi_eq (hC_t I E P h) rfl
theorem T_gi8 (I E : IT) (P : PT) {n i : Nat} (h : i < n) : p_gi (hC I E P n) (ta i) 0 8 = some (E 0 i) := p_gi_eq (hC_t I E P h) rfl
theorem T_s2 (I E : IT) (P : PT) {n i : Nat} (h : i < n) (x : Int32) : p_si (hC I E P n) (ta i) 0 2 x = some (hC (u2 I 11 i x) (E) P n) := by
  rw [p_si_eq (hC_t I E P h) (show _ < (cT I E i).length by simp [cT]), ← hC_upT I E (u2 I 11 i x) (E) P h (fun q => rfl) (fun j => rfl) (fun j hj => by simp [cT, u2, hj])]
  congr 4
  simp [cT, u2]

theorem T_s3 (I E : IT) (P : PT) {n i : Nat} (h : i < n) (x : Int32) : p_si (hC I E P n) (ta i) 0 3 x = some (hC (u2 I 12 i x) (E) P n) := by
  rw [p_si_eq (hC_t I E P h) (show _ < (cT I E i).length by simp [cT]), ← hC_upT I E (u2 I 12 i x) (E) P h (fun q => rfl) (fun j => rfl) (fun j hj => by simp [cT, u2, hj])]
  congr 4
  simp [cT, u2]

theorem T_s4 (I E : IT) (P : PT) {n i : Nat} (h : i < n) (x : Int32) : p_si (hC I E P n) (ta i) 0 4 x = some (hC (u2 I 13 i x) (E) P n) := by
  rw [p_si_eq (hC_t I E P h) (show _ < (cT I E i).length by simp [cT]), ← hC_upT I E (u2 I 13 i x) (E) P h (fun q => rfl) (fun j => rfl) (fun j hj => by simp [cT, u2, hj])]
  congr 4
  simp [cT, u2]

theorem T_s5 (I E : IT) (P : PT) {n i : Nat} (h : i < n) (x : Int32) : p_si (hC I E P n) (ta i) 0 5 x = some (hC (u2 I 14 i x) (E) P n) := by
  rw [p_si_eq (hC_t I E P h) (show _ < (cT I E i).length by simp [cT]), ← hC_upT I E (u2 I 14 i x) (E) P h (fun q => rfl) (fun j => rfl) (fun j hj => by simp [cT, u2, hj])]
  congr 4
  simp [cT, u2]

theorem T_s6 (I E : IT) (P : PT) {n i : Nat} (h : i < n) (x : Int32) (hx : x = 0 ∨ x = 1) : p_sz (hC I E P n) (ta i) 0 6 x = some (hC (I) (u2 E 3 i x) P n) := by
  rw [p_sz_eq (hC_t I E P h) (show _ < (cT I E i).length by simp [cT]) hx, ← hC_upT I E (I) (u2 E 3 i x) P h (fun q => rfl) (fun j => rfl) (fun j hj => by simp [cT, u2, hj])]
  congr 4
  simp [cT, u2]

theorem T_s7 (I E : IT) (P : PT) {n i : Nat} (h : i < n) (x : Int32) : p_si (hC I E P n) (ta i) 0 7 x = some (hC (u2 I 16 i x) (E) P n) := by
  rw [p_si_eq (hC_t I E P h) (show _ < (cT I E i).length by simp [cT]), ← hC_upT I E (u2 I 16 i x) (E) P h (fun q => rfl) (fun j => rfl) (fun j hj => by simp [cT, u2, hj])]
  congr 4
  simp [cT, u2]

theorem T_s8 (I E : IT) (P : PT) {n i : Nat} (h : i < n) (x : Int32) : p_si (hC I E P n) (ta i) 0 8 x = some (hC (I) (u2 E 0 i x) P n) := by
  rw [p_si_eq (hC_t I E P h) (show _ < (cT I E i).length by simp [cT]), ← hC_upT I E (I) (u2 E 0 i x) P h (fun q => rfl) (fun j => rfl) (fun j hj => by simp [cT, u2, hj])]
  congr 4
  simp [cT, u2]

/-- what the heap does not hold -/
theorem hC_I (I J E : IT) (P : PT) (n : Nat) (h1 : J 0 1 = I 0 1) (h2 : J 0 2 = I 0 2) (h : ∀ a, 2 ≤ a → a ≤ 18 → a ≠ 15 → J a = I a) : hC J E P n = hC I E P n := by
  funext q
  have e : cL J E P q = cL I E P q := by
    unfold cL cB
    rw [h1, h2, h 17 (by omega) (by omega) (by omega), h 18 (by omega) (by omega) (by omega)]
  have e1 : ∀ i, cW J E i = cW I E i := fun i => by
    unfold cW
    rw [h 2 (by omega) (by omega) (by omega), h 3 (by omega) (by omega) (by omega), h 4 (by omega) (by omega) (by omega), h 5 (by omega) (by omega) (by omega), h 6 (by omega) (by omega) (by omega), h 9 (by omega) (by omega) (by omega), h 10 (by omega) (by omega) (by omega)]
  have e2 : ∀ i, cT J E i = cT I E i := fun i => by
    unfold cT
    rw [h 7 (by omega) (by omega) (by omega), h 8 (by omega) (by omega) (by omega), h 11 (by omega) (by omega) (by omega), h 12 (by omega) (by omega) (by omega), h 13 (by omega) (by omega) (by omega), h 14 (by omega) (by omega) (by omega), h 16 (by omega) (by omega) (by omega)]
  unfold hC
  rw [e, e1, e2]
theorem hC_15 (I E : IT) (P : PT) (n k : Nat) (x : Int32) : hC (u2 I 15 k x) E P n = hC I E P n := hC_I _ _ _ _ _ (u2_a _ _ _ _ (by omega)) (u2_a _ _ _ _ (by omega)) (fun a _ _ h => u2_r _ _ _ h)
theorem hC_1 (I E : IT) (P : PT) (n k : Nat) (x : Int32) : hC (u2 I 1 k x) E P n = hC I E P n := hC_I _ _ _ _ _ (u2_a _ _ _ _ (by omega)) (u2_a _ _ _ _ (by omega)) (fun a _ _ h => u2_r _ _ _ (by omega))
theorem hC_rf (I E : IT) (P : PT) (n : Nat) (x : Int32) : hC (rf I x) E P n = hC I E P n := hC_I _ _ _ _ _ (u2_k _ _ _ (by omega)) (u2_k _ _ _ (by omega)) (fun a _ _ h => u2_r _ _ _ (by omega))
theorem hC_03 (I E : IT) (P : PT) (n : Nat) (x : Int32) : hC (u2 I 0 3 x) E P n = hC I E P n := hC_I _ _ _ _ _ (u2_k _ _ _ (by omega)) (u2_k _ _ _ (by omega)) (fun a _ _ h => u2_r _ _ _ (by omega))
