/-! THE COMPONENT: open -/
theorem u2_comm (I : IT) {a b j k : Nat} (x y : Int32) (h : a ≠ b ∨ j ≠ k) : u2 (u2 I a j x) b k y = u2 (u2 I b k y) a j x := by
  funext c i
  simp only [u2]
  by_cases h1 : c = b ∧ i = k
  · rw [if_pos h1, if_neg (by rcases h with h | h <;> omega), if_pos h1]
  · rw [if_neg h1]
    by_cases h2 : c = a ∧ i = j
    · rw [if_pos h2, if_pos h2]
    · rw [if_neg h2, if_neg h2, if_neg h1]
theorem lse_u (I : IT) {b w i : Nat} (y : Int32) (hb : 7 ≤ b) (hi : i ≠ w) : lseI (u2 I b w y) i = u2 (lseI I i) b w y := by
  unfold lseI drpI
  have e15 : (u2 (u2 (u2 I b w y) 9 i 0) 10 i 0) 15 i = (u2 (u2 I 9 i 0) 10 i 0) 15 i := by
    simp [u2, hi]
  have e0 : (u2 (u2 (u2 I b w y) 9 i 0) 10 i 0) 0 1 = (u2 (u2 I 9 i 0) 10 i 0) 0 1 := by
    rw [u2_a _ _ _ _ (by omega), u2_a _ _ _ _ (by omega), u2_a _ _ _ _ (by omega), u2_a _ _ _ _ (by omega), u2_a _ _ _ _ (by omega)]
  rw [e15, e0, u2_comm I y 0 (Or.inr (fun q => hi q.symm)), u2_comm _ y 0 (Or.inr (fun q => hi q.symm))]
  split
  · rfl
  · rw [u2_comm _ y (-1) (Or.inr (fun q => hi q.symm)), u2_comm _ y _ (Or.inr (fun q => hi q.symm))]
theorem geo_u (I : IT) {b w : Nat} (y : Int32) (hb : 7 ≤ b) : geo I (u2 I b w y) := geo.u I w y hb
theorem tk_u {M : List Nat} {w b : Nat} {y : Int32} (hb : 7 ≤ b) (h9 : b ≠ 9) : ∀ (l : List Nat) (I : IT), I 9 w = 0 → tk M w l (u2 I b w y) = u2 (tk M w l I) b w y := by
  intro l
  induction l with
  | nil => intro I _; rfl
  | cons x l ih =>
    intro I hw
    have e9 : (u2 I b w y) 9 = I 9 := u2_r _ _ _ (fun q => h9 q.symm)
    have ecl : cl (u2 I b w y) M x w = cl I M x w := by unfold cl; rw [e9, geo_seen (geo_u I y hb)]
    rw [tk, tk, geo_need (geo_u I y hb), fr_eq e9 (geo_u I y hb), ecl]
    split
    · rfl
    · split
      · rename_i hc
        have hx : x ≠ w := fun q => by
          rw [q] at hc
          unfold cl at hc
          simp at hc
        rw [lse_u I y hb hx]
        exact ih _ (by rw [lse_9, u2_k _ _ _ (fun q => hx q.symm)]; exact hw)
      · exact ih I hw
theorem lend_u {M : List Nat} {w b : Nat} {y : Int32} (hb : 7 ≤ b) (h9 : b ≠ 9) (I : IT) (hw : I 9 w = 0) : lendI M w (u2 I b w y) = (lendI M w I).map fun J => u2 J b w y := by
  have e9 : (u2 I b w y) 9 = I 9 := u2_r _ _ _ (fun q => h9 q.symm)
  have et : thf (u2 I b w y) M w = thf I M w := by
    funext a x
    unfold thf cl
    rw [e9, geo_seen (geo_u I y hb), geo_need (geo_u I y hb)]
  unfold lendI
  rw [geo_need (geo_u I y hb), fr_eq e9 (geo_u I y hb), et]
  split
  · rw [tk_u hb h9 _ _ hw, u2_comm _ y 1 (Or.inl h9)]; rfl
  · rfl
/-- the task's numbers of a new window -/
def xI (n : Nat) (x6 x7 t : Int32) (I : IT) : IT := u2 (u2 (u2 (u2 (u2 I 7 n x6) 8 n x7) 11 n 1) 14 n t) 15 n (-1)
theorem lend_x {M : List Nat} {w : Nat} {x6 x7 t : Int32} (I : IT) (hw : I 9 w = 0) : lendI M w (xI w x6 x7 t I) = (lendI M w I).map (xI w x6 x7 t) := by
  unfold xI
  rw [lend_u (by omega) (by omega) _ (by rw [u2_a _ _ _ _ (by omega), u2_a _ _ _ _ (by omega), u2_a _ _ _ _ (by omega), u2_a _ _ _ _ (by omega)]; exact hw), lend_u (by omega) (by omega) _ (by rw [u2_a _ _ _ _ (by omega), u2_a _ _ _ _ (by omega), u2_a _ _ _ _ (by omega)]; exact hw), lend_u (by omega) (by omega) _ (by rw [u2_a _ _ _ _ (by omega), u2_a _ _ _ _ (by omega)]; exact hw), lend_u (by omega) (by omega) _ (by rw [u2_a _ _ _ _ (by omega)]; exact hw), lend_u (by omega) (by omega) _ hw]
  cases lendI M w I <;> rfl
theorem xI_r {n : Nat} {x6 x7 t : Int32} {I : IT} {a : Nat} (h : a < 7 ∨ a = 9 ∨ a = 10 ∨ a = 12 ∨ a = 13 ∨ 15 < a) : xI n x6 x7 t I a = I a := by
  unfold xI
  rw [u2_r _ _ _ (by omega), u2_r _ _ _ (by omega), u2_r _ _ _ (by omega), u2_r _ _ _ (by omega), u2_r _ _ _ (by omega)]
theorem xI_o {n : Nat} {x6 x7 t : Int32} {I : IT} {a j : Nat} (h : j ≠ n) : xI n x6 x7 t I a j = I a j := by
  unfold xI
  simp [u2, h]
theorem opI_o {I : IT} {n m a j : Nat} {x1 x2 x3 x4 x5 : Int32} (ha : 2 ≤ a) (h : j ≠ n) : opI I n m x1 x2 x3 x4 x5 a j = I a j := by
  unfold opI
  rw [u2_a _ _ _ _ (by omega), u2_a _ _ _ _ (by omega)]
  simp [u2, h]
theorem opI_r {I : IT} {n m a : Nat} {x1 x2 x3 x4 x5 : Int32} (ha : 7 ≤ a) : opI I n m x1 x2 x3 x4 x5 a = I a := by
  unfold opI
  rw [u2_r _ _ _ (by omega), u2_r _ _ _ (by omega), u2_r _ _ _ (by omega), u2_r _ _ _ (by omega), u2_r _ _ _ (by omega), u2_r _ _ _ (by omega), u2_r _ _ _ (by omega)]
theorem opI_0 {I : IT} {n m k : Nat} {x1 x2 x3 x4 x5 : Int32} (hk : k ≠ 3) : opI I n m x1 x2 x3 x4 x5 0 k = I 0 k := by
  unfold opI
  rw [u2_k _ _ _ hk, u2_a _ _ _ _ (by omega), u2_a _ _ _ _ (by omega), u2_a _ _ _ _ (by omega), u2_a _ _ _ _ (by omega), u2_a _ _ _ _ (by omega), u2_a _ _ _ _ (by omega)]
/-! two numberings that agree on some windows -/
def ag (I K : IT) (L : List Nat) : Prop := ∀ i, i ∈ L → ∀ a, 2 ≤ a → a ≤ 16 → K a i = I a i
theorem ag_sh {I K : IT} {L : List Nat} (h : ag I K L) (c r : Int32) : sh K c r L = sh I c r L := by
  unfold sh
  have key : ∀ (l : List Nat) (o : Option Nat), (∀ x, x ∈ l → x ∈ L) → l.foldl (fun a n => if cv K n c r = true then some n else a) o = l.foldl (fun a n => if cv I n c r = true then some n else a) o := by
    intro l
    induction l with
    | nil => intro o _; rfl
    | cons x l ih =>
      intro o hm
      have hx := h x (hm x List.mem_cons_self)
      have e : cv K x c r = cv I x c r := by
        unfold cv
        rw [hx 2 (by omega) (by omega), hx 3 (by omega) (by omega), hx 4 (by omega) (by omega), hx 5 (by omega) (by omega), hx 6 (by omega) (by omega)]
      rw [List.foldl_cons, List.foldl_cons, e, ih _ fun y hy => hm y (List.mem_cons_of_mem _ hy)]
  exact key L none fun _ q => q
theorem ag_seen {I K : IT} {L : List Nat} (h : ag I K L) (w : Nat) : seen K L w = seen I L w := by
  unfold seen
  congr 1
  funext k
  unfold shc
  rw [ag_sh h]
theorem ag_fr {I K : IT} {L : List Nat} (h : ag I K L) : fr K L = fr I L := by
  unfold fr
  have key : ∀ (l : List Nat) (a : Int32), (∀ x, x ∈ l → x ∈ L) → l.foldl (frf K) a = l.foldl (frf I) a := by
    intro l
    induction l with
    | nil => intro a _; rfl
    | cons x l ih =>
      intro a hm
      have hx := h x (hm x List.mem_cons_self)
      have e : frf K a x = frf I a x := by
        unfold frf need
        rw [hx 9 (by omega) (by omega), hx 4 (by omega) (by omega), hx 5 (by omega) (by omega)]
      rw [List.foldl_cons, List.foldl_cons, e, ih _ fun y hy => hm y (List.mem_cons_of_mem _ hy)]
  exact key L 24 fun _ q => q
theorem ag_g {I K : IT} {L : List Nat} (h : ag I K L) {i : Nat} (hi : i ∈ L) (hg : gOK I i) : gOK K i := by
  have hx := h i hi
  unfold gOK
  rw [hx 2 (by omega) (by omega), hx 3 (by omega) (by omega), hx 4 (by omega) (by omega), hx 5 (by omega) (by omega)]
  exact hg
theorem nd_len : ∀ (l m : List Nat), l.Nodup → (∀ x, x ∈ l → x ∈ m) → l.length ≤ m.length := by
  intro l
  induction l with
  | nil => intro m _ _; simp
  | cons x l ih =>
    intro m hd hm
    obtain ⟨d1, d2⟩ := List.nodup_cons.mp hd
    have h1 := hm x List.mem_cons_self
    have h2 := ih (m.erase x) d2 fun y hy => (List.mem_erase_of_ne (fun e => d1 (by rw [← e]; exact hy))).mpr (hm y (List.mem_cons_of_mem _ hy))
    rw [List.length_erase_of_mem h1] at h2
    have := List.length_pos_of_mem h1
    simp
    omega
/-! new cells -/
theorem p_up_s (h : PH) (a : Nat) (e : PE) : p_up h a e a = some e := by unfold p_up; rw [if_pos rfl]
theorem p_up_o (h : PH) {a b : Nat} (e : PE) (hb : b ≠ a) : p_up h a e b = h b := by unfold p_up; rw [if_neg hb]
theorem p_up_up (h : PH) (a : Nat) (e f : PE) : p_up (p_up h a e) a f = p_up h a f := by
  funext q
  by_cases hq : q = a
  · subst hq; rw [p_up_s, p_up_s]
  · rw [p_up_o _ _ hq, p_up_o _ _ hq, p_up_o _ _ hq]
theorem p_up_c (h : PH) {a b : Nat} (e f : PE) (hb : a ≠ b) : p_up (p_up h a e) b f = p_up (p_up h b f) a e := by
  funext q
  by_cases h1 : q = b
  · subst h1; rw [p_up_s, p_up_o _ _ (fun z => hb z.symm), p_up_s]
  · rw [p_up_o _ _ h1]
    by_cases h2 : q = a
    · subst h2; rw [p_up_s, p_up_s]
    · rw [p_up_o _ _ h2, p_up_o _ _ h2, p_up_o _ _ h1]
theorem U_si (h : PH) (a c k : Nat) (fs : List Value) (x : Int32) (hk : k < fs.length) : p_si (p_up h a (.inr (c, fs))) a c k x = some (p_up h a (.inr (c, fs.set k (.int x)))) := by
  rw [p_si_eq (p_up_s h a _) hk, p_up_up]
theorem U_sz (h : PH) (a c k : Nat) (fs : List Value) (x : Int32) (hk : k < fs.length) (hx : x = 0 ∨ x = 1) : p_sz (p_up h a (.inr (c, fs))) a c k x = some (p_up h a (.inr (c, fs.set k (.int x)))) := by
  rw [p_sz_eq (p_up_s h a _) hk hx, p_up_up]
theorem U_sr (h : PH) (a c k y : Nat) (fs : List Value) (hk : k < fs.length) (hy : (p_up h a (.inr (c, fs)) y).isSome = true) : p_sr (p_up h a (.inr (c, fs))) a c k y = some (p_up h a (.inr (c, fs.set k (.ref y)))) := by
  unfold p_sr
  rw [if_pos hy, p_s_eq (p_up_s h a _) hk, p_up_up]
theorem N_task (h : PH) (a : Nat) (p c t : Int32) (fs : List Value) (hf : fs = [.int 0, .int 0, .int 0, .int 0, .int 0, .int 0, .int 0, .int 0, .int 0]) : fX0_init (p_up h a (.inr (0, fs))) a p c t = some (p_up h a (.inr (0, [.int p, .int c, .int 1, .int 0, .int 0, .int t, .int 0, .int 0, .int t]))) := by
  subst hf
  rw [fX0_init, U_si _ _ _ _ _ _ (by decide), Option.bind_some, U_si _ _ _ _ _ _ (by simp), Option.bind_some, U_si _ _ _ _ _ _ (by simp), Option.bind_some, U_si _ _ _ _ _ _ (by simp), Option.bind_some, U_si _ _ _ _ _ _ (by simp), Option.bind_some, U_si _ _ _ _ _ _ (by simp), Option.bind_some, U_sz _ _ _ _ _ _ (by simp) (Or.inl rfl), Option.bind_some, U_si _ _ _ _ _ _ (by simp), Option.bind_some, U_si _ _ _ _ _ _ (by simp), Option.bind_some]
  rfl
theorem N_win (h : PH) (a y : Nat) (m x1 x2 x3 x4 x5 : Int32) (hx : x5 = 0 ∨ x5 = 1) (hy : y ≠ a) (hs : (h y).isSome = true) (fs : List Value) (hf : fs = [.int 0, .int 0, .int 0, .int 0, .int 0, .int 0, .null, .int 0, .int 0, .int 0]) : fX1_init (p_up h a (.inr (1, fs))) a m x1 x2 x3 x4 x5 y = some (p_up h a (.inr (1, [.int m, .int x1, .int x2, .int x3, .int x4, .int x5, .ref y, .int 0, .int 0, .int 0]))) := by
  subst hf
  rw [fX1_init, U_si _ _ _ _ _ _ (by decide), Option.bind_some, U_si _ _ _ _ _ _ (by simp), Option.bind_some, U_si _ _ _ _ _ _ (by simp), Option.bind_some, U_si _ _ _ _ _ _ (by simp), Option.bind_some, U_si _ _ _ _ _ _ (by simp), Option.bind_some, U_sz _ _ _ _ _ _ (by simp) hx, Option.bind_some, U_sr _ _ _ _ _ _ (by simp) (by rw [p_up_o _ _ hy]; exact hs), Option.bind_some, U_sz _ _ _ _ _ _ (by simp) (Or.inl rfl), Option.bind_some, U_sz _ _ _ _ _ _ (by simp) (Or.inl rfl), Option.bind_some, U_si _ _ _ _ _ _ (by simp), Option.bind_some]
  rfl
theorem hC_nx (I E K F : IT) (P : PT) (n : Nat) (hl : ∀ q, cL K F P q = cL I E P q) (hw : ∀ j, j < n → cW K F j = cW I E j) (ht : ∀ j, j < n → cT K F j = cT I E j) : p_up (p_up (hC I E P n) (ta n) (.inr (0, cT K F n))) (wa n) (.inr (1, cW K F n)) = hC K F P (n + 1) := by
  funext q
  by_cases h1 : q = wa n
  · subst h1; rw [p_up_s, hC_w _ _ _ (by omega)]
  · rw [p_up_o _ _ h1]
    by_cases h2 : q = ta n
    · subst h2; rw [p_up_s, hC_t _ _ _ (by omega)]
    · rw [p_up_o _ _ h2]
      unfold wa at h1
      unfold ta at h2
      unfold hC
      by_cases h8 : q < 8
      · rw [if_pos h8, if_pos h8, hl]
      · rw [if_neg h8, if_neg h8]
        by_cases h9 : q < 8 + 2 * n
        · rw [if_pos h9, if_pos (show q < 8 + 2 * (n + 1) by omega)]
          by_cases h10 : q % 2 = 0
          · rw [if_pos h10, if_pos h10, hw _ (by omega)]
          · rw [if_neg h10, if_neg h10, ht _ (by omega)]
        · rw [if_neg h9, if_neg (show ¬ q < 8 + 2 * (n + 1) by omega)]
theorem hC_none (I E : IT) (P : PT) (n : Nat) : hC I E P n (wa n) = none ∧ hC I E P n (ta n) = none := by
  unfold hC wa ta
  constructor
  · rw [if_neg (by omega), if_neg (by omega)]
  · rw [if_neg (by omega), if_neg (by omega)]
theorem p_nw_eq {h : PH} {q c : Nat} {fs : List Value} (hq : h q = none) : p_nw h q c fs = some (p_up h q (.inr (c, fs))) := by
  unfold p_nw
  rw [hq]
