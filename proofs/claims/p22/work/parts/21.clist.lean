/-! THE COMPONENT: windows and lists -/
def gOK (I : IT) (i : Nat) : Prop := ((0 ≤ I 2 i ∧ I 2 i ≤ 7) ∧ (0 ≤ I 3 i ∧ I 3 i ≤ 5)) ∧ (1 ≤ I 4 i ∧ I 4 i ≤ 8) ∧ (1 ≤ I 5 i ∧ I 5 i ≤ 6)
theorem W_covers (I E : IT) (P : PT) {n i : Nat} (h : i < n) (hg : gOK I i) (c r : Int32) : fX1_covers (hC I E P n) (wa i) c r = some (b2i (cv I i c r)) := by
  obtain ⟨⟨⟨a1, a2⟩, a3, a4⟩, ⟨a5, a6⟩, a7, a8⟩ := hg
  have q1 : (c ≤ I 2 i + I 4 i - 1) ↔ ¬ (I 2 i + I 4 i ≤ c) := by
    constructor
    · intro h1 h2; grind
    · intro h1; grind
  have q2 : (r ≤ I 3 i + I 5 i - 1) ↔ ¬ (I 3 i + I 5 i ≤ r) := by
    constructor
    · intro h1 h2; grind
    · intro h1; grind
  simp only [fX1_covers, fX1_covers_57, fX1_covers_61, fX1_covers_62, W_gi1 I E P h, W_gi2 I E P h, W_gi3 I E P h, W_gi4 I E P h, W_gi5 I E P h, Option.bind_some]
  unfold cv inB
  simp only [q1, q2]
  by_cases b1 : c < I 2 i
  · rw [if_pos b1, decide_eq_false (Int32.not_le.mpr b1)]; simp [b2i, p_z]
  · rw [if_neg b1, decide_eq_true (Int32.not_lt.mp b1)]
    by_cases b2 : I 2 i + I 4 i ≤ c
    · rw [if_pos b2]; simp [b2, b2i, p_z]
    · rw [if_neg b2]
      by_cases b3 : r < I 3 i
      · rw [if_pos b3, decide_eq_false (Int32.not_le.mpr b3)]; simp [b2i, p_z]
      · rw [if_neg b3, decide_eq_true (Int32.not_lt.mp b3)]
        by_cases b4 : I 3 i + I 5 i ≤ r
        · rw [if_pos b4]; simp [b4, b2i, p_z]
        · rw [if_neg b4]
          by_cases b5 : I 6 i = 0
          · rw [if_pos b5]; simp [b2, b4, b5, b2i, p_z]
          · rw [if_neg b5]
            by_cases b6 : (c + r) - (c + r) / 2 * 2 = 0
            · rw [if_pos b6]; simp [b2, b4, b5, b6, b2i, p_z]
            · rw [if_neg b6]; simp [b2, b4, b5, b6, b2i, p_z]
theorem W_need (I E : IT) (P : PT) {n i : Nat} (h : i < n) : fX1_pagesNeeded (hC I E P n) (wa i) = some (need I i) := by
  have e : (I 4 i * I 5 i + 4) - 1 = I 4 i * I 5 i + 3 := by grind
  rw [fX1_pagesNeeded, W_gi3 I E P h, Option.bind_some, W_gi4 I E P h, Option.bind_some, e]
  rfl
theorem W_held (I E : IT) (P : PT) {n i : Nat} (h : i < n) : fX1_pagesHeld (hC I E P n) (wa i) = some (if I 9 i = 0 then 0 else need I i) := by
  rw [fX1_pagesHeld, W_gi8 I E P h, Option.bind_some]
  by_cases h1 : I 9 i = 0
  · rw [if_pos h1, if_pos h1, fX1_pagesHeld_15]
  · rw [if_neg h1, if_neg h1, W_ob I E P h, Option.bind_some, W_need I E P h, Option.bind_some, fX1_pagesHeld_15]
/-- a row of the component holds this list -/
def hLi (f : Nat → Option Nat) (L : List Nat) (n : Nat) : Prop := (∀ k, k < 8 → f k = L[k]?) ∧ L.length ≤ 8 ∧ ∀ i, i ∈ L → i < n
theorem hLi.g {f : Nat → Option Nat} {L : List Nat} {n k i : Nat} (h : hLi f L n) (hk : L[k]? = some i) : f k = some i ∧ i < n ∧ k < 8 := by
  have := (List.getElem?_eq_some_iff.mp hk).1
  have h8 := h.2.1
  exact ⟨(h.1 k (by omega)).trans hk, h.2.2 i (List.mem_of_getElem? hk), by omega⟩
/-- from j on one down -/
def psh : Nat → Nat → Nat → PT → PT
  | _, 0, _, P => P
  | a, j + 1, k, P => psh a j (k + 1) (p2 P a k (P a (k + 1)))
theorem psh_r (a j : Nat) : ∀ (k : Nat) (P : PT) {b : Nat}, b ≠ a → psh a j k P b = P b := by
  induction j with
  | zero => intro k P b _; rfl
  | succ j ih => intro k P b h; rw [psh, ih _ _ h, p2_r _ _ _ h]
theorem psh_1 (a j : Nat) : ∀ (k i : Nat) (P : PT), psh a j k P a i = if k ≤ i ∧ i < k + j then P a (i + 1) else P a i := by
  induction j with
  | zero => intro k i P; rw [if_neg (by omega)]; rfl
  | succ j ih =>
    intro k i P
    rw [psh, ih]
    by_cases h1 : i = k
    · subst h1
      rw [if_neg (by omega), if_pos (by omega), p2_s]
    · by_cases h2 : k ≤ i ∧ i < k + (j + 1)
      · rw [if_pos (by omega), if_pos h2, p2_k _ _ _ (by omega)]
      · rw [if_neg (by omega), if_neg h2, p2_k _ _ _ h1]
def psr : Nat → Nat → PT → PT
  | _, 0, P => P
  | a, j + 1, P => psr a j (p2 P a (j + 1) (P a j))
theorem psr_r (a j : Nat) : ∀ (P : PT) {b : Nat}, b ≠ a → psr a j P b = P b := by
  induction j with
  | zero => intro P b _; rfl
  | succ j ih => intro P b h; rw [psr, ih _ h, p2_r _ _ _ h]
theorem psr_1 (a j : Nat) : ∀ (i : Nat) (P : PT), psr a j P a i = if 1 ≤ i ∧ i ≤ j then P a (i - 1) else P a i := by
  induction j with
  | zero => intro i P; rw [if_neg (by omega)]; rfl
  | succ j ih =>
    intro i P
    rw [psr, ih]
    by_cases h1 : i = j + 1
    · subst h1
      rw [if_neg (by omega), if_pos (by omega), p2_s]
      rfl
    · by_cases h2 : 1 ≤ i ∧ i ≤ j + 1
      · rw [if_pos (by omega), if_pos h2, p2_k _ _ _ (by omega)]
      · rw [if_neg (by omega), if_neg h2, p2_k _ _ _ h1]
def prm (P : PT) (a p : Nat) : PT := p2 (psh a (7 - p) p P) a 7 none
theorem prm_r (P : PT) (a p : Nat) {b : Nat} (h : b ≠ a) : prm P a p b = P b := by rw [prm, p2_r _ _ _ h, psh_r _ _ _ _ h]
theorem hLi.rm {P : PT} {a : Nat} {L : List Nat} {n p : Nat} (h : hLi (P a) L n) (hp : p < L.length) : hLi (prm P a p a) (L.eraseIdx p) n := by
  have h8 := h.2.1
  have hl : (L.eraseIdx p).length = L.length - 1 := List.length_eraseIdx_of_lt hp
  refine ⟨fun k hk => ?_, by omega, fun i hi => h.2.2 i (List.mem_of_mem_eraseIdx hi)⟩
  rw [eI_g, prm]
  by_cases h7 : k = 7
  · subst h7
    rw [p2_s, if_neg (by omega), List.getElem?_eq_none (by omega)]
  · rw [p2_k _ _ _ h7, psh_1]
    by_cases h1 : k < p
    · rw [if_neg (by omega), if_pos h1, h.1 k hk]
    · rw [if_pos (by omega), if_neg h1, h.1 (k + 1) (by omega)]
theorem hLi.add {P : PT} {a : Nat} {L : List Nat} {n v : Nat} (h : hLi (P a) L n) (hl : L.length < 8) (hv : v < n) : hLi (p2 P a L.length (some v) a) (L ++ [v]) n := by
  refine ⟨fun k hk => ?_, by simp; omega, fun i hi => ?_⟩
  · by_cases h1 : k = L.length
    · subst h1
      rw [p2_s]; simp
    · rw [p2_k _ _ _ h1, h.1 k hk]
      by_cases h2 : k < L.length
      · rw [List.getElem?_append_left h2]
      · rw [List.getElem?_eq_none (by omega), List.getElem?_eq_none (by simp; omega)]
  · rcases List.mem_append.mp hi with h1 | h1
    · exact h.2.2 i h1
    · rw [List.mem_singleton.mp h1]; exact hv
theorem hLi.cons {P : PT} {a : Nat} {L : List Nat} {n v : Nat} (h : hLi (P a) L n) (hl : L.length < 8) (hv : v < n) : hLi (p2 (psr a L.length P) a 0 (some v) a) (v :: L) n := by
  refine ⟨fun k hk => ?_, by simp; omega, fun i hi => ?_⟩
  · cases k with
    | zero => rw [p2_s]; rfl
    | succ k =>
      rw [p2_k _ _ _ (by omega), psr_1, List.getElem?_cons_succ]
      by_cases h2 : k < L.length
      · rw [if_pos (by omega)]; exact h.1 k (by omega)
      · rw [if_neg (by omega), List.getElem?_eq_none (by omega), h.1 _ hk, List.getElem?_eq_none (by omega)]
  · rcases List.mem_cons.mp hi with h1 | h1
    · rw [h1]; exact hv
    · exact h.2.2 i h1
theorem nI_8 : nI 8 = 8 := by decide
theorem nI_lt0 {k : Nat} (h : k < 1000) : ¬ nI k < 0 := nI_pos (by omega)
theorem b_count (I E : IT) (P : PT) (n : Nat) : fX2_count (hC I E P n) 1 = some (E 2 1) := by rw [fX2_count, C_bgi, Option.bind_some]
theorem b_get (I E : IT) (P : PT) (n : Nat) {k : Nat} (hk : k < 8) : fX2_get (hC I E P n) 1 (nI k) = some ((P 0 k).map wa) := by
  rw [fX2_get, if_neg (nI_lt0 (by omega)), C_bgr, Option.bind_some, C_blen, Option.bind_some, if_neg (fun q => by rw [← nI_8] at q; have := (nI_L (by omega) (by omega)).mp q; omega), Option.bind_some, C_bldr _ _ _ _ hk, Option.bind_some, fX2_get_23]
theorem b_getn (I E : IT) (P : PT) (n : Nat) : fX2_get (hC I E P n) 1 (-1) = some none := by
  rw [fX2_get, if_pos (by decide), fX2_get_22, fX2_get_23]
theorem b_idx {I E : IT} {P : PT} {L : List Nat} {n : Nat} (hL : hLi (P 0) L n) (hn : n ≤ 41) (x : Int32) : ∀ (m k f : Nat), k + m = 8 → m < f → fX2_indexOf_2 f (hC I E P n) 1 x (nI k) = some (plc x k (L.drop k)) := by
  intro m
  induction m with
  | zero =>
    intro k f hk hf
    obtain ⟨f, rfl⟩ : ∃ g, f = g + 1 := ⟨f - 1, by omega⟩
    have h8 := hL.2.1
    rw [fX2_indexOf_2, C_bgr, Option.bind_some, C_blen, Option.bind_some, if_pos (by rw [← nI_8]; exact (nI_L (by omega) (by omega)).mpr (by omega)), List.drop_of_length_le (by omega)]
    rfl
  | succ m ih =>
    intro k f hk hf
    obtain ⟨f, rfl⟩ : ∃ g, f = g + 1 := ⟨f - 1, by omega⟩
    have hi := ih (k + 1) f (by omega) (by omega)
    have e : fX2_indexOf_32 (fX2_indexOf_2 f) (hC I E P n) 1 x (nI k) = some (plc x (k + 1) (L.drop (k + 1))) := by
      rw [fX2_indexOf_32, nI_1]; exact hi
    rw [fX2_indexOf_2, C_bgr, Option.bind_some, C_blen, Option.bind_some, if_neg (fun q => by rw [← nI_8] at q; have := (nI_L (by omega) (by omega)).mp q; omega), Option.bind_some, C_bldr _ _ _ _ (show k < 8 by omega), Option.bind_some, hL.1 k (by omega)]
    cases hl : L[k]? with
    | none =>
      have hle : L.length ≤ k := List.getElem?_eq_none_iff.mp hl
      rw [List.drop_of_length_le (show L.length ≤ k + 1 by omega)] at e
      rw [List.drop_of_length_le hle]
      exact e
    | some i =>
      have hlt := (List.getElem?_eq_some_iff.mp hl).1
      have hin := (hL.g hl).2.1
      have hd : L.drop k = i :: L.drop (k + 1) := by
        rw [List.drop_eq_getElem_cons hlt]
        congr 1
        exact (List.getElem?_eq_some_iff.mp hl).2
      rw [hd]
      dsimp only [Option.map_some]
      rw [W_gi0 I E P hin, Option.bind_some, plc]
      by_cases hx : nI i = x
      · rw [if_pos hx, if_pos hx]
      · rw [if_neg hx, if_neg hx]; exact e
theorem b_indexOf {I E : IT} {P : PT} {L : List Nat} {n : Nat} (hL : hLi (P 0) L n) (hn : n ≤ 41) (x : Int32) : fX2_indexOf (hC I E P n) 1 x = some (plc x 0 L) := by
  have h := b_idx (I := I) (E := E) hL hn x 8 0 64 rfl (by omega)
  rw [nI_0] at h
  exact h
theorem b_rm {I E : IT} {n : Nat} : ∀ (j k f : Nat) (P : PT), k + j = 7 → j < f → (∀ q i, P 0 q = some i → i < n) → fX2_remove_13 f (hC I E P n) 1 (nI k) = some (hC I (u2 E 2 1 (E 2 1 - 1)) (p2 (psh 0 j k P) 0 7 none) n) := by
  intro j
  induction j with
  | zero =>
    intro k f P hk hf hP
    obtain ⟨f, rfl⟩ : ∃ g, f = g + 1 := ⟨f - 1, by omega⟩
    have e7 : (8 : Int32) - 1 = nI 7 := by decide
    have e9 := C_bstr I E P n (k := 7) none (by omega) (fun i q => by cases q)
    rw [Option.map_none] at e9
    rw [fX2_remove_13, C_bgr, Option.bind_some, C_blen, Option.bind_some, nI_1, if_pos (by rw [← nI_8]; exact (nI_L (by omega) (by omega)).mpr (by omega)), Option.bind_some, Option.bind_some, C_blen, Option.bind_some, e7, e9, Option.bind_some, C_bgi, Option.bind_some, C_bsi, Option.bind_some]
    rfl
  | succ j ih =>
    intro k f P hk hf hP
    obtain ⟨f, rfl⟩ : ∃ g, f = g + 1 := ⟨f - 1, by omega⟩
    rw [fX2_remove_13, C_bgr, Option.bind_some, C_blen, Option.bind_some, nI_1, if_neg (fun q => by rw [← nI_8] at q; have := (nI_L (by omega) (by omega)).mp q; omega), Option.bind_some, Option.bind_some, C_bldr _ _ _ _ (show k + 1 < 8 by omega), Option.bind_some, C_bstr I E P n (P 0 (k + 1)) (show k < 8 by omega) (fun i q => hP _ i q), Option.bind_some]
    exact ih (k + 1) f _ (by omega) (by omega) (fun q i hq => by
      by_cases h1 : q = k
      · rw [h1, p2_s] at hq; exact hP _ i hq
      · rw [p2_k _ _ _ h1] at hq; exact hP _ i hq)
theorem s_count (I E : IT) (P : PT) (n : Nat) : fX2_count (hC I E P n) 3 = some (E 2 2) := by rw [fX2_count, C_sgi, Option.bind_some]
theorem s_get (I E : IT) (P : PT) (n : Nat) {k : Nat} (hk : k < 8) : fX2_get (hC I E P n) 3 (nI k) = some ((P 1 k).map wa) := by
  rw [fX2_get, if_neg (nI_lt0 (by omega)), C_sgr, Option.bind_some, C_slen, Option.bind_some, if_neg (fun q => by rw [← nI_8] at q; have := (nI_L (by omega) (by omega)).mp q; omega), Option.bind_some, C_sldr _ _ _ _ hk, Option.bind_some, fX2_get_23]
theorem s_getn (I E : IT) (P : PT) (n : Nat) : fX2_get (hC I E P n) 3 (-1) = some none := by
  rw [fX2_get, if_pos (by decide), fX2_get_22, fX2_get_23]
theorem s_idx {I E : IT} {P : PT} {L : List Nat} {n : Nat} (hL : hLi (P 1) L n) (hn : n ≤ 41) (x : Int32) : ∀ (m k f : Nat), k + m = 8 → m < f → fX2_indexOf_2 f (hC I E P n) 3 x (nI k) = some (plc x k (L.drop k)) := by
  intro m
  induction m with
  | zero =>
    intro k f hk hf
    obtain ⟨f, rfl⟩ : ∃ g, f = g + 1 := ⟨f - 1, by omega⟩
    have h8 := hL.2.1
    rw [fX2_indexOf_2, C_sgr, Option.bind_some, C_slen, Option.bind_some, if_pos (by rw [← nI_8]; exact (nI_L (by omega) (by omega)).mpr (by omega)), List.drop_of_length_le (by omega)]
    rfl
  | succ m ih =>
    intro k f hk hf
    obtain ⟨f, rfl⟩ : ∃ g, f = g + 1 := ⟨f - 1, by omega⟩
    have hi := ih (k + 1) f (by omega) (by omega)
    have e : fX2_indexOf_32 (fX2_indexOf_2 f) (hC I E P n) 3 x (nI k) = some (plc x (k + 1) (L.drop (k + 1))) := by
      rw [fX2_indexOf_32, nI_1]; exact hi
    rw [fX2_indexOf_2, C_sgr, Option.bind_some, C_slen, Option.bind_some, if_neg (fun q => by rw [← nI_8] at q; have := (nI_L (by omega) (by omega)).mp q; omega), Option.bind_some, C_sldr _ _ _ _ (show k < 8 by omega), Option.bind_some, hL.1 k (by omega)]
    cases hl : L[k]? with
    | none =>
      have hle : L.length ≤ k := List.getElem?_eq_none_iff.mp hl
      rw [List.drop_of_length_le (show L.length ≤ k + 1 by omega)] at e
      rw [List.drop_of_length_le hle]
      exact e
    | some i =>
      have hlt := (List.getElem?_eq_some_iff.mp hl).1
      have hin := (hL.g hl).2.1
      have hd : L.drop k = i :: L.drop (k + 1) := by
        rw [List.drop_eq_getElem_cons hlt]
        congr 1
        exact (List.getElem?_eq_some_iff.mp hl).2
      rw [hd]
      dsimp only [Option.map_some]
      rw [W_gi0 I E P hin, Option.bind_some, plc]
      by_cases hx : nI i = x
      · rw [if_pos hx, if_pos hx]
      · rw [if_neg hx, if_neg hx]; exact e
theorem s_indexOf {I E : IT} {P : PT} {L : List Nat} {n : Nat} (hL : hLi (P 1) L n) (hn : n ≤ 41) (x : Int32) : fX2_indexOf (hC I E P n) 3 x = some (plc x 0 L) := by
  have h := s_idx (I := I) (E := E) hL hn x 8 0 64 rfl (by omega)
  rw [nI_0] at h
  exact h
theorem s_rm {I E : IT} {n : Nat} : ∀ (j k f : Nat) (P : PT), k + j = 7 → j < f → (∀ q i, P 1 q = some i → i < n) → fX2_remove_13 f (hC I E P n) 3 (nI k) = some (hC I (u2 E 2 2 (E 2 2 - 1)) (p2 (psh 1 j k P) 1 7 none) n) := by
  intro j
  induction j with
  | zero =>
    intro k f P hk hf hP
    obtain ⟨f, rfl⟩ : ∃ g, f = g + 1 := ⟨f - 1, by omega⟩
    have e7 : (8 : Int32) - 1 = nI 7 := by decide
    have e9 := C_sstr I E P n (k := 7) none (by omega) (fun i q => by cases q)
    rw [Option.map_none] at e9
    rw [fX2_remove_13, C_sgr, Option.bind_some, C_slen, Option.bind_some, nI_1, if_pos (by rw [← nI_8]; exact (nI_L (by omega) (by omega)).mpr (by omega)), Option.bind_some, Option.bind_some, C_slen, Option.bind_some, e7, e9, Option.bind_some, C_sgi, Option.bind_some, C_ssi, Option.bind_some]
    rfl
  | succ j ih =>
    intro k f P hk hf hP
    obtain ⟨f, rfl⟩ : ∃ g, f = g + 1 := ⟨f - 1, by omega⟩
    rw [fX2_remove_13, C_sgr, Option.bind_some, C_slen, Option.bind_some, nI_1, if_neg (fun q => by rw [← nI_8] at q; have := (nI_L (by omega) (by omega)).mp q; omega), Option.bind_some, Option.bind_some, C_sldr _ _ _ _ (show k + 1 < 8 by omega), Option.bind_some, C_sstr I E P n (P 1 (k + 1)) (show k < 8 by omega) (fun i q => hP _ i q), Option.bind_some]
    exact ih (k + 1) f _ (by omega) (by omega) (fun q i hq => by
      by_cases h1 : q = k
      · rw [h1, p2_s] at hq; exact hP _ i hq
      · rw [p2_k _ _ _ h1] at hq; exact hP _ i hq)
theorem b_remove {I E : IT} {P : PT} {L : List Nat} {n p : Nat} (hL : hLi (P 0) L n) (hP : ∀ q i, P 0 q = some i → i < n) (hn : n ≤ 41) {x : Int32} (hx : plc x 0 L = nI p) (hp : p < L.length) : fX2_remove (hC I E P n) 1 x = some (hC I (u2 E 2 1 (E 2 1 - 1)) (prm P 0 p) n) := by
  have h8 := hL.2.1
  rw [fX2_remove, C_bob, Option.bind_some, b_indexOf hL hn, Option.bind_some, hx, if_pos (by rw [← nI_0]; exact (nI_L (by omega) (by omega)).mpr (by omega))]
  exact b_rm (7 - p) p 64 P (by omega) (by omega) hP
theorem b_addLast {I E : IT} {P : PT} {n m v : Nat} (hE : E 2 1 = nI m) (hm : m < 8) (hv : v < n) : fX2_addLast (hC I E P n) 1 (some (wa v)) = some (hC I (u2 E 2 1 (nI (m + 1))) (p2 P 0 m (some v)) n) := by
  have e := C_bstr I E P n (k := m) (some v) hm (fun i q => by cases q; exact hv)
  rw [Option.map_some] at e
  rw [fX2_addLast, C_bgi, Option.bind_some, hE, if_neg (nI_lt0 (by omega)), Option.bind_some, C_bgr, Option.bind_some, C_blen, Option.bind_some, if_neg (fun q => by rw [← nI_8] at q; have := (nI_L (by omega) (by omega)).mp q; omega), Option.bind_some, Option.bind_some, e, Option.bind_some, C_bgi, Option.bind_some, hE, nI_1, C_bsi, Option.bind_some, fX2_addLast_39]
theorem s_remove {I E : IT} {P : PT} {L : List Nat} {n p : Nat} (hL : hLi (P 1) L n) (hP : ∀ q i, P 1 q = some i → i < n) (hn : n ≤ 41) {x : Int32} (hx : plc x 0 L = nI p) (hp : p < L.length) : fX2_remove (hC I E P n) 3 x = some (hC I (u2 E 2 2 (E 2 2 - 1)) (prm P 1 p) n) := by
  have h8 := hL.2.1
  rw [fX2_remove, C_sob, Option.bind_some, s_indexOf hL hn, Option.bind_some, hx, if_pos (by rw [← nI_0]; exact (nI_L (by omega) (by omega)).mpr (by omega))]
  exact s_rm (7 - p) p 64 P (by omega) (by omega) hP
theorem s_addLast {I E : IT} {P : PT} {n m v : Nat} (hE : E 2 2 = nI m) (hm : m < 8) (hv : v < n) : fX2_addLast (hC I E P n) 3 (some (wa v)) = some (hC I (u2 E 2 2 (nI (m + 1))) (p2 P 1 m (some v)) n) := by
  have e := C_sstr I E P n (k := m) (some v) hm (fun i q => by cases q; exact hv)
  rw [Option.map_some] at e
  rw [fX2_addLast, C_sgi, Option.bind_some, hE, if_neg (nI_lt0 (by omega)), Option.bind_some, C_sgr, Option.bind_some, C_slen, Option.bind_some, if_neg (fun q => by rw [← nI_8] at q; have := (nI_L (by omega) (by omega)).mp q; omega), Option.bind_some, Option.bind_some, e, Option.bind_some, C_sgi, Option.bind_some, hE, nI_1, C_ssi, Option.bind_some, fX2_addLast_39]
theorem s_af {I E : IT} {n v m : Nat} (hE : E 2 2 = nI m) (hv : v < n) : ∀ (j f : Nat) (P : PT), j < 8 → j < f → (∀ q i, P 1 q = some i → i < n) → fX2_addFirst_18 f (hC I E P n) 3 (some (wa v)) (nI j) = some (hC I (u2 E 2 2 (nI (m + 1))) (p2 (psr 1 j P) 1 0 (some v)) n) := by
  intro j
  induction j with
  | zero =>
    intro f P hj hf hP
    obtain ⟨f, rfl⟩ : ∃ g, f = g + 1 := ⟨f - 1, by omega⟩
    have e := C_sstr I E P n (k := 0) (some v) (by omega) (fun i q => by cases q; exact hv)
    rw [Option.map_some, nI_0] at e
    rw [fX2_addFirst_18, if_pos (by rw [nI_0]; decide), C_sgr, Option.bind_some, e, Option.bind_some, C_sgi, Option.bind_some, hE, nI_1, C_ssi, Option.bind_some]
    rfl
  | succ j ih =>
    intro f P hj hf hP
    obtain ⟨f, rfl⟩ : ∃ g, f = g + 1 := ⟨f - 1, by omega⟩
    have e : nI (j + 1) + (-1) = nI j := by have := nI_pred j; grind
    rw [fX2_addFirst_18, if_neg (fun q => by rw [← nI_0] at q; have := (nI_L (by omega) (by omega)).mp q; omega), C_sgr, Option.bind_some, Option.bind_some, nI_pred, C_sldr _ _ _ _ (show j < 8 by omega), Option.bind_some, C_sstr I E P n (P 1 j) (show j + 1 < 8 by omega) (fun i q => hP _ i q), Option.bind_some, e]
    exact ih f _ (by omega) (by omega) (fun q i hq => by
      by_cases h1 : q = j + 1
      · rw [h1, p2_s] at hq; exact hP _ i hq
      · rw [p2_k _ _ _ h1] at hq; exact hP _ i hq)
theorem s_addFirst {I E : IT} {P : PT} {n m v : Nat} (hE : E 2 2 = nI m) (hm : m < 8) (hv : v < n) (hP : ∀ q i, P 1 q = some i → i < n) : fX2_addFirst (hC I E P n) 3 (some (wa v)) = some (hC I (u2 E 2 2 (nI (m + 1))) (p2 (psr 1 m P) 1 0 (some v)) n) := by
  rw [fX2_addFirst, C_sgi, Option.bind_some, C_sgr, Option.bind_some, C_slen, Option.bind_some, hE, if_pos (by rw [← nI_8]; exact (nI_T (by omega) (by omega)).mpr hm), Option.bind_some]
  exact s_af hE hv m 64 P hm (by omega) hP
theorem s_over {I E : IT} {P : PT} {L : List Nat} {n : Nat} (hL : hLi (P 1) L n) (hg : ∀ i, i ∈ L → gOK I i) (c r : Int32) : ∀ (k f : Nat), k ≤ L.length → k < f → fX2_topmostOver_7 f (hC I E P n) 3 c r (nI k - 1) = some ((sh I c r (L.take k)).map wa) := by
  intro k
  have h8 := hL.2.1
  induction k with
  | zero =>
    intro f hk hf
    obtain ⟨f, rfl⟩ : ∃ g, f = g + 1 := ⟨f - 1, by omega⟩
    rw [fX2_topmostOver_7]
    rfl
  | succ k ih =>
    intro f hk hf
    obtain ⟨f, rfl⟩ : ∃ g, f = g + 1 := ⟨f - 1, by omega⟩
    have g1 : L[k]? = some L[k] := List.getElem?_eq_getElem (by omega)
    have gm : L[k] ∈ L := List.getElem_mem _
    have e : nI k + (-1) = nI k - 1 := by grind
    rw [fX2_topmostOver_7, nI_pred, if_neg (nI_lt0 (by omega)), C_sob, Option.bind_some, s_get _ _ _ _ (show k < 8 by omega), Option.bind_some, (hL.g g1).1]
    dsimp only [Option.map_some]
    rw [W_ob I E P (hL.2.2 _ gm), Option.bind_some, W_covers I E P (hL.2.2 _ gm) (hg _ gm), Option.bind_some, take_succ' g1, sh_app, fX2_topmostOver_36, e, ih f (by omega) (by omega)]
    cases hc : cv I L[k] c r with
    | false => rw [if_pos (show b2i false = 0 from rfl)]; simp
    | true => rw [if_neg (show ¬ b2i true = 0 by decide)]; simp
theorem s_topmost {I E : IT} {P : PT} {L : List Nat} {n : Nat} (hL : hLi (P 1) L n) (hg : ∀ i, i ∈ L → gOK I i) (hE : E 2 2 = nI L.length) (c r : Int32) : fX2_topmostOver (hC I E P n) 3 c r = some ((sh I c r L).map wa) := by
  have h := s_over (E := E) hL hg c r L.length 64 (Nat.le_refl _) (by have := hL.2.1; omega)
  rw [List.take_length] at h
  rw [fX2_topmostOver, C_sgi, Option.bind_some, hE]
  exact h
