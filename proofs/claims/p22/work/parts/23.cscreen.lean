/-! THE COMPONENT: the screen and the pages -/
def z0 (E : IT) (i : Nat) : IT := u2 E 1 i 0
theorem z0s_b : ∀ (l : List Nat) (E : IT) {b : Nat}, b ≠ 1 → l.foldl z0 E b = E b := by
  intro l
  induction l with
  | nil => intro E b _; rfl
  | cons x l ih => intro E b h; rw [List.foldl_cons, ih _ h, z0, u2_r _ _ _ h]
theorem z0s_o : ∀ (l : List Nat) (E : IT) {i : Nat}, i ∉ l → l.foldl z0 E 1 i = E 1 i := by
  intro l
  induction l with
  | nil => intro E i _; rfl
  | cons x l ih =>
    intro E i h
    rw [List.foldl_cons, ih _ (fun q => h (List.mem_cons_of_mem _ q)), z0, u2_k _ _ _ (fun e => h (by rw [e]; exact List.mem_cons_self))]
theorem z0s_i : ∀ (l : List Nat) (E : IT) {i : Nat}, (i ∈ l ∨ E 1 i = 0) → l.foldl z0 E 1 i = 0 := by
  intro l
  induction l with
  | nil => intro E i h; exact h.resolve_left (by simp)
  | cons x l ih =>
    intro E i h
    rw [List.foldl_cons]
    refine ih _ ?_
    by_cases hx : i = x
    · right; rw [hx, z0, u2_s]
    · rcases h with h | h
      · exact Or.inl ((List.mem_cons.mp h).resolve_left hx)
      · right; rw [z0, u2_k _ _ _ hx]; exact h
theorem S_look2 {I : IT} {P : PT} {L : List Nat} {n : Nat} (hL : hLi (P 1) L n) : ∀ (l : List Nat) (k f : Nat) (E : IT), L.drop k = l → k ≤ L.length → l.length < f → E 2 2 = nI L.length → fX3_lookAtScreen_2 f (hC I E P n) 0 (nI k) = fX3_lookAtScreen_39 64 (hC I (l.foldl z0 E) P n) 0 0 := by
  intro l
  have h8 := hL.2.1
  induction l with
  | nil =>
    intro k f E hl hk hf hE
    obtain ⟨f, rfl⟩ : ∃ g, f = g + 1 := ⟨f - 1, by omega⟩
    rw [fX3_lookAtScreen_2, C_gr1, Option.bind_some, C_sob, Option.bind_some, s_count, Option.bind_some, hE, if_pos ((nI_L (by omega) (by omega)).mpr (drop_nil hl))]
    rfl
  | cons i l ih =>
    intro k f E hl hk hf hE
    obtain ⟨f, rfl⟩ : ∃ g, f = g + 1 := ⟨f - 1, by omega⟩
    obtain ⟨g1, g2, g3⟩ := drop_cons hl
    obtain ⟨g4, g5, g6⟩ := hL.g g1
    rw [fX3_lookAtScreen_2, C_gr1, Option.bind_some, C_sob, Option.bind_some, s_count, Option.bind_some, hE, if_neg (fun q => by have := (nI_L (by omega) (by omega)).mp q; omega), Option.bind_some, C_sob, Option.bind_some, s_get _ _ _ _ g6, Option.bind_some, g4]
    dsimp only [Option.map_some]
    rw [W_s7 _ _ _ g5 _ (Or.inl rfl), Option.bind_some, fX3_lookAtScreen_31, nI_1]
    exact ih (k + 1) f _ g2 (by omega) (by simp at hf; omega) (by rw [u2_a _ _ _ _ (by omega)]; exact hE)
theorem nI_48 : nI 48 = 48 := by decide
theorem S_look39 {I : IT} {L : List Nat} {n : Nat} (hg : ∀ i, i ∈ L → gOK I i) : ∀ (m k f : Nat) (E : IT) (P : PT), k + m = 48 → m < f → hLi (P 1) L n → E 2 2 = nI L.length → ∃ E' P', fX3_lookAtScreen_39 f (hC I E P n) 0 (nI k) = some (hC I E' P' n) ∧ (∀ b, b ≠ 1 → E' b = E b) ∧ (∀ i, E' 1 i = if ((List.range' k m).any fun q => decide (shc I L q = some i)) = true then 1 else E 1 i) ∧ (∀ b, b ≠ 2 → P' b = P b) ∧ ∀ q, P' 2 q = if k ≤ q ∧ q < 48 then shc I L q else P 2 q := by
  intro m
  induction m with
  | zero =>
    intro k f E P hk hf hL hE
    obtain ⟨f, rfl⟩ : ∃ g, f = g + 1 := ⟨f - 1, by omega⟩
    refine ⟨E, P, ?_, fun _ _ => rfl, fun _ => rfl, fun _ _ => rfl, fun q => ?_⟩
    · rw [fX3_lookAtScreen_39, if_pos (by rw [← nI_48]; exact (nI_L (by omega) (by omega)).mpr (by omega))]
    · rw [if_neg (by omega)]
  | succ m ih =>
    intro k f E P hk hf hL hE
    obtain ⟨f, rfl⟩ : ∃ g, f = g + 1 := ⟨f - 1, by omega⟩
    have ht : fX2_topmostOver (hC I E P n) 3 (nI k - nI k / 8 * 8) (nI k / 8) = some ((shc I L k).map wa) := by
      rw [s_topmost hL hg hE, nI_m8 (show k < 1000 by omega), nI_d8 (show k < 1000 by omega)]
      rfl
    have hmem : ∀ i, shc I L k = some i → i < n := fun i hi => hL.2.2 i (sh_mem L hi)
    have hL2 : hLi (p2 P 2 k (shc I L k) 1) L n := by rw [p2_r _ _ _ (by omega)]; exact hL
    have e : fX3_lookAtScreen_39 (f + 1) (hC I E P n) 0 (nI k) = fX3_lookAtScreen_39 f (hC I (match shc I L k with | none => E | some i => u2 E 1 i 1) (p2 P 2 k (shc I L k)) n) 0 (nI (k + 1)) := by
      rw [fX3_lookAtScreen_39, if_neg (fun q => by rw [← nI_48] at q; have := (nI_L (by omega) (by omega)).mp q; omega), C_gr1, Option.bind_some, C_sob, Option.bind_some, ht, Option.bind_some, C_gr2, Option.bind_some, C_mstr I E P n _ (show k < 48 by omega) hmem, Option.bind_some]
      cases hs : shc I L k with
      | none =>
        dsimp only [Option.map_none]
        rw [fX3_lookAtScreen_77, nI_1]
      | some i =>
        dsimp only [Option.map_some]
        rw [W_s7 _ _ _ (hmem i hs) _ (Or.inr rfl), Option.bind_some, fX3_lookAtScreen_77, nI_1]
    obtain ⟨E', P', q1, q2, q3, q4, q5⟩ := ih (k + 1) f (match shc I L k with | none => E | some i => u2 E 1 i 1) (p2 P 2 k (shc I L k)) (by omega) (by omega) hL2 (by
      cases shc I L k with
      | none => exact hE
      | some i => dsimp only; rw [u2_a _ _ _ _ (by omega)]; exact hE)
    refine ⟨E', P', by rw [e]; exact q1, fun b hb => ?_, fun i => ?_, fun b hb => ?_, fun q => ?_⟩
    · rw [q2 b hb]
      cases shc I L k with
      | none => rfl
      | some i => dsimp only; rw [u2_r _ _ _ hb]
    · rw [q3 i, List.range'_succ, List.any_cons]
      cases hs : shc I L k with
      | none => rw [decide_eq_false (fun z => by cases z), Bool.false_or]
      | some v =>
        dsimp only
        by_cases hv : i = v
        · subst hv; simp [u2_s]
        · rw [u2_k _ _ _ hv, decide_eq_false (fun z => hv (Option.some.inj z).symm), Bool.false_or]
    · rw [q4 b hb, p2_r _ _ _ hb]
    · rw [q5 q]
      by_cases hq : q = k
      · subst hq
        rw [if_neg (by omega), if_pos (by omega), p2_s]
      · rw [p2_k _ _ _ hq]
        by_cases h9 : k ≤ q ∧ q < 48
        · rw [if_pos (by omega), if_pos h9]
        · rw [if_neg (by omega), if_neg h9]
theorem S_look {I E : IT} {P : PT} {L : List Nat} {n : Nat} (hg : ∀ i, i ∈ L → gOK I i) (hL : hLi (P 1) L n) (hE : E 2 2 = nI L.length) : ∃ E' P', fX3_lookAtScreen (hC I E P n) 0 = some (hC I E' P' n) ∧ (∀ b, b ≠ 1 → E' b = E b) ∧ (∀ i, i ∈ L → E' 1 i = b2i (seen I L i)) ∧ (∀ b, b ≠ 2 → P' b = P b) ∧ ∀ q, P' 2 q = if q < 48 then shc I L q else P 2 q := by
  have h1 := S_look2 (I := I) hL L 0 64 E rfl (Nat.zero_le _) (by have := hL.2.1; omega) hE
  obtain ⟨E', P', q1, q2, q3, q4, q5⟩ := S_look39 (n := n) hg 48 0 64 (L.foldl z0 E) P rfl (by omega) hL (by rw [z0s_b _ _ (by omega)]; exact hE)
  rw [nI_0] at h1 q1
  refine ⟨E', P', by rw [fX3_lookAtScreen, h1]; exact q1, fun b hb => by rw [q2 b hb, z0s_b _ _ hb], fun i hi => ?_, q4, fun q => ?_⟩
  · rw [q3 i, z0s_i _ _ (Or.inl hi)]
    rfl
  · rw [q5 q]
    by_cases h9 : q < 48
    · rw [if_pos (by omega), if_pos h9]
    · rw [if_neg (by omega), if_neg h9]
/-! pages -/
def pg (I : IT) (i : Nat) : Int32 := if I 9 i = 0 then 0 else need I i
theorem frf_lin (I : IT) : ∀ (l : List Nat) (a d : Int32), l.foldl (frf I) (a + d) = l.foldl (frf I) a + d := by
  intro l
  induction l with
  | nil => intro a d; rfl
  | cons x l ih =>
    intro a d
    rw [List.foldl_cons, List.foldl_cons, show frf I (a + d) x = frf I a x + d by unfold frf; grind, ih]
theorem frf_out {I J : IT} {i : Nat} (h : ∀ j, j ≠ i → pg J j = pg I j) : ∀ (l : List Nat) (a : Int32), i ∉ l → l.foldl (frf J) a = l.foldl (frf I) a := by
  intro l
  induction l with
  | nil => intro a _; rfl
  | cons x l ih =>
    intro a hi
    rw [List.foldl_cons, List.foldl_cons, ih _ (fun q => hi (List.mem_cons_of_mem _ q))]
    have := h x (fun q => hi (by rw [q]; exact List.mem_cons_self))
    unfold pg at this
    rw [frf, this]
    rfl
theorem frf_in {I J : IT} {i : Nat} (h : ∀ j, j ≠ i → pg J j = pg I j) : ∀ (l : List Nat) (a : Int32), i ∈ l → l.Nodup → l.foldl (frf J) a = l.foldl (frf I) a + (pg I i - pg J i) := by
  intro l
  induction l with
  | nil => intro a hi _; cases hi
  | cons x l ih =>
    intro a hi hd
    rw [List.foldl_cons, List.foldl_cons]
    obtain ⟨h1, h2⟩ := List.nodup_cons.mp hd
    by_cases hx : i = x
    · subst hx
      rw [frf_out h _ _ h1, show frf J a i = frf I a i + (pg I i - pg J i) by unfold frf pg; grind, frf_lin]
    · rw [ih _ ((List.mem_cons.mp hi).resolve_left hx) h2]
      have := h x (fun q => hx q.symm)
      unfold pg at this
      rw [show frf J a x = frf I a x by rw [frf, this]; rfl]
theorem fr_in {I J : IT} {L : List Nat} {i : Nat} (h : ∀ j, j ≠ i → pg J j = pg I j) (hi : i ∈ L) (hd : L.Nodup) : fr J L = fr I L + (pg I i - pg J i) := frf_in h L 24 hi hd
theorem fr_eq {I J : IT} (h9 : J 9 = I 9) (hg : geo I J) (L : List Nat) : fr J L = fr I L := by
  have : frf J = frf I := by funext a n; rw [frf, h9, geo_need hg]; rfl
  rw [fr, this]; rfl
def puf (I : IT) (L : List Nat) (a : Int32) (i : Nat) : Int32 := if I 9 i = 0 then a else if seen I L i = true then a else a + need I i
theorem puf_lin (I : IT) (L : List Nat) : ∀ (l : List Nat) (a d : Int32), l.foldl (puf I L) (a + d) = l.foldl (puf I L) a + d := by
  intro l
  induction l with
  | nil => intro a d; rfl
  | cons x l ih =>
    intro a d
    rw [List.foldl_cons, List.foldl_cons, show puf I L (a + d) x = puf I L a x + d by unfold puf; grind, ih]
theorem puf_thf {I : IT} {L : List Nat} {w : Nat} (hw : I 9 w = 0) : thf I L w = puf I L := by
  funext a i
  unfold thf puf cl
  by_cases h1 : I 9 i = 0
  · rw [if_pos h1, if_neg (by simp [h1])]; grind
  · have h2 : i ≠ w := fun q => h1 (by rw [q]; exact hw)
    rw [if_neg h1]
    cases seen I L i with
    | true => simp
    | false => simp [h1, h2]
/-- all that holds between two calls, but the topmost ones -/
def cS (I E : IT) (P : PT) (L : List Nat) (n : Nat) : Prop := (hLi (P 1) L n ∧ (∀ i, i ∈ L → gOK I i) ∧ E 2 2 = nI L.length) ∧ L.Nodup ∧ (∀ i, i ∈ L → E 1 i = b2i (seen I L i)) ∧ nrm I E n ∧ E 2 0 = fr I L
def at2 (E E' : IT) : Prop := E' 1 = E 1 ∧ E' 2 1 = E 2 1 ∧ E' 2 2 = E 2 2
theorem at2.r (E : IT) : at2 E E := ⟨rfl, rfl, rfl⟩
theorem at2.t {E F G : IT} (h : at2 E F) (k : at2 F G) : at2 E G := ⟨k.1.trans h.1, k.2.1.trans h.2.1, k.2.2.trans h.2.2⟩
theorem eS.a {E F : IT} (h : eS E F) : at2 E F := ⟨h.1, by rw [h.2], by rw [h.2]⟩
theorem geo_gOK {I J : IT} (h : geo I J) {i : Nat} (k : gOK I i) : gOK J i := by
  unfold gOK
  rw [h 2 (by omega) (by omega), h 3 (by omega) (by omega), h 4 (by omega) (by omega), h 5 (by omega) (by omega)]
  exact k
theorem cS.of {I E J E' : IT} {P : PT} {L : List Nat} {n : Nat} (h : cS I E P L n) (hg : geo I J) (ha : at2 E E') (hN : nrm J E' n) (hf : E' 2 0 = fr J L) : cS J E' P L n :=
  ⟨⟨h.1.1, fun i hi => geo_gOK hg (h.1.2.1 i hi), ha.2.2.trans h.1.2.2⟩, h.2.1, fun i hi => by rw [ha.1, geo_seen hg]; exact h.2.2.1 i hi, hN, hf⟩
theorem S_unseen_4 {I E : IT} {P : PT} {L : List Nat} {n : Nat} (hS : cS I E P L n) : ∀ (l : List Nat) (k f : Nat) (a : Int32), L.drop k = l → k ≤ L.length → l.length < f → fX3_pagesOfUnseen_4 f (hC I E P n) 0 a (nI k) = some (l.foldl (puf I L) a) := by
  intro l
  obtain ⟨⟨hL, hg, hE⟩, hd, hO, hN, hf⟩ := hS
  have h8 := hL.2.1
  induction l with
  | nil =>
    intro k f a hl hk hf
    obtain ⟨f, rfl⟩ : ∃ g, f = g + 1 := ⟨f - 1, by omega⟩
    rw [fX3_pagesOfUnseen_4, C_gr1, Option.bind_some, C_sob, Option.bind_some, s_count, Option.bind_some, hE, if_pos ((nI_L (by omega) (by omega)).mpr (drop_nil hl))]
    rfl
  | cons i l ih =>
    intro k f a hl hk hf
    obtain ⟨f, rfl⟩ : ∃ g, f = g + 1 := ⟨f - 1, by omega⟩
    obtain ⟨g1, g2, g3⟩ := drop_cons hl
    obtain ⟨g4, g5, g6⟩ := hL.g g1
    have nx : ∀ b : Int32, fX3_pagesOfUnseen_49 (fX3_pagesOfUnseen_4 f) (hC I E P n) 0 b (nI k) = some (l.foldl (puf I L) b) := fun b => by
      rw [fX3_pagesOfUnseen_49, nI_1]
      exact ih (k + 1) f b g2 (by omega) (by simp at hf; omega)
    rw [fX3_pagesOfUnseen_4, C_gr1, Option.bind_some, C_sob, Option.bind_some, s_count, Option.bind_some, hE, if_neg (fun q => by have := (nI_L (by omega) (by omega)).mp q; omega), Option.bind_some, C_sob, Option.bind_some, s_get _ _ _ _ g6, Option.bind_some, g4]
    dsimp only [Option.map_some]
    rw [W_gi8 _ _ _ g5, Option.bind_some, List.foldl_cons]
    unfold puf
    by_cases h1 : I 9 i = 0
    · rw [if_pos h1, if_pos h1]; exact nx a
    · rw [if_neg h1, if_neg h1, W_gi7 _ _ _ g5, Option.bind_some, hO i (List.mem_of_getElem? g1)]
      cases hs : seen I L i with
      | true => rw [if_neg (show ¬ b2i true = 0 by decide), if_pos rfl]; exact nx a
      | false => rw [if_pos (show b2i false = 0 from rfl), if_neg (by decide), W_ob _ _ _ g5, Option.bind_some, W_need _ _ _ g5, Option.bind_some]; exact nx _
theorem S_unseen {I E : IT} {P : PT} {L : List Nat} {n : Nat} (hS : cS I E P L n) : fX3_pagesOfUnseen (hC I E P n) 0 = some (L.foldl (puf I L) 0) := by
  have h := S_unseen_4 hS L 0 64 0 rfl (Nat.zero_le _) (by have := hS.1.1.2.1; omega)
  rw [nI_0] at h
  exact h
