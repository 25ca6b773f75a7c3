/-! THE COMPONENT: a tick -/
/-- what holds of a window's numbers; d: how far its deadline is ahead at least -/
def fw (d : Int32) (I : IT) (w : Nat) : Prop := ((1 ≤ I 7 w ∧ I 7 w ≤ 100) ∧ (1 ≤ I 8 w ∧ I 8 w ≤ 20)) ∧ (I 11 w = 1 ∨ I 11 w = 2 ∨ I 11 w = 4 ∨ I 11 w = 8) ∧ (0 ≤ I 13 w ∧ I 13 w < 3) ∧ (I 15 w = -1 ∨ ((I 0 1 + d ≤ I 15 w ∧ I 15 w ≤ I 0 1 + 800) ∧ (0 ≤ I 16 w ∧ I 16 w < I 8 w)))
def tb (I : IT) (m : Int32) : Prop := 0 ≤ I 0 1 ∧ I 0 1 ≤ m
theorem fw.of {d : Int32} {I J : IT} {w : Nat} (h : fw d I w) (h0 : J 0 1 = I 0 1) (hr : ∀ a, 7 ≤ a → a ≤ 16 → J a w = I a w) : fw d J w := by
  unfold fw
  rw [h0, hr 7 (by omega) (by omega), hr 8 (by omega) (by omega), hr 11 (by omega) (by omega), hr 13 (by omega) (by omega), hr 15 (by omega) (by omega), hr 16 (by omega) (by omega)]
  exact h
theorem drpI_o (I : IT) {w j a : Nat} (h : a = 0 ∨ j ≠ w) : drpI I w a j = I a j := by
  unfold drpI
  split
  · rfl
  · rcases h with rfl | h
    · rw [u2_a _ _ _ _ (by omega), u2_a _ _ _ _ (by omega)]
    · simp [u2, h]
theorem stS_o (L : List Nat) (I : IT) {w j a : Nat} (h : a = 0 ∨ j ≠ w) : stS L I w a j = I a j := by
  unfold stS
  split
  · exact drpI_o I h
  · split
    · split
      · rfl
      · rcases h with rfl | h
        · rw [u2_a _ _ _ _ (by omega), u2_a _ _ _ _ (by omega)]
        · simp [u2, h]
    · rfl
theorem fw_prod {p q : Int32} (h1 : 1 ≤ p ∧ p ≤ 100) (h2 : q = 1 ∨ q = 2 ∨ q = 4 ∨ q = 8) : 1 ≤ p * q ∧ p * q ≤ 800 := by
  obtain ⟨a, b⟩ := h1
  rcases h2 with rfl | rfl | rfl | rfl
  · constructor <;> grind
  · constructor <;> grind
  · constructor <;> grind
  · constructor <;> grind
theorem fw_st (L : List Nat) {I : IT} {w : Nat} (h : fw 1 I w) (ht : tb I 100000) : fw 1 (stS L I w) w := by
  obtain ⟨⟨h7, h8⟩, h11, h13, h15⟩ := h
  obtain ⟨t1, t2⟩ := ht
  obtain ⟨p1, p2⟩ := fw_prod h7 h11
  have l : ∀ a, a < 14 ∨ 16 < a → stS L I w a = I a := fun a ha => stS_low L I w ha
  unfold fw
  rw [l 7 (by omega), l 8 (by omega), l 11 (by omega), l 13 (by omega), l 0 (by omega)]
  refine ⟨⟨h7, h8⟩, h11, h13, ?_⟩
  unfold stS
  split
  · unfold drpI
    split
    · exact h15
    · left; rw [u2_a _ _ _ _ (by omega), u2_s]
  · split
    · split
      · exact h15
      · right
        rw [u2_s, u2_a _ _ _ _ (show (16 : Nat) ≠ 15 by omega), u2_s]
        obtain ⟨c1, c2⟩ := h8
        generalize I 7 w * I 11 w = z at p1 p2
        refine ⟨⟨?_, ?_⟩, ?_, ?_⟩
        · grind
        · grind
        · decide
        · grind
    · exact h15
theorem fw_ne {I : IT} {w : Nat} (h : fw 1 I w) (ht : tb I 100000) : I 0 1 + I 7 w * I 11 w ≠ -1 := by
  obtain ⟨⟨h7, h8⟩, h11, h13, h15⟩ := h
  obtain ⟨t1, t2⟩ := ht
  obtain ⟨p1, p2⟩ := fw_prod h7 h11
  generalize I 7 w * I 11 w = z at p1 p2
  grind
def Fa (d : Int32) (I : IT) (L : List Nat) : Prop := ∀ w, w ∈ L → fw d I w
theorem Fa.st {I : IT} {L : List Nat} (h : Fa 1 I L) (ht : tb I 100000) (w : Nat) : Fa 1 (stS L I w) L := fun j hj => by
  by_cases e : j = w
  · subst e; exact fw_st L (h j hj) ht
  · exact (h j hj).of (stS_o L I (Or.inl rfl)) (fun a _ _ => stS_o L I (Or.inr e))
theorem stS_geo (L : List Nat) (I : IT) (w : Nat) : geo I (stS L I w) := fun a h1 h2 => stS_low L I w (by omega)
/-- only the tasks change -/
theorem cS.task {I E J E' : IT} {P : PT} {L : List Nat} {n : Nat} (h : cS I E P L n) (hg : ∀ a, 2 ≤ a → a ≤ 9 → a ≠ 7 → a ≠ 8 → J a = I a) (ha : eS E E') (hN : nrm J E' n) : cS J E' P L n := by
  have g : geo I J := fun a h1 h2 => hg a (by omega) (by omega) (by omega) (by omega)
  exact h.of g ha.a hN (by rw [ha.2, fr_eq (hg 9 (by omega) (by omega) (by omega) (by omega)) g]; exact h.2.2.2.2)
/-- the list by number -/
def bN (E : IT) (P : PT) (L : List Nat) (n : Nat) : Prop := hLi (P 0) (lvf L 0 n) n ∧ E 2 1 = nI (lvf L 0 n).length
theorem lvf_in {L : List Nat} {k m w : Nat} (h : w ∈ lvf L k m) : w ∈ L := (lvf_mem.mp h).2
theorem lvf_mem' {L : List Nat} {n w : Nat} (h : w ∈ L) (hn : w < n) : w ∈ lvf L 0 n := by
  unfold lvf
  exact List.mem_filter.mpr ⟨List.mem_range'_1.mpr ⟨Nat.zero_le _, by omega⟩, decide_eq_true h⟩
theorem lvf_nd (L : List Nat) (k m : Nat) : (lvf L k m).Nodup := by
  unfold lvf
  exact List.Pairwise.filter _ List.nodup_range'
theorem bN.e {E E' : IT} {P : PT} {L : List Nat} {n : Nat} (h : bN E P L n) (he : eS E E') : bN E' P L n := ⟨h.1, by rw [he.2]; exact h.2⟩
theorem K_begin {P : PT} {L : List Nat} {n : Nat} : ∀ (l : List Nat) (k f : Nat) (I E : IT), cS I E P L n → bN E P L n → Fa 1 I L → tb I 100000 → (lvf L 0 n).drop k = l → k ≤ (lvf L 0 n).length → l.length < f → ∃ E', fX3_beginFrames_2 f (hC I E P n) 0 (nI k) = some (hC (l.foldl (stS L) I) E' P n) ∧ cS (l.foldl (stS L) I) E' P L n ∧ Fa 1 (l.foldl (stS L) I) L ∧ eS E E' := by
  intro l
  induction l with
  | nil =>
    intro k f I E hS hB hF ht hl hk hf
    obtain ⟨f, rfl⟩ : ∃ g, f = g + 1 := ⟨f - 1, by omega⟩
    have h8 := hB.1.2.1
    refine ⟨E, ?_, hS, hF, eS.r E⟩
    rw [fX3_beginFrames_2, C_gr0, Option.bind_some, C_bob, Option.bind_some, b_count, Option.bind_some, hB.2, if_pos ((nI_L (by omega) (by omega)).mpr (drop_nil hl))]
    rfl
  | cons w l ih =>
    intro k f I E hS hB hF ht hl hk hf
    obtain ⟨f, rfl⟩ : ∃ g, f = g + 1 := ⟨f - 1, by omega⟩
    have h8 := hB.1.2.1
    obtain ⟨g1, g2, g3⟩ := drop_cons hl
    obtain ⟨g4, g5, g6⟩ := hB.1.g g1
    have gm : w ∈ L := lvf_in (List.mem_of_getElem? g1)
    have nx : ∀ J E1, J = stS L I w → nrm J E1 n → eS E E1 → ∃ E', fX3_beginFrames_68 (fX3_beginFrames_2 f) (hC J E1 P n) 0 (nI k) = some (hC (l.foldl (stS L) J) E' P n) ∧ cS (l.foldl (stS L) J) E' P L n ∧ Fa 1 (l.foldl (stS L) J) L ∧ eS E E' := fun J E1 hJ hN he => by
      subst hJ
      rw [fX3_beginFrames_68, nI_1]
      obtain ⟨E', r1, r2, r3, r4⟩ := ih (k + 1) f (stS L I w) E1 (hS.task (fun a h1 h2 h3 h4 => stS_low L I w (by omega)) he hN) (hB.e he) (hF.st ht w) (by unfold tb; rw [stS_low L I w (by omega)]; exact ht) g2 (by omega) (by simp at hf; omega)
      exact ⟨E', r1, r2, r3, he.t r4⟩
    rw [fX3_beginFrames_2, C_gr0, Option.bind_some, C_bob, Option.bind_some, b_count, Option.bind_some, hB.2, if_neg (fun q => by have := (nI_L (by omega) (by omega)).mp q; omega), Option.bind_some, C_bob, Option.bind_some, b_get _ _ _ _ g6, Option.bind_some, g4, List.foldl_cons]
    dsimp only [Option.map_some]
    have dr : I 9 w = 0 ∨ seen I L w = false → ∃ E', fX3_beginFrames_57 (fX3_beginFrames_2 f) (hC I E P n) 0 (nI k) (some (wa w)) = some (hC (l.foldl (stS L) (stS L I w)) E' P n) ∧ cS (l.foldl (stS L) (stS L I w)) E' P L n ∧ Fa 1 (l.foldl (stS L) (stS L I w)) L ∧ eS E E' := fun hc => by
      obtain ⟨E1, q1, q2, q3⟩ := T_drop (P := P) g5 hS.2.2.2.1
      have ej : drpI I w = stS L I w := by rw [stS, if_pos hc]
      rw [ej] at q1 q2
      rw [fX3_beginFrames_57, Option.bind_some, W_gr _ _ _ g5, Option.bind_some, C_gi7, Option.bind_some, T_ob _ _ _ g5, Option.bind_some, q1, Option.bind_some]
      exact nx _ E1 rfl q2 q3
    rw [W_gi7 _ _ _ g5, Option.bind_some, hS.2.2.1 w gm]
    cases hs : seen I L w with
    | false => rw [if_pos (show b2i false = 0 from rfl)]; exact dr (Or.inr hs)
    | true =>
      rw [if_neg (show ¬ b2i true = 0 by decide), W_gi8 _ _ _ g5, Option.bind_some]
      by_cases h9 : I 9 w = 0
      · rw [if_pos h9]; exact dr (Or.inl h9)
      · obtain ⟨E1, q1, q2, q3⟩ := T_due (P := P) g5 hS.2.2.2.1 (fw_ne (hF w gm) ht)
        have ej : (if I 15 w = -1 then (if I 0 1 < I 14 w then I else bgI I w (I 0 1 + I 7 w * I 11 w)) else I) = stS L I w := by
          unfold stS
          rw [if_neg (show ¬ (I 9 w = 0 ∨ seen I L w = false) from fun q => q.elim h9 (fun z => by rw [hs] at z; cases z))]
          rfl
        rw [ej] at q1 q2
        rw [if_neg h9, W_gr _ _ _ g5, Option.bind_some, C_gi7, Option.bind_some, T_ob _ _ _ g5, Option.bind_some, q1, Option.bind_some]
        exact nx _ E1 rfl q2 q3
theorem K_urgent {I E : IT} {P : PT} {L : List Nat} {n : Nat} (hS : cS I E P L n) (hB : bN E P L n) : ∀ (l : List Nat) (k f : Nat) (o : Option Nat), (∀ v, o = some v → v < n ∧ I 15 v ≠ -1) → (lvf L 0 n).drop k = l → k ≤ (lvf L 0 n).length → l.length < f → fX3_mostUrgent_4 f (hC I E P n) 0 (o.map wa) (nI k) = some ((l.foldl (efI I) o).map wa) := by
  intro l
  have h8 := hB.1.2.1
  have hN := hS.2.2.2.1
  induction l with
  | nil =>
    intro k f o ho hl hk hf
    obtain ⟨f, rfl⟩ : ∃ g, f = g + 1 := ⟨f - 1, by omega⟩
    rw [fX3_mostUrgent_4, C_gr0, Option.bind_some, C_bob, Option.bind_some, b_count, Option.bind_some, hB.2, if_pos ((nI_L (by omega) (by omega)).mpr (drop_nil hl))]
    rfl
  | cons w l ih =>
    intro k f o ho hl hk hf
    obtain ⟨f, rfl⟩ : ∃ g, f = g + 1 := ⟨f - 1, by omega⟩
    obtain ⟨g1, g2, g3⟩ := drop_cons hl
    obtain ⟨g4, g5, g6⟩ := hB.1.g g1
    have nx : ∀ p : Option Nat, (∀ v, p = some v → v < n ∧ I 15 v ≠ -1) → fX3_mostUrgent_61 (fX3_mostUrgent_4 f) (hC I E P n) 0 (p.map wa) (nI k) = some ((l.foldl (efI I) p).map wa) := fun p hp => by
      rw [fX3_mostUrgent_61, nI_1]
      exact ih (k + 1) f p hp g2 (by omega) (by simp at hf; omega)
    rw [fX3_mostUrgent_4, C_gr0, Option.bind_some, C_bob, Option.bind_some, b_count, Option.bind_some, hB.2, if_neg (fun q => by have := (nI_L (by omega) (by omega)).mp q; omega), Option.bind_some, C_bob, Option.bind_some, b_get _ _ _ _ g6, Option.bind_some, g4, List.foldl_cons]
    dsimp only [Option.map_some]
    rw [W_gr _ _ _ g5, Option.bind_some, T_gi6 _ _ _ g5, Option.bind_some]
    by_cases h1 : I 15 w = -1
    · rw [hN.n g5 h1, if_pos rfl, show efI I o w = o by unfold efI; rw [if_pos h1]]
      exact nx o ho
    · unfold efI
      rw [(hN.y g5 h1).1, if_neg e10, if_neg h1]
      have hw : ∀ v, some w = some v → v < n ∧ I 15 v ≠ -1 := fun v q => by cases q; exact ⟨g5, h1⟩
      cases o with
      | none =>
        dsimp only [Option.map_none]
        rw [fX3_mostUrgent_59]
        exact nx (some w) hw
      | some v =>
        obtain ⟨v1, v2⟩ := ho v rfl
        dsimp only [Option.map_some]
        rw [Option.bind_some, T_gi8 _ _ _ g5, Option.bind_some, W_gr _ _ _ v1, Option.bind_some, T_gi8 _ _ _ v1, Option.bind_some, (hN.y g5 h1).2, (hN.y v1 v2).2]
        by_cases h2 : I 15 v ≤ I 15 w
        · rw [if_pos h2, if_pos h2]; exact nx (some v) ho
        · rw [if_neg h2, if_neg h2, fX3_mostUrgent_59]; exact nx (some w) hw
/-! misses: in any order -/
theorem missI_o (I : IT) {w j a : Nat} (h : a = 0 ∨ j ≠ w) : missI I w a j = I a j := by
  unfold missI
  rcases h with rfl | h
  · rw [u2_a _ _ _ _ (by omega), u2_a _ _ _ _ (by omega), u2_a _ _ _ _ (by omega), u2_a _ _ _ _ (by omega)]
  · simp [u2, h]
theorem msF_o (I : IT) {w j a : Nat} (h : a = 0 ∨ j ≠ w) : msF I w a j = I a j := by
  unfold msF
  split
  · exact missI_o I h
  · rfl
theorem msF_c {I J : IT} {w : Nat} (h0 : J 0 1 = I 0 1) (h : ∀ a, 1 ≤ a → J a w = I a w) (a : Nat) (ha : 1 ≤ a) : msF J w a w = msF I w a w := by
  unfold msF
  rw [h 15 (by omega), h0]
  split
  · unfold missI
    rw [h 11 (by omega), h 12 (by omega), h 15 (by omega), h 7 (by omega)]
    simp only [u2, and_true]
    split <;> try rfl
    split <;> try rfl
    split <;> try rfl
    split <;> try rfl
    exact h a ha
  · exact h a ha
theorem msFs_p : ∀ (l : List Nat) (I : IT) (a j : Nat), l.Nodup → 1 ≤ a → l.foldl msF I a j = if j ∈ l then msF I j a j else I a j := by
  intro l
  induction l with
  | nil => intro I a j _ _; rw [if_neg (by simp)]; rfl
  | cons w l ih =>
    intro I a j hd ha
    obtain ⟨d1, d2⟩ := List.nodup_cons.mp hd
    rw [List.foldl_cons, ih _ _ _ d2 ha]
    by_cases h1 : j = w
    · subst h1
      rw [if_neg d1, if_pos List.mem_cons_self]
    · by_cases h2 : j ∈ l
      · rw [if_pos h2, if_pos (List.mem_cons_of_mem _ h2), msF_c (msF_o I (Or.inl rfl)) (fun b _ => msF_o I (Or.inr h1)) a ha]
      · rw [if_neg h2, if_neg (fun q => (List.mem_cons.mp q).elim h1 h2), msF_o I (Or.inr h1)]
theorem msFs_0 : ∀ (l : List Nat) (I : IT) (j : Nat), l.foldl msF I 0 j = I 0 j := by
  intro l
  induction l with
  | nil => intro I j; rfl
  | cons w l ih => intro I j; rw [List.foldl_cons, ih, msF_o I (Or.inl rfl)]
theorem msFs_perm {l m : List Nat} (hl : l.Nodup) (hm : m.Nodup) (h : ∀ x, x ∈ l ↔ x ∈ m) (I : IT) : l.foldl msF I = m.foldl msF I := by
  funext a j
  cases a with
  | zero => rw [msFs_0, msFs_0]
  | succ a =>
    rw [msFs_p _ _ _ _ hl (by omega), msFs_p _ _ _ _ hm (by omega)]
    by_cases hj : j ∈ l
    · rw [if_pos hj, if_pos ((h j).mp hj)]
    · rw [if_neg hj, if_neg (fun q => hj ((h j).mpr q))]
theorem fw_ms {I : IT} {w : Nat} (h : fw 0 I w) (ht : tb I 100000) : fw 1 (msF I w) w := by
  obtain ⟨⟨h7, h8⟩, h11, h13, h15⟩ := h
  obtain ⟨t1, t2⟩ := ht
  obtain ⟨p1, p2⟩ := fw_prod h7 h11
  unfold msF
  by_cases h1 : I 15 w = I 0 1
  · rw [if_pos h1]
    unfold fw
    have e0 : missI I w 0 1 = I 0 1 := missI_o I (Or.inl rfl)
    have e7 : missI I w 7 w = I 7 w := by simp [missI, u2]
    have e8 : missI I w 8 w = I 8 w := by simp [missI, u2]
    have e16 : missI I w 16 w = I 16 w := by simp [missI, u2]
    have e13 : missI I w 13 w = 0 := by simp [missI, u2]
    have e11 : missI I w 11 w = if 8 ≤ 2 * I 11 w then 8 else 2 * I 11 w := by simp [missI, u2]
    have e15 : missI I w 15 w = I 15 w + I 7 w * I 11 w := by simp [missI, u2]
    rw [e0, e7, e8, e16, e13, e11, e15]
    refine ⟨⟨h7, h8⟩, ?_, by decide, Or.inr ?_⟩
    · rcases h11 with q | q | q | q <;> rw [q] <;> decide
    · rcases h15 with q | ⟨⟨q1, q2⟩, q3, q4⟩
      · rw [h1] at q
        rw [q] at t1
        exact absurd t1 (by decide)
      · refine ⟨?_, q3, q4⟩
        rw [h1]
        generalize I 7 w * I 11 w = z at p1 p2
        constructor <;> grind
  · rw [if_neg h1]
    refine ⟨⟨h7, h8⟩, h11, h13, ?_⟩
    rcases h15 with q | ⟨⟨q1, q2⟩, q3, q4⟩
    · exact Or.inl q
    · refine Or.inr ⟨⟨?_, q2⟩, q3, q4⟩
      grind
theorem K_misses {P : PT} {L : List Nat} {n : Nat} : ∀ (l : List Nat) (k f : Nat) (I E : IT), cS I E P L n → bN E P L n → l.Nodup → Fa 0 I L → (∀ w, w ∈ L → w ∉ l → fw 1 I w) → tb I 100000 → (lvf L 0 n).drop k = l → k ≤ (lvf L 0 n).length → l.length < f → ∃ E', fX3_countMisses_2 f (hC I E P n) 0 (nI k) = some (hC (l.foldl msF I) E' P n) ∧ cS (l.foldl msF I) E' P L n ∧ Fa 1 (l.foldl msF I) L ∧ eS E E' := by
  intro l
  induction l with
  | nil =>
    intro k f I E hS hB hd hF hG ht hl hk hf
    obtain ⟨f, rfl⟩ : ∃ g, f = g + 1 := ⟨f - 1, by omega⟩
    have h8 := hB.1.2.1
    refine ⟨E, ?_, hS, fun w hw => hG w hw (by simp), eS.r E⟩
    rw [fX3_countMisses_2, C_gr0, Option.bind_some, C_bob, Option.bind_some, b_count, Option.bind_some, hB.2, if_pos ((nI_L (by omega) (by omega)).mpr (drop_nil hl))]
    rfl
  | cons w l ih =>
    intro k f I E hS hB hd hF hG ht hl hk hf
    obtain ⟨f, rfl⟩ : ∃ g, f = g + 1 := ⟨f - 1, by omega⟩
    have h8 := hB.1.2.1
    have hN := hS.2.2.2.1
    obtain ⟨d1, d2⟩ := List.nodup_cons.mp hd
    obtain ⟨g1, g2, g3⟩ := drop_cons hl
    obtain ⟨g4, g5, g6⟩ := hB.1.g g1
    have gm : w ∈ L := lvf_in (List.mem_of_getElem? g1)
    have nx : ∀ J E1, J = msF I w → nrm J E1 n → eS E E1 → ∃ E', fX3_countMisses_57 (fX3_countMisses_2 f) (hC J E1 P n) 0 (nI k) = some (hC (l.foldl msF J) E' P n) ∧ cS (l.foldl msF J) E' P L n ∧ Fa 1 (l.foldl msF J) L ∧ eS E E' := fun J E1 hJ hN he => by
      subst hJ
      have low : ∀ a, 2 ≤ a → a ≤ 9 → msF I w a = I a := fun a h1 h2 => by
        unfold msF
        split
        · exact missI_low I w (by omega)
        · rfl
      have oth : ∀ (d : Int32) (x : Nat), x ≠ w → fw d I x → fw d (msF I w) x := fun d x hx h => h.of (msF_o I (Or.inl rfl)) (fun a _ _ => msF_o I (Or.inr hx))
      have self : fw 1 (msF I w) w := fw_ms (hF w gm) ht
      have self0 : fw 0 (msF I w) w := by
        obtain ⟨s1, s2, s3, s4⟩ := self
        refine ⟨s1, s2, s3, ?_⟩
        rcases s4 with q | ⟨⟨q1, q2⟩, q3⟩
        · exact Or.inl q
        · refine Or.inr ⟨⟨?_, q2⟩, q3⟩
          have t0 : msF I w 0 1 = I 0 1 := msF_o I (Or.inl rfl)
          rw [t0] at q1 ⊢
          obtain ⟨t1, t2⟩ := ht
          generalize msF I w 15 w = y at q1 ⊢
          grind
      rw [fX3_countMisses_57, nI_1]
      obtain ⟨E', r1, r2, r3, r4⟩ := ih (k + 1) f (msF I w) E1 (hS.task (fun a h1 h2 h3 h4 => low a h1 h2) he hN) (hB.e he) d2
        (fun x hx => by
          by_cases e : x = w
          · rw [e]; exact self0
          · exact oth 0 x e (hF x hx))
        (fun x hx hxl => by
          by_cases e : x = w
          · rw [e]; exact self
          · exact oth 1 x e (hG x hx (fun q => (List.mem_cons.mp q).elim e hxl)))
        (by unfold tb; rw [msF_o I (Or.inl rfl)]; exact ht) g2 (by omega) (by simp at hf; omega)
      exact ⟨E', r1, r2, r3, he.t r4⟩
    rw [fX3_countMisses_2, C_gr0, Option.bind_some, C_bob, Option.bind_some, b_count, Option.bind_some, hB.2, if_neg (fun q => by have := (nI_L (by omega) (by omega)).mp q; omega), Option.bind_some, C_bob, Option.bind_some, b_get _ _ _ _ g6, Option.bind_some, g4, List.foldl_cons]
    dsimp only [Option.map_some]
    rw [W_gr _ _ _ g5, Option.bind_some, T_gi6 _ _ _ g5, Option.bind_some]
    by_cases h1 : I 15 w = -1
    · rw [hN.n g5 h1, if_pos rfl]
      have ej : I = msF I w := by
        rw [msF, if_neg]
        intro q
        obtain ⟨t1, t2⟩ := ht
        rw [← q, h1] at t1
        exact absurd t1 (by decide)
      rw [← ej]
      exact nx I E ej hN (eS.r E)
    · rw [(hN.y g5 h1).1, if_neg e10, Option.bind_some, T_gi8 _ _ _ g5, Option.bind_some, C_gi7, Option.bind_some, (hN.y g5 h1).2]
      by_cases h2 : I 15 w = I 0 1
      · obtain ⟨⟨h7, h8⟩, h11, h13, h15⟩ := hF w gm
        obtain ⟨p1, p2⟩ := fw_prod h7 h11
        obtain ⟨E1, q1, q2, q3⟩ := T_miss (P := P) g5 hN h1 (by
          obtain ⟨t1, t2⟩ := ht
          rw [h2]
          generalize I 7 w * I 11 w = z at p1 p2
          grind) (by rcases h11 with q | q | q | q <;> rw [q] <;> decide) h11
        have ej : missI I w = msF I w := by rw [msF, if_pos h2]
        rw [ej] at q1 q2
        rw [if_pos h2, Option.bind_some, T_ob _ _ _ g5, Option.bind_some, q1, Option.bind_some]
        exact nx _ E1 rfl q2 q3
      · have ej : I = msF I w := by rw [msF, if_neg h2]
        rw [if_neg h2, ← ej]
        exact nx I E ej hN (eS.r E)
