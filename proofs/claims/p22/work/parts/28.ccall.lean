/-! THE COMPONENT: calls about cells, show, advance, move, close, lay -/
theorem i_nI {x : Int32} {m : Nat} (h0 : 0 ≤ x) (h1 : x ≤ nI m) (hm : m < 1000) : ∃ a, a ≤ m ∧ x = nI a := by
  have q0 : (0 : Int32).toInt ≤ x.toInt := Int32.le_iff_toInt_le.mp h0
  have q1 : x.toInt ≤ (nI m).toInt := Int32.le_iff_toInt_le.mp h1
  rw [nI_toInt (n := m) (by omega)] at q1
  have z : (0 : Int32).toInt = 0 := by decide
  rw [z] at q0
  refine ⟨x.toInt.toNat, by omega, Int32.toInt_inj.mp ?_⟩
  rw [nI_toInt (by omega)]
  omega
theorem cell_nI {c r : Int32} (h : cell c r = true) : ∃ a b, a < 8 ∧ b < 6 ∧ c = nI a ∧ r = nI b := by
  unfold cell inB at h
  simp only [Bool.and_eq_true, decide_eq_true_eq] at h
  obtain ⟨⟨h1, h2⟩, h3, h4⟩ := h
  obtain ⟨a, ha, rfl⟩ := i_nI (m := 7) h1 (by rw [show nI 7 = (7 : Int32) by decide]; exact h2) (by omega)
  obtain ⟨b, hb, rfl⟩ := i_nI (m := 5) h3 (by rw [show nI 5 = (5 : Int32) by decide]; exact h4) (by omega)
  exact ⟨a, b, by omega, by omega, rfl, rfl⟩
theorem C_isCell (h : PH) (c r : Int32) : fX3_isCell h c r = some (b2i (cell c r)) := by
  unfold cell inB
  simp only [fX3_isCell, fX3_isCell_24, fX3_isCell_25]
  have q1 : c ≤ 7 ↔ ¬ 8 ≤ c := by constructor <;> grind
  have q2 : r ≤ 5 ↔ ¬ 6 ≤ r := by constructor <;> grind
  have q3 : 0 ≤ c ↔ ¬ c < 0 := by constructor <;> grind
  have q4 : 0 ≤ r ↔ ¬ r < 0 := by constructor <;> grind
  simp only [q1, q2, q3, q4]
  by_cases b1 : c < 0
  · simp [b1, b2i, p_z]
  · by_cases b2 : 8 ≤ c
    · simp [b1, b2, b2i, p_z]
    · by_cases b3 : r < 0
      · simp [b1, b2, b3, b2i, p_z]
      · by_cases b4 : 6 ≤ r <;> simp [b1, b2, b3, b4, b2i, p_z]
theorem T_topN {h : PH} {c r : Int32} (hc : cell c r = false) : fX3_findTopmost h 0 c r = some (.inl "java/lang/IndexOutOfBoundsException") := by
  rw [fX3_findTopmost, C_isCell, Option.bind_some, hc, if_pos (show b2i false = 0 from rfl)]
theorem idx_nI {a b : Nat} (ha : a < 8) (hb : b < 6) : nI b * 8 + nI a = nI (8 * b + a) := by
  have : ∀ b : Fin 6, ∀ a : Fin 8, nI b.val * 8 + nI a.val = nI (8 * b.val + a.val) := by decide
  exact this ⟨b, hb⟩ ⟨a, ha⟩
theorem T_topY {I E : IT} {P : PT} {L : List Nat} {n : Nat} (h : RC I E P L n) {c r : Int32} (hc : cell c r = true) : fX3_findTopmost (hC I E P n) 0 c r = some (.inr ((sh I c r L).map wa)) := by
  obtain ⟨a, b, ha, hb, rfl, rfl⟩ := cell_nI hc
  rw [fX3_findTopmost, C_isCell, Option.bind_some, hc, if_neg (show ¬ b2i true = 0 by decide), C_gr2, Option.bind_some, idx_nI ha hb, C_mldr _ _ _ _ (show 8 * b + a < 48 by omega), Option.bind_some, h.1.2.2.1 _ (by omega)]
  unfold shc
  rw [show (8 * b + a) % 8 = a by omega, show (8 * b + a) / 8 = b by omega]
theorem C_num {I E : IT} {P : PT} {n : Nat} {o : Option Nat} (ho : ∀ v, o = some v → v < n) : fX3_numberOf (hC I E P n) (o.map wa) = some (o2i o) := by
  cases o with
  | none => rfl
  | some v =>
    dsimp only [Option.map_some]
    rw [fX3_numberOf]
    rw [W_gi0 _ _ _ (ho v rfl), Option.bind_some, fX3_numberOf_12]
    rfl
def pcO (I : IT) (o : Option Nat) : Int32 := match o with
  | none => 0
  | some w => I 10 w
theorem C_pic {I E : IT} {P : PT} {n : Nat} {o : Option Nat} (ho : ∀ v, o = some v → v < n) : fX3_pictureOf (hC I E P n) (o.map wa) = some (pcO I o) := by
  cases o with
  | none => rfl
  | some v =>
    dsimp only [Option.map_some]
    rw [fX3_pictureOf]
    rw [W_gi9 _ _ _ (ho v rfl), Option.bind_some, fX3_pictureOf_12]
    rfl
theorem shn {I E : IT} {P : PT} {L : List Nat} {n : Nat} (h : RC I E P L n) {c r : Int32} : ∀ v, sh I c r L = some v → v < n := fun v hv => h.1.1.1.1.2.2 v (sh_mem L hv)
theorem R_atN {I E : IT} {P : PT} {n : Nat} {c r : Int32} (hc : cell c r = false) : fX3_at (hC I E P n) 0 c r = some (.inl "java/lang/IndexOutOfBoundsException") := by
  rw [fX3_at, C_ob, Option.bind_some, T_topN hc, Option.bind_some]
theorem R_atY {I E : IT} {P : PT} {L : List Nat} {n : Nat} (h : RC I E P L n) {c r : Int32} (hc : cell c r = true) : fX3_at (hC I E P n) 0 c r = some (.inr (o2i (sh I c r L))) := by
  rw [fX3_at, C_ob, Option.bind_some, T_topY h hc, Option.bind_some]
  dsimp only
  rw [C_num (shn h), Option.bind_some]
theorem M_inputN {I E : IT} {P : PT} {n : Nat} {c r : Int32} (hc : cell c r = false) : fX3_input (hC I E P n) 0 c r = some (.inl ("java/lang/IndexOutOfBoundsException", hC I E P n)) := by
  rw [fX3_input, C_ob, Option.bind_some, T_topN hc, Option.bind_some]
theorem inpI_o (I : IT) {w j a : Nat} (h : (a ≠ 15 ∧ a ≠ 16) ∨ j ≠ w) : inpI I w a j = I a j := by
  unfold inpI
  split
  · rfl
  · split
    · rcases h with ⟨h1, h2⟩ | h
      · rw [u2_a _ _ _ _ h1, u2_a _ _ _ _ h2]
      · simp [u2, h]
    · split
      · rfl
      · rcases h with ⟨h1, h2⟩ | h
        · rw [u2_a _ _ _ _ h1]
        · simp [u2, h]
theorem half1 {p : Int32} (h : 1 ≤ p ∧ p ≤ 100) : 1 ≤ (p + 1) / 2 ∧ (p + 1) / 2 ≤ 100 := by
  obtain ⟨a, b⟩ := h
  obtain ⟨k, hk, rfl⟩ := i_nI (x := p) (m := 100) (by grind) (by rw [show nI 100 = (100 : Int32) by decide]; exact b) (by omega)
  have : ∀ k : Fin 101, (1 : Int32) ≤ nI k.val → 1 ≤ (nI k.val + 1) / 2 ∧ (nI k.val + 1) / 2 ≤ 100 := by decide
  exact this ⟨k, by omega⟩ a
theorem inp_fw {I : IT} {w : Nat} (h : fw 1 I w) (ht : tb I 100000) : fw 1 (inpI I w) w := by
  obtain ⟨⟨h7, h8⟩, h11, h13, h15⟩ := h
  obtain ⟨t1, t2⟩ := ht
  obtain ⟨p1, p2⟩ := half1 h7
  obtain ⟨c1, c2⟩ := h8
  unfold fw
  rw [inpI_o I (a := 0) (Or.inl (by omega)), inpI_o I (a := 7) (Or.inl (by omega)), inpI_o I (a := 8) (Or.inl (by omega)), inpI_o I (a := 11) (Or.inl (by omega)), inpI_o I (a := 13) (Or.inl (by omega))]
  refine ⟨⟨h7, c1, c2⟩, h11, h13, ?_⟩
  unfold inpI
  split
  · exact h15
  · split
    · right
      rw [u2_s, u2_a _ _ _ _ (show (16 : Nat) ≠ 15 by omega), u2_s]
      generalize (I 7 w + 1) / 2 = z at p1 p2
      refine ⟨⟨?_, ?_⟩, by decide, ?_⟩ <;> grind
    · split
      · exact h15
      · rename_i q1 q2 q3
        obtain ⟨⟨r1, r2⟩, r3⟩ := h15.resolve_left q2
        right
        rw [u2_s, u2_a _ _ _ _ (show (16 : Nat) ≠ 15 by omega)]
        generalize (I 7 w + 1) / 2 = z at p1 p2
        refine ⟨⟨?_, ?_⟩, r3⟩ <;> grind
theorem RC.inp {I E E' : IT} {P : PT} {L : List Nat} {n w : Nat} (h : RC I E P L n) (hw : w ∈ L) (hN : nrm (inpI I w) E' n) (he : eS E E') : RC (inpI I w) E' P L n := by
  obtain ⟨⟨hS, hB, hT, hP⟩, ⟨hF, ht, hz, hs⟩, ⟨hR, h2, hn⟩⟩ := h
  have row : ∀ a, a ≠ 15 → a ≠ 16 → inpI I w a = I a := fun a h1 h2 => by funext j; exact inpI_o I (Or.inl ⟨h1, h2⟩)
  have hwn := hS.1.1.2.2 w hw
  have g : geo I (inpI I w) := fun a h1 h2 => row a (by omega) (by omega)
  refine ⟨⟨hS.task (fun a h1 h2 _ _ => row a (by omega) (by omega)) he hN, hB.e he, fun q hq => by rw [geo_shc g]; exact hT q hq, hP⟩, ⟨fun x hx => ?_, by unfold tb; rw [row 0 (by omega) (by omega)]; exact ht, hz.of (fun i hi a h1 h2 => inpI_o I (Or.inr (by omega))), hs.of (row _ (by omega) (by omega)) (row _ (by omega) (by omega))⟩, ⟨hR.of (by rw [row 0 (by omega) (by omega)]) (row _ (by omega) (by omega)), by rw [row 0 (by omega) (by omega)]; exact h2, hn⟩⟩
  by_cases e : x = w
  · rw [e]; exact inp_fw (hF w hw) ht
  · exact (hF x hx).of (by rw [row 0 (by omega) (by omega)]) (fun a _ _ => inpI_o I (Or.inr e))
theorem M_inputY {I E : IT} {P : PT} {L : List Nat} {n : Nat} (h : RC I E P L n) {c r : Int32} (hc : cell c r = true) : ∃ E', fX3_input (hC I E P n) 0 c r = some (.inr (o2i (sh I c r L), hC (match sh I c r L with | none => I | some w => inpI I w) E' P n)) ∧ RC (match sh I c r L with | none => I | some w => inpI I w) E' P L n := by
  have ho := shn h (c := c) (r := r)
  have hmem : ∀ v, sh I c r L = some v → v ∈ L := fun v hv => sh_mem L hv
  rw [fX3_input, C_ob, Option.bind_some, T_topY h hc, Option.bind_some]
  dsimp only
  generalize sh I c r L = o at ho hmem ⊢
  cases o with
  | none => exact ⟨E, rfl, h⟩
  | some w =>
    have hw := ho w rfl
    have fin : ∀ J E', fX3_input_29 (hC J E' P n) (some (wa w)) = some (.inr (o2i (some w), hC J E' P n)) := fun J E' => by
      have q := C_num (I := J) (E := E') (P := P) (n := n) (o := some w) (fun v hv => by cases hv; exact hw)
      rw [Option.map_some] at q
      rw [fX3_input_29, q, Option.bind_some]
    dsimp only [Option.map_some]
    rw [W_gi8 _ _ _ hw, Option.bind_some]
    by_cases h9 : I 9 w = 0
    · have e : inpI I w = I := by unfold inpI; rw [if_pos h9]
      rw [if_pos h9, e]
      exact ⟨E, fin I E, h⟩
    · obtain ⟨h7, -⟩ := (h.2.1.1 w (hmem w rfl)).1
      obtain ⟨p1, p2⟩ := half1 h7
      obtain ⟨t1, t2⟩ := h.2.1.2.1
      obtain ⟨E', q1, q2, q3⟩ := T_hurry (P := P) hw h.1.1.2.2.2.1 h9 (by generalize (I 7 w + 1) / 2 = z at p1 p2; grind)
      refine ⟨E', ?_, h.inp (hmem w rfl) q2 q3⟩
      rw [if_neg h9, W_gr _ _ _ hw, Option.bind_some, C_gi7, Option.bind_some, T_ob _ _ _ hw, Option.bind_some, q1, Option.bind_some]
      exact fin _ _
/-! damage -/
theorem shcn {I E : IT} {P : PT} {L : List Nat} {n : Nat} (h : RC I E P L n) {k : Nat} : ∀ v, shc I L k = some v → v < n := fun v hv => h.1.1.1.1.2.2 v (sh_mem L hv)
theorem o2i_n {I : IT} {L : List Nat} {k : Nat} (h : ∀ v, shc I L k = some v → v < 1000) : o2i (shc I L k) = -1 ↔ shc I L k = none := by
  cases hs : shc I L k with
  | none => simp [o2i]
  | some v => simp only [o2i]; exact ⟨fun q => absurd q (nI_nm1 (h v hs)), fun q => by cases q⟩
theorem D_damage_4 {I E : IT} {P : PT} {L : List Nat} {n : Nat} (h : RC I E P L n) : ∀ (m k f : Nat) (a : Int32), k + m = 48 → m < f → fX3_countDamage_4 f (hC I E P n) 0 a (nI k) = some ((List.range' k m).foldl (dmf I L) a) := by
  intro m
  induction m with
  | zero =>
    intro k f a hk hf
    obtain ⟨f, rfl⟩ : ∃ g, f = g + 1 := ⟨f - 1, by omega⟩
    rw [fX3_countDamage_4, if_pos (by rw [← nI_48]; exact (nI_L (by omega) (by omega)).mpr (by omega))]
    rfl
  | succ m ih =>
    intro k f a hk hf
    obtain ⟨f, rfl⟩ : ∃ g, f = g + 1 := ⟨f - 1, by omega⟩
    have hn := h.2.2.2.2
    have nx : ∀ b : Int32, fX3_countDamage_46 (fX3_countDamage_4 f) (hC I E P n) 0 b (nI k) = some ((List.range' (k + 1) m).foldl (dmf I L) b) := fun b => by
      rw [fX3_countDamage_46, nI_1]
      exact ih (k + 1) f b (by omega) (by omega)
    rw [fX3_countDamage_4, if_neg (fun q => by rw [← nI_48] at q; have := (nI_L (by omega) (by omega)).mp q; omega), C_gr2, Option.bind_some, C_mldr _ _ _ _ (show k < 48 by omega), Option.bind_some, h.1.2.2.1 k (by omega), C_num (shcn h), Option.bind_some, C_gr3, Option.bind_some, C_ld6 _ _ _ _ (show k < 48 by omega), Option.bind_some, C_pic (shcn h), Option.bind_some, C_gr4, Option.bind_some, C_ld7 _ _ _ _ (show k < 48 by omega), Option.bind_some, List.range'_succ, List.foldl_cons]
    have e0 : dmf I L a k = if o2i (shc I L k) = I 17 k then (if pcO I (shc I L k) = I 18 k then a else a + 1) else a + 1 := by
      unfold dmf sam pcS
      by_cases h1 : o2i (shc I L k) = I 17 k
      · rw [if_pos h1, decide_eq_true h1, Bool.true_and]
        have hz := h.2.1.2.2.2 k (by omega)
        cases hs : shc I L k with
        | none =>
          rw [hs] at h1
          rw [if_pos (show pcO I none = I 18 k from (hz h1.symm).symm)]
          simp
        | some v =>
          show a + (if (decide (some v = none) || decide (I 10 v = I 18 k)) = true then 0 else 1) = if I 10 v = I 18 k then a else a + 1
          by_cases h2 : I 10 v = I 18 k
          · rw [if_pos h2, if_pos (by simp [h2])]; grind
          · rw [if_neg h2, if_neg (by simp [h2])]
      · rw [if_neg h1, decide_eq_false h1, Bool.false_and, if_neg (by decide)]
    rw [e0]
    by_cases h1 : o2i (shc I L k) = I 17 k
    · rw [if_pos h1, if_pos h1]
      by_cases h2 : pcO I (shc I L k) = I 18 k
      · rw [if_pos h2, if_pos h2]; exact nx a
      · rw [if_neg h2, if_neg h2, fX3_countDamage_43]; exact nx _
    · rw [if_neg h1, if_neg h1, fX3_countDamage_43]; exact nx _
theorem D_count {I E : IT} {P : PT} {L : List Nat} {n : Nat} (h : RC I E P L n) : fX3_countDamage (hC I E P n) 0 = some (dmg I L) := by
  have q := D_damage_4 h 48 0 64 0 rfl (by omega)
  rw [nI_0] at q
  exact q
theorem R_damage {I E : IT} {P : PT} {L : List Nat} {n : Nat} (h : RC I E P L n) : fX3_damage (hC I E P n) 0 = some (dmg I L) := by
  rw [fX3_damage, C_ob, Option.bind_some, D_count h, Option.bind_some]
theorem RC.sh {I E : IT} {P : PT} {L : List Nat} {n : Nat} (h : RC I E P L n) {k : Nat} (hk : k < 48) : RC (shS L I k) E P L n := by
  have hc := shcn h (k := k)
  obtain ⟨⟨hS, hB, hT, hP⟩, ⟨hF, ht, hz, hs⟩, ⟨hR, h2, hn⟩⟩ := h
  have row : ∀ a, a < 17 → shS L I k a = I a := fun a ha => shS_low L I k ha
  have g : geo I (shS L I k) := fun a _ h2 => row a (by omega)
  refine ⟨⟨hS.task (fun a h1 h2 _ _ => row a (by omega)) (eS.r E) (hS.2.2.2.1.of (row 15 (by omega)) rfl rfl), hB, fun q hq => by rw [geo_shc g]; exact hT q hq, hP⟩, ⟨fun x hx => (hF x hx).of (by rw [row 0 (by omega)]) (fun a _ h2 => by rw [row a (by omega)]), by unfold tb; rw [row 0 (by omega)]; exact ht, hz.of (fun i _ a h1 h2 => by rw [row a (by omega)]), fun q hq h1 => ?_⟩, ⟨hR.of (by rw [row 0 (by omega)]) (row 1 (by omega)), by rw [row 0 (by omega)]; exact h2, hn⟩⟩
  unfold shS at h1 ⊢
  rw [u2_a _ _ _ _ (by omega)] at h1
  by_cases e : q = k
  · subst e
    rw [u2_s] at h1 ⊢
    have := (o2i_n (fun v hv => by have := hc v hv; omega)).mp h1
    unfold pcS
    rw [this]
  · rw [u2_k _ _ _ e] at h1 ⊢
    rw [u2_a _ _ _ _ (by omega)]
    exact hs q hq h1
theorem shS_shc (L : List Nat) (I : IT) (k q : Nat) : shc (shS L I k) L q = shc I L q := geo_shc (fun a _ h2 => shS_low L I k (by omega)) L q
theorem D_rem {P : PT} {L : List Nat} {n : Nat} : ∀ (m k f : Nat) (I E : IT), RC I E P L n → k + m = 48 → m < f → fX3_rememberScreen_2 f (hC I E P n) 0 (nI k) = some (hC ((List.range' k m).foldl (shS L) I) E P n) ∧ RC ((List.range' k m).foldl (shS L) I) E P L n := by
  intro m
  induction m with
  | zero =>
    intro k f I E h hk hf
    obtain ⟨f, rfl⟩ : ∃ g, f = g + 1 := ⟨f - 1, by omega⟩
    refine ⟨?_, h⟩
    rw [fX3_rememberScreen_2, if_pos (by rw [← nI_48]; exact (nI_L (by omega) (by omega)).mpr (by omega))]
    rfl
  | succ m ih =>
    intro k f I E h hk hf
    obtain ⟨f, rfl⟩ : ∃ g, f = g + 1 := ⟨f - 1, by omega⟩
    obtain ⟨q1, q2⟩ := ih (k + 1) f (shS L I k) E (h.sh (by omega)) (by omega) (by omega)
    rw [List.range'_succ, List.foldl_cons]
    refine ⟨?_, q2⟩
    have ep : pcO (u2 I 17 k (o2i (shc I L k))) (shc I L k) = pcS I L k := by
      unfold pcO pcS
      cases shc I L k with
      | none => rfl
      | some v => dsimp only; rw [u2_a _ _ _ _ (by omega)]
    rw [fX3_rememberScreen_2, if_neg (fun q => by rw [← nI_48] at q; have := (nI_L (by omega) (by omega)).mp q; omega), C_gr2, Option.bind_some, C_mldr _ _ _ _ (show k < 48 by omega), Option.bind_some, h.1.2.2.1 k (by omega), C_gr3, Option.bind_some, C_num (shcn h), Option.bind_some, C_st6 _ _ _ _ _ (show k < 48 by omega), Option.bind_some, C_gr4, Option.bind_some, C_pic (shcn h), Option.bind_some, ep, C_st7 _ _ _ _ _ (show k < 48 by omega), Option.bind_some, nI_1]
    exact q1
theorem M_show {I E : IT} {P : PT} {L : List Nat} {n : Nat} (h : RC I E P L n) : fX3_show (hC I E P n) 0 = some (dmg I L, hC ((List.range' 0 48).foldl (shS L) I) E P n) ∧ RC ((List.range' 0 48).foldl (shS L) I) E P L n := by
  obtain ⟨q1, q2⟩ := D_rem 48 0 64 I E h rfl (by omega)
  rw [nI_0] at q1
  refine ⟨?_, q2⟩
  rw [fX3_show, C_ob, Option.bind_some, D_count h, Option.bind_some, Option.bind_some, fX3_rememberScreen, q1, Option.bind_some]
