/-! THE COMPONENT: advance -/
theorem efI_y {I : IT} : ∀ (l : List Nat) (b : Option Nat), (∀ v, b = some v → I 15 v ≠ -1) → ∀ v, l.foldl (efI I) b = some v → I 15 v ≠ -1 := by
  intro l
  induction l with
  | nil => intro b hb v h; exact hb v h
  | cons x l ih =>
    intro b hb
    rw [List.foldl_cons]
    refine ih _ fun v h => ?_
    unfold efI at h
    split at h
    · exact hb v h
    · rename_i h1
      split at h
      · cases h; exact h1
      · rename_i u
        split at h
        · cases h; exact hb _ rfl
        · cases h; exact h1
theorem finI_o (I : IT) {w j a : Nat} (h : a = 0 ∨ j ≠ w) : finI I w a j = I a j := by
  unfold finI
  generalize (if I 15 w < I 0 1 then 0 else I 13 w + 1) = c
  by_cases hc : c = 3
  · rw [if_pos hc]
    rcases h with rfl | h
    · simp [u2]
    · simp [u2, h]
  · rw [if_neg hc]
    rcases h with rfl | h
    · simp [u2]
    · simp [u2, h]
theorem drwI_t (I : IT) (b : Option Nat) : drwI I b 0 1 = I 0 1 + 1 := by
  unfold drwI
  split
  · rw [u2_s]
  · split
    · rw [finI_o _ (Or.inl rfl), u2_s]
    · rw [u2_s]
theorem fw_t {I J : IT} {x : Nat} (h : fw 1 I x) (ht : tb I 99999) (h0 : J 0 1 = I 0 1 + 1) (hr : ∀ a, 7 ≤ a → a ≤ 16 → J a x = I a x) : fw 0 J x := by
  obtain ⟨⟨h7, h8⟩, h11, h13, h15⟩ := h
  obtain ⟨t1, t2⟩ := ht
  unfold fw
  rw [h0, hr 7 (by omega) (by omega), hr 8 (by omega) (by omega), hr 11 (by omega) (by omega), hr 13 (by omega) (by omega), hr 15 (by omega) (by omega), hr 16 (by omega) (by omega)]
  refine ⟨⟨h7, h8⟩, h11, h13, ?_⟩
  rcases h15 with q | ⟨⟨q1, q2⟩, q3⟩
  · exact Or.inl q
  · refine Or.inr ⟨⟨?_, ?_⟩, q3⟩
    · grind
    · grind
theorem Fa_n {I : IT} {L : List Nat} (h : Fa 1 I L) (ht : tb I 99999) : Fa 0 (drwI I none) L := fun x hx => fw_t (h x hx) ht (drwI_t I none) (fun a h1 h2 => by unfold drwI; dsimp only; rw [u2_a _ _ _ _ (by omega)])
theorem fw_dr {I : IT} {w : Nat} (h : fw 1 I w) (ht : tb I 99999) (hy : I 15 w ≠ -1) : fw 0 (drwI I (some w)) w := by
  obtain ⟨⟨h7, h8⟩, h11, h13, h15⟩ := h
  obtain ⟨t1, t2⟩ := ht
  obtain ⟨⟨q1, q2⟩, q3, q4⟩ := h15.resolve_left hy
  unfold fw
  rw [drwI_t]
  unfold drwI
  dsimp only
  by_cases h1 : I 16 w + 1 = I 8 w
  · rw [if_pos h1]
    have hlt : ¬ I 15 w < I 0 1 + 1 := fun z => by grind
    unfold finI
    simp only [u2_s, u2_a _ _ _ _ (show (15 : Nat) ≠ 0 by omega), u2_a _ _ _ _ (show (15 : Nat) ≠ 16 by omega), u2_a _ _ _ _ (show (13 : Nat) ≠ 0 by omega), u2_a _ _ _ _ (show (13 : Nat) ≠ 16 by omega), if_neg hlt]
    by_cases h2 : I 13 w + 1 = 3
    · rw [if_pos h2]
      simp only [u2, and_true, Nat.reduceEqDiff, false_and, if_false, if_true]
      refine ⟨⟨h7, h8⟩, ?_, by decide, Or.inl trivial⟩
      rcases h11 with q | q | q | q <;> rw [q] <;> decide
    · rw [if_neg h2]
      simp only [u2, and_true, Nat.reduceEqDiff, false_and, if_false, if_true]
      obtain ⟨c1, c2⟩ := h13
      refine ⟨⟨h7, h8⟩, h11, ⟨?_, ?_⟩, Or.inl trivial⟩
      · grind
      · grind
  · rw [if_neg h1]
    simp only [u2, and_true, Nat.reduceEqDiff, false_and, if_false, if_true]
    refine ⟨⟨h7, h8⟩, h11, h13, Or.inr ⟨⟨?_, ?_⟩, ?_, ?_⟩⟩
    · grind
    · grind
    · obtain ⟨c1, c2⟩ := h8; grind
    · obtain ⟨c1, c2⟩ := h8; grind
theorem Fa_y {I : IT} {L : List Nat} {w : Nat} (h : Fa 1 I L) (ht : tb I 99999) (hw : w ∈ L) (hy : I 15 w ≠ -1) : Fa 0 (drwI I (some w)) L := fun x hx => by
  by_cases e : x = w
  · rw [e]; exact fw_dr (h w hw) ht hy
  · refine fw_t (h x hx) ht (drwI_t I _) (fun a h1 h2 => ?_)
    unfold drwI
    dsimp only
    split
    · rw [finI_o _ (Or.inr e), u2_a _ _ _ _ (by omega)]; simp [u2, e]
    · rw [u2_a _ _ _ _ (by omega)]; simp [u2, e]
theorem K_draw {I E : IT} {P : PT} {L : List Nat} {n w : Nat} (hwn : w < n) (hN : nrm I E n) (h : fw 1 I w) (ht : tb I 99999) (hy : I 15 w ≠ -1) : ∃ E', fX3_passTick_26 (hC (u2 I 16 w (I 16 w + 1)) E P n) 0 (some (wa w)) = fX3_passTick_74 (hC (drwI I (some w)) E' P n) 0 ∧ nrm (drwI I (some w)) E' n ∧ eS E E' := by
  obtain ⟨⟨h7, h8⟩, h11, h13, h15⟩ := h
  obtain ⟨t1, t2⟩ := ht
  obtain ⟨⟨q1, q2⟩, q3, q4⟩ := h15.resolve_left hy
  have e16 : (u2 (u2 I 16 w (I 16 w + 1)) 0 1 (I 0 1 + 1)) 16 w = I 16 w + 1 := by rw [u2_a _ _ _ _ (by omega), u2_s]
  have e8 : (u2 (u2 I 16 w (I 16 w + 1)) 0 1 (I 0 1 + 1)) 8 w = I 8 w := by rw [u2_a _ _ _ _ (by omega), u2_a _ _ _ _ (by omega)]
  have e01 : (u2 I 16 w (I 16 w + 1)) 0 1 = I 0 1 := u2_a _ _ _ _ (by omega)
  have hN2 : nrm (u2 (u2 I 16 w (I 16 w + 1)) 0 1 (I 0 1 + 1)) E n := hN.of (by rw [u2_r _ _ _ (by omega), u2_r _ _ _ (by omega)]) rfl rfl
  rw [fX3_passTick_26, C_gi7, Option.bind_some, C_si7, Option.bind_some, e01]
  dsimp only
  rw [W_gr _ _ _ hwn, Option.bind_some, T_gi7 _ _ _ hwn, Option.bind_some, Option.bind_some, T_gi1 _ _ _ hwn, Option.bind_some, e16, e8]
  unfold drwI
  dsimp only
  by_cases h1 : I 16 w + 1 = I 8 w
  · have hlt : ¬ I 16 w + 1 < I 8 w := fun z => by grind
    obtain ⟨E', r1, r2, r3⟩ := T_finish (P := P) hwn hN2 (by rw [u2_a _ _ _ _ (by omega), u2_a _ _ _ _ (by omega)]; exact hy) (by rw [u2_s, u2_a _ _ _ _ (by omega), u2_a _ _ _ _ (by omega)]; intro z; grind) (by rw [u2_a _ _ _ _ (by omega), u2_a _ _ _ _ (by omega)]; exact h13)
    refine ⟨E', ?_, ?_, r3⟩
    · rw [if_neg hlt, if_pos h1, W_gi9 _ _ _ hwn, Option.bind_some, W_s9 _ _ _ hwn, Option.bind_some, W_gr _ _ _ hwn, Option.bind_some, T_ob _ _ _ hwn, Option.bind_some, r1, Option.bind_some]
    · rw [if_pos h1]; exact r2
  · have hlt : I 16 w + 1 < I 8 w := by obtain ⟨c1, c2⟩ := h8; grind
    refine ⟨E, ?_, ?_, eS.r E⟩
    · rw [if_pos hlt, if_neg h1]
    · rw [if_neg h1]; exact hN2
theorem K_tail {I E : IT} {P : PT} {L : List Nat} {n : Nat} (hS : cS I E P L n) (hB : bN E P L n) (hF : Fa 0 I L) (ht : tb I 100000) : ∃ E', fX3_passTick_74 (hC I E P n) 0 = some (hC (L.foldl msF I) E' P n) ∧ cS (L.foldl msF I) E' P L n ∧ Fa 1 (L.foldl msF I) L ∧ eS E E' := by
  obtain ⟨E', q1, q2, q3, q4⟩ := K_misses (lvf L 0 n) 0 64 I E hS hB (lvf_nd L 0 n) hF (fun w hw hn => absurd (lvf_mem' hw (hS.1.1.2.2 w hw)) hn) ht rfl (Nat.zero_le _) (by have := hB.1.2.1; omega)
  have ep : (lvf L 0 n).foldl msF I = L.foldl msF I := msFs_perm (lvf_nd L 0 n) hS.2.1 (fun x => ⟨lvf_in, fun h => lvf_mem' h (hS.1.1.2.2 x h)⟩) I
  rw [ep] at q1 q2 q3
  rw [nI_0] at q1
  exact ⟨E', by rw [fX3_passTick_74, C_ob, Option.bind_some, fX3_countMisses, q1, Option.bind_some], q2, q3, q4⟩
theorem K_pass {I E : IT} {P : PT} {L : List Nat} {n : Nat} (hS : cS I E P L n) (hB : bN E P L n) (hF : Fa 1 I L) (ht : tb I 99999) : ∃ E', fX3_passTick (hC I E P n) 0 = some (hC (passI L n I) E' P n) ∧ cS (passI L n I) E' P L n ∧ Fa 1 (passI L n I) L ∧ eS E E' := by
  have ht2 : tb I 100000 := ⟨ht.1, Int32.le_trans ht.2 (by decide)⟩
  obtain ⟨E1, q1, q2, q3, q4⟩ := K_begin (lvf L 0 n) 0 64 I E hS hB hF ht2 rfl (Nat.zero_le _) (by have := hB.1.2.1; omega)
  have ht1 : tb ((lvf L 0 n).foldl (stS L) I) 99999 := by unfold tb; rw [stSs_low _ _ _ (by omega)]; exact ht
  have hB1 := hB.e q4
  have hu := K_urgent q2 hB1 (lvf L 0 n) 0 64 none (fun v h => by cases h) rfl (Nat.zero_le _) (by have := hB.1.2.1; omega)
  have hm : ∀ v, (lvf L 0 n).foldl (efI ((lvf L 0 n).foldl (stS L) I)) none = some v → v ∈ L ∧ (lvf L 0 n).foldl (stS L) I 15 v ≠ -1 := fun v hv => ⟨by
      rcases efI_mem _ _ _ hv with h | h
      · cases h
      · exact lvf_in h, efI_y _ _ (fun v h => by cases h) v hv⟩
  rw [nI_0] at q1 hu
  rw [Option.map_none] at hu
  unfold passI
  rw [fX3_passTick, C_ob, Option.bind_some, fX3_beginFrames, q1, Option.bind_some, C_ob, Option.bind_some, fX3_mostUrgent, hu, Option.bind_some]
  generalize (lvf L 0 n).foldl (stS L) I = J at q2 q3 ht1 hm ⊢
  generalize (lvf L 0 n).foldl (efI J) none = b at hm ⊢
  have t1 : tb (drwI J b) 100000 := by
    unfold tb
    rw [drwI_t]
    obtain ⟨a1, a2⟩ := ht1
    constructor <;> grind
  have low : ∀ a, 2 ≤ a → a ≤ 9 → a ≠ 7 → a ≠ 8 → drwI J b a = J a := fun a h1 h2 _ _ => drwI_low J b (by omega)
  cases b with
  | none =>
    dsimp only [Option.map_none]
    obtain ⟨E', r1, r2, r3, r4⟩ := K_tail (q2.task low (eS.r E1) (q2.2.2.2.1.of (by unfold drwI; dsimp only; rw [u2_r _ _ _ (by omega)]) rfl rfl)) hB1 (Fa_n q3 ht1) t1
    refine ⟨E', ?_, r2, r3, q4.t r4⟩
    rw [fX3_passTick_26, C_gi7, Option.bind_some, C_si7, Option.bind_some]
    exact r1
  | some w =>
    obtain ⟨m1, m2⟩ := hm w rfl
    have hwn := q2.1.1.2.2 w m1
    dsimp only [Option.map_some]
    obtain ⟨E2, s1, s2, s3⟩ := K_draw (P := P) (L := L) hwn q2.2.2.2.1 (q3 w m1) ht1 m2
    obtain ⟨E', r1, r2, r3, r4⟩ := K_tail (q2.task low s3 s2) (hB1.e s3) (Fa_y q3 ht1 m1 m2) t1
    refine ⟨E', ?_, r2, r3, (q4.t s3).t r4⟩
    rw [W_gr _ _ _ hwn, Option.bind_some, T_gi7 _ _ _ hwn, Option.bind_some, T_s7 _ _ _ hwn, Option.bind_some, s1]
    exact r1
theorem passI_t (L : List Nat) (n : Nat) (I : IT) : passI L n I 0 1 = I 0 1 + 1 := by
  unfold passI
  rw [msFs_0, drwI_t, stSs_low _ _ _ (by omega)]
theorem K_adv {P : PT} {L : List Nat} {n M : Nat} (hM : M ≤ 200) : ∀ (j k f : Nat) (I E : IT), cS I E P L n → bN E P L n → Fa 1 I L → tb I 100000 → I 0 1 + nI j ≤ 100000 → k + j = M → j < f → ∃ E', fX3_advance_45 f (hC I E P n) 0 (nI M) (nI k) = some (.inr (itI L n j I 0 1, hC (itI L n j I) E' P n)) ∧ cS (itI L n j I) E' P L n ∧ Fa 1 (itI L n j I) L ∧ tb (itI L n j I) 100000 ∧ eS E E' := by
  intro j
  induction j with
  | zero =>
    intro k f I E hS hB hF ht hj hk hf
    obtain ⟨f, rfl⟩ : ∃ g, f = g + 1 := ⟨f - 1, by omega⟩
    refine ⟨E, ?_, hS, hF, ht, eS.r E⟩
    rw [fX3_advance_45, if_pos ((nI_L (by omega) (by omega)).mpr (by omega)), C_gi7, Option.bind_some]
    rfl
  | succ j ih =>
    intro k f I E hS hB hF ht hj hk hf
    obtain ⟨f, rfl⟩ : ∃ g, f = g + 1 := ⟨f - 1, by omega⟩
    have e1 : nI (j + 1) = nI j + 1 := (nI_1 j).symm
    have b1 : (0 : Int32) ≤ nI j := by rw [← nI_0]; exact (nI_L (by omega) (by omega)).mpr (by omega)
    have b2 : nI j ≤ (200 : Int32) := by
      have : nI 200 = (200 : Int32) := by decide
      rw [← this]
      exact (nI_L (by omega) (by omega)).mpr (by omega)
    rw [e1] at hj
    obtain ⟨t1, t2⟩ := ht
    have ht1 : tb I 99999 := ⟨t1, by generalize nI j = z at hj b1 b2; grind⟩
    obtain ⟨E1, q1, q2, q3, q4⟩ := K_pass hS hB hF ht1
    obtain ⟨E', r1, r2, r3, r4, r5⟩ := ih (k + 1) f (passI L n I) E1 q2 (hB.e q4) q3 (by
      unfold tb
      rw [passI_t]
      obtain ⟨_, t3⟩ := ht1
      constructor <;> grind) (by rw [passI_t]; generalize nI j = z at hj ⊢; grind) (by omega) (by omega)
    refine ⟨E', ?_, r2, r3, r4, q4.t r5⟩
    rw [fX3_advance_45, if_neg (fun q => by have := (nI_L (by omega) (by omega)).mp q; omega), C_ob, Option.bind_some, q1, Option.bind_some, nI_1]
    exact r1
