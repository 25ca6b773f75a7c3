theorem op_eq (x1 x2 x3 x4 x6 x7 : Int32) : okA x1 x2 x3 x4 x6 x7 = (cell x1 x2 && (!decide (x3 < 1) && (!decide (x4 < 1) && ((!decide (8 - x1 < x3) && !decide (6 - x2 < x4)) && (!decide (x6 < 1) && (!decide (100 < x6) && (!decide (x7 < 1) && decide (x7 ≤ 20)))))))) := by
  rw [Bool.eq_iff_iff]
  simp only [okA, cell, inB, Bool.and_eq_true, decide_eq_true_eq, Bool.not_eq_true', decide_eq_false_iff_not, Int32.not_lt]
  constructor
  · rintro ⟨⟨⟨⟨⟨a, b⟩, c, d⟩, e, f⟩, g, h⟩, i, j⟩
    exact ⟨⟨a, b⟩, c, e, ⟨d, f⟩, g, h, i, j⟩
  · rintro ⟨⟨a, b⟩, c, e, ⟨d, f⟩, g, h, i, j⟩
    exact ⟨⟨⟨⟨⟨a, b⟩, c, d⟩, e, f⟩, g, h⟩, i, j⟩
theorem M_openA {I E : IT} {P : PT} {n q1 q2 : Nat} {x1 x2 x3 x4 x5 x6 x7 : Int32} (h : okA x1 x2 x3 x4 x6 x7 = false) : fX3_open (hC I E P n) 0 x1 x2 x3 x4 x5 x6 x7 q1 q2 = some (.inl ("java/lang/IllegalArgumentException", hC I E P n)) := by
  rw [op_eq] at h
  rw [fX3_open, C_isCell, Option.bind_some]
  cases c1 : cell x1 x2 with
  | false => rw [if_pos (show b2i false = 0 from rfl), fX3_open_30]
  | true =>
    rw [if_neg (show ¬ b2i true = 0 by decide)]
    by_cases c2 : x3 < 1
    · rw [if_pos c2, fX3_open_30]
    · rw [if_neg c2]
      by_cases c3 : x4 < 1
      · rw [if_pos c3, fX3_open_30]
      · rw [if_neg c3, C_fits, Option.bind_some]
        cases c4 : (!decide (8 - x1 < x3) && !decide (6 - x2 < x4)) with
        | false => rw [if_pos (show b2i false = 0 from rfl), fX3_open_30]
        | true =>
          rw [if_neg (show ¬ b2i true = 0 by decide)]
          by_cases c5 : x6 < 1
          · rw [if_pos c5, fX3_open_66]
          · rw [if_neg c5]
            by_cases c6 : 100 < x6
            · rw [if_pos c6, fX3_open_66]
            · rw [if_neg c6]
              by_cases c7 : x7 < 1
              · rw [if_pos c7, fX3_open_66]
              · rw [if_neg c7]
                by_cases c8 : x7 ≤ 20
                · rw [c1, c4] at h
                  simp [c2, c3, c5, c6, c7, c8] at h
                · rw [if_neg c8, fX3_open_66]
/-- the arguments are in range -/
theorem M_open1 {I E : IT} {P : PT} {n q1 q2 : Nat} {x1 x2 x3 x4 x5 x6 x7 : Int32} (h : okA x1 x2 x3 x4 x6 x7 = true) : (cell x1 x2 = true ∧ (1 ≤ x3 ∧ x3 ≤ 8) ∧ (1 ≤ x4 ∧ x4 ≤ 6) ∧ (1 ≤ x6 ∧ x6 ≤ 100) ∧ (1 ≤ x7 ∧ x7 ≤ 20)) ∧ ∀ R, (p_gr (hC I E P n) 0 3 1).bind (fun a_13 => (p_ob (hC I E P n) a_13 2).bind fun _ => (fX2_count (hC I E P n) a_13).bind fun v17 => if 8 ≤ v17 then (fX3_open_97 (hC I E P n)) else ((p_gi (hC I E P n) 0 3 5).bind fun v20 => if v20 < 40 then ((p_ob (hC I E P n) 0 3).bind fun _ => (p_nw (hC I E P n) q1 1 [.int 0, .int 0, .int 0, .int 0, .int 0, .int 0, .null, .int 0, .int 0, .int 0]).bind fun h_23 => (p_gi h_23 0 3 5).bind fun v27 => (p_ob h_23 0 3).bind fun _ => (p_ob h_23 q1 1).bind fun _ => (p_nw h_23 q2 0 [.int 0, .int 0, .int 0, .int 0, .int 0, .int 0, .int 0, .int 0, .int 0]).bind fun h_29 => (p_gi h_29 0 3 7).bind fun v35 => (p_ob h_29 q2 0).bind fun _ => (fX0_init h_29 q2 x6 x7 v35).bind fun h_39 => (p_ob h_39 q1 1).bind fun _ => (fX1_init h_39 q1 v27 x1 x2 x3 x4 x5 q2).bind fun h_43 => (p_ob h_43 0 3).bind fun _ => (fX3_putOnTop h_43 0 (some q1)).bind fun y47 => if y47.1 = 0 then (some (.inl ("java/lang/IllegalStateException", y47.2))) else ((p_gi y47.2 0 3 5).bind fun v50 => (p_si y47.2 0 3 5 (v50 + 1)).bind fun h_52 => (p_gr h_52 0 3 0).bind fun a_54 => (p_ob h_52 a_54 2).bind fun _ => (fX2_addLast h_52 a_54 (some q1)).bind fun h_58 => (p_ob h_58 0 3).bind fun _ => (fX3_lendToSeen h_58 0).bind fun h_62 => (p_gi h_62 q1 1 0).bind fun v64 => some (.inr (v64, h_62)))) else (fX3_open_97 (hC I E P n)))) = R → fX3_open (hC I E P n) 0 x1 x2 x3 x4 x5 x6 x7 q1 q2 = R := by
  have h' := h
  rw [op_eq] at h
  simp only [Bool.and_eq_true, Bool.not_eq_true', decide_eq_true_eq, decide_eq_false_iff_not] at h
  obtain ⟨c1, c2, c3, c4, c5, c6, c7, c8⟩ := h
  have c4b : (!decide (8 - x1 < x3) && !decide (6 - x2 < x4)) = true := by simp [c4]
  refine ⟨⟨c1, ⟨Int32.not_lt.mp c2, ?_⟩, ⟨Int32.not_lt.mp c3, ?_⟩, ⟨Int32.not_lt.mp c5, Int32.not_lt.mp c6⟩, ⟨Int32.not_lt.mp c7, c8⟩⟩, fun R hR => ?_⟩
  · obtain ⟨a, b, ha, hb, rfl, rfl⟩ := cell_nI c1
    obtain ⟨d1, d2⟩ := inB_p (show inB (nI a) 0 7 = true by unfold cell at c1; exact (Bool.and_eq_true _ _ ▸ c1).1)
    have := c4.1
    generalize nI a = z at d1 d2 this
    grind
  · obtain ⟨a, b, ha, hb, rfl, rfl⟩ := cell_nI c1
    obtain ⟨d1, d2⟩ := inB_p (show inB (nI b) 0 5 = true by unfold cell at c1; exact (Bool.and_eq_true _ _ ▸ c1).2)
    have := c4.2
    generalize nI b = z at d1 d2 this
    grind
  · rw [fX3_open, C_isCell, Option.bind_some, c1, if_neg (show ¬ b2i true = 0 by decide), if_neg c2, if_neg c3, C_fits, Option.bind_some, c4b, if_neg (show ¬ b2i true = 0 by decide), if_neg c5, if_neg c6, if_neg c7, if_pos c8]
    exact hR
theorem M_openF {I E : IT} {P : PT} {L : List Nat} {n q1 q2 : Nat} {x1 x2 x3 x4 x5 x6 x7 : Int32} (hR : RC I E P L n) (h : okA x1 x2 x3 x4 x6 x7 = true) (hf : 8 ≤ L.length ∨ 40 ≤ n) : fX3_open (hC I E P n) 0 x1 x2 x3 x4 x5 x6 x7 q1 q2 = some (.inl ("java/lang/IllegalStateException", hC I E P n)) := by
  have h8 := hR.1.1.1.1.2.1
  have hn := hR.2.2.2.2
  refine (M_open1 h).2 _ ?_
  rw [C_gr1, Option.bind_some, C_sob, Option.bind_some, s_count, Option.bind_some, hR.1.1.1.2.2]
  by_cases h1 : 8 ≤ L.length
  · rw [if_pos ((le8 (by omega)).mpr h1), fX3_open_97]
  · have h2 : 40 ≤ n := by omega
    rw [if_neg (fun q => h1 ((le8 (by omega)).mp q)), C_gi5, Option.bind_some, hR.2.2.2.1, if_neg (fun q => by
      have := (nI_T (a := n) (b := 40) (by omega) (by omega)).mp (by rw [show nI 40 = (40 : Int32) by decide]; exact q)
      omega), fX3_open_97]
theorem nI_40 : nI 40 = 40 := by decide
/-- the new window's cells -/
def opK (I : IT) (L : List Nat) (n : Nat) (x1 x2 x3 x4 x5 x6 x7 : Int32) : IT := xI n x6 x7 (I 0 1) (opI I n L.length x1 x2 x3 x4 x5)
def opE (E : IT) (n : Nat) (t : Int32) : IT := u2 (u2 (u2 E 1 n 0) 3 n 0) 0 n t
theorem opK_o {I : IT} {L : List Nat} {n a j : Nat} {x1 x2 x3 x4 x5 x6 x7 : Int32} (ha : 2 ≤ a) (h : j ≠ n) : opK I L n x1 x2 x3 x4 x5 x6 x7 a j = I a j := by rw [opK, xI_o h, opI_o ha h]
theorem opK_0 {I : IT} {L : List Nat} {n k : Nat} {x1 x2 x3 x4 x5 x6 x7 : Int32} (hk : k ≠ 3) : opK I L n x1 x2 x3 x4 x5 x6 x7 0 k = I 0 k := by rw [opK, xI_r (by omega), opI_0 hk]
theorem opK_r {I : IT} {L : List Nat} {n a : Nat} {x1 x2 x3 x4 x5 x6 x7 : Int32} (ha : 15 < a) : opK I L n x1 x2 x3 x4 x5 x6 x7 a = I a := by rw [opK, xI_r (by omega), opI_r (by omega)]
theorem opK_z {I : IT} {L : List Nat} {n a : Nat} {x1 x2 x3 x4 x5 x6 x7 : Int32} (ha : a = 9 ∨ a = 10 ∨ a = 12 ∨ a = 13 ∨ a = 16) : opK I L n x1 x2 x3 x4 x5 x6 x7 a = I a := by rw [opK, xI_r (by omega), opI_r (by omega)]
theorem opE_r {E : IT} {n a : Nat} {t : Int32} (ha : a ≠ 0 ∧ a ≠ 1 ∧ a ≠ 3) : opE E n t a = E a := by
  unfold opE
  rw [u2_r _ _ _ (by omega), u2_r _ _ _ (by omega), u2_r _ _ _ (by omega)]
theorem opE_o {E : IT} {n a j : Nat} {t : Int32} (h : j ≠ n) : opE E n t a j = E a j := by
  unfold opE
  simp [u2, h]
theorem M_open2 {I E : IT} {P : PT} {L : List Nat} {n : Nat} {x1 x2 x3 x4 x5 x6 x7 : Int32} (hR : RC I E P L n) (h : okA x1 x2 x3 x4 x6 x7 = true) (hL : L.length < 8) (hn : n < 40) (h5 : x5 = 0 ∨ x5 = 1) : fX3_open (hC I E P n) 0 x1 x2 x3 x4 x5 x6 x7 (wa n) (ta n) = (fX3_putOnTop (hC (opK I L n x1 x2 x3 x4 x5 x6 x7) (opE E n (I 0 1)) P (n + 1)) 0 (some (wa n))).bind fun y47 => if y47.1 = 0 then (some (.inl ("java/lang/IllegalStateException", y47.2))) else ((p_gi y47.2 0 3 5).bind fun v50 => (p_si y47.2 0 3 5 (v50 + 1)).bind fun h_52 => (p_gr h_52 0 3 0).bind fun a_54 => (p_ob h_52 a_54 2).bind fun _ => (fX2_addLast h_52 a_54 (some (wa n))).bind fun h_58 => (p_ob h_58 0 3).bind fun _ => (fX3_lendToSeen h_58 0).bind fun h_62 => (p_gi h_62 (wa n) 1 0).bind fun v64 => some (.inr (v64, h_62))) := by
  obtain ⟨hw, ht⟩ := hC_none I E P n
  have hwt : wa n ≠ ta n := by unfold wa ta; omega
  have h0w : (0 : Nat) ≠ wa n := by unfold wa; omega
  have h0t : (0 : Nat) ≠ ta n := by unfold ta; omega
  obtain ⟨⟨z9, z10⟩, z12, z13⟩ := (hR.2.1.2.2.1 n (Nat.le_refl _)).1
  have z16 := (hR.2.1.2.2.1 n (Nat.le_refl _)).2
  have hb : hC I E P n 0 = some (.inr (3, cB I E)) := rfl
  refine (M_open1 h).2 _ ?_
  rw [C_gr1, Option.bind_some, C_sob, Option.bind_some, s_count, Option.bind_some, hR.1.1.1.2.2, if_neg (fun q => by have := (le8 (by omega)).mp q; omega), C_gi5, Option.bind_some, hR.2.2.2.1, if_pos (by rw [← nI_40]; exact (nI_T (by omega) (by omega)).mpr hn), C_ob, Option.bind_some, p_nw_eq hw, Option.bind_some]
  generalize hW : ([.int 0, .int 0, .int 0, .int 0, .int 0, .int 0, .null, .int 0, .int 0, .int 0] : List Value) = W0
  have b1 : p_up (hC I E P n) (wa n) (.inr (1, W0)) 0 = some (.inr (3, cB I E)) := by rw [p_up_o _ _ h0w]; exact hb
  have t1 : p_up (hC I E P n) (wa n) (.inr (1, W0)) (ta n) = none := by rw [p_up_o _ _ (fun z => hwt z.symm)]; exact ht
  rw [p_gi_eq b1 (show (cB I E)[5]? = some (.int (I 0 2)) from rfl), Option.bind_some, p_ob_eq b1, Option.bind_some, p_ob_eq (p_up_s _ _ _), Option.bind_some, p_nw_eq t1, Option.bind_some, p_gi_eq (show p_up (p_up (hC I E P n) (wa n) (.inr (1, W0))) (ta n) (.inr (0, [.int 0, .int 0, .int 0, .int 0, .int 0, .int 0, .int 0, .int 0, .int 0])) 0 = some (.inr (3, cB I E)) by rw [p_up_o _ _ h0t]; exact b1) (show (cB I E)[7]? = some (.int (I 0 1)) from rfl), Option.bind_some, p_ob_eq (p_up_s _ _ _), Option.bind_some, N_task _ _ _ _ _ _ rfl, Option.bind_some, p_up_c _ _ _ hwt, p_ob_eq (p_up_s _ _ _), Option.bind_some, N_win _ _ _ _ _ _ _ _ _ h5 (fun z => hwt z.symm) (by rw [p_up_s]; rfl) _ hW.symm, Option.bind_some]
  have eT : cT (opK I L n x1 x2 x3 x4 x5 x6 x7) (opE E n (I 0 1)) n = [.int x6, .int x7, .int 1, .int 0, .int 0, .int (I 0 1), .int 0, .int 0, .int (I 0 1)] := by
    unfold cT
    rw [opK_z (a := 12) (by omega), opK_z (a := 13) (by omega), opK_z (a := 16) (by omega), z12, z13, z16]
    simp [opK, xI, opE, u2]
  have eW : cW (opK I L n x1 x2 x3 x4 x5 x6 x7) (opE E n (I 0 1)) n = [.int (nI n), .int x1, .int x2, .int x3, .int x4, .int x5, .ref (ta n), .int 0, .int 0, .int 0] := by
    unfold cW
    rw [opK_z (a := 9) (by omega), opK_z (a := 10) (by omega), z9, z10]
    simp [opK, xI, opI, opE, u2]
  have hh := hC_nx I E (opK I L n x1 x2 x3 x4 x5 x6 x7) (opE E n (I 0 1)) P n (fun q => by
      unfold cL cB
      rw [opK_0 (by omega), opK_0 (by omega), opE_r (by omega), opK_r (by omega), opK_r (by omega)]) (fun j hj => by
      unfold cW
      simp only [opK_o (show 2 ≤ 2 by omega) (show j ≠ n by omega), opK_o (show 2 ≤ 3 by omega) (show j ≠ n by omega), opK_o (show 2 ≤ 4 by omega) (show j ≠ n by omega), opK_o (show 2 ≤ 5 by omega) (show j ≠ n by omega), opK_o (show 2 ≤ 6 by omega) (show j ≠ n by omega), opK_o (show 2 ≤ 9 by omega) (show j ≠ n by omega), opK_o (show 2 ≤ 10 by omega) (show j ≠ n by omega), opE_o (show j ≠ n by omega)]) (fun j hj => by
      unfold cT
      simp only [opK_o (show 2 ≤ 7 by omega) (show j ≠ n by omega), opK_o (show 2 ≤ 8 by omega) (show j ≠ n by omega), opK_o (show 2 ≤ 11 by omega) (show j ≠ n by omega), opK_o (show 2 ≤ 12 by omega) (show j ≠ n by omega), opK_o (show 2 ≤ 13 by omega) (show j ≠ n by omega), opK_o (show 2 ≤ 14 by omega) (show j ≠ n by omega), opK_o (show 2 ≤ 16 by omega) (show j ≠ n by omega), opE_o (show j ≠ n by omega)])
  rw [eT, eW] at hh
  rw [hR.2.2.2.1, hh, C_ob, Option.bind_some]
