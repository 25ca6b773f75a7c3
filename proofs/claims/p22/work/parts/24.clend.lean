/-! THE COMPONENT: lending -/
theorem drpI_9 (I : IT) (i : Nat) {a : Nat} (h : a < 14) : drpI I i a = I a := by
  unfold drpI
  split
  · rfl
  · rw [u2_r _ _ _ (by omega), u2_r _ _ _ (by omega)]
theorem lse_g (I : IT) (i : Nat) : geo I (lseI I i) := fun a h1 h2 => by rw [lseI, drpI_9 _ _ (by omega), u2_r _ _ _ (by omega), u2_r _ _ _ (by omega)]
theorem lse_9 (I : IT) (i : Nat) : lseI I i 9 = u2 I 9 i 0 9 := by rw [lseI, drpI_9 _ _ (by omega), u2_r _ _ _ (by omega)]
theorem lse_0 (I : IT) (i : Nat) : lseI I i 0 = I 0 := by rw [lseI, drpI_9 _ _ (by omega), u2_r _ _ _ (by omega), u2_r _ _ _ (by omega)]
theorem lse_fr {I : IT} {L : List Nat} {i : Nat} (hi : i ∈ L) (hd : L.Nodup) (h9 : ¬ I 9 i = 0) : fr (lseI I i) L = fr I L + need I i := by
  rw [fr_in (I := I) (fun j hj => by unfold pg; rw [lse_9, u2_k _ _ _ hj, geo_need (lse_g I i)]) hi hd]
  unfold pg
  rw [if_neg h9, lse_9, u2_s, if_pos rfl]
  grind
theorem cS.lse {I E E1 : IT} {P : PT} {L : List Nat} {n i : Nat} (hS : cS I E P L n) (hi : i ∈ L) (h9 : ¬ I 9 i = 0) (hN : nrm (lseI I i) E1 n) (ha : eS (u2 E 2 0 (fr I L + need I i)) E1) : cS (lseI I i) E1 P L n ∧ at2 E E1 := by
  have h2 : at2 E E1 := ⟨by rw [ha.1, u2_r _ _ _ (by omega)], by rw [ha.2, u2_k _ _ _ (by omega)], by rw [ha.2, u2_k _ _ _ (by omega)]⟩
  exact ⟨hS.of (lse_g I i) h2 hN (by rw [ha.2, u2_s, lse_fr hi hS.2.1 h9]), h2⟩
theorem S_take {P : PT} {L : List Nat} {n w : Nat} : ∀ (l : List Nat) (k f : Nat) (I E : IT), cS I E P L n → I 9 w = 0 → L.drop k = l → k ≤ L.length → l.length < f → ∃ E', fX3_takeBackUntilFree_2 f (hC I E P n) 0 (need I w) (nI k) = some (hC (tk L w l I) E' P n) ∧ (cS (tk L w l I) E' P L n ∧ tk L w l I 9 w = 0 ∧ need (tk L w l I) w = need I w) ∧ at2 E E' := by
  intro l
  induction l with
  | nil =>
    intro k f I E hS hw hl hk hf
    obtain ⟨f, rfl⟩ : ∃ g, f = g + 1 := ⟨f - 1, by omega⟩
    have h8 := hS.1.1.2.1
    refine ⟨E, ?_, ⟨hS, hw, rfl⟩, at2.r E⟩
    rw [fX3_takeBackUntilFree_2, C_gr1, Option.bind_some, C_sob, Option.bind_some, s_count, Option.bind_some, hS.1.2.2, if_pos ((nI_L (by omega) (by omega)).mpr (drop_nil hl))]
    rfl
  | cons i l ih =>
    intro k f I E hS hw hl hk hf
    obtain ⟨f, rfl⟩ : ∃ g, f = g + 1 := ⟨f - 1, by omega⟩
    have h8 := hS.1.1.2.1
    obtain ⟨g1, g2, g3⟩ := drop_cons hl
    obtain ⟨g4, g5, g6⟩ := hS.1.1.g g1
    have gm := List.mem_of_getElem? g1
    rw [fX3_takeBackUntilFree_2, C_gr1, Option.bind_some, C_sob, Option.bind_some, s_count, Option.bind_some, hS.1.2.2, if_neg (fun q => by have := (nI_L (by omega) (by omega)).mp q; omega), C_gi6, Option.bind_some, hS.2.2.2.2]
    unfold tk
    by_cases h1 : need I w ≤ fr I L
    · rw [if_pos h1, if_pos h1]
      exact ⟨E, rfl, ⟨hS, hw, rfl⟩, at2.r E⟩
    · rw [if_neg h1, if_neg h1, Option.bind_some, C_sob, Option.bind_some, s_get _ _ _ _ g6, Option.bind_some, g4]
      dsimp only [Option.map_some]
      rw [W_gi8 _ _ _ g5, Option.bind_some]
      by_cases h2 : I 9 i = 0
      · rw [if_pos h2, if_neg (show ¬ cl I L i w = true by simp [cl, h2]), fX3_takeBackUntilFree_69, nI_1]
        exact ih (k + 1) f I E hS hw g2 (by omega) (by simp at hf; omega)
      · have hiw : i ≠ w := fun q => h2 (by rw [q]; exact hw)
        rw [if_neg h2, W_gi7 _ _ _ g5, Option.bind_some, hS.2.2.1 i gm]
        cases hs : seen I L i with
        | true =>
          rw [if_neg (show ¬ b2i true = 0 by decide), if_neg (show ¬ cl I L i w = true by simp [cl, hs]), fX3_takeBackUntilFree_69, nI_1]
          exact ih (k + 1) f I E hS hw g2 (by omega) (by simp at hf; omega)
        | false =>
          have hN1 : nrm I (u2 E 2 0 (fr I L + need I i)) n := hS.2.2.2.1.of rfl (u2_r _ _ _ (by omega)) (u2_r _ _ _ (by omega))
          obtain ⟨E1, q1, q2, q3⟩ := W_lose (P := P) g5 hN1
          obtain ⟨hS1, ha1⟩ := hS.lse gm h2 q2 q3
          obtain ⟨E', r1, r2, r3⟩ := ih (k + 1) f (lseI I i) E1 hS1 (by rw [lse_9, u2_k _ _ _ (fun q => hiw q.symm)]; exact hw) g2 (by omega) (by simp at hf; omega)
          rw [geo_need (lse_g I i)] at r1 r2
          refine ⟨E', ?_, ?_, ha1.t r3⟩
          · rw [if_pos (show b2i false = 0 from rfl), if_pos (show cl I L i w = true by simp [cl, hs, h2, hiw]), Option.bind_some, W_ob _ _ _ g5, Option.bind_some, W_need _ _ _ g5, Option.bind_some, C_si6, Option.bind_some, C_gi7, Option.bind_some, W_ob _ _ _ g5, Option.bind_some, q1, Option.bind_some, fX3_takeBackUntilFree_69, nI_1]
            exact r1
          · rw [if_pos (show cl I L i w = true by simp [cl, hs, h2, hiw])]
            exact r2
theorem S_lend {I E : IT} {P : PT} {L : List Nat} {n w : Nat} (hS : cS I E P L n) (hw : I 9 w = 0) (hm : w ∈ L) : (lendI L w I = none ∧ fX3_lend (hC I E P n) 0 (some (wa w)) = some (0, hC I E P n)) ∨ ∃ J E', lendI L w I = some J ∧ fX3_lend (hC I E P n) 0 (some (wa w)) = some (1, hC J E' P n) ∧ cS J E' P L n ∧ at2 E E' := by
  have hwn := hS.1.1.2.2 w hm
  have hc : (need I w ≤ fr I L + L.foldl (puf I L) 0) ↔ need I w ≤ L.foldl (thf I L w) (fr I L) := by
    rw [puf_thf hw, show fr I L = 0 + fr I L by grind, puf_lin, show 0 + fr I L + L.foldl (puf I L) 0 = L.foldl (puf I L) 0 + fr I L by grind]
  by_cases h1 : need I w ≤ L.foldl (thf I L w) (fr I L)
  · right
    obtain ⟨E1, q1, ⟨q2, q3, q4⟩, q5⟩ := S_take L 0 64 I E hS hw rfl (Nat.zero_le _) (by have := hS.1.1.2.1; omega)
    rw [nI_0] at q1
    refine ⟨u2 (tk L w L I) 9 w 1, u2 E1 2 0 (fr (tk L w L I) L - need I w), ?_, ?_, ?_, ?_⟩
    · rw [lendI, if_pos h1]
    · rw [fX3_lend, Option.bind_some, W_ob _ _ _ hwn, Option.bind_some, W_need _ _ _ hwn, Option.bind_some, C_gi6, Option.bind_some, hS.2.2.2.2, C_ob, Option.bind_some, S_unseen hS, Option.bind_some, if_pos (hc.mpr h1), Option.bind_some, fX3_takeBackUntilFree, q1, Option.bind_some, C_gi6, Option.bind_some, q2.2.2.2.2, C_si6, Option.bind_some, W_s8 _ _ _ hwn _ (Or.inr rfl), Option.bind_some]
      rfl
    · refine q2.of (geo.u _ _ _ (by omega)) ⟨u2_r _ _ _ (by omega), u2_k _ _ _ (by omega), u2_k _ _ _ (by omega)⟩ (q2.2.2.2.1.of (u2_r _ _ _ (by omega)) (u2_r _ _ _ (by omega)) (u2_r _ _ _ (by omega))) ?_
      rw [u2_s, fr_in (I := tk L w L I) (J := u2 (tk L w L I) 9 w 1) (fun j hj => by unfold pg; rw [u2_k _ _ _ hj, geo_need (geo.u _ _ _ (by omega))]) hm hS.2.1]
      unfold pg
      rw [if_pos q3, u2_s, if_neg e10, geo_need (geo.u _ _ _ (by omega)), q4]
      grind
    · exact q5.t ⟨u2_r _ _ _ (by omega), u2_k _ _ _ (by omega), u2_k _ _ _ (by omega)⟩
  · left
    refine ⟨by rw [lendI, if_neg h1], ?_⟩
    rw [fX3_lend, Option.bind_some, W_ob _ _ _ hwn, Option.bind_some, W_need _ _ _ hwn, Option.bind_some, C_gi6, Option.bind_some, hS.2.2.2.2, C_ob, Option.bind_some, S_unseen hS, Option.bind_some, if_neg (fun q => h1 (hc.mp q))]
    rfl
theorem S_lts {P : PT} {L : List Nat} {n : Nat} : ∀ (k f : Nat) (I E : IT), cS I E P L n → k ≤ L.length → k < f → ∃ E', fX3_lendToSeen_10 f (hC I E P n) 0 (nI k - 1) = some (hC ((L.take k).reverse.foldl (stL L) I) E' P n) ∧ cS ((L.take k).reverse.foldl (stL L) I) E' P L n ∧ at2 E E' := by
  intro k
  induction k with
  | zero =>
    intro f I E hS hk hf
    obtain ⟨f, rfl⟩ : ∃ g, f = g + 1 := ⟨f - 1, by omega⟩
    exact ⟨E, rfl, hS, at2.r E⟩
  | succ k ih =>
    intro f I E hS hk hf
    obtain ⟨f, rfl⟩ : ∃ g, f = g + 1 := ⟨f - 1, by omega⟩
    have g1 : L[k]? = some L[k] := List.getElem?_eq_getElem (by omega)
    have gm : L[k] ∈ L := List.getElem_mem _
    obtain ⟨g4, g5, g6⟩ := hS.1.1.g g1
    have e : nI k + (-1) = nI k - 1 := by grind
    have er : (L.take (k + 1)).reverse.foldl (stL L) I = (L.take k).reverse.foldl (stL L) (stL L I L[k]) := by
      rw [take_succ' g1, List.reverse_append]; rfl
    have nx : ∀ J F : IT, cS J F P L n → ∃ E', fX3_lendToSeen_47 (fX3_lendToSeen_10 f) (hC J F P n) 0 (nI k) = some (hC ((L.take k).reverse.foldl (stL L) J) E' P n) ∧ cS ((L.take k).reverse.foldl (stL L) J) E' P L n ∧ at2 F E' := fun J F hJ => by
      rw [fX3_lendToSeen_47, e]
      exact ih f J F hJ (by omega) (by omega)
    rw [er, fX3_lendToSeen_10, nI_pred, if_neg (nI_lt0 (by omega)), C_gr1, Option.bind_some, C_sob, Option.bind_some, s_get _ _ _ _ g6, Option.bind_some, g4]
    dsimp only [Option.map_some]
    rw [W_gi7 _ _ _ g5, Option.bind_some, hS.2.2.1 _ gm]
    unfold stL
    cases hs : seen I L L[k] with
    | false =>
      rw [if_pos (show b2i false = 0 from rfl), if_neg (by simp)]
      exact nx I E hS
    | true =>
      rw [if_neg (show ¬ b2i true = 0 by decide), W_gi8 _ _ _ g5, Option.bind_some]
      by_cases h9 : I 9 L[k] = 0
      · rw [if_pos h9, if_pos ⟨h9, rfl⟩, C_ob, Option.bind_some]
        rcases S_lend hS h9 gm with ⟨q1, q2⟩ | ⟨J, E1, q1, q2, q3, q4⟩
        · rw [q1, q2, Option.bind_some]
          exact nx I E hS
        · rw [q1, q2, Option.bind_some]
          obtain ⟨E', r1, r2, r3⟩ := nx J E1 q3
          exact ⟨E', r1, r2, q4.t r3⟩
      · rw [if_neg h9, if_neg (fun q => h9 q.1)]
        exact nx I E hS
theorem S_lendToSeen {I E : IT} {P : PT} {L : List Nat} {n : Nat} (hS : cS I E P L n) : ∃ E', fX3_lendToSeen (hC I E P n) 0 = some (hC (lA L I) E' P n) ∧ cS (lA L I) E' P L n ∧ at2 E E' := by
  obtain ⟨E', q1, q2, q3⟩ := S_lts L.length 64 I E hS (Nat.le_refl _) (by have := hS.1.1.2.1; omega)
  rw [List.take_length] at q1 q2
  refine ⟨E', ?_, q2, q3⟩
  rw [fX3_lendToSeen, C_gr1, Option.bind_some, C_sob, Option.bind_some, s_count, Option.bind_some, hS.1.2.2]
  exact q1
theorem lA_geo (L : List Nat) (I : IT) : geo I (lA L I) := fun a h1 h2 => lA_low L I (by omega)
/-- before the screen is looked at anew -/
def cP (I E : IT) (P : PT) (L : List Nat) (n : Nat) : Prop := (hLi (P 1) L n ∧ (∀ i, i ∈ L → gOK I i) ∧ E 2 2 = nI L.length) ∧ L.Nodup ∧ nrm I E n ∧ E 2 0 = fr I L
theorem S_look' {I E : IT} {P : PT} {L : List Nat} {n : Nat} (h : cP I E P L n) : ∃ E' P', fX3_lookAtScreen (hC I E P n) 0 = some (hC I E' P' n) ∧ cS I E' P' L n ∧ (∀ b, b ≠ 1 → E' b = E b) ∧ (∀ b, b ≠ 2 → P' b = P b) ∧ ∀ q, P' 2 q = if q < 48 then shc I L q else P 2 q := by
  obtain ⟨⟨hL, hg, hE⟩, hd, hN, hf⟩ := h
  obtain ⟨E', P', q1, q2, q3, q4, q5⟩ := S_look hg hL hE
  refine ⟨E', P', q1, ⟨⟨by rw [q4 1 (by omega)]; exact hL, hg, by rw [q2 2 (by omega)]; exact hE⟩, hd, q3, hN.of rfl (q2 3 (by omega)) (q2 0 (by omega)), by rw [q2 2 (by omega)]; exact hf⟩, q2, q4, q5⟩
theorem S_rearrange {I E : IT} {P : PT} {L : List Nat} {n : Nat} (h : cP I E P L n) : ∃ E' P', fX3_rearrange (hC I E P n) 0 = some (hC (lA L I) E' P' n) ∧ cS (lA L I) E' P' L n ∧ E' 2 1 = E 2 1 ∧ (∀ b, b ≠ 2 → P' b = P b) ∧ ∀ q, P' 2 q = if q < 48 then shc (lA L I) L q else P 2 q := by
  obtain ⟨E1, P', q1, q2, q3, q4, q5⟩ := S_look' h
  obtain ⟨E', r1, r2, r3⟩ := S_lendToSeen q2
  refine ⟨E', P', ?_, r2, by rw [r3.2.1, q3 2 (by omega)], q4, fun q => by rw [q5 q, geo_shc (lA_geo L I)]⟩
  rw [fX3_rearrange, C_ob, Option.bind_some, q1, Option.bind_some, C_ob, Option.bind_some, r1, Option.bind_some]
