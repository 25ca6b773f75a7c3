theorem hLi.mono {f : Nat → Option Nat} {L : List Nat} {n m : Nat} (h : hLi f L n) (hm : n ≤ m) : hLi f L m := ⟨h.1, h.2.1, fun i hi => Nat.lt_of_lt_of_le (h.2.2 i hi) hm⟩
theorem pB.mono {P : PT} {n m : Nat} (h : pB P n) (hm : n ≤ m) : pB P m := fun a q i hi => Nat.lt_of_lt_of_le (h a q i hi) hm
def sub (g h : PH) : Prop := ∀ q e, g q = some e → h q = some e
theorem hC_sub {I K E : IT} {P : PT} {n : Nat} (hl : ∀ q, cL I E P q = cL K E P q) (hw : ∀ j, j < n → cW I E j = cW K E j) (ht : ∀ j, j < n → cT I E j = cT K E j) : sub (hC I E P n) (hC K E P (n + 1)) := fun q e h => by
  unfold hC at h ⊢
  by_cases h8 : q < 8
  · rw [if_pos h8] at h ⊢; rw [← hl]; exact h
  · rw [if_neg h8] at h ⊢
    by_cases h9 : q < 8 + 2 * n
    · rw [if_pos h9] at h
      rw [if_pos (show q < 8 + 2 * (n + 1) by omega)]
      by_cases h10 : q % 2 = 0
      · rw [if_pos h10] at h ⊢; rw [← hw _ (by omega)]; exact h
      · rw [if_neg h10] at h ⊢; rw [← ht _ (by omega)]; exact h
    · rw [if_neg h9] at h; cases h
theorem plc_last {L : List Nat} {n : Nat} (hn : n < 900) (hL : L.length < 8) (hm : ∀ i, i ∈ L → i < n) : plc (nI n) 0 (L ++ [n]) = nI L.length := by
  have hx : ∀ x, x ∈ L ++ [n] → x < 1000 := fun x h => by
    rcases List.mem_append.mp h with q | q
    · have := hm x q; omega
    · rw [List.mem_singleton.mp q]; omega
  rcases plc_or (w := nI n) (L ++ [n]) 0 with h | ⟨p, v, h1, h2, h3⟩
  · exact absurd (List.mem_append_right L (List.mem_singleton_self n)) ((plc_m1 (show n < 1000 by omega) (L ++ [n]) 0 hx (by simp; omega)).mp h)
  · have hv := hx v (List.mem_of_getElem? h1)
    have e : n = v := (nI_E (by omega) hv).mp h2
    subst e
    rw [h3, Nat.zero_add]
    have hp := (List.getElem?_eq_some_iff.mp h1).1
    simp at hp
    by_cases hpl : p < L.length
    · rw [List.getElem?_append_left hpl] at h1
      have := hm n (List.mem_of_getElem? h1)
      omega
    · congr 1; omega
theorem er_last (L : List Nat) (n : Nat) : (L ++ [n]).eraseIdx L.length = L := by
  rw [List.eraseIdx_append_of_length_le (Nat.le_refl _), Nat.sub_self]
  simp
theorem cP_open {I E : IT} {P : PT} {L : List Nat} {n : Nat} {x1 x2 x3 x4 x5 x6 x7 : Int32} (hR : RC I E P L n) (h : okA x1 x2 x3 x4 x6 x7 = true) (hL : L.length < 8) : ag I (opK I L n x1 x2 x3 x4 x5 x6 x7) L ∧ cP (opK I L n x1 x2 x3 x4 x5 x6 x7) (u2 (opE E n (I 0 1)) 2 2 (nI (L.length + 1))) (p2 P 1 L.length (some n)) (L ++ [n]) (n + 1) ∧ opK I L n x1 x2 x3 x4 x5 x6 x7 9 n = 0 := by
  obtain ⟨⟨hS, hB, hT, hP⟩, ⟨hF, ht, hz, hs⟩, ⟨hRM, h02, hn⟩⟩ := hR
  obtain ⟨cc, ⟨w1, w2⟩, ⟨w3, w4⟩, -, -⟩ := (M_open1 (I := I) (E := E) (P := P) (n := n) (q1 := 0) (q2 := 0) (x5 := x5) h).1
  have hm := hS.1.1.2.2
  have hag : ag I (opK I L n x1 x2 x3 x4 x5 x6 x7) L := fun i hi a h1 _ => opK_o h1 (by have := hm i hi; omega)
  have k9 : opK I L n x1 x2 x3 x4 x5 x6 x7 9 n = 0 := by rw [opK_z (by omega)]; exact ((hz n (Nat.le_refl _)).1).1.1
  refine ⟨hag, ⟨⟨(hS.1.1.mono (Nat.le_succ n)).add hL (by omega), fun i hi => ?_, ?_⟩, ?_, ?_, ?_⟩, k9⟩
  · rcases List.mem_append.mp hi with q | q
    · exact ag_g hag q (hS.1.2.1 i q)
    · rw [List.mem_singleton.mp q]
      have e2 : opK I L n x1 x2 x3 x4 x5 x6 x7 2 n = x1 := by simp [opK, xI, opI, u2]
      have e3 : opK I L n x1 x2 x3 x4 x5 x6 x7 3 n = x2 := by simp [opK, xI, opI, u2]
      have e4 : opK I L n x1 x2 x3 x4 x5 x6 x7 4 n = x3 := by simp [opK, xI, opI, u2]
      have e5 : opK I L n x1 x2 x3 x4 x5 x6 x7 5 n = x4 := by simp [opK, xI, opI, u2]
      have c1 := inB_p (show inB x1 0 7 = true by unfold cell at cc; exact (Bool.and_eq_true _ _ ▸ cc).1)
      have c2 := inB_p (show inB x2 0 5 = true by unfold cell at cc; exact (Bool.and_eq_true _ _ ▸ cc).2)
      unfold gOK
      rw [e2, e3, e4, e5]
      exact ⟨⟨c1, c2⟩, ⟨w1, w2⟩, w3, w4⟩
  · rw [u2_s, List.length_append]; rfl
  · rw [List.nodup_append]
    refine ⟨hS.2.1, by simp, fun a ha b hb => ?_⟩
    rw [List.mem_singleton.mp hb]
    have := hm a ha
    omega
  · intro i hi
    rw [u2_r _ _ _ (by omega), u2_r _ _ _ (by omega)]
    by_cases e : i = n
    · subst e
      have e15 : opK I L i x1 x2 x3 x4 x5 x6 x7 15 i = -1 := by simp [opK, xI, u2]
      rw [e15]
      refine ⟨?_, fun q => absurd rfl q⟩
      simp [opE, u2, b2i]
    · rw [opE_o e, opE_o e, opK_o (by omega) e]
      exact hS.2.2.2.1 i (by omega)
  · rw [u2_k _ _ _ (by omega), opE_r (by omega), hS.2.2.2.2, fr_app, fr_1, ag_fr hag]
    unfold pg
    rw [k9, if_pos rfl]
    grind
theorem S_put {I E : IT} {P : PT} {L : List Nat} {n : Nat} {x1 x2 x3 x4 x5 x6 x7 : Int32} (hR : RC I E P L n) (h : okA x1 x2 x3 x4 x6 x7 = true) (hL : L.length < 8) (hn : n < 40) :
    (lendI (L ++ [n]) n (opI I n L.length x1 x2 x3 x4 x5) = none ∧ ∃ F Q, fX3_putOnTop (hC (opK I L n x1 x2 x3 x4 x5 x6 x7) (opE E n (I 0 1)) P (n + 1)) 0 (some (wa n)) = some (0, hC (opK I L n x1 x2 x3 x4 x5 x6 x7) F Q (n + 1)) ∧ cS (opK I L n x1 x2 x3 x4 x5 x6 x7) F Q L (n + 1) ∧ F 2 1 = E 2 1 ∧ (F 3 = opE E n (I 0 1) 3 ∧ F 0 = opE E n (I 0 1) 0) ∧ Q 0 = P 0 ∧ (∀ q, q < 48 → Q 2 q = shc (opK I L n x1 x2 x3 x4 x5 x6 x7) L q) ∧ pB Q n)
    ∨ ∃ J F Q, lendI (L ++ [n]) n (opI I n L.length x1 x2 x3 x4 x5) = some J ∧ fX3_putOnTop (hC (opK I L n x1 x2 x3 x4 x5 x6 x7) (opE E n (I 0 1)) P (n + 1)) 0 (some (wa n)) = some (1, hC (xI n x6 x7 (I 0 1) J) F Q (n + 1)) ∧ cS (xI n x6 x7 (I 0 1) J) F Q (L ++ [n]) (n + 1) ∧ F 2 1 = E 2 1 ∧ Q 0 = P 0 ∧ (∀ q, q < 48 → Q 2 q = shc (opK I L n x1 x2 x3 x4 x5 x6 x7) (L ++ [n]) q) ∧ pB Q (n + 1) := by
  obtain ⟨hag, hcP, k9⟩ := cP_open (x5 := x5) hR h hL
  obtain ⟨⟨hS, hB, hT, hP⟩, ⟨hF, ht, hz, hs⟩, ⟨hRM, h02, -⟩⟩ := hR
  have hm := hS.1.1.2.2
  have i9 : opI I n L.length x1 x2 x3 x4 x5 9 n = 0 := by rw [opI_r (by omega)]; exact ((hz n (Nat.le_refl _)).1).1.1
  have hlx : lendI (L ++ [n]) n (opK I L n x1 x2 x3 x4 x5 x6 x7) = (lendI (L ++ [n]) n (opI I n L.length x1 x2 x3 x4 x5)).map (xI n x6 x7 (I 0 1)) := lend_x _ i9
  have e1 := s_addLast (I := opK I L n x1 x2 x3 x4 x5 x6 x7) (E := opE E n (I 0 1)) (P := P) (n := n + 1) (m := L.length) (v := n) (by rw [opE_r (by omega)]; exact hS.1.2.2) hL (by omega)
  generalize opK I L n x1 x2 x3 x4 x5 x6 x7 = K at hag hcP k9 hlx e1 ⊢
  have hE1 : opE E n (I 0 1) 2 1 = E 2 1 := by rw [opE_r (by omega)]
  generalize opE E n (I 0 1) = F at hcP e1 hE1 ⊢
  have hpb2 : pB (p2 P 1 L.length (some n)) (n + 1) := (hP.mono (Nat.le_succ n)).up fun i hi => by cases hi; omega
  obtain ⟨F3, P3, q1, q2, q3, q4, q5⟩ := S_look' hcP
  have hpb3 : pB P3 (n + 1) := fun a q i hi => by
    by_cases ha : a = 2
    · subst ha
      rw [q5 q] at hi
      split at hi
      · exact q2.1.1.2.2 i (sh_mem _ hi)
      · exact hpb2 2 q i hi
    · rw [q4 a ha] at hi; exact hpb2 a q i hi
  have hp3 : (fX3_putOnTop (hC K F P (n + 1)) 0 (some (wa n))) = (fX3_lend (hC K F3 P3 (n + 1)) 0 (some (wa n))).bind fun y13 => if y13.1 = 0 then ((p_gr y13.2 0 3 1).bind fun a_16 => (some (wa n)).bind fun a_18 => (p_gi y13.2 a_18 1 0).bind fun v19 => (p_ob y13.2 a_16 2).bind fun _ => (fX2_remove y13.2 a_16 v19).bind fun h_23 => (p_ob h_23 0 3).bind fun _ => (fX3_lookAtScreen h_23 0).bind fun h_27 => (p_z 0).bind fun z => some (z, h_27)) else ((p_z 1).bind fun z => some (z, y13.2)) := by
    rw [fX3_putOnTop, C_gr1, Option.bind_some, C_sob, Option.bind_some, e1, Option.bind_some, C_ob, Option.bind_some, q1, Option.bind_some, C_ob, Option.bind_some]
  have c21 : F3 2 1 = E 2 1 := by rw [q3 2 (by omega), u2_k _ _ _ (by omega)]; exact hE1
  have c3 : F3 3 = F 3 := by rw [q3 3 (by omega), u2_r _ _ _ (by omega)]
  have c0 : F3 0 = F 0 := by rw [q3 0 (by omega), u2_r _ _ _ (by omega)]
  have p0 : P3 0 = P 0 := by rw [q4 0 (by omega), p2_r _ _ _ (by omega)]
  rw [hp3]
  rcases S_lend q2 k9 (List.mem_append_right L (List.mem_singleton_self n)) with ⟨l1, l2⟩ | ⟨J', E4, l1, l2, l3, l4⟩
  · left
    rw [hlx] at l1
    refine ⟨Option.map_eq_none_iff.mp l1, ?_⟩
    rw [l2, Option.bind_some, if_pos rfl, C_gr1, Option.bind_some, Option.bind_some, W_gi0 _ _ _ (show n < n + 1 by omega), Option.bind_some, C_sob, Option.bind_some]
    have hlen : L.length < (L ++ [n]).length := by simp
    have e5 := s_remove (I := K) (E := F3) q2.1.1 (fun q i hq => hpb3 1 q i hq) (by omega) (plc_last (show n < 900 by omega) hL hm) hlen
    have hsz : F3 2 2 - 1 = nI L.length := by rw [q2.1.2.2, List.length_append]; exact nI_pred _
    have hcP2 : cP K (u2 F3 2 2 (F3 2 2 - 1)) (prm P3 1 L.length) L (n + 1) := by
      have hr := q2.1.1.rm hlen
      rw [er_last] at hr
      refine ⟨⟨hr, fun i hi => q2.1.2.1 i (List.mem_append_left _ hi), by rw [u2_s]; exact hsz⟩, hS.2.1, q2.2.2.2.1.of rfl (u2_r _ _ _ (by omega)) (u2_r _ _ _ (by omega)), ?_⟩
      rw [u2_k _ _ _ (by omega), q2.2.2.2.2, fr_app, fr_1]
      unfold pg
      rw [k9, if_pos rfl]
      grind
    obtain ⟨F5, P5, r1, r2, r3, r4, r5⟩ := S_look' hcP2
    refine ⟨F5, P5, ?_, r2, ?_, ⟨?_, ?_⟩, ?_, ?_, ?_⟩
    · rw [e5, Option.bind_some, C_ob, Option.bind_some, r1, Option.bind_some]
      rfl
    · rw [r3 2 (by omega), u2_k _ _ _ (by omega)]; exact c21
    · rw [r3 3 (by omega), u2_r _ _ _ (by omega)]; exact c3
    · rw [r3 0 (by omega), u2_r _ _ _ (by omega)]; exact c0
    · rw [r4 0 (by omega), prm_r _ _ _ (by omega)]; exact p0
    · intro q hq; rw [r5 q, if_pos hq]
    · intro a q i hi
      by_cases ha2 : a = 2
      · subst ha2
        rw [r5 q] at hi
        split at hi
        · exact hm i (sh_mem _ hi)
        · rename_i hq
          rw [prm_r _ _ _ (by omega), q5 q, if_neg hq, p2_r _ _ _ (by omega)] at hi
          exact hP 2 q i hi
      · rw [r4 a ha2] at hi
        by_cases ha1 : a = 1
        · subst ha1
          by_cases hq : q < 8
          · have hr := (hcP2.1.1).1 q hq
            rw [hr] at hi
            exact hm i (List.mem_of_getElem? hi)
          · unfold prm at hi
            rw [p2_k _ _ _ (by omega), psh_1, if_neg (by omega), q4 1 (by omega), p2_k _ _ _ (by omega)] at hi
            exact hP 1 q i hi
        · rw [prm_r _ _ _ ha1, q4 a ha2, p2_r _ _ _ ha1] at hi
          exact hP a q i hi
  · right
    rw [hlx] at l1
    obtain ⟨J, j1, rfl⟩ := Option.map_eq_some_iff.mp l1
    refine ⟨J, E4, P3, j1, ?_, l3, by rw [l4.2.1]; exact c21, p0, fun q hq => by rw [q5 q, if_pos hq], hpb3⟩
    rw [l2, Option.bind_some, if_neg e10]
    rfl
