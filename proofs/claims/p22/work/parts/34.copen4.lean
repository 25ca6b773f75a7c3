theorem M_openN {I E : IT} {P : PT} {L : List Nat} {n : Nat} {x1 x2 x3 x4 x5 x6 x7 : Int32} (hR : RC I E P L n) (h : okA x1 x2 x3 x4 x6 x7 = true) (hL : L.length < 8) (hn : n < 40) (h5 : x5 = 0 ∨ x5 = 1) (hl : lendI (L ++ [n]) n (opI I n L.length x1 x2 x3 x4 x5) = none) : ∃ g F Q, fX3_open (hC I E P n) 0 x1 x2 x3 x4 x5 x6 x7 (wa n) (ta n) = some (.inl ("java/lang/IllegalStateException", g)) ∧ sub (hC (rf (u2 (opI I n L.length x1 x2 x3 x4 x5) 0 3 (nI L.length)) 2) F Q n) g ∧ RC (rf (u2 (opI I n L.length x1 x2 x3 x4 x5) 0 3 (nI L.length)) 2) F Q L n := by
  rcases S_put (x5 := x5) hR h hL hn with ⟨-, F, Q, q1, q2, q3, ⟨q4, q5⟩, q6, q7, q8⟩ | ⟨J, F, Q, j1, -⟩
  · refine ⟨hC (opK I L n x1 x2 x3 x4 x5 x6 x7) F Q (n + 1), F, Q, ?_, ?_, ?_⟩
    · rw [M_open2 hR h hL hn h5, q1, Option.bind_some, if_pos rfl]
    · have ro : ∀ a j, 2 ≤ a → j ≠ n → rf (u2 (opI I n L.length x1 x2 x3 x4 x5) 0 3 (nI L.length)) 2 a j = opK I L n x1 x2 x3 x4 x5 x6 x7 a j := fun a j ha hj => by
        rw [rf_a _ _ (by omega), u2_a _ _ _ _ (by omega), opI_o ha hj, opK_o ha hj]
      refine hC_sub (fun q => ?_) (fun j hj => ?_) (fun j hj => ?_)
      · unfold cL cB
        rw [rf_0 _ _ (by omega), rf_0 _ _ (by omega), u2_k _ _ _ (by omega), u2_k _ _ _ (by omega), opI_0 (by omega), opI_0 (by omega), opK_0 (by omega), opK_0 (by omega), rf_a _ _ (by omega), rf_a _ _ (by omega), u2_r _ _ _ (by omega), u2_r _ _ _ (by omega), opI_r (by omega), opI_r (by omega), opK_r (by omega), opK_r (by omega)]
      · unfold cW
        have hj' : j ≠ n := by omega
        simp only [ro 2 j (by omega) hj', ro 3 j (by omega) hj', ro 4 j (by omega) hj', ro 5 j (by omega) hj', ro 6 j (by omega) hj', ro 9 j (by omega) hj', ro 10 j (by omega) hj']
      · unfold cT
        have hj' : j ≠ n := by omega
        simp only [ro 7 j (by omega) hj', ro 8 j (by omega) hj', ro 11 j (by omega) hj', ro 12 j (by omega) hj', ro 13 j (by omega) hj', ro 14 j (by omega) hj', ro 16 j (by omega) hj']
    · obtain ⟨hag, -, -⟩ := cP_open (x5 := x5) hR h hL
      obtain ⟨⟨hS, hB, hT, hP⟩, ⟨hF, ht, hz, hs⟩, ⟨hRM, h02, -⟩⟩ := hR
      have hm := hS.1.1.2.2
      have ro : ∀ a j, 2 ≤ a → j ≠ n → rf (u2 (opI I n L.length x1 x2 x3 x4 x5) 0 3 (nI L.length)) 2 a j = I a j := fun a j ha hj => by
        rw [rf_a _ _ (by omega), u2_a _ _ _ _ (by omega), opI_o ha hj]
      have r7 : ∀ a, 7 ≤ a → rf (u2 (opI I n L.length x1 x2 x3 x4 x5) 0 3 (nI L.length)) 2 a = I a := fun a ha => by
        rw [rf_a _ _ (by omega), u2_r _ _ _ (by omega), opI_r ha]
      have r01 : rf (u2 (opI I n L.length x1 x2 x3 x4 x5) 0 3 (nI L.length)) 2 0 1 = I 0 1 := by rw [rf_0 _ _ (by omega), u2_k _ _ _ (by omega), opI_0 (by omega)]
      have r02 : rf (u2 (opI I n L.length x1 x2 x3 x4 x5) 0 3 (nI L.length)) 2 0 2 = I 0 2 := by rw [rf_0 _ _ (by omega), u2_k _ _ _ (by omega), opI_0 (by omega)]
      have r03 : rf (u2 (opI I n L.length x1 x2 x3 x4 x5) 0 3 (nI L.length)) 2 0 3 = nI L.length := by rw [rf_0 _ _ (by omega), u2_s]
      have r1 : ∀ k, k ≠ L.length → rf (u2 (opI I n L.length x1 x2 x3 x4 x5) 0 3 (nI L.length)) 2 1 k = I 1 k := fun k hk => by
        rw [rf_a _ _ (by omega), u2_a _ _ _ _ (by omega)]
        unfold opI
        rw [u2_a _ _ _ _ (by omega), u2_k _ _ _ hk, u2_a _ _ _ _ (by omega), u2_a _ _ _ _ (by omega), u2_a _ _ _ _ (by omega), u2_a _ _ _ _ (by omega), u2_a _ _ _ _ (by omega)]
      generalize rf (u2 (opI I n L.length x1 x2 x3 x4 x5) 0 3 (nI L.length)) 2 = V at ro r7 r01 r02 r03 r1 ⊢
      have hav : ag I V L := fun i hi a h1 _ => ro a i h1 (by have := hm i hi; omega)
      have hL1 : hLi (Q 1) L n := ⟨q2.1.1.1, q2.1.1.2.1, hm⟩
      refine ⟨⟨⟨⟨hL1, fun i hi => ag_g hav hi (hS.1.2.1 i hi), q2.1.2.2⟩, hS.2.1, fun i hi => ?_, fun i hi => ?_, ?_⟩, ⟨by rw [q6]; exact hB.1, by rw [q3]; exact hB.2⟩, fun q hq => ?_, q8⟩, ⟨fun w hw => (hF w hw).of r01 (fun a h1 _ => by rw [r7 a h1]), by unfold tb; rw [r01]; exact ht, hz.of (fun i _ a h1 _ => by rw [r7 a (by omega)]), hs.of (r7 _ (by omega)) (r7 _ (by omega))⟩, ⟨⟨r03, hRM.2.1, fun k v hk => ?_⟩, by rw [r02]; exact h02, by omega⟩⟩
      · rw [q2.2.2.1 i hi, ag_seen hag, ag_seen hav]
      · rw [r7 15 (by omega), q4, q5, opE_o (by omega), opE_o (by omega)]
        exact hS.2.2.2.1 i hi
      · rw [q2.2.2.2.2, ag_fr hag, ag_fr hav]
      · rw [q7 q hq]; unfold shc; rw [ag_sh hag, ag_sh hav]
      · have := (List.getElem?_eq_some_iff.mp hk).1
        rw [r1 k (by omega)]
        exact hRM.2.2 k v hk
  · rw [hl] at j1; cases j1
theorem opJ_rf (J : IT) (n : Nat) (x6 x7 x : Int32) : opJ (rf J x) n x6 x7 = rf (opJ J n x6 x7) x := by
  unfold opJ
  rw [rf_0 J x (by omega), u2_comm J x x6 (Or.inl (by omega)), u2_comm _ x x7 (Or.inl (by omega)), u2_comm _ x 1 (Or.inl (by omega)), u2_comm _ x (J 0 1) (Or.inl (by omega)), u2_comm _ x (-1) (Or.inl (by omega)), u2_comm _ x (nI (n + 1)) (Or.inr (by omega))]
theorem lvf_ap {L : List Nat} {n : Nat} (hm : ∀ i, i ∈ L → i < n) : lvf (L ++ [n]) 0 (n + 1) = lvf L 0 n ++ [n] := by
  unfold lvf
  rw [List.range'_concat, List.filter_append]
  congr 1
  · refine List.filter_congr fun x hx => decide_eq_decide.mpr ?_
    have := (List.mem_range'_1.mp hx).2
    rw [List.mem_append, List.mem_singleton]
    exact ⟨fun q => q.elim id (fun e => by omega), Or.inl⟩
  · simp
theorem opJ_x (J : IT) (n : Nat) (x6 x7 : Int32) : u2 (xI n x6 x7 (J 0 1) J) 0 2 (nI (n + 1)) = opJ J n x6 x7 := rfl
theorem M_openS {I E : IT} {P : PT} {L : List Nat} {n : Nat} {x1 x2 x3 x4 x5 x6 x7 : Int32} (hR : RC I E P L n) (h : okA x1 x2 x3 x4 x6 x7 = true) (hL : L.length < 8) (hn : n < 40) (h5 : x5 = 0 ∨ x5 = 1) {J : IT} (hl : lendI (L ++ [n]) n (opI I n L.length x1 x2 x3 x4 x5) = some J) : ∃ F Q, fX3_open (hC I E P n) 0 x1 x2 x3 x4 x5 x6 x7 (wa n) (ta n) = some (.inr (nI n, hC (lA (L ++ [n]) (opJ (rf J 0) n x6 x7)) F Q (n + 1))) ∧ RC (lA (L ++ [n]) (opJ (rf J 0) n x6 x7)) F Q (L ++ [n]) (n + 1) := by
  rcases S_put (x5 := x5) hR h hL hn with ⟨j1, -⟩ | ⟨J', F, Q, j1, q1, q2, q3, q4, q5, q6⟩
  · rw [hl] at j1; cases j1
  · rw [hl] at j1
    cases j1
    obtain ⟨-, -, -, ⟨k1, k2⟩, k3, k4⟩ := (M_open1 (I := I) (E := E) (P := P) (n := n) (q1 := 0) (q2 := 0) (x5 := x5) h).1
    have ho := M_open2 hR h hL hn h5
    obtain ⟨⟨hS, hB, hT, hP⟩, ⟨hF, ht, hz, hs⟩, ⟨hRM, h02, -⟩⟩ := hR
    have hm := hS.1.1.2.2
    have hRo := (hRM.op hL hn x1 x2 x3 x4 x5).lend hl
    have hdk := dk.e (List.mem_append_right L (List.mem_singleton_self n)) hl
    have j0 : ∀ k, k ≠ 3 → J 0 k = I 0 k := fun k hk => by rw [lendI_low hl (by omega), opI_0 hk]
    have hbl : (lvf L 0 n).length < 8 := by
      have := nd_len _ _ (lvf_nd L 0 n) (fun x hx => lvf_in hx)
      omega
    have hhC : ∀ (F' : IT) (Q' : PT), hC (u2 (xI n x6 x7 (I 0 1) J) 0 2 (nI (n + 1))) F' Q' (n + 1) = hC (opJ (rf J 0) n x6 x7) F' Q' (n + 1) := fun F' Q' => by
      rw [← j0 1 (by omega), opJ_x, opJ_rf, hC_rf]
    have v0 : ∀ k, k ≠ 2 → k ≠ 0 → opJ (rf J 0) n x6 x7 0 k = J 0 k := fun k h1 h2 => by
      rw [opJ_rf, rf_0 _ _ (by omega)]
      simp [opJ, u2, h1]
    have vr : ∀ a, a = 1 ∨ (2 ≤ a ∧ a ≤ 6) ∨ a = 9 ∨ a = 10 ∨ a = 12 ∨ a = 13 ∨ 15 < a → opJ (rf J 0) n x6 x7 a = J a := fun a ha => by
      rw [opJ_rf, rf_a _ _ (by omega)]
      unfold opJ
      rw [u2_r _ _ _ (by omega), u2_r _ _ _ (by omega), u2_r _ _ _ (by omega), u2_r _ _ _ (by omega), u2_r _ _ _ (by omega), u2_r _ _ _ (by omega)]
    have vo : ∀ a j, 1 ≤ a → j ≠ n → opJ (rf J 0) n x6 x7 a j = J a j := fun a j ha hj => by
      rw [opJ_rf, rf_a _ _ ha]
      unfold opJ
      rw [u2_a _ _ _ _ (by omega)]
      simp [u2, hj]
    have vx : ∀ a, 1 ≤ a → opJ (rf J 0) n x6 x7 a = xI n x6 x7 (I 0 1) J a := fun a ha => by
      rw [opJ_rf, rf_a _ _ ha, ← opJ_x, u2_r _ _ _ (by omega), j0 1 (by omega)]
    have vn : opJ (rf J 0) n x6 x7 7 n = x6 ∧ opJ (rf J 0) n x6 x7 8 n = x7 ∧ opJ (rf J 0) n x6 x7 11 n = 1 ∧ opJ (rf J 0) n x6 x7 15 n = -1 := by
      refine ⟨?_, ?_, ?_, ?_⟩ <;> simp [opJ, u2]
    have v2 : opJ (rf J 0) n x6 x7 0 2 = nI (n + 1) := opJ_02
    have hRv : RM (L ++ [n]) (opJ (rf J 0) n x6 x7) := mOpen_j (by rw [rf_0 _ _ (by omega), j0 2 (by omega)]; exact h02) (hRo.rf 0) hn
    rw [ho, q1, Option.bind_some, if_neg e10, C_gi5, Option.bind_some, xI_r (by omega), j0 2 (by omega), h02, nI_1, C_si5, Option.bind_some, hhC, C_gr0, Option.bind_some, C_bob, Option.bind_some, b_addLast (m := (lvf L 0 n).length) (by rw [q3]; exact hB.2) hbl (show n < n + 1 by omega), Option.bind_some, C_ob, Option.bind_some]
    generalize opJ (rf J 0) n x6 x7 = V at v0 vr vo vx vn v2 hRv ⊢
    have hgx : geo (xI n x6 x7 (I 0 1) J) V := fun a h1 _ => vx a (by omega)
    have hSV : cS V (u2 F 2 1 (nI ((lvf L 0 n).length + 1))) (p2 Q 0 (lvf L 0 n).length (some n)) (L ++ [n]) (n + 1) := by
      refine ⟨⟨by rw [p2_r _ _ _ (by omega)]; exact q2.1.1, fun i hi => geo_gOK hgx (q2.1.2.1 i hi), by rw [u2_k _ _ _ (by omega)]; exact q2.1.2.2⟩, q2.2.1, fun i hi => ?_, q2.2.2.2.1.of (vx 15 (by omega)) (u2_r _ _ _ (by omega)) (u2_r _ _ _ (by omega)), ?_⟩
      · rw [u2_r _ _ _ (by omega), geo_seen hgx]; exact q2.2.2.1 i hi
      · rw [u2_k _ _ _ (by omega), q2.2.2.2.2, fr_eq (vx 9 (by omega)) hgx]
    obtain ⟨E', r1, r2, r3⟩ := S_lendToSeen hSV
    refine ⟨E', p2 Q 0 (lvf L 0 n).length (some n), ?_, ?_⟩
    · rw [r1, Option.bind_some, W_gi0 _ _ _ (show n < n + 1 by omega), Option.bind_some]
    · have d := dk.a (L ++ [n]) V
      have hi9 : ∀ a, 7 ≤ a → opI I n L.length x1 x2 x3 x4 x5 a = I a := fun a ha => opI_r ha
      have hF0 : Fa 1 V (L ++ [n]) := fun w hw => by
        by_cases e : w = n
        · subst e
          obtain ⟨n7, n8, n11, n15⟩ := vn
          unfold fw
          rw [n7, n8, n11, n15, vr 13 (by omega), hdk.1 13 (by omega) (by omega) (by omega) (by omega), hi9 13 (by omega), (((hz w (Nat.le_refl _)).1).2).2]
          exact ⟨⟨⟨k1, k2⟩, k3, k4⟩, Or.inl rfl, by decide, Or.inl rfl⟩
        · have hwL : w ∈ L := (List.mem_append.mp hw).resolve_right (fun q => e (List.mem_singleton.mp q))
          have f1 : fw 1 (opI I n L.length x1 x2 x3 x4 x5) w := (hF w hwL).of (opI_0 (by omega)) (fun a h1 _ => by rw [opI_r h1])
          have f2 : Fa 1 J [w] := Fa.dk (fun x hx => by rw [List.mem_singleton.mp hx]; exact f1) hdk
          exact (f2 w (List.mem_singleton_self w)).of (v0 1 (by omega) (by omega)) (fun a h1 _ => vo a w (by omega) e)
      refine ⟨⟨r2, ⟨?_, ?_⟩, fun q hq => ?_, ?_⟩, ⟨hF0.dk d, ?_, fun i hi => ?_, ?_⟩, ⟨hRv.la, by rw [lA_low _ _ (by omega)]; exact v2, by omega⟩⟩
      · rw [lvf_ap hm]
        have hb0 : hLi (Q 0) (lvf L 0 n) (n + 1) := by rw [q4]; exact hB.1.mono (Nat.le_succ n)
        exact hb0.add hbl (by omega)
      · rw [r3.2.1, u2_s, lvf_ap hm, List.length_append]; rfl
      · have hgk : geo (opK I L n x1 x2 x3 x4 x5 x6 x7) (lA (L ++ [n]) V) := fun a h1 h2 => by
          rw [lA_low _ _ (by omega), vr a (by omega), lendI_low hl (by omega), opK, xI_r (by omega)]
        rw [p2_a _ _ _ _ (by omega), q5 q hq, geo_shc hgk]
      · exact q6.up fun i hi => by cases hi; omega
      · unfold tb; rw [lA_low _ _ (by omega), v0 1 (by omega) (by omega), j0 1 (by omega)]; exact ht
      · have hni : i ∉ L ++ [n] := fun q => by
          rcases List.mem_append.mp q with q | q
          · have := hm i q; omega
          · have := List.mem_singleton.mp q; omega
        have e : ∀ a, 7 ≤ a → lA (L ++ [n]) V a i = I a i := fun a ha => by
          rw [d.2.2 a i hni, vo a i (by omega) (by omega), hdk.2.2 a i hni, hi9 a ha]
        rw [e 9 (by omega), e 10 (by omega), e 12 (by omega), e 13 (by omega), e 16 (by omega)]
        exact hz i (by omega)
      · have e : ∀ a, 16 < a → lA (L ++ [n]) V a = I a := fun a ha => by
          rw [lA_low _ _ (by omega), vr a (by omega), lendI_low hl (by omega), hi9 a (by omega)]
        exact hs.of (e 17 (by omega)) (e 18 (by omega))
