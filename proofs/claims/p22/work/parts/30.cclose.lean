/-! THE COMPONENT: close and lay -/
theorem er_f : ∀ (l : List Nat) (p v : Nat), l.Nodup → l[p]? = some v → l.eraseIdx p = l.filter fun x => decide (x ≠ v) := by
  intro l
  induction l with
  | nil => intro p v _ h; cases h
  | cons y l ih =>
    intro p v hd h
    obtain ⟨d1, d2⟩ := List.nodup_cons.mp hd
    cases p with
    | zero =>
      cases h
      rw [List.eraseIdx_cons_zero, List.filter_cons_of_neg (by simp)]
      refine (List.filter_eq_self.mpr fun x hx => ?_).symm
      exact decide_eq_true fun e => d1 (by rw [← e]; exact hx)
    | succ p =>
      rw [List.getElem?_cons_succ] at h
      have hy : y ≠ v := fun e => d1 (by rw [e]; exact List.mem_of_getElem? h)
      rw [List.eraseIdx_cons_succ, List.filter_cons_of_pos (by simp [hy]), ih p v d2 h]
theorem er_mem {l : List Nat} {p v : Nat} (hd : l.Nodup) (h : l[p]? = some v) {x : Nat} : x ∈ l.eraseIdx p ↔ x ∈ l ∧ x ≠ v := by
  rw [er_f l p v hd h, List.mem_filter, decide_eq_true_iff]
theorem er_nd {l : List Nat} (p : Nat) (hd : l.Nodup) : (l.eraseIdx p).Nodup := hd.sublist (List.eraseIdx_sublist l p)
theorem lvf_er {L : List Nat} {n p q v : Nat} (hd : L.Nodup) (h : L[p]? = some v) (hq : (lvf L 0 n)[q]? = some v) : lvf (L.eraseIdx p) 0 n = (lvf L 0 n).eraseIdx q := by
  rw [er_f _ q v (lvf_nd L 0 n) hq]
  unfold lvf
  rw [List.filter_filter]
  refine List.filter_congr fun x _ => ?_
  rw [← Bool.decide_and]
  exact decide_eq_decide.mpr (by rw [er_mem hd h]; exact And.comm)
theorem lvf_c {L M : List Nat} (n : Nat) (h : ∀ x, x ∈ M ↔ x ∈ L) : lvf M 0 n = lvf L 0 n := by
  unfold lvf
  exact List.filter_congr fun x _ => decide_eq_decide.mpr (h x)
theorem fr_er {I : IT} {L : List Nat} {p v : Nat} (h : L[p]? = some v) : fr I (L.eraseIdx p) = fr I L + pg I v := by
  have hp := (List.getElem?_eq_some_iff.mp h).1
  have hl : L = L.take p ++ v :: L.drop (p + 1) := by
    have e1 := (List.take_append_drop p L).symm
    rw [List.drop_eq_getElem_cons hp, (List.getElem?_eq_some_iff.mp h).2] at e1
    exact e1
  have e : frf I ((L.take p).foldl (frf I) 24) v = (L.take p).foldl (frf I) 24 + (0 - pg I v) := by unfold frf pg; grind
  have e2 : fr I L = fr I (L.eraseIdx p) + (0 - pg I v) := by
    rw [List.eraseIdx_eq_take_drop_succ]
    conv => lhs; rw [hl]
    unfold fr
    rw [List.foldl_append, List.foldl_append, List.foldl_cons, e, frf_lin]
  rw [e2]
  grind
/-- two lists with the same windows use the same pages -/
theorem fr_app (I : IT) (l m : List Nat) : fr I (l ++ m) = fr I l + (fr I m - 24) := by
  unfold fr
  rw [List.foldl_append, show m.foldl (frf I) (l.foldl (frf I) 24) = m.foldl (frf I) (24 + (l.foldl (frf I) 24 - 24)) by rw [show (24 : Int32) + (l.foldl (frf I) 24 - 24) = l.foldl (frf I) 24 by grind], frf_lin]
  grind
theorem fr_1 (I : IT) (v : Nat) : fr I [v] = 24 - pg I v := rfl
theorem RC.hCe {I K E : IT} {P : PT} {n : Nat} (h0 : ∀ k, (k = 1 ∨ k = 2) → K 0 k = I 0 k) (h : ∀ a, 2 ≤ a → K a = I a) : hC K E P n = hC I E P n := hC_I _ _ _ _ _ (h0 1 (by omega)) (h0 2 (by omega)) (fun a q _ _ => h a q)
theorem M_closeN {I E : IT} {P : PT} {L : List Nat} {n : Nat} (h : RC I E P L n) {x : Int32} (hx : plc x 0 L = -1) : fX3_close (hC I E P n) 0 x = some (.inl ("java/lang/IndexOutOfBoundsException", hC I E P n)) := by
  rw [fX3_close, C_ob, Option.bind_some, F_no h hx, Option.bind_some]
/-- a change of the stack's own row: the rest of what holds -/
theorem Fa.k {I K : IT} {L M : List Nat} (h : Fa 1 I L) (hm : ∀ x, x ∈ M → x ∈ L) (h0 : K 0 1 = I 0 1) (hr : ∀ a, 2 ≤ a → K a = I a) : Fa 1 K M := fun w hw => (h w (hm w hw)).of h0 (fun a h1 h2 => by rw [hr a (by omega)])
theorem pg_k {I K : IT} (hr : ∀ a, 2 ≤ a → K a = I a) (v : Nat) : pg K v = pg I v := by
  unfold pg need
  rw [hr 9 (by omega), hr 4 (by omega), hr 5 (by omega)]
theorem fr_k {I K : IT} (hr : ∀ a, 2 ≤ a → K a = I a) (L : List Nat) : fr K L = fr I L := fr_eq (hr 9 (by omega)) (fun a h1 _ => hr a h1) L
theorem M_closeY {I E : IT} {P : PT} {L : List Nat} {n p v : Nat} (h : RC I E P L n) (hp : L[p]? = some v) (hx : plc (nI v) 0 L = nI p) : ∃ E' P', fX3_close (hC I E P n) 0 (nI v) = some (.inr (nI (L.length - 1), hC (lA (L.eraseIdx p) (clI I p L.length)) E' P' n)) ∧ RC (lA (L.eraseIdx p) (clI I p L.length)) E' P' (L.eraseIdx p) n := by
  obtain ⟨q, ⟨p', hb1, hb2⟩, hv, hm⟩ := F_yes h hp
  obtain ⟨⟨hS, hB, hT, hP⟩, ⟨hF, ht, hz, hs⟩, ⟨hR, h02, hn⟩⟩ := h
  have hpl := (List.getElem?_eq_some_iff.mp hp).1
  have hpb := (List.getElem?_eq_some_iff.mp hb1).1
  have h8 := hS.1.1.2.1
  have hRK := hR.cl hpl
  have r0 : ∀ k, k ≠ 3 → clI I p L.length 0 k = I 0 k := fun k hk => by unfold clI; rw [u2_k _ _ _ hk, shl_r _ _ _ (by omega)]
  have rr : ∀ a, 2 ≤ a → clI I p L.length a = I a := fun a ha => by unfold clI; rw [u2_r _ _ _ (by omega), shl_r _ _ _ (by omega)]
  have hKI : hC (clI I p L.length) E P n = hC I E P n := RC.hCe (fun k hk => r0 k (by omega)) rr
  rw [← hKI] at q ⊢
  generalize clI I p L.length = K at hRK r0 rr q ⊢
  have hl : (L.eraseIdx p).length = L.length - 1 := List.length_eraseIdx_of_lt hpl
  have e1 := s_remove (I := K) (E := E) hS.1.1 (fun q i hq => hP 1 q i hq) (by omega) hx hpl
  have hB0 : hLi (prm P 1 p 0) (lvf L 0 n) n := by rw [prm_r _ _ _ (by omega)]; exact hB.1
  have e2 := b_remove (I := K) (E := u2 E 2 2 (E 2 2 - 1)) hB0 (fun q i hq => hP 0 q i (by rw [prm_r _ _ _ (by omega)] at hq; exact hq)) (by omega) hb2 hpb
  have hP1 : pB (prm (prm P 1 p) 0 p') n := by
    have base : ∀ (Q : PT) (a p : Nat), pB Q n → pB (prm Q a p) n := fun Q a p hQ b k i hi => by
      unfold prm at hi
      by_cases hb : b = a
      · subst hb
        by_cases hk : k = 7
        · subst hk; rw [p2_s] at hi; cases hi
        · rw [p2_k _ _ _ hk, psh_1] at hi
          split at hi
          · exact hQ b _ i hi
          · exact hQ b _ i hi
      · rw [p2_r _ _ _ hb, psh_r _ _ _ _ hb] at hi
        exact hQ b k i hi
    exact base _ _ _ (base _ _ _ hP)
  have hsz : E 2 2 - 1 = nI (L.length - 1) := by
    rw [hS.1.2.2]
    obtain ⟨q, hq⟩ : ∃ q, L.length = q + 1 := ⟨L.length - 1, by omega⟩
    rw [hq, nI_pred]; rfl
  have hbz : E 2 1 - 1 = nI ((lvf L 0 n).length - 1) := by
    rw [hB.2]
    obtain ⟨q, hq⟩ : ∃ q, (lvf L 0 n).length = q + 1 := ⟨(lvf L 0 n).length - 1, by omega⟩
    rw [hq, nI_pred]; rfl
  have hbl : ((lvf L 0 n).eraseIdx p').length = (lvf L 0 n).length - 1 := List.length_eraseIdx_of_lt hpb
  obtain ⟨E3, hE3⟩ : ∃ E3, E3 = u2 (u2 (u2 E 2 2 (E 2 2 - 1)) 2 1 (u2 E 2 2 (E 2 2 - 1) 2 1 - 1)) 2 0 (u2 (u2 E 2 2 (E 2 2 - 1)) 2 1 (u2 E 2 2 (E 2 2 - 1) 2 1 - 1) 2 0 + (if K 9 v = 0 then 0 else need K v)) := ⟨_, rfl⟩
  have c0 : E3 2 0 = fr I L + pg K v := by
    rw [hE3, u2_s, u2_k _ _ _ (by omega), u2_k _ _ _ (by omega), hS.2.2.2.2]; rfl
  have c1 : E3 2 1 = nI ((lvf L 0 n).length - 1) := by rw [hE3, u2_k _ _ _ (by omega), u2_s, u2_k _ _ _ (by omega), hbz]
  have c2 : E3 2 2 = nI (L.length - 1) := by rw [hE3, u2_k _ _ _ (by omega), u2_k _ _ _ (by omega), u2_s, hsz]
  have cr : ∀ a, a ≠ 2 → E3 a = E a := fun a ha => by rw [hE3, u2_r _ _ _ ha, u2_r _ _ _ ha, u2_r _ _ _ ha]
  have hcP : cP K E3 (prm (prm P 1 p) 0 p') (L.eraseIdx p) n := by
    refine ⟨⟨?_, fun i hi => ?_, by rw [c2, hl]⟩, er_nd p hS.2.1, hS.2.2.2.1.of (rr 15 (by omega)) (cr 3 (by omega)) (cr 0 (by omega)), ?_⟩
    · rw [prm_r _ _ _ (by omega)]; exact hS.1.1.rm hpl
    · exact geo_gOK (fun a h1 _ => rr a h1) (hS.1.2.1 i ((er_mem hS.2.1 hp).mp hi).1)
    · rw [c0, fr_k rr, fr_er hp, pg_k rr]
  obtain ⟨E', P', q1, q2⟩ := S_re hcP ⟨by rw [lvf_er hS.2.1 hp hb1]; exact hB0.rm hpb, by rw [c1, lvf_er hS.2.1 hp hb1, hbl]⟩ hP1 (hF.k (fun x hx => ((er_mem hS.2.1 hp).mp hx).1) (r0 1 (by omega)) rr) (by unfold tb; rw [r0 1 (by omega)]; exact ht) (hz.of (fun i _ a h1 h2 => by rw [rr a (by omega)])) (hs.of (rr _ (by omega)) (rr _ (by omega))) hRK (by rw [r0 2 (by omega)]; exact h02) hn
  refine ⟨E', P', ?_, q2⟩
  rw [fX3_close, C_ob, Option.bind_some, q, Option.bind_some]
  dsimp only
  rw [C_gr1, Option.bind_some, C_sob, Option.bind_some, e1, Option.bind_some, C_gr0, Option.bind_some, C_bob, Option.bind_some, e2, Option.bind_some, C_gi6, Option.bind_some, Option.bind_some, W_ob _ _ _ hv, Option.bind_some, W_held _ _ _ hv, Option.bind_some, C_si6, Option.bind_some, ← hE3, C_ob, Option.bind_some, q1, Option.bind_some, C_gr1, Option.bind_some, C_sob, Option.bind_some, s_count, Option.bind_some, q2.1.1.1.2.2, hl]
/-! lay -/
theorem M_layN {I E : IT} {P : PT} {L : List Nat} {n : Nat} (h : RC I E P L n) {x x2 : Int32} (hx : plc x 0 L = -1) : fX3_lay (hC I E P n) 0 x x2 = some (.inl ("java/lang/IndexOutOfBoundsException", hC I E P n)) := by
  rw [fX3_lay, C_ob, Option.bind_some, F_no h hx, Option.bind_some]
theorem pB.up {Q : PT} {a k n : Nat} {x : Option Nat} (h : pB Q n) (hx : ∀ i, x = some i → i < n) : pB (p2 Q a k x) n := fun b j i hi => by
  unfold p2 at hi
  split at hi
  · exact hx i hi
  · exact h b j i hi
theorem pB.rm {Q : PT} {a p n : Nat} (h : pB Q n) : pB (prm Q a p) n := by
  have key : ∀ (j k : Nat) (R : PT), pB R n → pB (psh a j k R) n := by
    intro j
    induction j with
    | zero => intro k R hR; exact hR
    | succ j ih => intro k R hR; exact ih _ _ (hR.up fun i hi => hR a _ i hi)
  exact (key _ _ _ h).up fun i hi => by cases hi
theorem pB.sr {Q : PT} {a n : Nat} (j : Nat) (h : pB Q n) : pB (psr a j Q) n := by
  revert Q
  induction j with
  | zero => intro Q h; exact h
  | succ j ih => intro Q h; exact ih (h.up fun i hi => h a _ i hi)
theorem lay_fr {I : IT} {L : List Nat} {p v : Nat} (hp : L[p]? = some v) : fr I (L.eraseIdx p ++ [v]) = fr I L ∧ fr I (v :: L.eraseIdx p) = fr I L := by
  constructor
  · rw [fr_app, fr_1, fr_er hp]; grind
  · rw [show v :: L.eraseIdx p = [v] ++ L.eraseIdx p from rfl, fr_app, fr_1, fr_er hp]; grind
/-- both ways to lay, from there on -/
theorem M_layT {K E E2 : IT} {P P2 : PT} {I : IT} {L M : List Nat} {n : Nat} (h : RC I E P L n) (hmem : ∀ x, x ∈ M ↔ x ∈ L) (hnd : M.Nodup) (hlen : M.length = L.length) (r0 : ∀ k, K 0 k = I 0 k) (rr : ∀ a, 2 ≤ a → K a = I a) (hRK : RM M K) (hL2 : hLi (P2 1) M n) (hP2 : ∀ b, b ≠ 1 → P2 b = P b) (hpb : pB P2 n) (c2 : E2 2 2 = nI L.length) (c0 : E2 2 0 = E 2 0) (c1 : E2 2 1 = E 2 1) (cr : ∀ a, a ≠ 2 → E2 a = E a) (hfr : fr I M = fr I L) : ∃ E' P', fX3_rearrange (hC K E2 P2 n) 0 = some (hC (lA M K) E' P' n) ∧ RC (lA M K) E' P' M n := by
  obtain ⟨⟨hS, hB, hT, hP⟩, ⟨hF, ht, hz, hs⟩, ⟨hR, h02, hn⟩⟩ := h
  refine S_re ⟨⟨hL2, fun i hi => geo_gOK (fun a h1 _ => rr a h1) (hS.1.2.1 i ((hmem i).mp hi)), by rw [c2, hlen]⟩, hnd, hS.2.2.2.1.of (rr 15 (by omega)) (cr 3 (by omega)) (cr 0 (by omega)), by rw [c0, hS.2.2.2.2, fr_k rr, hfr]⟩ ⟨by rw [hP2 0 (by omega), lvf_c n hmem]; exact hB.1, by rw [c1, lvf_c n hmem]; exact hB.2⟩ hpb (hF.k (fun x hx => (hmem x).mp hx) (r0 1) rr) (by unfold tb; rw [r0 1]; exact ht) (hz.of (fun i _ a h1 h2 => by rw [rr a (by omega)])) (hs.of (rr _ (by omega)) (rr _ (by omega))) hRK (by rw [r0 2]; exact h02) hn
theorem M_layU {I E : IT} {P : PT} {L : List Nat} {n p v : Nat} (h : RC I E P L n) (hp : L[p]? = some v) (hx : plc (nI v) 0 L = nI p) {x2 : Int32} (h2 : x2 ≠ 0) : ∃ E' P', fX3_lay (hC I E P n) 0 (nI v) x2 = some (.inr (nI p, hC (lA (L.eraseIdx p ++ [v]) (upI I p L.length v)) E' P' n)) ∧ RC (lA (L.eraseIdx p ++ [v]) (upI I p L.length v)) E' P' (L.eraseIdx p ++ [v]) n := by
  obtain ⟨q, -, hv, hm⟩ := F_yes h hp
  have hS := h.1.1
  have hP := h.1.2.2.2
  have hn := h.2.2.2.2
  have hpl := (List.getElem?_eq_some_iff.mp hp).1
  have h8 := hS.1.1.2.1
  have hRK := h.2.2.1.up (v := v) hpl (by have := h.2.2.1.mem hm; omega)
  have r0 : ∀ k, upI I p L.length v 0 k = I 0 k := fun k => by unfold upI; rw [u2_a _ _ _ _ (by omega), shl_r _ _ _ (by omega)]
  have rr : ∀ a, 2 ≤ a → upI I p L.length v a = I a := fun a ha => by unfold upI; rw [u2_r _ _ _ (by omega), shl_r _ _ _ (by omega)]
  have hKI : hC (upI I p L.length v) E P n = hC I E P n := RC.hCe (fun k hk => r0 k) rr
  rw [← hKI] at q ⊢
  generalize upI I p L.length v = K at hRK r0 rr q ⊢
  have hl : (L.eraseIdx p).length = L.length - 1 := List.length_eraseIdx_of_lt hpl
  have e0 := s_indexOf (I := K) (E := E) hS.1.1 (by omega) (nI v)
  have e1 := s_remove (I := K) (E := E) hS.1.1 (fun q i hq => hP 1 q i hq) (by omega) hx hpl
  have hsz : E 2 2 - 1 = nI (L.length - 1) := by
    rw [hS.1.2.2]
    obtain ⟨q, hq⟩ : ∃ q, L.length = q + 1 := ⟨L.length - 1, by omega⟩
    rw [hq, nI_pred]; rfl
  have e2 := s_addLast (I := K) (E := u2 E 2 2 (E 2 2 - 1)) (P := prm P 1 p) (m := L.length - 1) (by rw [u2_s, hsz]) (by omega) hv
  have hmem : ∀ x, x ∈ L.eraseIdx p ++ [v] ↔ x ∈ L := fun x => by
    rw [List.mem_append, er_mem hS.2.1 hp, List.mem_singleton]
    constructor
    · rintro (⟨h1, -⟩ | rfl)
      · exact h1
      · exact hm
    · intro h1
      by_cases e : x = v
      · exact Or.inr e
      · exact Or.inl ⟨h1, e⟩
  have hL2 := (hS.1.1.rm hpl).add (by omega) hv
  rw [hl] at hL2
  obtain ⟨E', P', q1, q2⟩ := M_layT (K := K) (E2 := u2 (u2 E 2 2 (E 2 2 - 1)) 2 2 (nI (L.length - 1 + 1))) (P2 := p2 (prm P 1 p) 1 (L.length - 1) (some v)) h hmem (by
      rw [List.nodup_append]
      refine ⟨er_nd p hS.2.1, by simp, fun a ha b hb => ?_⟩
      rw [List.mem_singleton.mp hb]
      exact ((er_mem hS.2.1 hp).mp ha).2) (by simp; omega) r0 rr hRK hL2 (fun b hb => by rw [p2_r _ _ _ hb, prm_r _ _ _ hb]) (hP.rm.up fun i hi => by cases hi; exact hv) (by rw [u2_s]; congr 1; omega) (by rw [u2_k _ _ _ (by omega), u2_k _ _ _ (by omega)]) (by rw [u2_k _ _ _ (by omega), u2_k _ _ _ (by omega)]) (fun a ha => by rw [u2_r _ _ _ ha, u2_r _ _ _ ha]) (lay_fr hp).1
  refine ⟨E', P', ?_, q2⟩
  rw [fX3_lay, C_ob, Option.bind_some, q, Option.bind_some]
  dsimp only
  rw [C_gr1, Option.bind_some, C_sob, Option.bind_some, e0, Option.bind_some, Option.bind_some, C_sob, Option.bind_some, e1, Option.bind_some, if_neg h2, C_gr1, Option.bind_some, C_sob, Option.bind_some, e2, Option.bind_some, fX3_lay_47, C_ob, Option.bind_some, q1, Option.bind_some, hx]
theorem M_layD {I E : IT} {P : PT} {L : List Nat} {n p v : Nat} (h : RC I E P L n) (hp : L[p]? = some v) (hx : plc (nI v) 0 L = nI p) : ∃ E' P', fX3_lay (hC I E P n) 0 (nI v) 0 = some (.inr (nI p, hC (lA (v :: L.eraseIdx p) (dnI I p v)) E' P' n)) ∧ RC (lA (v :: L.eraseIdx p) (dnI I p v)) E' P' (v :: L.eraseIdx p) n := by
  obtain ⟨q, -, hv, hm⟩ := F_yes h hp
  have hS := h.1.1
  have hP := h.1.2.2.2
  have hn := h.2.2.2.2
  have hpl := (List.getElem?_eq_some_iff.mp hp).1
  have h8 := hS.1.1.2.1
  have hRK := h.2.2.1.dn (v := v) hpl (by have := h.2.2.1.mem hm; omega)
  have r0 : ∀ k, dnI I p v 0 k = I 0 k := fun k => by unfold dnI; rw [u2_a _ _ _ _ (by omega), shr_r _ _ (by omega)]
  have rr : ∀ a, 2 ≤ a → dnI I p v a = I a := fun a ha => by unfold dnI; rw [u2_r _ _ _ (by omega), shr_r _ _ (by omega)]
  have hKI : hC (dnI I p v) E P n = hC I E P n := RC.hCe (fun k hk => r0 k) rr
  rw [← hKI] at q ⊢
  generalize dnI I p v = K at hRK r0 rr q ⊢
  have hl : (L.eraseIdx p).length = L.length - 1 := List.length_eraseIdx_of_lt hpl
  have e0 := s_indexOf (I := K) (E := E) hS.1.1 (by omega) (nI v)
  have e1 := s_remove (I := K) (E := E) hS.1.1 (fun q i hq => hP 1 q i hq) (by omega) hx hpl
  have hsz : E 2 2 - 1 = nI (L.length - 1) := by
    rw [hS.1.2.2]
    obtain ⟨q, hq⟩ : ∃ q, L.length = q + 1 := ⟨L.length - 1, by omega⟩
    rw [hq, nI_pred]; rfl
  have e2 := s_addFirst (I := K) (E := u2 E 2 2 (E 2 2 - 1)) (P := prm P 1 p) (m := L.length - 1) (by rw [u2_s, hsz]) (by omega) hv (fun q i hq => hP.rm 1 q i hq)
  have hmem : ∀ x, x ∈ v :: L.eraseIdx p ↔ x ∈ L := fun x => by
    rw [List.mem_cons, er_mem hS.2.1 hp]
    constructor
    · rintro (rfl | ⟨h1, -⟩)
      · exact hm
      · exact h1
    · intro h1
      by_cases e : x = v
      · exact Or.inl e
      · exact Or.inr ⟨h1, e⟩
  have hL2 := (hS.1.1.rm hpl).cons (by omega) hv
  rw [hl] at hL2
  obtain ⟨E', P', q1, q2⟩ := M_layT (K := K) (E2 := u2 (u2 E 2 2 (E 2 2 - 1)) 2 2 (nI (L.length - 1 + 1))) (P2 := p2 (psr 1 (L.length - 1) (prm P 1 p)) 1 0 (some v)) h hmem (List.nodup_cons.mpr ⟨fun q => ((er_mem hS.2.1 hp).mp q).2 rfl, er_nd p hS.2.1⟩) (by simp; omega) r0 rr hRK hL2 (fun b hb => by rw [p2_r _ _ _ hb, psr_r _ _ _ hb, prm_r _ _ _ hb]) ((hP.rm.sr _).up fun i hi => by cases hi; exact hv) (by rw [u2_s]; congr 1; omega) (by rw [u2_k _ _ _ (by omega), u2_k _ _ _ (by omega)]) (by rw [u2_k _ _ _ (by omega), u2_k _ _ _ (by omega)]) (fun a ha => by rw [u2_r _ _ _ ha, u2_r _ _ _ ha]) (lay_fr hp).2
  refine ⟨E', P', ?_, q2⟩
  rw [fX3_lay, C_ob, Option.bind_some, q, Option.bind_some]
  dsimp only
  rw [C_gr1, Option.bind_some, C_sob, Option.bind_some, e0, Option.bind_some, Option.bind_some, C_sob, Option.bind_some, e1, Option.bind_some, if_pos rfl, C_gr1, Option.bind_some, C_sob, Option.bind_some, e2, Option.bind_some, fX3_lay_47, C_ob, Option.bind_some, q1, Option.bind_some, hx]
