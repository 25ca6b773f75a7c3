/-! WHAT HOLDS BETWEEN TWO CALLS, beyond RC -/
def xv (d : Int32) (I : IT) (w : Nat) : Prop := (I 9 w = 0 → I 10 w = 0 ∧ I 15 w = -1) ∧ (0 ≤ I 10 w ∧ I 10 w ≤ I 0 1) ∧ (0 ≤ I 12 w ∧ I 12 w ≤ I 0 1 - d) ∧ (I 11 w = 1 ∨ 0 < I 12 w)
def XA (I : IT) (L : List Nat) : Prop := ∀ w, w ∈ L → xv 0 I w
theorem xv.of {d : Int32} {I J : IT} {w : Nat} (h : xv d I w) (h0 : J 0 1 = I 0 1) (h9 : J 9 w = I 9 w) (h10 : J 10 w = I 10 w) (h11 : J 11 w = I 11 w) (h12 : J 12 w = I 12 w) (h15 : J 15 w = I 15 w) : xv d J w := by
  unfold xv
  rw [h0, h9, h10, h11, h12, h15]
  exact h
theorem drp_15 (I : IT) (w : Nat) : drpI I w 15 w = -1 := by
  unfold drpI
  by_cases h : I 15 w = -1
  · rw [if_pos h, h]
  · rw [if_neg h, u2_a _ _ _ _ (by omega), u2_s]
theorem xv.drp {I : IT} {w j : Nat} (h : xv 0 I j) : xv 0 (drpI I w) j := by
  by_cases e : j = w
  · subst e
    unfold xv
    rw [drp_15, drpI_9 _ _ (by omega), drpI_9 _ _ (by omega), drpI_9 _ _ (by omega), drpI_9 _ _ (by omega), drpI_9 _ _ (by omega)]
    exact ⟨fun q => ⟨(h.1 q).1, rfl⟩, h.2⟩
  · exact h.of (drpI_o _ (Or.inl rfl)) (drpI_o _ (Or.inr e)) (drpI_o _ (Or.inr e)) (drpI_o _ (Or.inr e)) (drpI_o _ (Or.inr e)) (drpI_o _ (Or.inr e))
/-- only pictures and misses: for a window that isn't there yet -/
def xb (I : IT) (w : Nat) : Prop := (0 ≤ I 10 w ∧ I 10 w ≤ I 0 1) ∧ (0 ≤ I 12 w ∧ I 12 w ≤ I 0 1)
theorem lse_o (I : IT) {w j : Nat} (h : j ≠ w) (a : Nat) : lseI I w a j = I a j := by
  unfold lseI
  rw [drpI_o _ (Or.inr h)]
  simp [u2, h]
theorem xv.lse {I : IT} {w j : Nat} (ht : 0 ≤ I 0 1) (h : xv 0 I j) : xv 0 (lseI I w) j := by
  by_cases e : j = w
  · subst e
    unfold xv
    rw [show lseI I j 15 j = -1 from drp_15 _ _, show lseI I j 10 j = 0 by rw [lseI, drpI_9 _ _ (by omega), u2_s], show lseI I j 12 = I 12 by rw [lseI, drpI_9 _ _ (by omega), u2_r _ _ _ (by omega), u2_r _ _ _ (by omega)], show lseI I j 11 = I 11 by rw [lseI, drpI_9 _ _ (by omega), u2_r _ _ _ (by omega), u2_r _ _ _ (by omega)], lse_0]
    exact ⟨fun _ => ⟨rfl, rfl⟩, ⟨Int32.le_refl _, ht⟩, h.2.2⟩
  · exact h.of (by rw [lse_0]) (lse_o I e 9) (lse_o I e 10) (lse_o I e 11) (lse_o I e 12) (lse_o I e 15)
theorem xb.lse {I : IT} {w j : Nat} (ht : 0 ≤ I 0 1) (h : xb I j) : xb (lseI I w) j := by
  by_cases e : j = w
  · subst e
    unfold xb
    rw [show lseI I j 10 j = 0 by rw [lseI, drpI_9 _ _ (by omega), u2_s], show lseI I j 12 = I 12 by rw [lseI, drpI_9 _ _ (by omega), u2_r _ _ _ (by omega), u2_r _ _ _ (by omega)], lse_0]
    exact ⟨⟨Int32.le_refl _, ht⟩, h.2⟩
  · unfold xb
    rw [lse_0, lse_o I e, lse_o I e]
    exact h
theorem xv.s9 {I : IT} {w j : Nat} (h : xv 0 I j) : xv 0 (u2 I 9 w 1) j := by
  by_cases e : j = w
  · subst e
    unfold xv
    rw [u2_s, u2_r _ _ _ (by omega), u2_r _ _ _ (by omega), u2_r _ _ _ (by omega), u2_r _ _ _ (by omega), u2_r _ _ _ (by omega)]
    exact ⟨fun q => absurd q (by decide), h.2⟩
  · exact h.of (by rw [u2_r _ _ _ (by omega)]) (u2_k _ _ _ e) (by rw [u2_r _ _ _ (by omega)]) (by rw [u2_r _ _ _ (by omega)]) (by rw [u2_r _ _ _ (by omega)]) (by rw [u2_r _ _ _ (by omega)])
theorem tk_0 (M : List Nat) (v : Nat) (l : List Nat) (I : IT) : tk M v l I 0 = I 0 := tk_low M v l I (by omega)
theorem xv.tk {M : List Nat} {v j : Nat} : ∀ (l : List Nat) (I : IT), 0 ≤ I 0 1 → xv 0 I j → xv 0 (tk M v l I) j := by
  intro l
  induction l with
  | nil => intro I _ h; exact h
  | cons x l ih =>
    intro I ht h
    unfold Jvm.Pilot.CFrameBrokerLaw_law_r2629_d0af24.tk
    split
    · exact h
    · split
      · exact ih _ (by rw [lse_0]; exact ht) (h.lse ht)
      · exact ih _ ht h
theorem xb.tk {M : List Nat} {v j : Nat} : ∀ (l : List Nat) (I : IT), 0 ≤ I 0 1 → xb I j → xb (tk M v l I) j := by
  intro l
  induction l with
  | nil => intro I _ h; exact h
  | cons x l ih =>
    intro I ht h
    unfold Jvm.Pilot.CFrameBrokerLaw_law_r2629_d0af24.tk
    split
    · exact h
    · split
      · exact ih _ (by rw [lse_0]; exact ht) (h.lse ht)
      · exact ih _ ht h
theorem lendI_s {L : List Nat} {w : Nat} {I J : IT} (h : lendI L w I = some J) : need I w ≤ L.foldl (thf I L w) (fr I L) ∧ J = u2 (tk L w L I) 9 w 1 := by
  unfold lendI at h
  split at h
  · next q => exact ⟨q, (Option.some.inj h).symm⟩
  · cases h
theorem xv.lend {L : List Nat} {w j : Nat} {I J : IT} (ht : 0 ≤ I 0 1) (h : xv 0 I j) (hl : lendI L w I = some J) : xv 0 J j := by
  rw [(lendI_s hl).2]
  exact (xv.tk L I ht h).s9
theorem lend_0 {L : List Nat} {w : Nat} {I J : IT} (hl : lendI L w I = some J) : J 0 = I 0 := lendI_low hl (by omega)
theorem xb.lend {L : List Nat} {w j : Nat} {I J : IT} (ht : 0 ≤ I 0 1) (h : xb I j) (hl : lendI L w I = some J) : xb J j := by
  rw [(lendI_s hl).2]
  have q := xb.tk (M := L) (v := w) L I ht h
  unfold xb at q ⊢
  rw [u2_r _ _ _ (by omega), u2_r _ _ _ (by omega), u2_r _ _ _ (by omega)]
  exact q
theorem stL_0 (L : List Nat) (I : IT) (x : Nat) : stL L I x 0 = I 0 := stL_low L I x (by omega)
theorem xv_sL {L : List Nat} {x j : Nat} {I : IT} (ht : 0 ≤ I 0 1) (h : xv 0 I j) : xv 0 (stL L I x) j := by
  unfold stL
  split
  · cases hl : lendI L x I with
    | none => exact h
    | some J => exact h.lend ht hl
  · exact h
theorem xv_sLs {L : List Nat} {j : Nat} : ∀ (l : List Nat) (I : IT), 0 ≤ I 0 1 → xv 0 I j → xv 0 (l.foldl (stL L) I) j := by
  intro l
  induction l with
  | nil => intro I _ h; exact h
  | cons x l ih => intro I ht h; exact ih _ (by rw [stL_0]; exact ht) (xv_sL ht h)
theorem XA.lA {I : IT} {L : List Nat} (h : XA I L) (ht : 0 ≤ I 0 1) : XA (lA L I) L := fun w hw => xv_sLs L.reverse I ht (h w hw)
/-! pages -/
def ps (I : IT) : List Nat → Int32
  | [] => 0
  | x :: l => pg I x + ps I l
theorem fr_ps (I : IT) : ∀ (l : List Nat) (a : Int32), l.foldl (frf I) a = a - ps I l := by
  intro l
  induction l with
  | nil => intro a; show a = a - 0; grind
  | cons x l ih =>
    intro a
    rw [List.foldl_cons, ih]
    show frf I a x - ps I l = a - (pg I x + ps I l)
    unfold frf pg
    grind
theorem fr_eq_ps (I : IT) (L : List Nat) : fr I L = 24 - ps I L := fr_ps I L 24
theorem need_t : ∀ a : Fin 9, ∀ b : Fin 7, (nI a * nI b + 3) / 4 = nI ((a * b + 3) / 4) := by decide +kernel
theorem need_n {I : IT} {w : Nat} (h : gOK I w) : ∃ m, (1 ≤ m ∧ m ≤ 12) ∧ need I w = nI m := by
  obtain ⟨-, ⟨h1, h2⟩, h3, h4⟩ := h
  obtain ⟨a, ha, ea⟩ := i_nI (m := 8) (Int32.le_trans (by decide) h1) h2 (by decide)
  obtain ⟨b, hb, eb⟩ := i_nI (m := 6) (Int32.le_trans (by decide) h3) h4 (by decide)
  have ha1 : 1 ≤ a := by
    rw [ea] at h1
    exact (nI_L (a := 1) (by decide) (by omega)).mp h1
  have hb1 : 1 ≤ b := by
    rw [eb] at h3
    exact (nI_L (a := 1) (by decide) (by omega)).mp h3
  refine ⟨(a * b + 3) / 4, ⟨?_, ?_⟩, ?_⟩
  · have := Nat.mul_le_mul ha1 hb1
    omega
  · have := Nat.mul_le_mul ha hb
    omega
  · unfold need
    rw [ea, eb]
    exact need_t ⟨a, by omega⟩ ⟨b, by omega⟩
theorem pg_n {I : IT} {w : Nat} (h : gOK I w) : ∃ m, m ≤ 12 ∧ pg I w = nI m := by
  unfold pg
  by_cases h9 : I 9 w = 0
  · rw [if_pos h9]; exact ⟨0, by omega, rfl⟩
  · rw [if_neg h9]
    obtain ⟨m, h1, h2⟩ := need_n h
    exact ⟨m, h1.2, h2⟩
theorem ps_n {I : IT} : ∀ (l : List Nat), (∀ w, w ∈ l → gOK I w) → ∃ m, m ≤ 12 * l.length ∧ ps I l = nI m := by
  intro l
  induction l with
  | nil => intro _; exact ⟨0, by omega, rfl⟩
  | cons x l ih =>
    intro h
    obtain ⟨m, h1, h2⟩ := ih fun w hw => h w (List.mem_cons_of_mem _ hw)
    obtain ⟨p, h3, h4⟩ := pg_n (h x List.mem_cons_self)
    refine ⟨p + m, by rw [List.length_cons]; omega, ?_⟩
    show pg I x + ps I l = _
    rw [h2, h4, nI_add]
theorem fr_n {I : IT} {L : List Nat} (hg : ∀ w, w ∈ L → gOK I w) (h8 : L.length ≤ 8) (hf : 0 ≤ fr I L) : ∃ m, m ≤ 24 ∧ fr I L = nI m ∧ ps I L = nI (24 - m) := by
  obtain ⟨p, h1, h2⟩ := ps_n L hg
  rw [fr_eq_ps, h2] at hf ⊢
  have h24 : p ≤ 24 := by
    refine Nat.not_lt.mp fun h => ?_
    obtain ⟨q, rfl⟩ : ∃ q, p = 25 + q := ⟨p - 25, by omega⟩
    have h5 : nI q ≤ nI 100 := (nI_L (by omega) (by omega)).mpr (by omega)
    have h6 : 0 ≤ nI q := nI_pos' (by omega)
    rw [← nI_add, show nI 25 = (25 : Int32) by decide] at hf
    rw [show nI 100 = (100 : Int32) by decide] at h5
    generalize nI q = y at hf h5 h6
    grind
  refine ⟨24 - p, by omega, ?_, by rw [show 24 - (24 - p) = p by omega]⟩
  have : nI (24 - p) + nI p = 24 := by rw [nI_add, show 24 - p + p = 24 by omega]; rfl
  grind
/-- enough is taken back -/
theorem thf_out {I J : IT} {L : List Nat} {w i : Nat} (h : ∀ j, j ≠ i → cl J L j w = cl I L j w) (hn : ∀ j, need J j = need I j) : ∀ (l : List Nat) (a : Int32), i ∉ l → l.foldl (thf J L w) a = l.foldl (thf I L w) a := by
  intro l
  induction l with
  | nil => intro a _; rfl
  | cons x l ih =>
    intro a hi
    rw [List.foldl_cons, List.foldl_cons, ih _ (fun q => hi (List.mem_cons_of_mem _ q))]
    unfold thf
    rw [h x (fun q => hi (by rw [q]; exact List.mem_cons_self)), hn]
theorem tk_fr {L : List Nat} {w : Nat} (hd : L.Nodup) : ∀ (l : List Nat) (I : IT), l.Nodup → (∀ x, x ∈ l → x ∈ L) → need I w ≤ l.foldl (thf I L w) (fr I L) → need I w ≤ fr (tk L w l I) L := by
  intro l
  induction l with
  | nil => intro I _ _ h; exact h
  | cons x l ih =>
    intro I hn hm h
    obtain ⟨n1, n2⟩ := List.nodup_cons.mp hn
    unfold tk
    by_cases h1 : need I w ≤ fr I L
    · rw [if_pos h1]; exact h1
    · rw [if_neg h1]
      by_cases h2 : cl I L x w = true
      · rw [if_pos h2]
        have h9 : ¬ I 9 x = 0 := fun q => by simp [cl, q] at h2
        have hx := hm x List.mem_cons_self
        have e := lse_fr hx hd h9
        have q := ih (lseI I x) n2 (fun y hy => hm y (List.mem_cons_of_mem _ hy)) (by
          rw [geo_need (lse_g I x), e, thf_out (I := I) (i := x) (fun j hj => by unfold cl; rw [lse_o I hj, geo_seen (lse_g I x)]) (fun j => geo_need (lse_g I x) j) _ _ n1]
          rw [List.foldl_cons] at h
          unfold thf at h ⊢
          rw [if_pos h2] at h
          exact h)
        rw [geo_need (lse_g I x)] at q
        exact q
      · rw [if_neg h2]
        refine ih I n2 (fun y hy => hm y (List.mem_cons_of_mem _ hy)) ?_
        rw [List.foldl_cons] at h
        rw [show thf I L w (fr I L) x = fr I L by unfold thf; rw [if_neg h2]; grind] at h
        exact h
theorem tk_9w {L : List Nat} {w : Nat} : ∀ (l : List Nat) (I : IT), tk L w l I 9 w = I 9 w := by
  intro l
  induction l with
  | nil => intro I; rfl
  | cons x l ih =>
    intro I
    unfold tk
    split
    · rfl
    · split
      · next h =>
        rw [ih, lse_9, u2_k _ _ _ (fun q => by subst q; simp [cl] at h)]
      · exact ih I
theorem lend_fr {L : List Nat} {w : Nat} {I J : IT} (hd : L.Nodup) (hw : w ∈ L) (h9 : I 9 w = 0) (hg : gOK I w) (hl : lendI L w I = some J) : 0 ≤ fr J L := by
  obtain ⟨h1, rfl⟩ := lendI_s hl
  have h2 := tk_fr hd L I hd (fun _ q => q) h1
  have gk : geo I (tk L w L I) := fun a q1 q2 => tk_low L w L I (by omega)
  rw [fr_in (I := tk L w L I) (fun j hj => by unfold pg; rw [u2_k _ _ _ hj, geo_need (geo.u _ _ _ (by omega))]) hw hd]
  unfold pg
  rw [tk_9w, if_pos h9, u2_s, if_neg e10, geo_need (geo.u _ _ _ (by omega)), geo_need gk]
  obtain ⟨m, hm, e⟩ := need_n hg
  rw [e] at h2 ⊢
  have h3 : nI m ≤ 12 := (nI_L (b := 12) (by omega) (by decide)).mpr hm.2
  have h4 : 0 ≤ nI m := nI_pos' (by omega)
  generalize nI m = y at h2 h3 h4
  generalize fr (tk L w L I) L = z at h2
  grind
theorem fr_stL {L : List Nat} {I : IT} (hd : L.Nodup) (hg : ∀ w, w ∈ L → gOK I w) (hf : 0 ≤ fr I L) {x : Nat} (hx : x ∈ L) : 0 ≤ fr (stL L I x) L := by
  unfold stL
  split
  · next h =>
    cases hl : lendI L x I with
    | none => exact hf
    | some J => exact lend_fr hd hx h.1 (hg x hx) hl
  · exact hf
theorem fr_stLs {L : List Nat} (hd : L.Nodup) : ∀ (l : List Nat) (I : IT), (∀ x, x ∈ l → x ∈ L) → (∀ w, w ∈ L → gOK I w) → 0 ≤ fr I L → 0 ≤ fr (l.foldl (stL L) I) L := by
  intro l
  induction l with
  | nil => intro I _ _ h; exact h
  | cons x l ih =>
    intro I hm hg hf
    exact ih _ (fun y hy => hm y (List.mem_cons_of_mem _ hy)) (fun w hw => geo_gOK (fun a q1 q2 => stL_low L I x (by omega)) (hg w hw)) (fr_stL hd hg hf (hm x List.mem_cons_self))
theorem fr_lA {L : List Nat} {I : IT} (hd : L.Nodup) (hg : ∀ w, w ∈ L → gOK I w) (hf : 0 ≤ fr I L) : 0 ≤ fr (lA L I) L := fr_stLs hd L.reverse I (fun x hx => List.mem_reverse.mp hx) hg hf
