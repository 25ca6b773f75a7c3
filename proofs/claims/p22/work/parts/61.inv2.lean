/-! .. and every call keeps it -/
def INV (g : Sg) : Prop := (∃ E P, GC g E P) ∧ XA g.1 g.2.1 ∧ 0 ≤ fr g.1 g.2.1
theorem INV.tk0 {g : Sg} (h : INV g) : 0 ≤ g.1 0 1 ∧ g.1 0 1 ≤ 100000 := by
  obtain ⟨⟨E, P, hR⟩, -⟩ := h
  exact hR.2.1.2.1
theorem INV.nd {g : Sg} (h : INV g) : g.2.1.Nodup := by
  obtain ⟨⟨E, P, hR⟩, -⟩ := h
  exact hR.1.1.2.1
theorem INV.gk {g : Sg} (h : INV g) : ∀ w, w ∈ g.2.1 → gOK g.1 w := by
  obtain ⟨⟨E, P, hR⟩, -⟩ := h
  exact hR.1.1.1.2.1
theorem INV.lt {g : Sg} (h : INV g) : ∀ w, w ∈ g.2.1 → w < g.2.2 := by
  obtain ⟨⟨E, P, hR⟩, -⟩ := h
  exact hR.1.1.1.1.2.2
theorem INV.n40 {g : Sg} (h : INV g) : g.2.2 ≤ 40 := by
  obtain ⟨⟨E, P, hR⟩, -⟩ := h
  exact hR.2.2.2.2
theorem INV.L8 {g : Sg} (h : INV g) : g.2.1.length ≤ 8 := by
  obtain ⟨⟨E, P, hR⟩, -⟩ := h
  exact hR.2.2.1.2.1
theorem INV.fa {g : Sg} (h : INV g) : Fa 1 g.1 g.2.1 := by
  obtain ⟨⟨E, P, hR⟩, -⟩ := h
  exact hR.2.1.1
theorem INV_0 : INV (I0, [], 0) := ⟨⟨E0, Pn, RC_0⟩, fun w hw => (by cases hw), by decide⟩
theorem chS_GC {cds : List (String × Int32)} {o : Option ((String × PH) ⊕ (Int32 × PH))} {a : Int32 × Sg} (h : chS cds o a) : ∃ E P, GC a.2 E P := by
  obtain ⟨E, P, h, -⟩ := h
  exact ⟨E, P, h⟩
theorem XA.sub {I : IT} {L M : List Nat} (h : XA I L) (hm : ∀ x, x ∈ M → x ∈ L) : XA I M := fun w hw => h w (hm w hw)
theorem XA.r {I K : IT} {L : List Nat} (h : XA I L) (h0 : K 0 1 = I 0 1) (hr : ∀ a, 9 ≤ a → a ≤ 15 → K a = I a) : XA K L := fun w hw => (h w hw).of h0 (by rw [hr 9 (by omega) (by omega)]) (by rw [hr 10 (by omega) (by omega)]) (by rw [hr 11 (by omega) (by omega)]) (by rw [hr 12 (by omega) (by omega)]) (by rw [hr 15 (by omega) (by omega)])
theorem INV.close {g : Sg} (h : INV g) (w : Int32) : INV (aClose g w).2 := by
  obtain ⟨E, P, hR⟩ := h.1
  refine ⟨chS_GC (S_close hR w), ?_⟩
  unfold aClose
  rcases wp_cs w g.2.1 with ⟨h1, -⟩ | ⟨p, v, h1, h2, -, -⟩
  · rw [h1]; exact h.2
  · rw [h1]
    dsimp only
    have hsub : ∀ x, x ∈ g.2.1.eraseIdx p → x ∈ g.2.1 := fun x hx => ((er_mem h.nd h2).mp hx).1
    have hr : ∀ a, 2 ≤ a → clI g.1 p g.2.1.length a = g.1 a := fun a ha => by rw [clI, u2_r _ _ _ (by omega), shl_r _ _ _ (by omega)]
    have h0 : clI g.1 p g.2.1.length 0 1 = g.1 0 1 := by rw [clI, u2_k _ _ _ (by omega), shl_r _ _ _ (by omega)]
    have hd := er_nd p h.nd
    have hg : ∀ x, x ∈ g.2.1.eraseIdx p → gOK (clI g.1 p g.2.1.length) x := fun x hx => geo_gOK (fun a q1 q2 => hr a (by omega)) (h.gk x (hsub x hx))
    refine ⟨((h.2.1.sub hsub).r h0 fun a q1 q2 => hr a (by omega)).lA (by rw [h0]; exact h.tk0.1), fr_lA hd hg ?_⟩
    rw [fr_k hr, fr_er h2]
    obtain ⟨m, q1, q2, -⟩ := fr_n h.gk h.L8 h.2.2
    obtain ⟨k, q3, q4⟩ := pg_n (h.gk v (List.mem_of_getElem? h2))
    rw [q2, q4, nI_add]
    exact nI_pos' (by omega)
theorem INV.move {g : Sg} (h : INV g) (w c r : Int32) : INV (aMove g w c r).2 := by
  obtain ⟨E, P, hR⟩ := h.1
  refine ⟨(by obtain ⟨E', P', q, -⟩ := S_move hR w c r; exact ⟨E', P', q⟩), ?_⟩
  unfold aMove
  rcases wp_cs w g.2.1 with ⟨h1, -⟩ | ⟨p, v, h1, h2, -, -⟩
  · rw [h1]; exact h.2
  · rw [h1]
    dsimp only
    by_cases hb : (inB c 0 (8 - g.1 4 v) && inB r 0 (6 - g.1 5 v)) = true
    · rw [if_pos hb]
      obtain ⟨E', P', -, hR'⟩ := M_moveY hR h2 hb
      have hgx : ∀ x, x ∈ g.2.1 → gOK (mvI g.1 v c r) x := fun x hx => geo_gOK (fun a q1 q2 => (lA_geo g.2.1 (mvI g.1 v c r) a q1 q2).symm) (hR'.1.1.1.2.1 x hx)
      refine ⟨(h.2.1.r (by rw [mvI_r _ (by omega) (by omega)]) fun a q1 q2 => mvI_r _ (by omega) (by omega)).lA (by rw [mvI_r _ (by omega) (by omega)]; exact h.tk0.1), fr_lA h.nd hgx ?_⟩
      rw [show fr (mvI g.1 v c r) g.2.1 = fr g.1 g.2.1 by
        unfold fr
        have : frf (mvI g.1 v c r) = frf g.1 := by funext a n; unfold frf need; rw [mvI_r _ (by omega) (by omega), mvI_r _ (by omega) (by omega), mvI_r _ (by omega) (by omega)]
        rw [this]]
      exact h.2.2
    · rw [if_neg hb]; exact h.2
theorem INV.lay {g : Sg} (h : INV g) (w b : Int32) : INV (aLay g w b).2 := by
  obtain ⟨E, P, hR⟩ := h.1
  refine ⟨chS_GC (S_lay hR w b), ?_⟩
  unfold aLay
  rcases wp_cs w g.2.1 with ⟨h1, -⟩ | ⟨p, v, h1, h2, -, -⟩
  · rw [h1]; exact h.2
  · rw [h1]
    dsimp only
    have key : ∀ (K : IT) (M : List Nat), (∀ x, x ∈ M → x ∈ g.2.1) → M.Nodup → K 0 1 = g.1 0 1 → (∀ a, 2 ≤ a → K a = g.1 a) → fr g.1 M = fr g.1 g.2.1 → XA (lA M K) M ∧ 0 ≤ fr (lA M K) M := fun K M hm hd h0 hr hf =>
      ⟨((h.2.1.sub hm).r h0 fun a q1 q2 => hr a (by omega)).lA (by rw [h0]; exact h.tk0.1), fr_lA hd (fun x hx => geo_gOK (fun a q1 q2 => hr a (by omega)) (h.gk x (hm x hx))) (by rw [fr_k hr, hf]; exact h.2.2)⟩
    have hv := List.mem_of_getElem? h2
    have he : ∀ x, x ∈ g.2.1.eraseIdx p → x ∈ g.2.1 := fun x hx => ((er_mem h.nd h2).mp hx).1
    have hnv : v ∉ g.2.1.eraseIdx p := fun q => ((er_mem h.nd h2).mp q).2 rfl
    have hd := er_nd p h.nd
    by_cases hb : b = 0
    · rw [if_pos hb]
      refine key _ _ (fun x hx => ?_) (List.nodup_cons.mpr ⟨hnv, hd⟩) ?_ (fun a ha => ?_) (lay_fr h2).2
      · rcases List.mem_cons.mp hx with q | q
        · rw [q]; exact hv
        · exact he x q
      · rw [dnI, u2_r _ _ _ (by omega), shr_r _ _ (by omega)]
      · rw [dnI, u2_r _ _ _ (by omega), shr_r _ _ (by omega)]
    · rw [if_neg hb]
      refine key _ _ (fun x hx => ?_) ?_ ?_ (fun a ha => ?_) (lay_fr h2).1
      · rcases List.mem_append.mp hx with q | q
        · exact he x q
        · rw [List.mem_singleton.mp q]; exact hv
      · exact List.nodup_append.mpr ⟨hd, List.nodup_cons.mpr ⟨List.not_mem_nil, List.nodup_nil⟩, fun a q1 b q2 e => hnv (by rw [List.mem_singleton.mp q2] at e; rw [← e]; exact q1)⟩
      · rw [upI, u2_r _ _ _ (by omega), shl_r _ _ _ (by omega)]
      · rw [upI, u2_r _ _ _ (by omega), shl_r _ _ _ (by omega)]
theorem inp_xv {I : IT} {w j : Nat} (h : xv 0 I j) : xv 0 (inpI I w) j := by
  by_cases e : j = w
  · subst e
    unfold inpI
    by_cases h9 : I 9 j = 0
    · rw [if_pos h9]; exact h
    · rw [if_neg h9]
      have key : ∀ x : Int32, xv 0 (u2 I 15 j x) j := fun x => by
        have e : ∀ a, a ≠ 15 → u2 I 15 j x a = I a := fun a ha => u2_r _ _ _ ha
        unfold xv
        rw [e 9 (by omega), e 10 (by omega), e 11 (by omega), e 12 (by omega), e 0 (by omega)]
        exact ⟨fun q => absurd q h9, h.2⟩
      split
      · have e : ∀ (x : Int32) a, a ≠ 15 → a ≠ 16 → u2 (u2 I 16 j 0) 15 j x a = I a := fun x a h1 h2 => by rw [u2_r _ _ _ h1, u2_r _ _ _ h2]
        unfold xv
        rw [e _ 9 (by omega) (by omega), e _ 10 (by omega) (by omega), e _ 11 (by omega) (by omega), e _ 12 (by omega) (by omega), e _ 0 (by omega) (by omega)]
        exact ⟨fun q => absurd q h9, h.2⟩
      · split
        · exact h
        · exact key _
  · exact h.of (inpI_o _ (Or.inl (by omega))) (inpI_o _ (Or.inl (by omega))) (inpI_o _ (Or.inl (by omega))) (inpI_o _ (Or.inl (by omega))) (inpI_o _ (Or.inl (by omega))) (inpI_o _ (Or.inr e))
theorem INV.input {g : Sg} (h : INV g) (c r : Int32) : INV (aInput g c r).2 := by
  obtain ⟨E, P, hR⟩ := h.1
  refine ⟨chS_GC (S_input hR c r), ?_⟩
  unfold aInput
  by_cases hc : cell c r = true
  · rw [if_pos hc]
    dsimp only
    cases hs : sh g.1 c r g.2.1 with
    | none => exact h.2
    | some w =>
      refine ⟨fun j hj => inp_xv (h.2.1 j hj), ?_⟩
      show 0 ≤ fr (inpI g.1 w) g.2.1
      rw [fr_eq (I := g.1) (by funext j; exact inpI_o _ (Or.inl (by omega))) (fun a q1 q2 => by funext j; exact inpI_o _ (Or.inl (by omega)))]
      exact h.2.2
  · rw [if_neg hc]; exact h.2
theorem shSs_low (L : List Nat) : ∀ (l : List Nat) (I : IT) {a : Nat}, a < 17 → l.foldl (shS L) I a = I a := by
  intro l
  induction l with
  | nil => intro I a _; rfl
  | cons x l ih => intro I a h; rw [List.foldl_cons, ih _ h, shS_low _ _ _ h]
theorem INV.show {g : Sg} (h : INV g) : INV (aShow g).2 := by
  obtain ⟨E, P, hR⟩ := h.1
  refine ⟨⟨E, P, (S_show hR).2⟩, ?_⟩
  unfold aShow
  dsimp only
  refine ⟨h.2.1.r (by rw [shSs_low _ _ _ (by omega)]) fun a q1 q2 => shSs_low _ _ _ (by omega), ?_⟩
  rw [fr_eq (I := g.1) (shSs_low _ _ _ (by omega)) (fun a q1 q2 => shSs_low _ _ _ (by omega))]
  exact h.2.2
/-! a tick -/
theorem stS_xv {L : List Nat} {I : IT} {w j : Nat} (h : xv 0 I j) : xv 0 (stS L I w) j := by
  by_cases e : j = w
  · subst e
    unfold stS
    split
    · exact h.drp
    · next hq =>
      have h9 : ¬ I 9 j = 0 := fun q => hq (Or.inl q)
      split
      · split
        · exact h
        · have e : ∀ (x : Int32) a, a ≠ 15 → a ≠ 16 → u2 (u2 I 16 j 0) 15 j x a = I a := fun x a h1 h2 => by rw [u2_r _ _ _ h1, u2_r _ _ _ h2]
          unfold xv
          rw [e _ 9 (by omega) (by omega), e _ 10 (by omega) (by omega), e _ 11 (by omega) (by omega), e _ 12 (by omega) (by omega), e _ 0 (by omega) (by omega)]
          exact ⟨fun q => absurd q h9, h.2⟩
      · exact h
  · exact h.of (stS_o _ _ (Or.inl rfl)) (stS_o _ _ (Or.inr e)) (stS_o _ _ (Or.inr e)) (stS_o _ _ (Or.inr e)) (stS_o _ _ (Or.inr e)) (stS_o _ _ (Or.inr e))
theorem stSs_xv {L : List Nat} {j : Nat} : ∀ (l : List Nat) (I : IT), xv 0 I j → xv 0 (l.foldl (stS L) I) j := by
  intro l
  induction l with
  | nil => intro I h; exact h
  | cons x l ih => intro I h; exact ih _ (stS_xv h)
theorem xv_t {I J : IT} {x : Nat} (h : xv 0 I x) (ht : tb I 99999) (h0 : J 0 1 = I 0 1 + 1) (hr : ∀ a, 9 ≤ a → a ≤ 15 → J a x = I a x) : xv 1 J x := by
  obtain ⟨h1, ⟨h2, h3⟩, ⟨h4, h5⟩, h6⟩ := h
  obtain ⟨t1, t2⟩ := ht
  unfold xv
  rw [h0, hr 9 (by omega) (by omega), hr 10 (by omega) (by omega), hr 11 (by omega) (by omega), hr 12 (by omega) (by omega), hr 15 (by omega) (by omega)]
  refine ⟨h1, ⟨h2, ?_⟩, ⟨h4, ?_⟩, h6⟩
  · generalize I 10 x = a at h3; generalize I 0 1 = t at *; grind
  · generalize I 12 x = a at *; generalize I 0 1 = t at *; grind
theorem fin_xv {K : IT} {w : Nat} (h9 : ¬ K 9 w = 0) (h10 : 0 ≤ K 10 w ∧ K 10 w < K 0 1) (h12 : 0 ≤ K 12 w ∧ K 12 w ≤ K 0 1 - 1) (h11 : K 11 w = 1 ∨ 0 < K 12 w) (ht : K 0 1 ≤ 100000) : xv 1 (finI K w) w := by
  have e9 : finI K w 9 w = K 9 w := by rw [finI_low _ _ (by omega)]
  have e12 : finI K w 12 w = K 12 w := by rw [finI_low _ _ (by omega)]
  have e0 : finI K w 0 1 = K 0 1 := finI_o _ (Or.inl rfl)
  have e10 : finI K w 10 w = K 10 w + 1 := by
    by_cases hc : (if K 15 w < K 0 1 then 0 else K 13 w + 1) = 3
    · rw [finI, if_pos hc]; simp [u2]
    · rw [finI, if_neg hc]; simp [u2]
  have e11 : finI K w 11 w = K 11 w ∨ finI K w 11 w = (if K 11 w ≤ 1 then 1 else K 11 w / 2) := by
    by_cases hc : (if K 15 w < K 0 1 then 0 else K 13 w + 1) = 3
    · rw [finI, if_pos hc]; right; simp [u2]
    · rw [finI, if_neg hc]; left; simp [u2]
  unfold xv
  rw [e9, e12, e0, e10]
  refine ⟨fun q => absurd q h9, ⟨?_, ?_⟩, h12, ?_⟩
  · obtain ⟨q1, q2⟩ := h10
    clear e9 e12 e0 e10 e11 h12 h11 h9
    generalize K 10 w = a at *; generalize K 0 1 = t at *; grind
  · obtain ⟨q1, q2⟩ := h10
    clear e9 e12 e0 e10 e11 h12 h11 h9
    generalize K 10 w = a at *; generalize K 0 1 = t at *; grind
  · rcases h11 with q | q
    · left
      rcases e11 with z | z
      · rw [z, q]
      · rw [z, q]; decide
    · exact Or.inr q
theorem drw_xv {J : IT} {b : Option Nat} (hb : ∀ v, b = some v → J 15 v ≠ -1) (ht : tb J 99999) {j : Nat} (h : xv 0 J j) : xv 1 (drwI J b) j := by
  cases b with
  | none => exact xv_t h ht (drwI_t J none) fun a q1 q2 => by unfold drwI; dsimp only; rw [u2_a _ _ _ _ (by omega)]
  | some w =>
    by_cases hf : J 16 w + 1 = J 8 w
    · have eD : drwI J (some w) = finI (u2 (u2 J 16 w (J 16 w + 1)) 0 1 (J 0 1 + 1)) w := by unfold drwI; dsimp only; rw [if_pos hf]
      have h0 : u2 (u2 J 16 w (J 16 w + 1)) 0 1 (J 0 1 + 1) 0 1 = J 0 1 + 1 := u2_s _ _ _ _
      have ha : ∀ a, 9 ≤ a → a ≤ 15 → u2 (u2 J 16 w (J 16 w + 1)) 0 1 (J 0 1 + 1) a = J a := fun a q1 q2 => by rw [u2_r _ _ _ (by omega), u2_r _ _ _ (by omega)]
      rw [eD]
      generalize u2 (u2 J 16 w (J 16 w + 1)) 0 1 (J 0 1 + 1) = K at h0 ha
      by_cases e : j = w
      · subst e
        obtain ⟨h1, ⟨h2, h3⟩, ⟨h4, h5⟩, h6⟩ := h
        obtain ⟨t1, t2⟩ := ht
        have hy := hb j rfl
        refine fin_xv (K := K) ?_ ?_ ?_ ?_ ?_
        · rw [ha 9 (by omega) (by omega)]; exact fun q => hy (h1 q).2
        · rw [ha 10 (by omega) (by omega), h0]
          refine ⟨h2, ?_⟩
          generalize J 10 j = a at *; generalize J 0 1 = t at *; grind
        · rw [ha 12 (by omega) (by omega), h0]
          refine ⟨h4, ?_⟩
          generalize J 12 j = a at *; generalize J 0 1 = t at *; grind
        · rw [ha 11 (by omega) (by omega), ha 12 (by omega) (by omega)]; exact h6
        · rw [h0]; generalize J 0 1 = t at *; grind
      · exact xv_t h ht (by rw [finI_o _ (Or.inl rfl), h0]) fun a q1 q2 => by rw [finI_o _ (Or.inr e), ha a q1 q2]
    · have eD : drwI J (some w) = u2 (u2 J 16 w (J 16 w + 1)) 0 1 (J 0 1 + 1) := by unfold drwI; dsimp only; rw [if_neg hf]
      rw [eD]
      exact xv_t h ht (u2_s _ _ _ _) fun a q1 q2 => by rw [u2_a _ _ _ _ (by omega), u2_a _ _ _ _ (by omega)]
theorem ms_xv {K : IT} {j : Nat} (h : xv 1 K j) (ht : tb K 100000) : xv 0 (msF K j) j := by
  obtain ⟨h1, h2, ⟨h4, h5⟩, h6⟩ := h
  obtain ⟨t1, t2⟩ := ht
  unfold msF
  by_cases e : K 15 j = K 0 1
  · rw [if_pos e]
    have h9 : ¬ K 9 j = 0 := fun q => by
      have := (h1 q).2
      rw [e] at this
      generalize K 0 1 = t at *
      grind
    unfold xv
    rw [show missI K j 12 j = K 12 j + 1 by simp [missI, u2], missI_o _ (Or.inl rfl), missI_low _ _ (show 9 < 11 ∨ 9 = 14 ∨ 15 < 9 by omega), missI_low _ _ (show 10 < 11 ∨ 10 = 14 ∨ 15 < 10 by omega)]
    refine ⟨fun q => absurd q h9, h2, ⟨?_, ?_⟩, Or.inr ?_⟩
    · generalize K 12 j = a at *; generalize K 0 1 = t at *; grind
    · generalize K 12 j = a at *; generalize K 0 1 = t at *; grind
    · generalize K 12 j = a at *; generalize K 0 1 = t at *; grind
  · rw [if_neg e]
    refine ⟨h1, h2, ⟨h4, ?_⟩, h6⟩
    generalize K 12 j = a at *; generalize K 0 1 = t at *; grind
theorem pass_XA {I : IT} {L : List Nat} {n : Nat} (h : XA I L) (hd : L.Nodup) (ht : tb I 99999) : XA (passI L n I) L := fun j hj => by
  unfold passI
  have h0 : (lvf L 0 n).foldl (stS L) I 0 = I 0 := stSs_low L _ I (by omega)
  have h1 : xv 0 ((lvf L 0 n).foldl (stS L) I) j := stSs_xv _ _ (h j hj)
  have ht1 : tb ((lvf L 0 n).foldl (stS L) I) 99999 := by unfold tb; rw [h0]; exact ht
  generalize (lvf L 0 n).foldl (stS L) I = J at h1 ht1
  have h2 : xv 1 (drwI J ((lvf L 0 n).foldl (efI J) none)) j := drw_xv (fun v hv => efI_y _ none (fun _ q => by cases q) v hv) ht1 h1
  have ht2 : tb (drwI J ((lvf L 0 n).foldl (efI J) none)) 100000 := by
    unfold tb
    rw [drwI_t]
    obtain ⟨q1, q2⟩ := ht1
    generalize J 0 1 = t at *
    constructor <;> grind
  generalize drwI J ((lvf L 0 n).foldl (efI J) none) = K at h2 ht2
  have h3 := ms_xv h2 ht2
  have e : ∀ a, 1 ≤ a → L.foldl msF K a j = msF K j a j := fun a ha => by rw [msFs_p L K a j hd ha, if_pos hj]
  exact h3.of (by rw [msFs_0, msF_o _ (Or.inl rfl)]) (e 9 (by omega)) (e 10 (by omega)) (e 11 (by omega)) (e 12 (by omega)) (e 15 (by omega))
theorem pass_fr {I : IT} {L : List Nat} {n : Nat} : fr (passI L n I) L = fr I L := fr_eq (passI_low L n I (by omega)) (fun a q1 q2 => passI_low L n I (by omega)) L
theorem it_XA {L : List Nat} {n : Nat} (hd : L.Nodup) : ∀ (M : Nat) (I : IT), M ≤ 200 → XA I L → 0 ≤ I 0 1 → I 0 1 + nI M ≤ 100000 → I 0 1 ≤ 100000 → XA (itI L n M I) L ∧ fr (itI L n M I) L = fr I L ∧ itI L n M I 0 1 = I 0 1 + nI M := by
  intro M
  induction M with
  | zero => intro I _ h _ _ _; exact ⟨h, rfl, by show I 0 1 = I 0 1 + nI 0; rw [nI_0]; grind⟩
  | succ M ih =>
    intro I hM h t0 t1 t2
    have hmp : 0 ≤ nI M := nI_pos' (by omega)
    have hm2 : nI M ≤ 200 := (nI_L (b := 200) (by omega) (by decide)).mpr (by omega)
    rw [← nI_1] at t1
    have ht : tb I 99999 := by
      unfold tb
      generalize I 0 1 = t at *; generalize nI M = y at *
      constructor <;> grind
    have hp := passI_t L n I
    obtain ⟨q1, q2, q3⟩ := ih (passI L n I) (by omega) (pass_XA h hd ht) (by rw [hp]; generalize I 0 1 = t at *; generalize nI M = y at *; grind) (by rw [hp]; generalize I 0 1 = t at *; generalize nI M = y at *; grind) (by rw [hp]; generalize I 0 1 = t at *; generalize nI M = y at *; grind)
    refine ⟨q1, ?_, ?_⟩
    · show fr (itI L n M (passI L n I)) L = _
      rw [q2, pass_fr]
    · show itI L n M (passI L n I) 0 1 = _
      rw [q3, hp, ← nI_1]
      grind
theorem INV.pass {g : Sg} (h : INV g) (t : Int32) : INV (aPass g t).2 := by
  obtain ⟨E, P, hR⟩ := h.1
  refine ⟨chS_GC (S_advance hR t), ?_⟩
  unfold aPass
  by_cases hc : inB t 1 200 = true
  · rw [if_pos hc]
    by_cases h2 : g.1 0 1 + t ≤ 100000
    · rw [if_pos h2]
      dsimp only
      obtain ⟨q1, q2⟩ := inB_p hc
      obtain ⟨M, hM, rfl⟩ : ∃ M, M ≤ 200 ∧ t = nI M := i_nI (Int32.le_trans (by decide) q1) (show t ≤ nI 200 from q2) (by decide)
      rw [nI_clamp (by omega)]
      obtain ⟨r1, r2, -⟩ := it_XA (n := g.2.2) h.nd M g.1 hM h.2.1 h.tk0.1 h2 h.tk0.2
      exact ⟨r1, by rw [r2]; exact h.2.2⟩
    · rw [if_neg h2]; exact h.2
  · rw [if_neg hc]; exact h.2
/-! opening -/
theorem INV.opn {g : Sg} (h : INV g) (x1 x2 x3 x4 x5 x6 x7 : Int32) (h5 : x5 = 0 ∨ x5 = 1) : INV (aOpen g x1 x2 x3 x4 x5 x6 x7).2 := by
  obtain ⟨E, P, hR⟩ := h.1
  refine ⟨chS_GC (S_open hR x1 x2 x3 x4 x5 x6 x7 h5), ?_⟩
  unfold aOpen
  by_cases hc : okA x1 x2 x3 x4 x6 x7 = true
  · rw [if_pos hc]
    by_cases h2 : 8 ≤ g.2.1.length ∨ 40 ≤ g.2.2
    · rw [if_pos h2]; exact h.2
    · rw [if_neg h2]
      have hnL : ∀ x, x ∈ g.2.1 → x ≠ g.2.2 := fun x hx e => by have := h.lt x hx; omega
      have hop : ∀ w, w ∈ g.2.1 → xv 0 (opI g.1 g.2.2 g.2.1.length x1 x2 x3 x4 x5) w := fun w hw => (h.2.1 w hw).of (opI_0 (by omega)) (by rw [opI_r (by omega)]) (by rw [opI_r (by omega)]) (by rw [opI_r (by omega)]) (by rw [opI_r (by omega)]) (by rw [opI_r (by omega)])
      have t0 : opI g.1 g.2.2 g.2.1.length x1 x2 x3 x4 x5 0 1 = g.1 0 1 := opI_0 (by omega)
      cases hl : lendI (g.2.1 ++ [g.2.2]) g.2.2 (opI g.1 g.2.2 g.2.1.length x1 x2 x3 x4 x5) with
      | none =>
        dsimp only
        refine ⟨fun w hw => (hop w hw).of (by rw [rf_0 _ _ (by omega), u2_k _ _ _ (by omega)]) ?_ ?_ ?_ ?_ ?_, ?_⟩
        · rw [rf_a _ _ (by omega), u2_r _ _ _ (by omega)]
        · rw [rf_a _ _ (by omega), u2_r _ _ _ (by omega)]
        · rw [rf_a _ _ (by omega), u2_r _ _ _ (by omega)]
        · rw [rf_a _ _ (by omega), u2_r _ _ _ (by omega)]
        · rw [rf_a _ _ (by omega), u2_r _ _ _ (by omega)]
        · rw [ag_fr (I := g.1) (fun i hi a q1 q2 => by rw [rf_a _ _ (by omega), u2_r _ _ _ (by omega), opI_o q1 (hnL i hi)])]
          exact h.2.2
      | some J =>
        dsimp only
        have jt : J 0 1 = g.1 0 1 := by rw [lend_0 hl, t0]
        have jx : ∀ w, w ∈ g.2.1 → xv 0 J w := fun w hw => (hop w hw).lend (by rw [t0]; exact h.tk0.1) hl
        have jb : xb J g.2.2 := by
          refine xb.lend (I := opI g.1 g.2.2 g.2.1.length x1 x2 x3 x4 x5) (by rw [t0]; exact h.tk0.1) ?_ hl
          have uzz := (hR.2.1.2.2.1 g.2.2 (Nat.le_refl _)).1
          unfold xb
          rw [opI_r (a := 10) (by omega), opI_r (a := 12) (by omega), t0, uzz.1.2, uzz.2.1]
          exact ⟨⟨by decide, h.tk0.1⟩, by decide, h.tk0.1⟩
        have j9 : J 9 g.2.2 = 1 := by rw [(lendI_s hl).2, u2_s]
        have kt : opJ (rf J 0) g.2.2 x6 x7 0 1 = g.1 0 1 := by
          rw [opJ, u2_k _ _ _ (by omega), u2_a _ _ _ _ (by omega), u2_a _ _ _ _ (by omega), u2_a _ _ _ _ (by omega), u2_a _ _ _ _ (by omega), u2_a _ _ _ _ (by omega), rf_0 _ _ (by omega), jt]
        have ka : ∀ a, a = 9 ∨ a = 10 ∨ a = 12 → opJ (rf J 0) g.2.2 x6 x7 a = J a := fun a ha => by
          rw [opJ, u2_r _ _ _ (by omega), u2_r _ _ _ (by omega), u2_r _ _ _ (by omega), u2_r _ _ _ (by omega), u2_r _ _ _ (by omega), u2_r _ _ _ (by omega), rf_a _ _ (by omega)]
        have ko : ∀ a j, 1 ≤ a → j ≠ g.2.2 → opJ (rf J 0) g.2.2 x6 x7 a j = J a j := fun a j ha hj => by
          rw [opJ, u2_a _ _ _ _ (by omega)]
          have e1 : ∀ (K : IT) (b : Nat) (z : Int32), u2 K b g.2.2 z a j = K a j := fun K b z => by simp [u2, hj]
          rw [e1, e1, e1, e1, e1, rf_a _ _ (by omega)]
        have kX : XA (opJ (rf J 0) g.2.2 x6 x7) (g.2.1 ++ [g.2.2]) := fun w hw => by
          rcases List.mem_append.mp hw with q | q
          · exact (jx w q).of (by rw [kt, jt]) (ko 9 w (by omega) (hnL w q)) (ko 10 w (by omega) (hnL w q)) (ko 11 w (by omega) (hnL w q)) (ko 12 w (by omega) (hnL w q)) (ko 15 w (by omega) (hnL w q))
          · rw [List.mem_singleton.mp q]
            unfold xv
            rw [ka 9 (by omega), ka 10 (by omega), ka 12 (by omega), j9, kt, show opJ (rf J 0) g.2.2 x6 x7 11 g.2.2 = 1 by rw [opJ, u2_r _ _ _ (by omega), u2_r _ _ _ (by omega), u2_r _ _ _ (by omega), u2_s], ← jt]
            refine ⟨fun q => absurd q (by decide), jb.1, ⟨jb.2.1, ?_⟩, Or.inl rfl⟩
            rw [show J 0 1 - 0 = J 0 1 by grind]
            exact jb.2.2
        obtain ⟨F, Q, -, hR'⟩ := M_openS hR hc (by omega) (by omega) h5 hl
        have hg2 : ∀ w, w ∈ g.2.1 ++ [g.2.2] → gOK (opJ (rf J 0) g.2.2 x6 x7) w := fun w hw => geo_gOK (fun a q1 q2 => (lA_geo _ _ a q1 q2).symm) (hR'.1.1.1.2.1 w hw)
        have gJ : geo J (opJ (rf J 0) g.2.2 x6 x7) := fun a q1 q2 => by
          rw [opJ, u2_r _ _ _ (by omega), u2_r _ _ _ (by omega), u2_r _ _ _ (by omega), u2_r _ _ _ (by omega), u2_r _ _ _ (by omega), u2_r _ _ _ (by omega), rf_a _ _ (by omega)]
        have hn : g.2.2 ∈ g.2.1 ++ [g.2.2] := List.mem_append_right _ List.mem_cons_self
        have hd : (g.2.1 ++ [g.2.2]).Nodup := hR'.1.1.2.1
        refine ⟨kX.lA (by rw [kt]; exact h.tk0.1), fr_lA hd hg2 ?_⟩
        rw [fr_eq (ka 9 (by omega)) gJ]
        refine lend_fr hd hn ?_ (geo_gOK (fun a q1 q2 => by rw [← lendI_geo hl a q1 q2, gJ a q1 q2]) (hg2 _ hn)) hl
        rw [opI_r (by omega)]
        exact (hR.2.1.2.2.1 g.2.2 (Nat.le_refl _)).1.1.1
  · rw [if_neg hc]; exact h.2
