/-! WHAT 'ends' ASKS -/
theorem aClose_n {g : Sg} {w : Int32} : (aClose g w).2.2.2 = g.2.2 := by unfold aClose; cases wp w 0 g.2.1 <;> rfl
theorem en_10 {n : Nat} : ∀ (f j : Nat) (g : Sg), INV g → g.2.2 = n → (∀ v, v ∈ g.2.1 → j ≤ v) → n < j + f → j ≤ n → ∃ g', fL_ends_10 (nI n) f g 1 (nI g.2.1.length) (nI j) = some (1, g') := by
  intro f
  induction f with
  | zero => intro j g _ _ _ h1 h2; omega
  | succ f ih =>
    intro j g h hn hj h1 h2
    subst hn
    have h40 := h.n40
    have h8 := h.L8
    have hl : ∀ v, v ∈ g.2.1 → v < 1000 := fun v hv => by have := h.lt v hv; omega
    unfold fL_ends_10
    by_cases hjn : j = g.2.2
    · rw [hjn, if_pos (Int32.le_refl _)]
      have hL : g.2.1 = [] := List.eq_nil_iff_forall_not_mem.mpr fun v hv => by have := h.lt v hv; have := hj v hv; omega
      unfold fL_ends_64
      rw [hL, if_neg (by decide), if_pos (by decide), if_pos (show aFree g = 24 by unfold aFree; rw [hL]; rfl), if_pos (show aAt g 3 3 = -1 by unfold aAt; rw [hL, if_pos (by decide)]; rfl)]
      exact ⟨g, rfl⟩
    · have hlt : j < g.2.2 := by omega
      rw [if_neg (fun q => by have := (nI_L (by omega) (by omega)).mp q; omega), if_neg (by decide)]
      by_cases hm : j ∈ g.2.1
      · obtain ⟨p, q1, q2, q3⟩ := wp_mem hm hl h8
        have e1 : aPlace g (nI j) = nI p := by unfold aPlace aW; rw [q1]
        rw [e1, if_neg (nI_lt0 (by omega)), Option.bind_some]
        have hI := h.close (nI j)
        have hcn : (aClose g (nI j)).2.2.2 = g.2.2 := aClose_n
        have e2 : (aClose g (nI j)).1 = nI (g.2.1.length - 1) := by unfold aClose; rw [q1]
        have e3 : (aClose g (nI j)).2.2.1 = g.2.1.eraseIdx p := by unfold aClose; rw [q1]
        have hp : p < g.2.1.length := (List.getElem?_eq_some_iff.mp q2).1
        have e4 : nI g.2.1.length + (-1) = nI (g.2.1.length - 1) := by
          have := nI_pred (g.2.1.length - 1)
          rw [show g.2.1.length - 1 + 1 = g.2.1.length by omega] at this
          rw [← this]
          grind
        have hh := ho_ok hI
        rw [hcn] at hh
        rw [e2, e4, if_pos rfl, hh, Option.bind_some, if_neg (by decide)]
        unfold fL_ends_57 fL_ends_58
        rw [nI_1]
        have hlen : (aClose g (nI j)).2.2.1.length = g.2.1.length - 1 := by rw [e3]; exact List.length_eraseIdx_of_lt hp
        have hx := ih (j + 1) (aClose g (nI j)).2 hI hcn (fun v hv => by
          rw [e3] at hv
          obtain ⟨a1, a2⟩ := (er_mem h.nd q2).mp hv
          have := hj v a1
          omega) (by omega) (by omega)
        rw [hlen] at hx
        exact hx
      · have hno := wp_nmem hm (by omega) hl
        have e1 : aPlace g (nI j) = kIX := by unfold aPlace aW; rw [hno]
        rw [e1, if_pos (by decide)]
        unfold fL_ends_58
        rw [nI_1]
        exact ih (j + 1) g h rfl (fun v hv => by
          have := hj v hv
          have : v ≠ j := fun e => hm (by rw [← e]; exact hv)
          omega) (by omega) (by omega)
theorem en_ok {g : Sg} (h : INV g) : ∃ g', fL_ends (nI g.2.2) g = some (1, g') := by
  have h40 := h.n40
  obtain ⟨g', q⟩ := en_10 49 0 g h rfl (fun v _ => Nat.zero_le v) (by omega) (by omega)
  exact ⟨g', q⟩
/-! WHAT 'shows' ASKS -/
def DZ (I : IT) (L : List Nat) : Prop := ∀ j, j < 48 → sam I L j = true
theorem DZ_0 {I : IT} {L : List Nat} (h : DZ I L) : dmg I L = 0 := by
  have key : ∀ l : List Nat, (∀ x, x ∈ l → x < 48) → l.foldl (dmf I L) 0 = 0 := by
    intro l
    induction l with
    | nil => intro _; rfl
    | cons x l ih =>
      intro hx
      rw [List.foldl_cons, show dmf I L 0 x = 0 by unfold dmf; rw [if_pos (h x (hx x List.mem_cons_self))]; rfl]
      exact ih fun y hy => hx y (List.mem_cons_of_mem _ hy)
  exact key _ fun x hx => by have := (List.mem_range'_1.mp hx).2; omega
theorem DZ.of {I J : IT} {L : List Nat} (h : DZ I L) (hg : geo I J) (h17 : J 17 = I 17) (h18 : J 18 = I 18) (h10 : ∀ j w, j < 48 → shc I L j = some w → J 10 w = I 10 w) : DZ J L := fun j hj => by
  have q := h j hj
  unfold sam pcS at q ⊢
  rw [geo_shc hg, h17, h18]
  cases hs : shc I L j with
  | none => rw [hs] at q; exact q
  | some w =>
    rw [hs] at q
    dsimp only at q ⊢
    simp only [h10 j w hj hs]
    exact q
theorem shS_17 {L : List Nat} : ∀ (m a k : Nat) (I : IT), (List.range' a m).foldl (shS L) I 17 k = (if a ≤ k ∧ k < a + m then o2i (shc I L k) else I 17 k) ∧ (List.range' a m).foldl (shS L) I 18 k = (if a ≤ k ∧ k < a + m then pcS I L k else I 18 k) := by
  intro m
  induction m with
  | zero => intro a k I; rw [if_neg (by omega), if_neg (by omega)]; exact ⟨rfl, rfl⟩
  | succ m ih =>
    intro a k I
    rw [List.range'_succ, List.foldl_cons]
    obtain ⟨h1, h2⟩ := ih (a + 1) k (shS L I a)
    have e1 : shc (shS L I a) L k = shc I L k := shS_shc L I a k
    have e2 : pcS (shS L I a) L k = pcS I L k := by
      unfold pcS
      rw [e1]
      cases shc I L k with
      | none => rfl
      | some w => dsimp only; rw [shS_low _ _ _ (by omega)]
    rw [h1, h2, e1, e2]
    by_cases hk : k = a
    · subst hk
      have c1 : ¬ (k + 1 ≤ k ∧ k < k + 1 + m) := by omega
      have c2 : k ≤ k ∧ k < k + (m + 1) := by omega
      refine ⟨?_, ?_⟩
      · rw [if_neg c1, if_pos c2]
        unfold shS
        rw [u2_a _ _ _ _ (by omega), u2_s]
      · rw [if_neg c1, if_pos c2]
        unfold shS
        rw [u2_s]
    · have e3 : shS L I a 17 k = I 17 k := by unfold shS; rw [u2_a _ _ _ _ (by omega), u2_k _ _ _ hk]
      have e4 : shS L I a 18 k = I 18 k := by unfold shS; rw [u2_k _ _ _ hk, u2_a _ _ _ _ (by omega)]
      rw [e3, e4]
      by_cases hq : a + 1 ≤ k ∧ k < a + 1 + m
      · have c2 : a ≤ k ∧ k < a + (m + 1) := by omega
        exact ⟨by rw [if_pos hq, if_pos c2], by rw [if_pos hq, if_pos c2]⟩
      · have c2 : ¬ (a ≤ k ∧ k < a + (m + 1)) := by omega
        exact ⟨by rw [if_neg hq, if_neg c2], by rw [if_neg hq, if_neg c2]⟩
theorem show_DZ (g : Sg) : DZ (aShow g).2.1 g.2.1 := fun j hj => by
  obtain ⟨h1, h2⟩ := shS_17 (L := g.2.1) 48 0 j g.1
  rw [if_pos (by omega)] at h1 h2
  have e : shc ((List.range' 0 48).foldl (shS g.2.1) g.1) g.2.1 j = shc g.1 g.2.1 j := geo_shc (fun a q1 q2 => shSs_low _ _ _ (by omega)) _ _
  have e10 : (List.range' 0 48).foldl (shS g.2.1) g.1 10 = g.1 10 := shSs_low _ _ _ (by omega)
  show sam ((List.range' 0 48).foldl (shS g.2.1) g.1) g.2.1 j = true
  unfold sam
  rw [h1, h2, e, decide_eq_true rfl, Bool.true_and, Bool.or_eq_true]
  right
  unfold pcS
  rw [e, e10]
  exact decide_eq_true rfl
theorem inp_DZ {I : IT} {L : List Nat} (h : DZ I L) (w : Nat) : DZ (inpI I w) L := h.of (fun a q1 q2 => by funext j; exact inpI_o _ (Or.inl (by omega))) (by funext j; exact inpI_o _ (Or.inl (by omega))) (by funext j; exact inpI_o _ (Or.inl (by omega))) fun j v _ _ => inpI_o _ (Or.inl (by omega))
/-- a picture that is seen stays when pages are lent -/
theorem tk_10 {M : List Nat} {v w : Nat} : ∀ (l : List Nat) (I : IT), seen I M w = true → tk M v l I 10 w = I 10 w := by
  intro l
  induction l with
  | nil => intro I _; rfl
  | cons x l ih =>
    intro I hs
    unfold tk
    split
    · rfl
    · split
      · next hc =>
        have hne : w ≠ x := fun e => by subst e; simp [cl, hs] at hc
        rw [ih _ (by rw [geo_seen (lse_g I x)]; exact hs), lse_o I hne]
      · exact ih I hs
theorem lA_10 {L : List Nat} {w : Nat} : ∀ (l : List Nat) (I : IT), seen I L w = true → l.foldl (stL L) I 10 w = I 10 w := by
  intro l
  induction l with
  | nil => intro I _; rfl
  | cons x l ih =>
    intro I hs
    rw [List.foldl_cons, ih _ (by rw [geo_seen (fun a q1 q2 => stL_low L I x (by omega))]; exact hs)]
    unfold stL
    split
    · cases hl : lendI L x I with
      | none => rfl
      | some J =>
        show J 10 w = I 10 w
        rw [(lendI_s hl).2, u2_r _ _ _ (by omega), tk_10 L I hs]
    · rfl
theorem sw_203 {g : Sg} (h : INV g) (hz : DZ g.1 g.2.1) : ∀ (f j : Nat) (t : Int32), g.2.2 < j + f → j ≤ g.2.2 → (t = -1 ∧ ∀ v, v < j → g.2.1[g.2.1.length - 1]? ≠ some v) ∨ (∃ v, t = nI v ∧ g.2.1[g.2.1.length - 1]? = some v) → ∃ g', fL_shows_203 (nI g.2.2) f g 1 t (nI j) = some (1, g') ∧ INV g' ∧ g'.2.2 = g.2.2 := by
  have h40 := h.n40
  have h8 := h.L8
  have hl : ∀ v, v ∈ g.2.1 → v < 1000 := fun v hv => by have := h.lt v hv; omega
  have e299 : ∀ g', fL_shows_299 (nI g.2.2) g' = some (1, g') := fun _ => rfl
  have topP : ∀ v, g.2.1[g.2.1.length - 1]? = some v → aPlace g (nI v) = nI (g.2.1.length - 1) ∧ wp (nI v) 0 g.2.1 = some (g.2.1.length - 1, v) := fun v hv => by
    obtain ⟨p, q1, q2, q3⟩ := wp_mem (List.mem_of_getElem? hv) hl h8
    have hp : p = g.2.1.length - 1 := by
      obtain ⟨a1, a2⟩ := List.getElem?_eq_some_iff.mp q2
      obtain ⟨b1, b2⟩ := List.getElem?_eq_some_iff.mp hv
      refine Decidable.byContradiction fun hq => ?_
      have hpw := List.pairwise_iff_getElem.mp h.nd
      rcases Nat.lt_or_gt_of_ne hq with z | z
      · exact hpw _ _ a1 b1 z (a2.trans b2.symm)
      · exact hpw _ _ b1 a1 z (b2.trans a2.symm)
    subst hp
    exact ⟨by unfold aPlace aW; rw [q1], q1⟩
  intro f
  induction f with
  | zero => intro j t h1 h2; omega
  | succ f ih =>
    intro j t h1 h2 ht
    unfold fL_shows_203
    by_cases hjn : j = g.2.2
    · rw [hjn, if_pos (Int32.le_refl _), if_neg (by decide)]
      by_cases hw : aWins g = 0
      · have hL : g.2.1 = [] := by
          unfold aWins at hw
          have := (nI_E (a := g.2.1.length) (b := 0) (by omega) (by decide)).mp hw
          exact List.length_eq_zero_iff.mp this
        rw [if_pos hw]
        rcases ht with ⟨q, -⟩ | ⟨v, -, q⟩
        · rw [if_pos q]; exact ⟨g, e299 g, h, rfl⟩
        · rw [hL] at q; cases q
      · have hlen : 1 ≤ g.2.1.length := by
          refine Nat.one_le_iff_ne_zero.mpr fun q => hw ?_
          unfold aWins
          rw [q]
          rfl
        rw [if_neg hw]
        have hlast : ∃ v, g.2.1[g.2.1.length - 1]? = some v := ⟨_, List.getElem?_eq_getElem (by omega)⟩
        rcases ht with ⟨-, q⟩ | ⟨v, rfl, q⟩
        · obtain ⟨v, hv⟩ := hlast
          exact absurd hv (q v (by rw [hjn]; exact h.lt v (List.mem_of_getElem? hv)))
        · obtain ⟨t1, t2⟩ := topP v q
          have hvl := hl v (List.mem_of_getElem? q)
          rw [if_neg (nI_lt0 hvl), Option.bind_some]
          have hEr : g.2.1.eraseIdx (g.2.1.length - 1) ++ [v] = g.2.1 := by
            rw [List.eraseIdx_length_sub_one]
            have hne : g.2.1 ≠ [] := fun e => by rw [e] at hlen; exact absurd hlen (by decide)
            have hv2 : v = g.2.1.getLast hne := by
              have := List.getLast?_eq_getElem? (l := g.2.1)
              rw [q, List.getLast?_eq_some_getLast hne] at this
              exact (Option.some.inj this).symm
            rw [hv2]
            exact List.dropLast_concat_getLast hne
          have eL : aLay g (nI v) 1 = (nI (g.2.1.length - 1), lA g.2.1 (upI g.1 (g.2.1.length - 1) g.2.1.length v), g.2.1, g.2.2) := by
            unfold aLay
            rw [t2]
            dsimp only
            rw [if_neg (by decide), hEr]
          have hI := h.lay (nI v) 1
          rw [eL] at hI ⊢
          dsimp only
          rw [if_pos (show nI (g.2.1.length - 1) = aWins (lA g.2.1 (upI g.1 (g.2.1.length - 1) g.2.1.length v), g.2.1, g.2.2) - 1 by
            unfold aWins
            have := nI_pred (g.2.1.length - 1)
            rw [show g.2.1.length - 1 + 1 = g.2.1.length by omega] at this
            exact this.symm)]
          have hr : ∀ a, 2 ≤ a → upI g.1 (g.2.1.length - 1) g.2.1.length v a = g.1 a := fun a ha => by rw [upI, u2_r _ _ _ (by omega), shl_r _ _ _ (by omega)]
          have hgU : geo g.1 (upI g.1 (g.2.1.length - 1) g.2.1.length v) := fun a q1 q2 => hr a (by omega)
          have hD : DZ (lA g.2.1 (upI g.1 (g.2.1.length - 1) g.2.1.length v)) g.2.1 := hz.of (hgU.tr (lA_geo _ _)) (by rw [lA_low _ _ (by omega), hr _ (by omega)]) (by rw [lA_low _ _ (by omega), hr _ (by omega)]) fun j w hj hs => by
            show g.2.1.reverse.foldl (stL g.2.1) _ 10 w = _
            rw [lA_10 _ _ (by rw [geo_seen hgU]; exact seen_of hj hs), hr _ (by omega)]
          rw [if_pos (show aDmg (lA g.2.1 (upI g.1 (g.2.1.length - 1) g.2.1.length v), g.2.1, g.2.2) = 0 from DZ_0 hD)]
          exact ⟨_, e299 _, hI, rfl⟩
    · have hlt : j < g.2.2 := by omega
      rw [if_neg (fun q => by have := (nI_L (by omega) (by omega)).mp q; omega)]
      have keep : ∀ t2, ((t2 = -1 ∧ ∀ v, v < j + 1 → g.2.1[g.2.1.length - 1]? ≠ some v) ∨ (∃ v, t2 = nI v ∧ g.2.1[g.2.1.length - 1]? = some v)) → ∃ g', fL_shows_242 (nI g.2.2) (fL_shows_203 (nI g.2.2) f) g 1 (nI j) t2 = some (1, g') ∧ INV g' ∧ g'.2.2 = g.2.2 := fun t2 h9 => by
        unfold fL_shows_242
        rw [nI_1]
        exact ih (j + 1) t2 (by omega) (by omega) h9
      by_cases htop : g.2.1[g.2.1.length - 1]? = some j
      · obtain ⟨t1, t2⟩ := topP j htop
        have hlen : 1 ≤ g.2.1.length := by
          have := (List.getElem?_eq_some_iff.mp htop).1
          omega
        rw [t1, if_pos (show nI (g.2.1.length - 1) = aWins g - 1 by
          unfold aWins
          have := nI_pred (g.2.1.length - 1)
          rw [show g.2.1.length - 1 + 1 = g.2.1.length by omega] at this
          exact this.symm), if_neg (nI_lt0 (by omega))]
        exact keep (nI j) (Or.inr ⟨j, rfl, htop⟩)
      · have hk2 : (t = -1 ∧ ∀ v, v < j + 1 → g.2.1[g.2.1.length - 1]? ≠ some v) ∨ (∃ v, t = nI v ∧ g.2.1[g.2.1.length - 1]? = some v) := by
          rcases ht with ⟨q1, q2⟩ | q
          · refine Or.inl ⟨q1, fun v hv => ?_⟩
            by_cases e : v = j
            · rw [e]; exact htop
            · exact q2 v (by omega)
          · exact Or.inr q
        have e240 : ∃ g', fL_shows_240 (nI g.2.2) (fL_shows_203 (nI g.2.2) f) g 1 t (nI j) = some (1, g') ∧ INV g' ∧ g'.2.2 = g.2.2 := keep t hk2
        have hne : ¬ aPlace g (nI j) = aWins g - 1 := fun q => by
          unfold aPlace aW at q
          unfold aWins at q
          by_cases hm : j ∈ g.2.1
          · obtain ⟨p, q1, q2, q3⟩ := wp_mem hm hl h8
            rw [q1] at q
            dsimp only at q
            have hp := (List.getElem?_eq_some_iff.mp q2).1
            have := nI_pred (g.2.1.length - 1)
            rw [show g.2.1.length - 1 + 1 = g.2.1.length by omega] at this
            rw [this] at q
            have := (nI_E (by omega) (by omega)).mp q
            exact htop (by rw [← this]; exact q2)
          · rw [wp_nmem hm (by omega) hl] at q
            dsimp only at q
            have b1 : 0 ≤ nI g.2.1.length := nI_pos' (by omega)
            have b2 : nI g.2.1.length ≤ 8 := (nI_L (b := 8) (by omega) (by decide)).mpr h8
            rw [show kIX = (-2000000001 : Int32) from rfl] at q
            generalize nI g.2.1.length = y at q b1 b2
            grind
        rw [if_neg hne]
        exact e240
theorem sw_197 {g : Sg} (h : INV g) (hz : DZ g.1 g.2.1) : ∃ g', fL_shows_197 (nI g.2.2) g 1 = some (1, g') ∧ INV g' ∧ g'.2.2 = g.2.2 := by
  have h40 := h.n40
  exact sw_203 h hz 49 0 (-1) (by omega) (by omega) (Or.inl ⟨rfl, fun v hv => absurd hv (by omega)⟩)
theorem inp_1 {I : IT} {w : Nat} (h9 : ¬ I 9 w = 0) (hf : fw 1 I w) (ht : 0 ≤ I 0 1 ∧ I 0 1 ≤ 100000) : (I 0 1 < inpI I w 15 w) ∧ (I 15 w = -1 ∨ inpI I w 15 w ≤ I 15 w) ∧ inpI (inpI I w) w = inpI I w := by
  obtain ⟨⟨hp, -⟩, -, -, h15⟩ := hf
  obtain ⟨k1, k2⟩ := half1 hp
  obtain ⟨t1, t2⟩ := ht
  have b0 : inpI I w 0 1 = I 0 1 := inpI_o _ (Or.inl (by omega))
  have b7 : inpI I w 7 w = I 7 w := inpI_o _ (Or.inl (by omega))
  have b9 : inpI I w 9 w = I 9 w := inpI_o _ (Or.inl (by omega))
  have s0 : ¬ I 0 1 + (I 7 w + 1) / 2 = -1 := by
    generalize (I 7 w + 1) / 2 = y at *; generalize I 0 1 = t at *; grind
  have s1 : I 0 1 < I 0 1 + (I 7 w + 1) / 2 := by
    generalize (I 7 w + 1) / 2 = y at *; generalize I 0 1 = t at *; grind
  have key : I 0 1 < inpI I w 15 w ∧ (I 15 w = -1 ∨ inpI I w 15 w ≤ I 15 w) ∧ (¬ inpI I w 15 w = -1 ∧ inpI I w 15 w ≤ I 0 1 + (I 7 w + 1) / 2) := by
    by_cases q1 : I 15 w = -1
    · have e : inpI I w 15 w = I 0 1 + (I 7 w + 1) / 2 := by unfold inpI; rw [if_neg h9, if_pos q1, u2_s]
      rw [e]
      exact ⟨s1, Or.inl q1, s0, Int32.le_refl _⟩
    · by_cases q2 : I 15 w ≤ I 0 1 + (I 7 w + 1) / 2
      · have e : inpI I w 15 w = I 15 w := by unfold inpI; rw [if_neg h9, if_neg q1, if_pos q2]
        rw [e]
        refine ⟨?_, Or.inr (Int32.le_refl _), q1, q2⟩
        have := (h15.resolve_left q1).1.1
        generalize I 15 w = u at *; generalize I 0 1 = t at *; grind
      · have e : inpI I w 15 w = I 0 1 + (I 7 w + 1) / 2 := by unfold inpI; rw [if_neg h9, if_neg q1, if_neg q2, u2_s]
        rw [e]
        exact ⟨s1, Or.inr (Int32.le_of_lt (Int32.not_le.mp q2)), s0, Int32.le_refl _⟩
  refine ⟨key.1, key.2.1, ?_⟩
  generalize hJ : inpI I w = J at *
  unfold inpI
  rw [b9, if_neg h9, if_neg key.2.2.1, b0, b7, if_pos key.2.2.2]
theorem in_j (g : Sg) {j : Nat} (hj : j < 48) : aInput g (nI j - nI j / 8 * 8) (nI j / 8) = (o2i (shc g.1 g.2.1 j), (match shc g.1 g.2.1 j with | none => g.1 | some w => inpI g.1 w), g.2.1, g.2.2) := by
  rw [nI_m8 (by omega), nI_d8 (by omega)]
  unfold aInput
  have hc : cell (nI (j % 8)) (nI (j / 8)) = true := by
    unfold cell inB
    rw [decide_eq_true (nI_pos' (by omega) : (0 : Int32) ≤ nI (j % 8)), decide_eq_true (nI_pos' (by omega) : (0 : Int32) ≤ nI (j / 8)), decide_eq_true (show nI (j % 8) ≤ (7 : Int32) from (nI_L (b := 7) (by omega) (by decide)).mpr (by omega)), decide_eq_true (show nI (j / 8) ≤ (5 : Int32) from (nI_L (b := 5) (by omega) (by decide)).mpr (by omega))]
    rfl
  rw [if_pos hc]
  rfl
theorem sw_32 {g : Sg} (h : INV g) (hz : DZ g.1 g.2.1) {m : Nat} (hm : m < 2 ^ 31) : ∃ g', fL_shows_32 (nI g.2.2) g (nI m) 1 = some (1, g') ∧ INV g' ∧ g'.2.2 = g.2.2 := by
  have h40 := h.n40
  have h8 := h.L8
  have hl : ∀ v, v ∈ g.2.1 → v < 1000 := fun v hv => by have := h.lt v hv; omega
  unfold fL_shows_32
  rw [show nI m - nI m / 48 * 48 = nI (m % 48) from pk_rem (d := 48) hm (by decide) (by decide)]
  have hj : m % 48 < 48 := Nat.mod_lt _ (by decide)
  generalize m % 48 = j at hj
  rw [at_j g hj]
  have hI := h.input (nI j - nI j / 8 * 8) (nI j / 8)
  have e71 : ∀ b, fL_shows_71 (nI g.2.2) g 1 (nI j) (o2i (shc g.1 g.2.1 j)) b = fL_shows_109 (nI g.2.2) (aInput g (nI j - nI j / 8 * 8) (nI j / 8)).2 (nI j) (o2i (shc g.1 g.2.1 j)) b 1 := fun b => by
    unfold fL_shows_71
    rw [if_neg (by decide), Option.bind_some, in_j g hj]
    dsimp only
    rw [if_pos rfl]
    rw [if_pos (show aDmg ((match shc g.1 g.2.1 j with | none => g.1 | some w => inpI g.1 w), g.2.1, g.2.2) = 0 by
      unfold aDmg
      refine DZ_0 ?_
      cases shc g.1 g.2.1 j with
      | none => exact hz
      | some w => exact inp_DZ hz w)]
  rw [in_j g hj] at hI e71
  cases hs : shc g.1 g.2.1 j with
  | none =>
    rw [hs] at hI e71
    rw [if_neg (show ¬ (0 : Int32) ≤ o2i none by decide), e71]
    unfold fL_shows_109
    rw [if_neg (by decide), if_pos (show o2i none < 0 by decide)]
    exact sw_197 (g := (g.1, g.2.1, g.2.2)) h hz
  | some w =>
    rw [hs] at hI e71
    have hw := sh_mem g.2.1 hs
    have hw1 := hl w hw
    obtain ⟨p, q1, q2, q3⟩ := wp_mem hw hl h8
    have hz1 := inp_DZ hz w
    rw [if_pos (show (0 : Int32) ≤ o2i (some w) from nI_pos' (by omega)), e71]
    show ∃ g', fL_shows_109 (nI g.2.2) (inpI g.1 w, g.2.1, g.2.2) (nI j) (nI w) (aDead g (nI w)) 1 = some (1, g') ∧ INV g' ∧ g'.2.2 = g.2.2
    have s197 : ∃ g', fL_shows_197 (nI g.2.2) (inpI g.1 w, g.2.1, g.2.2) 1 = some (1, g') ∧ INV g' ∧ g'.2.2 = g.2.2 := sw_197 (g := (inpI g.1 w, g.2.1, g.2.2)) hI hz1
    unfold fL_shows_109
    rw [if_neg (by decide), if_neg (nI_lt0 (by omega))]
    by_cases hp : aPages (inpI g.1 w, g.2.1, g.2.2) (nI w) ≤ 0
    · rw [if_pos hp]; exact s197
    · rw [if_neg hp]
      have h9 : ¬ g.1 9 w = 0 := fun q => hp (by
        unfold aPages aW
        rw [q1]
        dsimp only
        rw [if_pos (by rw [inpI_o _ (Or.inl (by omega))]; exact q)]
        exact Int32.le_refl _)
      obtain ⟨k1, k2, k3⟩ := inp_1 h9 (h.fa w hw) h.tk0
      have e1 : aDead (inpI g.1 w, g.2.1, g.2.2) (nI w) = inpI g.1 w 15 w := by unfold aDead aW; rw [q1]
      have e0 : aDead g (nI w) = g.1 15 w := by unfold aDead aW; rw [q1]
      have et : aTick (inpI g.1 w, g.2.1, g.2.2) = g.1 0 1 := inpI_o _ (Or.inl (by omega))
      have e160 : ∃ g', fL_shows_160 (nI g.2.2) (inpI g.1 w, g.2.1, g.2.2) (nI j) (nI w) (inpI g.1 w 15 w) = some (1, g') ∧ INV g' ∧ g'.2.2 = g.2.2 := by
        have hs2 : shc (inpI g.1 w) g.2.1 j = some w := by rw [geo_shc (fun a q1 q2 => by funext v; exact inpI_o _ (Or.inl (by omega)))]; exact hs
        have ei := in_j (inpI g.1 w, g.2.1, g.2.2) hj
        rw [show shc (inpI g.1 w, g.2.1, g.2.2).1 (inpI g.1 w, g.2.1, g.2.2).2.1 j = some w from hs2] at ei
        dsimp only at ei
        rw [k3] at ei
        unfold fL_shows_160
        rw [Option.bind_some, ei]
        dsimp only
        rw [if_pos (show o2i (some w) = nI w from rfl), if_pos e1]
        exact s197
      rw [e1, et, e0, if_neg (Int32.not_le.mpr k1)]
      rcases k2 with q | q
      · rw [if_pos q]; exact e160
      · by_cases q5 : g.1 15 w = -1
        · rw [if_pos q5]; exact e160
        · rw [if_neg q5, if_neg (Int32.not_lt.mpr q)]; exact e160
theorem sw_ok {g : Sg} (h : INV g) {m : Nat} (hm : m < 2 ^ 31) : ∃ g', fL_shows (nI g.2.2) g (nI m) = some (1, g') ∧ INV g' ∧ g'.2.2 = g.2.2 := by
  have h1 := h.show
  have h2 := h1.show
  have d1 := show_DZ g
  have d2 := show_DZ (aShow g).2
  unfold fL_shows
  rw [Option.bind_some, if_pos (show (aShow g).1 = aDmg g from rfl), if_pos (show aDmg (aShow g).2 = 0 from DZ_0 d1), Option.bind_some, if_pos (show (aShow (aShow g).2).1 = 0 from DZ_0 d1)]
  exact sw_32 h2 d2 hm
