/-! WHAT 'holds' ASKS -/
theorem wp_mem {L : List Nat} {w : Nat} (hw : w ∈ L) (hl : ∀ v, v ∈ L → v < 1000) (h8 : L.length ≤ 8) : ∃ p, wp (nI w) 0 L = some (p, w) ∧ L[p]? = some w ∧ p < 8 := by
  rcases wp_cs (nI w) L with ⟨-, h2⟩ | ⟨p, v, h1, h2, h3, -⟩
  · exact absurd hw ((plc_m1 (hl w hw) L 0 (fun x hx => hl x hx) (by omega)).mp h2)
  · have e : w = v := (nI_E (hl w hw) (hl v (List.mem_of_getElem? h2))).mp h3
    subst e
    exact ⟨p, h1, h2, by have := (List.getElem?_eq_some_iff.mp h2).1; omega⟩
theorem wp_nmem {L : List Nat} {w : Nat} (hw : w ∉ L) (h : w < 1000) (hl : ∀ v, v ∈ L → v < 1000) : wp (nI w) 0 L = none := wp_no (fun v hv e => hw (by rw [← (nI_E (hl v hv) h).mp e]; exact hv)) 0
theorem at_j (g : Sg) {j : Nat} (hj : j < 48) : aAt g (nI j - nI j / 8 * 8) (nI j / 8) = o2i (shc g.1 g.2.1 j) := by
  rw [nI_m8 (by omega), nI_d8 (by omega)]
  unfold aAt
  have hc : cell (nI (j % 8)) (nI (j / 8)) = true := by
    unfold cell inB
    rw [decide_eq_true (nI_pos' (by omega) : (0 : Int32) ≤ nI (j % 8)), decide_eq_true (nI_pos' (by omega) : (0 : Int32) ≤ nI (j / 8)), decide_eq_true (show nI (j % 8) ≤ (7 : Int32) from (nI_L (b := 7) (by omega) (by decide)).mpr (by omega)), decide_eq_true (show nI (j / 8) ≤ (5 : Int32) from (nI_L (b := 5) (by omega) (by decide)).mpr (by omega))]
    rfl
  rw [if_pos hc]
  rfl
theorem seen_of {I : IT} {L : List Nat} {j w : Nat} (hj : j < 48) (h : shc I L j = some w) : seen I L w = true := by
  unfold seen
  exact List.any_eq_true.mpr ⟨j, List.mem_range'_1.mpr ⟨Nat.zero_le _, by omega⟩, decide_eq_true h⟩
theorem seen_to {I : IT} {L : List Nat} {w : Nat} (h : seen I L w = true) : ∃ j, j < 48 ∧ shc I L j = some w := by
  unfold seen at h
  obtain ⟨j, h1, h2⟩ := List.any_eq_true.mp h
  exact ⟨j, by have := (List.mem_range'_1.mp h1).2; omega, of_decide_eq_true h2⟩
theorem i_add0 (x : Int32) : x + 0 = x := by grind
/-- shown cells below j -/
def shm (I : IT) (L : List Nat) : Nat → Nat
  | 0 => 0
  | j + 1 => shm I L j + if (shc I L j).isSome = true then 1 else 0
theorem shm_le (I : IT) (L : List Nat) : ∀ j, shm I L j ≤ j := by
  intro j
  induction j with
  | zero => exact Nat.le_refl 0
  | succ j ih => unfold shm; split <;> omega
theorem shm_0 (I : IT) (L : List Nat) : ∀ m, shm I L m = 0 ↔ ∀ j, j < m → shc I L j = none := by
  intro m
  induction m with
  | zero => exact ⟨fun _ j hj => absurd hj (by omega), fun _ => rfl⟩
  | succ m ih =>
    unfold shm
    constructor
    · intro h j hj
      by_cases hs : (shc I L m).isSome = true
      · rw [if_pos hs] at h; omega
      · rw [if_neg hs] at h
        by_cases e : j = m
        · rw [e]; cases hq : shc I L m with
          | none => rfl
          | some x => rw [hq] at hs; exact absurd rfl hs
        · exact ih.mp h j (by omega)
    · intro h
      rw [if_neg (by rw [h m (by omega)]; decide)]
      exact ih.mpr fun j hj => h j (by omega)
theorem ho_95 {k : Int32} {g : Sg} (K : Int32 → Int32 → Int32 → Int32 → Int32 → Int32 → Int32 → Option (Int32)) (i2 i3 i4 i5 i6 i8 : Int32) : fL_holds_95 k g K i2 i3 i4 i5 i6 i8 = K i2 i3 i4 i5 i6 1 (i8 + 1) := rfl
theorem ho_19 {g : Sg} (h : INV g) : ∀ (f j : Nat), 48 < j + f → j ≤ 48 → fL_holds_19 (nI g.2.2) g f 0 0 0 (nI (shm g.1 g.2.1 j)) 0 1 (nI j) = fL_holds_108 (nI g.2.2) g 0 0 0 (nI (shm g.1 g.2.1 48)) 0 1 := by
  have h40 := h.n40
  intro f
  induction f with
  | zero => intro j h1 h2; omega
  | succ f ih =>
    intro j h1 h2
    unfold fL_holds_19
    by_cases hj : j = 48
    · subst hj
      rw [if_pos (show (48 : Int32) ≤ nI 48 by decide)]
    · have hj2 : j < 48 := by omega
      rw [if_neg (fun q => by have := (nI_L (a := 48) (by decide) (by omega)).mp q; omega), if_neg (by decide), at_j g hj2]
      cases hs : shc g.1 g.2.1 j with
      | none =>
        rw [if_neg (show ¬ (0 : Int32) ≤ o2i none by decide)]
        unfold fL_holds_59
        rw [if_pos (show o2i none = -1 from rfl), ho_95, nI_1, show nI (shm g.1 g.2.1 j) + 0 = nI (shm g.1 g.2.1 (j + 1)) by rw [show shm g.1 g.2.1 (j + 1) = shm g.1 g.2.1 j by rw [shm, hs, if_neg (by decide), Nat.add_zero], i_add0]]
        exact ih (j + 1) (by omega) (by omega)
      | some w =>
        have hwL : w ∈ g.2.1 := sh_mem g.2.1 hs
        have hwn := h.lt w hwL
        obtain ⟨p, q1, q2, q3⟩ := wp_mem hwL (fun v hv => by have := h.lt v hv; omega) h.L8
        rw [if_pos (show (0 : Int32) ≤ o2i (some w) from nI_pos' (by omega))]
        unfold fL_holds_59
        have e1 : aSeen g (nI w) = 1 := by unfold aSeen aW; rw [q1]; dsimp only; rw [seen_of hj2 hs]; rfl
        have e2 : aPlace g (nI w) = nI p := by unfold aPlace aW; rw [q1]
        rw [if_neg (show ¬ o2i (some w) = -1 from nI_nm1 (by omega)), if_neg (show ¬ nI g.2.2 ≤ o2i (some w) from fun q => by have := (nI_L (by omega) (by omega)).mp q; omega), if_pos (show aSeen g (o2i (some w)) = 1 from e1), if_neg (show ¬ aPlace g (o2i (some w)) < 0 by rw [show aPlace g (o2i (some w)) = nI p from e2]; exact nI_lt0 (by omega)), ho_95, nI_1, nI_1, show shm g.1 g.2.1 j + 1 = shm g.1 g.2.1 (j + 1) by rw [shm, hs, if_pos (by rfl)]]
        exact ih (j + 1) (by omega) (by omega)
theorem ho_164 {g : Sg} (h : INV g) {v : Nat} (hv : v < 1000) (K : Int32 → Int32 → Int32 → Int32 → Int32 → Int32 → Int32 → Option (Int32)) (k i2 i3 i4 i5 i6 : Int32) : ∀ (m j f : Nat), j + m = 48 → m < f → fL_holds_164 k g K f i2 i3 i4 i5 i6 (nI v) 0 (nI j) = fL_holds_208 k g K i2 i3 i4 i5 i6 (nI v) (b2i ((List.range' j m).any fun q => decide (shc g.1 g.2.1 q = some v))) := by
  intro m
  induction m with
  | zero =>
    intro j f h1 h2
    obtain ⟨f, rfl⟩ : ∃ z, f = z + 1 := ⟨f - 1, by omega⟩
    have : j = 48 := by omega
    subst this
    unfold fL_holds_164
    rw [if_pos (show (48 : Int32) ≤ nI 48 by decide)]
    rfl
  | succ m ih =>
    intro j f h1 h2
    obtain ⟨f, rfl⟩ : ∃ z, f = z + 1 := ⟨f - 1, by omega⟩
    have hj : j < 48 := by omega
    unfold fL_holds_164
    rw [if_neg (fun q => by have := (nI_L (a := 48) (by decide) (by omega)).mp q; omega), if_pos rfl, at_j g hj, List.range'_succ, List.any_cons]
    have hb : ∀ u, shc g.1 g.2.1 j = some u → u < 1000 := fun u hu => by have := h.lt u (sh_mem g.2.1 hu); have := h.n40; omega
    by_cases hs : shc g.1 g.2.1 j = some v
    · rw [if_pos ((o2i_eq hb hv).mpr hs), decide_eq_true hs, Bool.true_or]
      unfold fL_holds_200
      obtain ⟨f, rfl⟩ : ∃ z, f = z + 1 := ⟨f - 1, by omega⟩
      unfold fL_holds_164
      by_cases h48 : (48 : Int32) ≤ nI j + 1
      · rw [if_pos h48]; rfl
      · rw [if_neg h48, if_neg (by decide)]; rfl
    · rw [if_neg (fun q => hs ((o2i_eq hb hv).mp q)), decide_eq_false hs, Bool.false_or]
      unfold fL_holds_200
      rw [nI_1]
      exact ih (j + 1) f (by omega) (by omega)
theorem ho_win {g : Sg} (h : INV g) {v : Nat} (hv : v ∈ g.2.1) (K : Int32 → Int32 → Int32 → Int32 → Int32 → Int32 → Int32 → Option (Int32)) (k i2 i3 i4 i5 i6 : Int32) : fL_holds_208 k g K i2 i3 i4 i5 i6 (nI v) (b2i (seen g.1 g.2.1 v)) = K i2 i3 i4 i5 (i6 + b2i (seen g.1 g.2.1 v)) 1 (nI v + 1) := by
  obtain ⟨p, q1, q2, q3⟩ := wp_mem hv (fun v hv => by have := h.lt v hv; have := h.n40; omega) h.L8
  have e1 : aSeen g (nI v) = b2i (seen g.1 g.2.1 v) := by unfold aSeen aW; rw [q1]
  have e2 : aPages g (nI v) = pg g.1 v := by unfold aPages aW; rw [q1]; rfl
  have e3 : aPic g (nI v) = g.1 10 v := by unfold aPic aW; rw [q1]
  have e4 : aPace g (nI v) = g.1 11 v := by unfold aPace aW; rw [q1]
  have e5 : aMiss g (nI v) = g.1 12 v := by unfold aMiss aW; rw [q1]
  have e6 : aDead g (nI v) = g.1 15 v := by unfold aDead aW; rw [q1]
  obtain ⟨x1, ⟨x2, -⟩, ⟨x3, -⟩, x4⟩ := h.2.1 v hv
  obtain ⟨-, f11, -, f15⟩ := h.fa v hv
  obtain ⟨m, m1, m2⟩ := pg_n (h.gk v hv)
  have m12 : nI m ≤ 12 := (nI_L (b := 12) (by omega) (by decide)).mpr m1
  have e367 : ∀ z, fL_holds_367 k g K i2 i3 i4 i5 z (nI v) = K i2 i3 i4 i5 z 1 (nI v + 1) := fun _ => rfl
  have e352 : ∀ z, fL_holds_352 k g K i2 i3 i4 i5 z (nI v) (g.1 15 v) = K i2 i3 i4 i5 z 1 (nI v + 1) := fun z => by
    unfold fL_holds_352
    rcases f15 with q | ⟨⟨q, -⟩, -⟩
    · rw [if_pos q]; rfl
    · by_cases q2 : g.1 15 v = -1
      · rw [if_pos q2]; rfl
      · have t1 := h.tk0
        rw [if_neg q2, if_neg (show ¬ g.1 15 v ≤ aTick g from fun z => by
          unfold aTick at z
          obtain ⟨t1, t2⟩ := t1
          generalize g.1 0 1 = t at *; generalize g.1 15 v = u at *; grind)]
        rfl
  have e337 : ∀ z, fL_holds_337 k g K i2 i3 i4 i5 z (nI v) (g.1 11 v) (g.1 15 v) = K i2 i3 i4 i5 z 1 (nI v + 1) := fun z => by
    unfold fL_holds_337
    by_cases q : g.1 11 v = 1
    · rw [if_pos q]; exact e352 z
    · rw [if_neg q, e5, if_neg (Int32.not_le.mpr (x4.resolve_left q))]; exact e352 z
  have e303 : ∀ z, fL_holds_303 k g K i2 i3 i4 i5 z (nI v) (g.1 11 v) (g.1 15 v) = K i2 i3 i4 i5 z 1 (nI v + 1) := fun z => by
    unfold fL_holds_303
    rw [e3, if_neg (Int32.not_lt.mpr x2)]
    rcases f11 with q | q | q | q
    · rw [if_pos q]; exact e337 z
    · rw [if_neg (by rw [q]; decide), if_pos q]; exact e337 z
    · rw [if_neg (by rw [q]; decide), if_neg (by rw [q]; decide), if_pos q]; exact e337 z
    · rw [if_neg (by rw [q]; decide), if_neg (by rw [q]; decide), if_neg (by rw [q]; decide), if_pos q]; exact e337 z
  have e256 : ∀ z y, fL_holds_256 k g K i2 i3 i4 i5 z (nI v) (g.1 11 v) (g.1 15 v) y y = K i2 i3 i4 i5 z 1 (nI v + 1) := fun z y => by
    unfold fL_holds_256
    rw [if_pos rfl, e2, e3, m2, if_neg (Int32.not_lt.mpr m12), if_neg (nI_lt0 (by omega))]
    by_cases q : (0 : Int32) < nI m
    · rw [if_pos q]; exact e303 z
    · have h9 : g.1 9 v = 0 := by
        refine Decidable.byContradiction fun h9 => q ?_
        obtain ⟨m', n1, n2⟩ := need_n (h.gk v hv)
        have : pg g.1 v = nI m' := by unfold pg; rw [if_neg h9]; exact n2
        rw [m2] at this
        rw [this]
        exact (nI_T (a := 0) (by decide) (by omega)).mpr (by omega)
      rw [if_neg q, if_pos (x1 h9).1, if_pos (x1 h9).2]
      exact e303 z
  have e220 : ∀ z, fL_holds_220 k g K i2 i3 i4 i5 (nI v) (b2i (seen g.1 g.2.1 v)) z i6 = K i2 i3 i4 i5 (i6 + z) 1 (nI v + 1) := fun z => by
    unfold fL_holds_220
    rw [e1, e4, e6]
    cases hs : seen g.1 g.2.1 v with
    | true => rw [if_pos (show b2i true = 1 from rfl)]; exact e256 _ _
    | false => rw [if_neg (show ¬ b2i false = 1 by decide)]; exact e256 _ _
  unfold fL_holds_208
  cases hs : seen g.1 g.2.1 v with
  | true =>
    rw [hs] at e220
    rw [if_neg (show ¬ b2i true = 0 by decide)]
    exact e220 1
  | false =>
    rw [hs] at e220
    rw [if_pos (show b2i false = 0 from rfl)]
    exact e220 0
/-! places, as bits -/
def pmb (b0 b1 b2 b3 b4 b5 b6 b7 : Bool) : Int32 := (if b0 then 1 else 0) ||| (if b1 then 2 else 0) ||| (if b2 then 4 else 0) ||| (if b3 then 8 else 0) ||| (if b4 then 16 else 0) ||| (if b5 then 32 else 0) ||| (if b6 then 64 else 0) ||| (if b7 then 128 else 0)
theorem pmb_s0 : ∀ b0 b1 b2 b3 b4 b5 b6 b7, pmb b0 b1 b2 b3 b4 b5 b6 b7 ||| (1 <<< (nI 0 &&& 31)) = pmb true b1 b2 b3 b4 b5 b6 b7 := by decide +kernel
theorem pmb_s1 : ∀ b0 b1 b2 b3 b4 b5 b6 b7, pmb b0 b1 b2 b3 b4 b5 b6 b7 ||| (1 <<< (nI 1 &&& 31)) = pmb b0 true b2 b3 b4 b5 b6 b7 := by decide +kernel
theorem pmb_s2 : ∀ b0 b1 b2 b3 b4 b5 b6 b7, pmb b0 b1 b2 b3 b4 b5 b6 b7 ||| (1 <<< (nI 2 &&& 31)) = pmb b0 b1 true b3 b4 b5 b6 b7 := by decide +kernel
theorem pmb_s3 : ∀ b0 b1 b2 b3 b4 b5 b6 b7, pmb b0 b1 b2 b3 b4 b5 b6 b7 ||| (1 <<< (nI 3 &&& 31)) = pmb b0 b1 b2 true b4 b5 b6 b7 := by decide +kernel
theorem pmb_s4 : ∀ b0 b1 b2 b3 b4 b5 b6 b7, pmb b0 b1 b2 b3 b4 b5 b6 b7 ||| (1 <<< (nI 4 &&& 31)) = pmb b0 b1 b2 b3 true b5 b6 b7 := by decide +kernel
theorem pmb_s5 : ∀ b0 b1 b2 b3 b4 b5 b6 b7, pmb b0 b1 b2 b3 b4 b5 b6 b7 ||| (1 <<< (nI 5 &&& 31)) = pmb b0 b1 b2 b3 b4 true b6 b7 := by decide +kernel
theorem pmb_s6 : ∀ b0 b1 b2 b3 b4 b5 b6 b7, pmb b0 b1 b2 b3 b4 b5 b6 b7 ||| (1 <<< (nI 6 &&& 31)) = pmb b0 b1 b2 b3 b4 b5 true b7 := by decide +kernel
theorem pmb_s7 : ∀ b0 b1 b2 b3 b4 b5 b6 b7, pmb b0 b1 b2 b3 b4 b5 b6 b7 ||| (1 <<< (nI 7 &&& 31)) = pmb b0 b1 b2 b3 b4 b5 b6 true := by decide +kernel
def pm (f : Nat → Bool) : Int32 := pmb (f 0) (f 1) (f 2) (f 3) (f 4) (f 5) (f 6) (f 7)
theorem pm_s (f : Nat → Bool) {p : Nat} (hp : p < 8) : pm f ||| (1 <<< (nI p &&& 31)) = pm fun q => f q || decide (q = p) := by
  have : p = 0 ∨ p = 1 ∨ p = 2 ∨ p = 3 ∨ p = 4 ∨ p = 5 ∨ p = 6 ∨ p = 7 := by omega
  unfold pm
  rcases this with rfl | rfl | rfl | rfl | rfl | rfl | rfl | rfl
  · rw [pmb_s0]; simp
  · rw [pmb_s1]; simp
  · rw [pmb_s2]; simp
  · rw [pmb_s3]; simp
  · rw [pmb_s4]; simp
  · rw [pmb_s5]; simp
  · rw [pmb_s6]; simp
  · rw [pmb_s7]; simp
theorem pm_e {m : Nat} (hm : m ≤ 8) : pm (fun q => decide (q < m)) = (1 <<< (nI m &&& 31)) - 1 := by
  have : m = 0 ∨ m = 1 ∨ m = 2 ∨ m = 3 ∨ m = 4 ∨ m = 5 ∨ m = 6 ∨ m = 7 ∨ m = 8 := by omega
  rcases this with rfl | rfl | rfl | rfl | rfl | rfl | rfl | rfl | rfl <;> decide
def plf (L : List Nat) (v q : Nat) : Bool := match L[q]? with
  | some u => decide (u < v)
  | none => false
theorem plf_0 (L : List Nat) : pm (plf L 0) = 0 := by
  have e : plf L 0 = fun _ => false := by
    funext q
    unfold plf
    cases L[q]? with
    | none => rfl
    | some u => exact decide_eq_false (by omega)
  rw [e]
  decide
theorem plf_n {L : List Nat} {n : Nat} (h : ∀ v, v ∈ L → v < n) : plf L n = fun q => decide (q < L.length) := by
  funext q
  unfold plf
  by_cases hq : q < L.length
  · rw [List.getElem?_eq_getElem hq, decide_eq_true hq]
    exact decide_eq_true (h _ (List.getElem_mem hq))
  · rw [List.getElem?_eq_none (by omega), decide_eq_false hq]
theorem plf_y {L : List Nat} (hd : L.Nodup) {v p : Nat} (hp : L[p]? = some v) : plf L (v + 1) = fun q => plf L v q || decide (q = p) := by
  funext q
  unfold plf
  obtain ⟨hpl, hpe⟩ := List.getElem?_eq_some_iff.mp hp
  by_cases hq : q = p
  · subst hq
    rw [hp]
    simp
  · rw [decide_eq_false hq, Bool.or_false]
    cases hu : L[q]? with
    | none => rfl
    | some u =>
      have hne : u ≠ v := fun e => by
        subst e
        obtain ⟨hql, hqe⟩ := List.getElem?_eq_some_iff.mp hu
        have hpw := List.pairwise_iff_getElem.mp hd
        rcases Nat.lt_or_gt_of_ne hq with z | z
        · exact hpw q p hql hpl z (hqe.trans hpe.symm)
        · exact hpw p q hpl hql z (hpe.trans hqe.symm)
      dsimp only
      rw [decide_eq_decide]
      omega
theorem plf_no {L : List Nat} {v : Nat} (hv : v ∉ L) : plf L (v + 1) = plf L v := by
  funext q
  unfold plf
  cases hu : L[q]? with
  | none => rfl
  | some u =>
    have : u ≠ v := fun e => hv (by rw [← e]; exact List.mem_of_getElem? hu)
    dsimp only
    rw [decide_eq_decide]
    omega
theorem lvf_succ (L : List Nat) (v : Nat) : lvf L 0 (v + 1) = lvf L 0 v ++ if v ∈ L then [v] else [] := by
  unfold lvf
  rw [List.range'_concat, List.filter_append]
  congr 1
  by_cases h : v ∈ L <;> simp [h]
theorem ps_app (I : IT) (l m : List Nat) : ps I (l ++ m) = ps I l + ps I m := by
  induction l with
  | nil => show ps I m = 0 + ps I m; grind
  | cons x l ih => show pg I x + ps I (l ++ m) = pg I x + ps I l + ps I m; rw [ih]; grind
theorem ps_perm {I : IT} {l m : List Nat} (h : l.Perm m) : ps I l = ps I m := by
  induction h with
  | nil => rfl
  | cons x _ ih => show pg I x + _ = pg I x + _; rw [ih]
  | swap x y l => show pg I y + (pg I x + ps I l) = pg I x + (pg I y + ps I l); grind
  | trans _ _ h1 h2 => exact h1.trans h2
theorem lvf_perm {L : List Nat} {n : Nat} (hd : L.Nodup) (h : ∀ v, v ∈ L → v < n) : (lvf L 0 n).Perm L := by
  refine (List.perm_ext_iff_of_nodup (lvf_nd L 0 n) hd).mpr fun x => ?_
  rw [lvf_mem]
  exact ⟨fun q => q.2, fun q => ⟨⟨Nat.zero_le _, by have := h x q; omega⟩, q⟩⟩
def sn (I : IT) (L l : List Nat) : Nat := l.countP fun v => seen I L v
theorem dmf_n (I : IT) (L : List Nat) : ∀ (l : List Nat) (a : Nat), ∃ b, (a ≤ b ∧ b ≤ a + l.length) ∧ l.foldl (dmf I L) (nI a) = nI b := by
  intro l
  induction l with
  | nil => intro a; exact ⟨a, ⟨Nat.le_refl _, Nat.le_refl _⟩, rfl⟩
  | cons x l ih =>
    intro a
    rw [List.foldl_cons]
    unfold dmf
    by_cases hs : sam I L x = true
    · rw [if_pos hs, show nI a + 0 = nI a by grind]
      obtain ⟨b, h1, h2⟩ := ih a
      exact ⟨b, ⟨h1.1, by rw [List.length_cons]; omega⟩, h2⟩
    · rw [if_neg hs, nI_1]
      obtain ⟨b, h1, h2⟩ := ih (a + 1)
      exact ⟨b, ⟨by omega, by rw [List.length_cons]; omega⟩, h2⟩
theorem ho_487 (k : Int32) (g : Sg) : fL_holds_487 k g = some 1 := by
  obtain ⟨b, h1, h2⟩ := dmf_n g.1 g.2.1 (List.range' 0 48) 0
  have e : aDmg g = nI b := h2
  rw [List.length_range'] at h1
  unfold fL_holds_487
  rw [e, if_neg (nI_lt0 (by omega)), if_neg (Int32.not_lt.mpr (show nI b ≤ (48 : Int32) from (nI_L (b := 48) (by omega) (by decide)).mpr (by omega)))]
  rfl
theorem ho_111 {g : Sg} (h : INV g) (i5 : Int32) : ∀ (f v : Nat), g.2.2 < v + f → v ≤ g.2.2 → fL_holds_111 (nI g.2.2) g f (ps g.1 (lvf g.2.1 0 v)) (nI (lvf g.2.1 0 v).length) (pm (plf g.2.1 v)) i5 (nI (sn g.1 g.2.1 (lvf g.2.1 0 v))) 1 (nI v) = fL_holds_419 (nI g.2.2) g (ps g.1 (lvf g.2.1 0 g.2.2)) (nI (lvf g.2.1 0 g.2.2).length) (pm (plf g.2.1 g.2.2)) i5 (nI (sn g.1 g.2.1 (lvf g.2.1 0 g.2.2))) 1 := by
  have h40 := h.n40
  have hl : ∀ v, v ∈ g.2.1 → v < 1000 := fun v hv => by have := h.lt v hv; omega
  intro f
  induction f with
  | zero => intro v h1 h2; omega
  | succ f ih =>
    intro v h1 h2
    unfold fL_holds_111
    by_cases hv : v = g.2.2
    · subst hv
      rw [if_pos (Int32.le_refl _)]
    · have hvn : v < g.2.2 := by omega
      rw [if_neg (fun q => by have := (nI_L (by omega) (by omega)).mp q; omega), if_neg (by decide)]
      have hi := ih (v + 1) (by omega) (by omega)
      rw [lvf_succ] at hi
      by_cases hm : v ∈ g.2.1
      · obtain ⟨p, q1, q2, q3⟩ := wp_mem hm hl h.L8
        have e1 : aPlace g (nI v) = nI p := by unfold aPlace aW; rw [q1]
        have e2 : aPages g (nI v) = pg g.1 v := by unfold aPages aW; rw [q1]; rfl
        have e0 := ho_164 h (v := v) (by omega) (fL_holds_111 (nI g.2.2) g f) (nI g.2.2) (ps g.1 (lvf g.2.1 0 v) + pg g.1 v) (nI (lvf g.2.1 0 v).length + 1) (pm (plf g.2.1 v) ||| (1 <<< (nI p &&& 31))) i5 (nI (sn g.1 g.2.1 (lvf g.2.1 0 v))) 48 0 49 (by omega) (by omega)
        rw [nI_0] at e0
        rw [e1, e2, if_neg (nI_lt0 (by omega)), e0]
        rw [show ((List.range' 0 48).any fun q => decide (shc g.1 g.2.1 q = some v)) = seen g.1 g.2.1 v from rfl, ho_win h hm, nI_1, nI_1, pm_s _ q3, ← plf_y h.nd q2]
        rw [if_pos hm, ps_app, List.length_append, sn, List.countP_append] at hi
        rw [show ps g.1 [v] = pg g.1 v by show pg g.1 v + 0 = pg g.1 v; grind] at hi
        have e3 : nI (sn g.1 g.2.1 (lvf g.2.1 0 v)) + b2i (seen g.1 g.2.1 v) = nI (List.countP (fun v => seen g.1 g.2.1 v) (lvf g.2.1 0 v) + List.countP (fun v => seen g.1 g.2.1 v) [v]) := by
          unfold sn
          cases hs : seen g.1 g.2.1 v with
          | true => rw [show b2i true = nI 1 by decide, nI_add]; simp [hs]
          | false => rw [show b2i false = nI 0 by decide, nI_add]; simp [hs]
        rw [e3]
        exact hi
      · have hno := wp_nmem hm (by omega) hl
        have e1 : aPlace g (nI v) = kIX := by unfold aPlace aW; rw [hno]
        have e2 : aPages g (nI v) = kIX := by unfold aPages aW; rw [hno]
        have e3 : aDead g (nI v) = kIX := by unfold aDead aW; rw [hno]
        rw [e1, e2, e3, if_pos (by decide), if_pos rfl, if_pos rfl, if_pos rfl]
        unfold fL_holds_411 fL_holds_413
        rw [if_neg hm, List.append_nil, plf_no hm] at hi
        rw [nI_1]
        exact hi
theorem ho_ok {g : Sg} (h : INV g) : fL_holds (nI g.2.2) g = some 1 := by
  have h40 := h.n40
  have h8 := h.L8
  unfold fL_holds
  have e1 := ho_19 h 49 0 (by omega) (by omega)
  rw [show nI (shm g.1 g.2.1 0) = 0 from rfl, nI_0] at e1
  rw [e1]
  unfold fL_holds_108
  have e2 := ho_111 h (nI (shm g.1 g.2.1 48)) 49 0 (by omega) (by omega)
  rw [plf_0, nI_0] at e2
  rw [show lvf g.2.1 0 0 = [] from rfl] at e2
  have e3 : fL_holds_111 (nI g.2.2) g 49 0 0 0 (nI (shm g.1 g.2.1 48)) 0 1 0 = _ := e2
  rw [e3]
  have hp := lvf_perm h.nd h.lt
  have hf0 := h.2.2
  have hfr := fr_eq_ps g.1 g.2.1
  unfold fL_holds_419
  rw [if_neg (by decide), hp.length_eq, ps_perm hp, plf_n h.lt, pm_e h8, if_pos (show nI g.2.1.length = aWins g from rfl), if_pos rfl, if_pos (show ps g.1 g.2.1 + aFree g = 24 by unfold aFree; rw [hfr]; grind), if_neg (Int32.not_lt.mpr (show 0 ≤ aFree g from hf0))]
  by_cases hz : nI g.2.1.length = 0
  · rw [if_pos hz]; exact ho_487 _ _
  · rw [if_neg hz]
    have hs1 : sn g.1 g.2.1 (lvf g.2.1 0 g.2.2) ≤ 8 := Nat.le_trans List.countP_le_length (by rw [hp.length_eq]; exact h8)
    have hs2 := shm_le g.1 g.2.1 48
    have key : sn g.1 g.2.1 (lvf g.2.1 0 g.2.2) = 0 ↔ shm g.1 g.2.1 48 = 0 := by
      rw [shm_0, sn, List.countP_eq_zero]
      constructor
      · intro q j hj
        cases hs : shc g.1 g.2.1 j with
        | none => rfl
        | some w => exact absurd (seen_of hj hs) (q w (hp.mem_iff.mpr (sh_mem g.2.1 hs)))
      · intro q v _ hs
        obtain ⟨j, hj, hs2⟩ := seen_to hs
        rw [q j hj] at hs2
        cases hs2
    have le0 : ∀ {a : Nat}, a < 1000 → (nI a ≤ (0 : Int32) ↔ a = 0) := fun ha => by
      have := nI_L (b := 0) ha (by decide)
      rw [nI_0] at this
      exact this.trans Nat.le_zero
    by_cases hq : sn g.1 g.2.1 (lvf g.2.1 0 g.2.2) = 0
    · rw [if_pos ((le0 (by omega)).mpr hq)]
      unfold fL_holds_474
      rw [if_pos ((le0 (by omega)).mpr (key.mp hq))]
      unfold fL_holds_484
      rw [if_pos rfl]
      exact ho_487 _ _
    · rw [if_neg (fun z => hq ((le0 (by omega)).mp z))]
      unfold fL_holds_474
      rw [if_neg (fun z => hq (key.mpr ((le0 (by omega)).mp z)))]
      unfold fL_holds_484
      rw [if_pos rfl]
      exact ho_487 _ _
