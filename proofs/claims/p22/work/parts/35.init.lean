/-! THE TWO CONSTRUCTORS -/
theorem p_ni_eq {h : PH} {q t n : Nat} (hq : h q = none) : p_ni h q t n = some (p_up h q (.inl (t, n, .inl fun _ => 0))) := by
  unfold p_ni
  rw [hq]
theorem p_nr_eq {h : PH} {q n : Nat} (hq : h q = none) : p_nr h q n = some (p_up h q (cA n fun _ => none)) := by
  unfold p_nr
  rw [hq]
  rfl
theorem p_sr_eq {h : PH} {a ci k x : Nat} {fs : List Value} (hh : h a = some (.inr (ci, fs))) (hk : k < fs.length) (hx : (h x).isSome = true) : p_sr h a ci k x = some (p_up h a (.inr (ci, fs.set k (.ref x)))) := by
  unfold p_sr
  rw [if_pos hx]
  exact p_s_eq hh hk
def mFp (k : Nat) : List Value := (List.range 22).map fun j => if j < 4 then .int 0 else if j < 4 + k then .ref (j - 3) else .null
def hMp (k : Nat) : PH := fun q => if q = 0 then some (.inr (4, mFp k)) else if q ≤ k then some (.inl (mT q, mN q, .inl fun _ => 0)) else none
def hMn (k : Nat) : PH := p_up (hMp k) (k + 1) (.inl (mT (k + 1), mN (k + 1), .inl fun _ => 0))
theorem hMp_ob (k : Nat) : p_ob (hMp k) 0 4 = some () := p_ob_eq (fs := mFp k) (by unfold hMp; rw [if_pos rfl])
theorem hMp_n (k : Nat) : p_ni (hMp k) (k + 1) (mT (k + 1)) (mN (k + 1)) = some (hMn k) := by
  rw [p_ni_eq (by unfold hMp; rw [if_neg (by omega), if_neg (by omega)])]
  rfl
theorem hMp_s (k : Nat) (hk : k < 18) : p_sr (hMn k) 0 4 (4 + k) (k + 1) = some (hMp (k + 1)) := by
  rw [p_sr_eq (fs := mFp k) (by unfold hMn; rw [p_up_o _ _ (by omega)]; unfold hMp; rw [if_pos rfl]) (by unfold mFp; simp; omega) (by unfold hMn; rw [p_up_s]; rfl)]
  have e : (mFp k).set (4 + k) (.ref (k + 1)) = mFp (k + 1) := by
    unfold mFp
    refine List.ext_getElem (by simp) fun i h1 h2 => ?_
    rw [List.getElem_set]
    simp only [List.getElem_map, List.getElem_range]
    by_cases hi : 4 + k = i
    · subst hi
      rw [if_pos rfl, if_neg (by omega), if_pos (by omega), show 4 + k - 3 = k + 1 by omega]
    · rw [if_neg hi]
      by_cases h3 : i < 4
      · rw [if_pos h3, if_pos h3]
      · rw [if_neg h3, if_neg h3]
        by_cases h4 : i < 4 + k
        · rw [if_pos h4, if_pos (by omega)]
        · rw [if_neg h4, if_neg (by omega)]
  rw [e]
  congr 1
  funext q
  by_cases h0 : q = 0
  · subst h0; rw [p_up_s]; unfold hMp; rw [if_pos rfl]
  · rw [p_up_o _ _ h0]
    unfold hMn
    by_cases h1 : q = k + 1
    · subst h1; rw [p_up_s]; unfold hMp; rw [if_neg h0, if_pos (Nat.le_refl _)]
    · rw [p_up_o _ _ h1]
      unfold hMp
      rw [if_neg h0, if_neg h0]
      by_cases h2 : q ≤ k
      · rw [if_pos h2, if_pos (by omega)]
      · rw [if_neg h2, if_neg (by omega)]
def Z0 : IT := fun _ _ => 0
theorem hMp_18 : hMp 18 = hM Z0 := by
  funext q
  unfold hMp hM
  by_cases h0 : q = 0
  · rw [if_pos h0, if_pos h0]; rfl
  · rw [if_neg h0, if_neg h0]; rfl
/-- the first numbers of all -/
def shl17 (m : Nat) (I : IT) (k : Nat) : IT := match m with
  | 0 => I
  | m + 1 => shl17 m (u2 I 17 k (-1)) (k + 1)
theorem mInit_150 : ∀ (m k f : Nat) (I : IT), k + m = 48 → m < f → fX4_init_150 f (hM I) 0 (nI k) = some (hM (shl17 m I k)) := by
  intro m
  induction m with
  | zero =>
    intro k f I hk hf
    obtain ⟨f, rfl⟩ : ∃ g, f = g + 1 := ⟨f - 1, by omega⟩
    rw [fX4_init_150, if_pos (by rw [← nI_48]; exact (nI_L (by omega) (by omega)).mpr (by omega))]
    rfl
  | succ m ih =>
    intro k f I hk hf
    obtain ⟨f, rfl⟩ : ∃ g, f = g + 1 := ⟨f - 1, by omega⟩
    rw [fX4_init_150, if_neg (fun q => by rw [← nI_48] at q; have := (nI_L (by omega) (by omega)).mp q; omega), hM_gr20, Option.bind_some, hM_st17 _ _ (show k < 48 by omega), Option.bind_some, nI_1]
    exact ih (k + 1) f _ (by omega) (by omega)
def I0 : IT := shl17 48 Z0 0
theorem mInit : fX4_init (hMp 0) 0 1 2 3 4 5 6 7 8 9 10 11 12 13 14 15 16 17 18 = some (hM I0) := by

  have n0 : p_ni (hMp 0) 1 0 8 = some (hMn 0) := hMp_n 0
  have s0 : p_sr (hMn 0) 0 4 4 1 = some (hMp 1) := hMp_s 0 (by decide)
  have n1 : p_ni (hMp 1) 2 0 40 = some (hMn 1) := hMp_n 1
  have s1 : p_sr (hMn 1) 0 4 5 2 = some (hMp 2) := hMp_s 1 (by decide)
  have n2 : p_ni (hMp 2) 3 0 40 = some (hMn 2) := hMp_n 2
  have s2 : p_sr (hMn 2) 0 4 6 3 = some (hMp 3) := hMp_s 2 (by decide)
  have n3 : p_ni (hMp 3) 4 0 40 = some (hMn 3) := hMp_n 3
  have s3 : p_sr (hMn 3) 0 4 7 4 = some (hMp 4) := hMp_s 3 (by decide)
  have n4 : p_ni (hMp 4) 5 0 40 = some (hMn 4) := hMp_n 4
  have s4 : p_sr (hMn 4) 0 4 8 5 = some (hMp 5) := hMp_s 4 (by decide)
  have n5 : p_ni (hMp 5) 6 1 40 = some (hMn 5) := hMp_n 5
  have s5 : p_sr (hMn 5) 0 4 9 6 = some (hMp 6) := hMp_s 5 (by decide)
  have n6 : p_ni (hMp 6) 7 0 40 = some (hMn 6) := hMp_n 6
  have s6 : p_sr (hMn 6) 0 4 10 7 = some (hMp 7) := hMp_s 6 (by decide)
  have n7 : p_ni (hMp 7) 8 0 40 = some (hMn 7) := hMp_n 7
  have s7 : p_sr (hMn 7) 0 4 11 8 = some (hMp 8) := hMp_s 7 (by decide)
  have n8 : p_ni (hMp 8) 9 1 40 = some (hMn 8) := hMp_n 8
  have s8 : p_sr (hMn 8) 0 4 12 9 = some (hMp 9) := hMp_s 8 (by decide)
  have n9 : p_ni (hMp 9) 10 0 40 = some (hMn 9) := hMp_n 9
  have s9 : p_sr (hMn 9) 0 4 13 10 = some (hMp 10) := hMp_s 9 (by decide)
  have n10 : p_ni (hMp 10) 11 0 40 = some (hMn 10) := hMp_n 10
  have s10 : p_sr (hMn 10) 0 4 14 11 = some (hMp 11) := hMp_s 10 (by decide)
  have n11 : p_ni (hMp 11) 12 0 40 = some (hMn 11) := hMp_n 11
  have s11 : p_sr (hMn 11) 0 4 15 12 = some (hMp 12) := hMp_s 11 (by decide)
  have n12 : p_ni (hMp 12) 13 0 40 = some (hMn 12) := hMp_n 12
  have s12 : p_sr (hMn 12) 0 4 16 13 = some (hMp 13) := hMp_s 12 (by decide)
  have n13 : p_ni (hMp 13) 14 0 40 = some (hMn 13) := hMp_n 13
  have s13 : p_sr (hMn 13) 0 4 17 14 = some (hMp 14) := hMp_s 13 (by decide)
  have n14 : p_ni (hMp 14) 15 0 40 = some (hMn 14) := hMp_n 14
  have s14 : p_sr (hMn 14) 0 4 18 15 = some (hMp 15) := hMp_s 14 (by decide)
  have n15 : p_ni (hMp 15) 16 0 40 = some (hMn 15) := hMp_n 15
  have s15 : p_sr (hMn 15) 0 4 19 16 = some (hMp 16) := hMp_s 15 (by decide)
  have n16 : p_ni (hMp 16) 17 0 48 = some (hMn 16) := hMp_n 16
  have s16 : p_sr (hMn 16) 0 4 20 17 = some (hMp 17) := hMp_s 16 (by decide)
  have n17 : p_ni (hMp 17) 18 0 48 = some (hMn 17) := hMp_n 17
  have s17 : p_sr (hMn 17) 0 4 21 18 = some (hMp 18) := hMp_s 17 (by decide)
  rw [fX4_init, hMp_ob, Option.bind_some, n0, Option.bind_some, s0, Option.bind_some, hMp_ob, Option.bind_some, n1, Option.bind_some, s1, Option.bind_some, hMp_ob, Option.bind_some, n2, Option.bind_some, s2, Option.bind_some, hMp_ob, Option.bind_some, n3, Option.bind_some, s3, Option.bind_some, hMp_ob, Option.bind_some, n4, Option.bind_some, s4, Option.bind_some, hMp_ob, Option.bind_some, n5, Option.bind_some, s5, Option.bind_some, hMp_ob, Option.bind_some, n6, Option.bind_some, s6, Option.bind_some, hMp_ob, Option.bind_some, n7, Option.bind_some, s7, Option.bind_some, hMp_ob, Option.bind_some, n8, Option.bind_some, s8, Option.bind_some, hMp_ob, Option.bind_some, n9, Option.bind_some, s9, Option.bind_some, hMp_ob, Option.bind_some, n10, Option.bind_some, s10, Option.bind_some, hMp_ob, Option.bind_some, n11, Option.bind_some, s11, Option.bind_some, hMp_ob, Option.bind_some, n12, Option.bind_some, s12, Option.bind_some, hMp_ob, Option.bind_some, n13, Option.bind_some, s13, Option.bind_some, hMp_ob, Option.bind_some, n14, Option.bind_some, s14, Option.bind_some, hMp_ob, Option.bind_some, n15, Option.bind_some, s15, Option.bind_some, hMp_ob, Option.bind_some, n16, Option.bind_some, s16, Option.bind_some, hMp_ob, Option.bind_some, n17, Option.bind_some, s17, Option.bind_some, hMp_18]
  have h := mInit_150 48 0 64 Z0 rfl (by omega)
  rw [nI_0] at h
  exact h
theorem shl17_r : ∀ (m : Nat) (I : IT) (k : Nat) {a : Nat}, a ≠ 17 → shl17 m I k a = I a := by
  intro m
  induction m with
  | zero => intro I k a _; rfl
  | succ m ih => intro I k a h; rw [shl17, ih _ _ h, u2_r _ _ _ h]
theorem I0_r {a : Nat} (h : a ≠ 17) : I0 a = fun _ => 0 := by rw [I0, shl17_r _ _ _ h]; rfl

/-! the component's -/
def Pn : PT := fun _ _ => none
def hCp (fs : List Value) (k : Nat) : PH := fun q => if q = 0 then some (.inr (3, fs)) else if q ≤ k then some (cL Z0 Z0 Pn q) else none
theorem hCp_0 (fs : List Value) (k : Nat) : hCp fs k 0 = some (.inr (3, fs)) := by unfold hCp; rw [if_pos rfl]
theorem hCp_ob (fs : List Value) (k : Nat) : p_ob (hCp fs k) 0 3 = some () := p_ob_eq (hCp_0 fs k)
theorem hCp_nx (fs : List Value) (k : Nat) : p_up (hCp fs k) (k + 1) (cL Z0 Z0 Pn (k + 1)) = hCp fs (k + 1) := by
  funext q
  by_cases h1 : q = k + 1
  · subst h1; rw [p_up_s]; unfold hCp; rw [if_neg (by omega), if_pos (Nat.le_refl _)]
  · rw [p_up_o _ _ h1]
    unfold hCp
    by_cases h0 : q = 0
    · rw [if_pos h0, if_pos h0]
    · rw [if_neg h0, if_neg h0]
      by_cases h2 : q ≤ k
      · rw [if_pos h2, if_pos (by omega)]
      · rw [if_neg h2, if_neg (by omega)]
theorem hCp_n (fs : List Value) (k : Nat) : hCp fs k (k + 1) = none := by unfold hCp; rw [if_neg (by omega), if_neg (by omega)]
theorem hCp_sr (fs : List Value) (k j x : Nat) (hj : j < fs.length) (hx : 1 ≤ x ∧ x ≤ k) : p_sr (hCp fs k) 0 3 j x = some (hCp (fs.set j (.ref x)) k) := by
  rw [p_sr_eq (hCp_0 fs k) hj (by unfold hCp; rw [if_neg (by omega), if_pos (by omega)]; rfl)]
  congr 1
  funext q
  by_cases h0 : q = 0
  · subst h0; rw [p_up_s, hCp_0]
  · rw [p_up_o _ _ h0]; unfold hCp; rw [if_neg h0, if_neg h0]
theorem hCp_list (fs : List Value) (k : Nat) (e1 : cL Z0 Z0 Pn (k + 1) = .inr (2, [.ref (k + 2), .int 0])) (e2 : cL Z0 Z0 Pn (k + 2) = cA 8 fun _ => none) : ∃ X, p_nw (hCp fs k) (k + 1) 2 [.null, .int 0] = some X ∧ p_ob X (k + 1) 2 = some () ∧ fX2_init X (k + 1) (k + 2) = some (hCp fs (k + 2)) := by
  refine ⟨_, p_nw_eq (hCp_n fs k), p_ob_eq (p_up_s _ _ _), ?_⟩
  rw [fX2_init, p_ob_eq (p_up_s _ _ _), Option.bind_some, p_nr_eq (by rw [p_up_o _ _ (by omega)]; unfold hCp; rw [if_neg (by omega), if_neg (by omega)]), Option.bind_some, p_up_c _ _ _ (show k + 1 ≠ k + 2 by omega), p_sr_eq (p_up_s _ _ _) (by decide) (by rw [p_up_o _ _ (by omega), p_up_s]; rfl), Option.bind_some, p_up_up, p_si_eq (p_up_s _ _ _) (by simp), Option.bind_some, p_up_up, p_up_c _ _ _ (show k + 2 ≠ k + 1 by omega), ← e2]
  show some (p_up (p_up (hCp fs k) (k + 1) (.inr (2, [.ref (k + 2), .int 0]))) (k + 2) _) = _
  rw [← e1, hCp_nx, hCp_nx]
theorem hCp_7 : hCp [.ref 1, .ref 3, .ref 5, .ref 6, .ref 7, .int 0, .int 0, .int 0] 7 = hC Z0 Z0 Pn 0 := by
  funext q
  unfold hCp hC
  by_cases h0 : q = 0
  · rw [if_pos h0, if_pos (by omega), h0]; rfl
  · rw [if_neg h0]
    by_cases h7 : q ≤ 7
    · rw [if_pos h7, if_pos (by omega)]
    · rw [if_neg h7, if_neg (by omega), if_neg (by omega)]
def E0 : IT := u2 Z0 2 0 24
theorem cInit_53 : ∀ (m k f : Nat) (I : IT), k + m = 48 → m < f → (∀ j, shl17 m I k 0 j = 0) → fX3_init_53 f (hC I Z0 Pn 0) 0 (nI k) = some (hC (shl17 m I k) E0 Pn 0) := by
  intro m
  induction m with
  | zero =>
    intro k f I hk hf hz
    obtain ⟨f, rfl⟩ : ∃ g, f = g + 1 := ⟨f - 1, by omega⟩
    have hz' : ∀ j, I 0 j = 0 := hz
    rw [fX3_init_53, if_pos (by rw [← nI_48]; exact (nI_L (by omega) (by omega)).mpr (by omega)), C_si5, Option.bind_some, C_si6, Option.bind_some, C_si7, Option.bind_some]
    refine congrArg some (hC_I _ _ _ _ _ ?_ ?_ fun a h1 h2 h3 => ?_)
    · rw [u2_s]; exact (hz' 1).symm
    · rw [u2_k _ _ _ (by omega), u2_s]; exact (hz' 2).symm
    · rw [u2_r _ _ _ (by omega), u2_r _ _ _ (by omega)]; rfl
  | succ m ih =>
    intro k f I hk hf hz
    obtain ⟨f, rfl⟩ : ∃ g, f = g + 1 := ⟨f - 1, by omega⟩
    rw [fX3_init_53, if_neg (fun q => by rw [← nI_48] at q; have := (nI_L (by omega) (by omega)).mp q; omega), C_gr3, Option.bind_some, C_st6 _ _ _ _ _ (show k < 48 by omega), Option.bind_some, nI_1]
    exact ih (k + 1) f _ (by omega) (by omega) hz
theorem cInit : fX3_init (hCp [.null, .null, .null, .null, .null, .int 0, .int 0, .int 0] 0) 0 1 2 3 4 5 6 7 = some (hC I0 E0 Pn 0) := by
  obtain ⟨X1, a1, a2, a3⟩ := hCp_list [.null, .null, .null, .null, .null, .int 0, .int 0, .int 0] 0 rfl rfl
  obtain ⟨X2, b1, b2, b3⟩ := hCp_list [.ref 1, .null, .null, .null, .null, .int 0, .int 0, .int 0] 2 rfl rfl
  have c1 : p_sr (hCp [.null, .null, .null, .null, .null, .int 0, .int 0, .int 0] 2) 0 3 0 1 = some (hCp [.ref 1, .null, .null, .null, .null, .int 0, .int 0, .int 0] 2) := hCp_sr _ _ _ _ (by decide) (by decide)
  have c2 : p_sr (hCp [.ref 1, .null, .null, .null, .null, .int 0, .int 0, .int 0] 4) 0 3 1 3 = some (hCp [.ref 1, .ref 3, .null, .null, .null, .int 0, .int 0, .int 0] 4) := hCp_sr _ _ _ _ (by decide) (by decide)
  have c3 : p_sr (hCp [.ref 1, .ref 3, .null, .null, .null, .int 0, .int 0, .int 0] 5) 0 3 2 5 = some (hCp [.ref 1, .ref 3, .ref 5, .null, .null, .int 0, .int 0, .int 0] 5) := hCp_sr _ _ _ _ (by decide) (by decide)
  have c4 : p_sr (hCp [.ref 1, .ref 3, .ref 5, .null, .null, .int 0, .int 0, .int 0] 6) 0 3 3 6 = some (hCp [.ref 1, .ref 3, .ref 5, .ref 6, .null, .int 0, .int 0, .int 0] 6) := hCp_sr _ _ _ _ (by decide) (by decide)
  have c5 : p_sr (hCp [.ref 1, .ref 3, .ref 5, .ref 6, .null, .int 0, .int 0, .int 0] 7) 0 3 4 7 = some (hCp [.ref 1, .ref 3, .ref 5, .ref 6, .ref 7, .int 0, .int 0, .int 0] 7) := hCp_sr _ _ _ _ (by decide) (by decide)
  have d5 : p_nr (hCp [.ref 1, .ref 3, .null, .null, .null, .int 0, .int 0, .int 0] 4) 5 48 = some (hCp [.ref 1, .ref 3, .null, .null, .null, .int 0, .int 0, .int 0] 5) := by rw [p_nr_eq (hCp_n _ 4)]; exact congrArg some (hCp_nx _ 4)
  have d6 : p_ni (hCp [.ref 1, .ref 3, .ref 5, .null, .null, .int 0, .int 0, .int 0] 5) 6 0 48 = some (hCp [.ref 1, .ref 3, .ref 5, .null, .null, .int 0, .int 0, .int 0] 6) := by rw [p_ni_eq (hCp_n _ 5)]; exact congrArg some (hCp_nx _ 5)
  have d7 : p_ni (hCp [.ref 1, .ref 3, .ref 5, .ref 6, .null, .int 0, .int 0, .int 0] 6) 7 0 48 = some (hCp [.ref 1, .ref 3, .ref 5, .ref 6, .null, .int 0, .int 0, .int 0] 7) := by rw [p_ni_eq (hCp_n _ 6)]; exact congrArg some (hCp_nx _ 6)
  have h := cInit_53 48 0 64 Z0 rfl (by omega) (fun j => by rw [shl17_r _ _ _ (by omega)]; rfl)
  rw [nI_0] at h
  rw [fX3_init, hCp_ob, Option.bind_some, a1, Option.bind_some]
  have a4 : p_ob X1 0 3 = some () := by
    rw [p_nw_eq (hCp_n _ 0)] at a1
    cases a1
    exact p_ob_eq (by rw [p_up_o _ _ (by omega)]; exact hCp_0 _ _)
  have b4 : p_ob X2 0 3 = some () := by
    rw [p_nw_eq (hCp_n _ 2)] at b1
    cases b1
    exact p_ob_eq (by rw [p_up_o _ _ (by omega)]; exact hCp_0 _ _)
  rw [a4, Option.bind_some, a2, Option.bind_some, Option.bind_some, a3, Option.bind_some, c1, Option.bind_some, hCp_ob, Option.bind_some, b1, Option.bind_some, b4, Option.bind_some, b2, Option.bind_some, Option.bind_some, b3, Option.bind_some, c2, Option.bind_some, hCp_ob, Option.bind_some, d5, Option.bind_some, c3, Option.bind_some, hCp_ob, Option.bind_some, d6, Option.bind_some, c4, Option.bind_some, hCp_ob, Option.bind_some, d7, Option.bind_some, c5, Option.bind_some, hCp_7]
  exact h
theorem RC_0 : RC I0 E0 Pn [] 0 := by
  have z : ∀ a j, a ≠ 17 → I0 a j = 0 := fun a j h => by rw [I0_r h]
  refine ⟨⟨⟨⟨⟨fun k _ => rfl, by simp, fun i hi => (by cases hi)⟩, fun i hi => (by cases hi), rfl⟩, List.nodup_nil, fun i hi => (by cases hi), fun i hi => absurd hi (Nat.not_lt_zero i), rfl⟩, ⟨⟨fun k _ => rfl, by decide, fun i hi => (by cases hi)⟩, rfl⟩, fun q _ => rfl, fun a q i h => (by cases h)⟩, ⟨fun i hi => (by cases hi), ⟨by rw [z 0 1 (by omega)]; decide, by rw [z 0 1 (by omega)]; decide⟩, fun i _ => ⟨⟨⟨z 9 i (by omega), z 10 i (by omega)⟩, z 12 i (by omega), z 13 i (by omega)⟩, z 16 i (by omega)⟩, fun k _ _ => z 18 k (by omega)⟩, ⟨⟨z 0 3 (by omega), by decide, fun k n h => (by cases h)⟩, z 0 2 (by omega), by decide⟩⟩
