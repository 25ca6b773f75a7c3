/-! BOTH SIDES, CALL BY CALL -/
theorem rf_00 {I : IT} {x : Int32} : rf I x 0 0 = x := u2_s _ _ _ _
def xIO : String := "java/lang/IndexOutOfBoundsException"
def xIA : String := "java/lang/IllegalArgumentException"
def xIS : String := "java/lang/IllegalStateException"
/-- a call that only reads -/
def prR (I E : IT) (P : PT) (L : List Nat) (n : Nat) (mr : Option (Int32 × PH)) (cr : Option (String ⊕ Int32)) : Prop := ∃ b J, mr = some (b, hM J) ∧ hC J E P n = hC I E P n ∧ RC J E P L n ∧ ((J 0 0 = 0 ∧ cr = some (.inr b)) ∨ (J 0 0 = 1 ∧ cr = some (.inl xIO)))
theorem prR_n {I E : IT} {P : PT} {L : List Nat} {n : Nat} {b : Int32} {mr : Option (Int32 × PH)} {cr : Option (String ⊕ Int32)} (h : RC I E P L n) (h1 : mr = some (b, hM (rf I 1))) (h2 : cr = some (.inl xIO)) : prR I E P L n mr cr := ⟨b, rf I 1, h1, hC_rf _ _ _ _ _, h.rf 1, Or.inr ⟨u2_s _ _ _ _, h2⟩⟩
theorem prR_y {I E : IT} {P : PT} {L : List Nat} {n : Nat} {b : Int32} {mr : Option (Int32 × PH)} {cr : Option (String ⊕ Int32)} (h : RC I E P L n) (h1 : mr = some (b, hM (rf I 0))) (h2 : cr = some (.inr b)) : prR I E P L n mr cr := ⟨b, rf I 0, h1, hC_rf _ _ _ _ _, h.rf 0, Or.inl ⟨u2_s _ _ _ _, h2⟩⟩
theorem X_at {I E : IT} {P : PT} {L : List Nat} {n : Nat} (h : RC I E P L n) (c r : Int32) : prR I E P L n (fX4_at (hM I) 0 c r) (fX3_at (hC I E P n) 0 c r) := by
  cases hc : cell c r with
  | false => exact prR_n h (mAt_n hc) (R_atN hc)
  | true => exact prR_y h (mAt_y h.2.2.1 hc) (R_atY h hc)
theorem X_placeOf {I E : IT} {P : PT} {L : List Nat} {n : Nat} (h : RC I E P L n) (w : Int32) : prR I E P L n (fX4_placeOf (hM I) 0 w) (fX3_placeOf (hC I E P n) 0 w) := by
  rcases h.2.2.1.cs w with ⟨h1, -⟩ | ⟨p, v, h1, rfl, h3, h4, h5⟩
  · exact prR_n h (mPlaceOf_n h.2.2.1 h1) (R_n h h1).1.1.1.1.1
  · exact prR_y h (mPlaceOf_y h.2.2.1 h3 h5) (R_y h h1 h3).1.1.1.1.1
theorem X_isSeen {I E : IT} {P : PT} {L : List Nat} {n : Nat} (h : RC I E P L n) (w : Int32) : prR I E P L n (fX4_isSeen (hM I) 0 w) (fX3_isSeen (hC I E P n) 0 w) := by
  rcases h.2.2.1.cs w with ⟨h1, -⟩ | ⟨p, v, h1, rfl, h3, h4, h5⟩
  · exact prR_n h (mIsSeen_n h.2.2.1 h1) (R_n h h1).1.1.1.1.2
  · exact prR_y h (mIsSeen_y h.2.2.1 h3 h5 h4) (R_y h h1 h3).1.1.1.1.2
theorem X_pagesOf {I E : IT} {P : PT} {L : List Nat} {n : Nat} (h : RC I E P L n) (w : Int32) : prR I E P L n (fX4_pagesOf (hM I) 0 w) (fX3_pagesOf (hC I E P n) 0 w) := by
  rcases h.2.2.1.cs w with ⟨h1, -⟩ | ⟨p, v, h1, rfl, h3, h4, h5⟩
  · exact prR_n h (mPagesOf_n h.2.2.1 h1) (R_n h h1).1.1.1.2
  · exact prR_y h (mPagesOf_y h.2.2.1 h3 h5 h4) (R_y h h1 h3).1.1.1.2
theorem X_picture {I E : IT} {P : PT} {L : List Nat} {n : Nat} (h : RC I E P L n) (w : Int32) : prR I E P L n (fX4_picture (hM I) 0 w) (fX3_picture (hC I E P n) 0 w) := by
  rcases h.2.2.1.cs w with ⟨h1, -⟩ | ⟨p, v, h1, rfl, h3, h4, h5⟩
  · exact prR_n h (mPicture_n h.2.2.1 h1) (R_n h h1).1.1.2
  · exact prR_y h (mPicture_y h.2.2.1 h3 h5 h4) (R_y h h1 h3).1.1.2
theorem X_pace {I E : IT} {P : PT} {L : List Nat} {n : Nat} (h : RC I E P L n) (w : Int32) : prR I E P L n (fX4_pace (hM I) 0 w) (fX3_pace (hC I E P n) 0 w) := by
  rcases h.2.2.1.cs w with ⟨h1, -⟩ | ⟨p, v, h1, rfl, h3, h4, h5⟩
  · exact prR_n h (mPace_n h.2.2.1 h1) (R_n h h1).1.2
  · exact prR_y h (mPace_y h.2.2.1 h3 h5 h4) (R_y h h1 h3).1.2
theorem X_misses {I E : IT} {P : PT} {L : List Nat} {n : Nat} (h : RC I E P L n) (w : Int32) : prR I E P L n (fX4_misses (hM I) 0 w) (fX3_misses (hC I E P n) 0 w) := by
  rcases h.2.2.1.cs w with ⟨h1, -⟩ | ⟨p, v, h1, rfl, h3, h4, h5⟩
  · exact prR_n h (mMisses_n h.2.2.1 h1) (R_n h h1).2.1
  · exact prR_y h (mMisses_y h.2.2.1 h3 h5 h4) (R_y h h1 h3).2.1
theorem X_deadline {I E : IT} {P : PT} {L : List Nat} {n : Nat} (h : RC I E P L n) (w : Int32) : prR I E P L n (fX4_deadline (hM I) 0 w) (fX3_deadline (hC I E P n) 0 w) := by
  rcases h.2.2.1.cs w with ⟨h1, -⟩ | ⟨p, v, h1, rfl, h3, h4, h5⟩
  · exact prR_n h (mDeadline_n h.2.2.1 h1) (R_n h h1).2.2
  · exact prR_y h (mDeadline_y h.2.2.1 h3 h5 h4) (R_y h h1 h3).2.2
/-- a call that changes what there is; cds: the names of the exceptions, and the reference's numbers of them -/
def prM (cds : List (String × Int32)) (mr : Option (Int32 × PH)) (cr : Option ((String × PH) ⊕ (Int32 × PH))) : Prop := ∃ b J E' P' L' n', mr = some (b, hM J) ∧ RC J E' P' L' n' ∧ ((J 0 0 = 0 ∧ cr = some (.inr (b, hC J E' P' n'))) ∨ ∃ Ex g, (Ex, J 0 0) ∈ cds ∧ cr = some (.inl (Ex, g)) ∧ sub (hC J E' P' n') g)
theorem sub_r (g : PH) : sub g g := fun _ _ h => h
theorem prM_n {I E : IT} {P : PT} {L : List Nat} {n : Nat} {b k : Int32} {Ex : String} {cds : List (String × Int32)} {mr : Option (Int32 × PH)} {cr : Option ((String × PH) ⊕ (Int32 × PH))} (h : RC I E P L n) (h1 : mr = some (b, hM (rf I k))) (h2 : cr = some (.inl (Ex, hC I E P n))) (h3 : (Ex, k) ∈ cds) : prM cds mr cr :=
  ⟨b, rf I k, E, P, L, n, h1, h.rf k, Or.inr ⟨Ex, hC I E P n, by rw [rf_00]; exact h3, h2, by rw [hC_rf]; exact sub_r _⟩⟩
theorem X_close {I E : IT} {P : PT} {L : List Nat} {n : Nat} (h : RC I E P L n) (w : Int32) : prM [(xIO, 1)] (fX4_close (hM I) 0 w) (fX3_close (hC I E P n) 0 w) := by
  rcases h.2.2.1.cs w with ⟨h1, -⟩ | ⟨p, v, h1, rfl, h3, h4, h5⟩
  · exact prM_n h (mClose_n h.2.2.1 h1) (M_closeN h h1) (by decide)
  · obtain ⟨E', P', q1, q2⟩ := M_closeY (h.rf 0) h1 h3
    rw [hC_rf] at q1
    exact ⟨_, _, E', P', _, n, mClose_y h.2.2.1 h3 (List.getElem?_eq_some_iff.mp h1).1, q2, Or.inl ⟨by rw [lA_low _ _ (by omega), clI, u2_k _ _ _ (by omega), shl_r _ _ _ (by omega), rf_00], q1⟩⟩
theorem X_lay {I E : IT} {P : PT} {L : List Nat} {n : Nat} (h : RC I E P L n) (w x2 : Int32) : prM [(xIO, 1)] (fX4_lay (hM I) 0 w x2) (fX3_lay (hC I E P n) 0 w x2) := by
  rcases h.2.2.1.cs w with ⟨h1, -⟩ | ⟨p, v, h1, rfl, h3, h4, h5⟩
  · exact prM_n h (mLay_n h.2.2.1 h1) (M_layN h h1) (by decide)
  · have hp := (List.getElem?_eq_some_iff.mp h1).1
    by_cases hx : x2 = 0
    · subst hx
      obtain ⟨E', P', q1, q2⟩ := M_layD (h.rf 0) h1 h3
      rw [hC_rf] at q1
      exact ⟨_, _, E', P', _, n, mLay_d h.2.2.1 h3 hp h4, q2, Or.inl ⟨by rw [lA_low _ _ (by omega), dnI, u2_a _ _ _ _ (by omega), shr_r _ _ (by omega), rf_00], q1⟩⟩
    · obtain ⟨E', P', q1, q2⟩ := M_layU (h.rf 0) h1 h3 hx
      rw [hC_rf] at q1
      exact ⟨_, _, E', P', _, n, mLay_u h.2.2.1 h3 hp h4 hx, q2, Or.inl ⟨by rw [lA_low _ _ (by omega), upI, u2_a _ _ _ _ (by omega), shl_r _ _ _ (by omega), rf_00], q1⟩⟩
theorem X_advance {I E : IT} {P : PT} {L : List Nat} {n : Nat} (h : RC I E P L n) (t : Int32) : prM [(xIA, 1), (xIS, 2)] (fX4_advance (hM I) 0 t) (fX3_advance (hC I E P n) 0 t) := by
  cases hi : inB t 1 200 with
  | false => exact prM_n h (mAdv_r hi) (M_advA hi) (by decide)
  | true =>
    by_cases h2 : I 0 1 + t ≤ 100000
    · obtain ⟨M, hM1, rfl⟩ := i_nI (x := t) (m := 200) (by have := (inB_p hi).1; grind) (by rw [show nI 200 = (200 : Int32) by decide]; exact (inB_p hi).2) (by omega)
      obtain ⟨E', q1, q2⟩ := M_advY (h.rf 0) hM1 hi (by rw [rf_0 _ _ (by omega)]; exact h2)
      rw [hC_rf] at q1
      have hn := h.2.2.2.2
      exact ⟨_, _, E', P, L, n, mAdv_y hn h.2.2.1 h.2.2.2.1 hM1 hi h2, q2, Or.inl ⟨by rw [itI_0 _ _ _ _ (by omega), rf_00], q1⟩⟩
    · exact prM_n h (mAdv_s hi h2) (M_advS hi h2) (by decide)
theorem X_input {I E : IT} {P : PT} {L : List Nat} {n : Nat} (h : RC I E P L n) (c r : Int32) : prM [(xIO, 1)] (fX4_input (hM I) 0 c r) (fX3_input (hC I E P n) 0 c r) := by
  cases hc : cell c r with
  | false => exact prM_n h (mInput_n hc) (M_inputN hc) (by decide)
  | true =>
    obtain ⟨E', q1, q2⟩ := M_inputY (h.rf 0) hc
    rw [hC_rf, geo_sh (rf_geo I 0)] at q1
    rw [geo_sh (rf_geo I 0)] at q2
    refine ⟨_, _, E', P, L, n, mInput_y h.2.2.1 hc, q2, Or.inl ⟨?_, q1⟩⟩
    cases sh I c r L with
    | none => exact u2_s _ _ _ _
    | some w => dsimp only; rw [inpI_o _ (Or.inl (by omega)), rf_00]
theorem X_open {I E : IT} {P : PT} {L : List Nat} {n : Nat} (h : RC I E P L n) (x1 x2 x3 x4 x5 x6 x7 : Int32) (h5 : x5 = 0 ∨ x5 = 1) : prM [(xIA, 1), (xIS, 2)] (fX4_open (hM I) 0 x1 x2 x3 x4 x5 x6 x7) (fX3_open (hC I E P n) 0 x1 x2 x3 x4 x5 x6 x7 (wa n) (ta n)) := by
  have h8 := h.1.1.1.1.2.1
  have hn := h.2.2.2.2
  cases ho : okA x1 x2 x3 x4 x6 x7 with
  | false => exact prM_n h (mOpen_r ho) (M_openA ho) (by decide)
  | true =>
    by_cases hf : 8 ≤ L.length ∨ 40 ≤ n
    · exact prM_n h (mOpen_f h.2.2.1 h.2.2.2.1 hn ho hf) (M_openF h ho hf) (by decide)
    · have hL : L.length < 8 := by omega
      have hn4 : n < 40 := by omega
      have hm := mOpen_y h.2.2.1 h.2.2.2.1 hL hn4 ho h5
      unfold openI at hm
      cases hl : lendI (L ++ [n]) n (opI I n L.length x1 x2 x3 x4 x5) with
      | none =>
        obtain ⟨g, F, Q, q1, q2, q3⟩ := M_openN h ho hL hn4 h5 hl
        rw [hl] at hm
        dsimp only at hm
        exact ⟨_, _, F, Q, L, n, hm, q3, Or.inr ⟨xIS, g, by rw [rf_00]; decide, q1, q2⟩⟩
      | some J =>
        obtain ⟨F, Q, q1, q2⟩ := M_openS h ho hL hn4 h5 hl
        rw [hl] at hm
        dsimp only at hm
        exact ⟨_, _, F, Q, _, n + 1, hm, q2, Or.inl ⟨by rw [lA_low _ _ (by omega), opJ_rf, rf_00], q1⟩⟩
/-- move -/
def prV (cds : List (String × Int32)) (mr : Option PH) (cr : Option ((String × PH) ⊕ PH)) : Prop := ∃ J E' P' L' n', mr = some (hM J) ∧ RC J E' P' L' n' ∧ ((J 0 0 = 0 ∧ cr = some (.inr (hC J E' P' n'))) ∨ ∃ Ex g, (Ex, J 0 0) ∈ cds ∧ cr = some (.inl (Ex, g)) ∧ sub (hC J E' P' n') g)
theorem X_move {I E : IT} {P : PT} {L : List Nat} {n : Nat} (h : RC I E P L n) (w x2 x3 : Int32) : prV [(xIO, 1), (xIA, 2)] (fX4_move (hM I) 0 w x2 x3) (fX3_move (hC I E P n) 0 w x2 x3) := by
  have no : ∀ {k : Int32} {Ex : String}, fX4_move (hM I) 0 w x2 x3 = some (hM (rf I k)) → fX3_move (hC I E P n) 0 w x2 x3 = some (.inl (Ex, hC I E P n)) → (Ex, k) ∈ [(xIO, (1 : Int32)), (xIA, 2)] → prV [(xIO, 1), (xIA, 2)] (fX4_move (hM I) 0 w x2 x3) (fX3_move (hC I E P n) 0 w x2 x3) := fun {k Ex} a1 a2 a3 =>
    ⟨rf I k, E, P, L, n, a1, h.rf k, Or.inr ⟨Ex, hC I E P n, by rw [rf_00]; exact a3, a2, by rw [hC_rf]; exact sub_r _⟩⟩
  rcases h.2.2.1.cs w with ⟨h1, -⟩ | ⟨p, v, h1, rfl, h3, h4, h5⟩
  · exact no (mMove_n h.2.2.1 h1) (M_moveN h h1) (by decide)
  · cases hb : (inB x2 0 (8 - I 4 v) && inB x3 0 (6 - I 5 v)) with
    | false => exact no (mMove_b h.2.2.1 h3 h5 h4 hb) (M_moveB h h1 hb) (by decide)
    | true =>
      obtain ⟨E', P', q1, q2⟩ := M_moveY (h.rf 0) h1 (x2 := x2) (x3 := x3) (by rw [rf_a _ _ (by omega), rf_a _ _ (by omega)]; exact hb)
      rw [hC_rf] at q1
      exact ⟨_, E', P', L, n, mMove_y h.2.2.1 h3 h5 h4 hb, q2, Or.inl ⟨by rw [lA_low _ _ (by omega), mvI_r _ (by omega) (by omega), rf_00], q1⟩⟩
/-- the calls without an argument: both answers -/
theorem X_show {I E : IT} {P : PT} {L : List Nat} {n : Nat} (h : RC I E P L n) : ∃ b J, fX4_show (hM I) 0 = some (b, hM J) ∧ fX3_show (hC I E P n) 0 = some (b, hC J E P n) ∧ RC J E P L n := by
  obtain ⟨q1, q2⟩ := M_show h
  exact ⟨_, _, mShow h.2.2.1, by rw [hC_rf]; exact q1, q2.rf 0⟩
theorem X_tick {I E : IT} {P : PT} {L : List Nat} {n : Nat} (h : RC I E P L n) : ∃ b, fX4_tick (hM I) 0 = some (b, hM (rf I 0)) ∧ fX3_tick (hC I E P n) 0 = some b := ⟨_, mTick I, R_tick I E P n⟩
theorem X_windows {I E : IT} {P : PT} {L : List Nat} {n : Nat} (h : RC I E P L n) : ∃ b, fX4_windows (hM I) 0 = some (b, hM (rf I 0)) ∧ fX3_windows (hC I E P n) 0 = some b := ⟨_, mWindows h.2.2.1, R_windows h⟩
theorem X_free {I E : IT} {P : PT} {L : List Nat} {n : Nat} (h : RC I E P L n) : ∃ b, fX4_free (hM I) 0 = some (b, hM (rf I 0)) ∧ fX3_free (hC I E P n) 0 = some b := ⟨_, mFreeC h.2.2.1, R_free h⟩
theorem X_damage {I E : IT} {P : PT} {L : List Nat} {n : Nat} (h : RC I E P L n) : ∃ b, fX4_damage (hM I) 0 = some (b, hM (rf I 0)) ∧ fX3_damage (hC I E P n) 0 = some b := ⟨_, mDamageC h.2.2.1, R_damage h⟩
