/-! WHAT EVERY CALL ANSWERS, as plain functions of (numbers, stack, windows ever) -/
abbrev Sg : Type := IT × List Nat × Nat
def kIX : Int32 := -2000000001
def kAR : Int32 := -2000000002
def kST : Int32 := -2000000003
def wp (w : Int32) : Nat → List Nat → Option (Nat × Nat)
  | _, [] => none
  | k, v :: l => if nI v = w then some (k, v) else wp w (k + 1) l
theorem wp_n {w : Int32} : ∀ (l : List Nat) (k : Nat), wp w k l = none → plc w k l = -1 := by
  intro l
  induction l with
  | nil => intro k _; rfl
  | cons v l ih =>
    intro k h
    unfold wp at h
    unfold plc
    by_cases hv : nI v = w
    · rw [if_pos hv] at h; cases h
    · rw [if_neg hv] at h ⊢; exact ih _ h
theorem wp_y {w : Int32} : ∀ (l : List Nat) (k p v : Nat), wp w k l = some (p, v) → k ≤ p ∧ l[p - k]? = some v ∧ w = nI v ∧ plc w k l = nI p := by
  intro l
  induction l with
  | nil => intro k p v h; cases h
  | cons u l ih =>
    intro k p v h
    unfold wp at h
    unfold plc
    by_cases hv : nI u = w
    · rw [if_pos hv] at h ⊢
      cases h
      exact ⟨Nat.le_refl _, by rw [Nat.sub_self]; rfl, hv.symm, rfl⟩
    · rw [if_neg hv] at h ⊢
      obtain ⟨h1, h2, h3, h4⟩ := ih _ _ _ h
      refine ⟨by omega, ?_, h3, h4⟩
      rw [show p - k = (p - (k + 1)) + 1 by omega]
      exact h2
theorem wp_cs (w : Int32) (L : List Nat) : (wp w 0 L = none ∧ plc w 0 L = -1) ∨ ∃ p v, wp w 0 L = some (p, v) ∧ L[p]? = some v ∧ w = nI v ∧ plc (nI v) 0 L = nI p := by
  cases h : wp w 0 L with
  | none => exact Or.inl ⟨rfl, wp_n _ _ h⟩
  | some z =>
    obtain ⟨p, v⟩ := z
    obtain ⟨-, h2, h3, h4⟩ := wp_y _ _ _ _ h
    rw [Nat.sub_zero] at h2
    exact Or.inr ⟨p, v, rfl, h2, h3, by rw [← h3]; exact h4⟩
def aW (g : Sg) (f : Nat → Nat → Int32) (w : Int32) : Int32 := match wp w 0 g.2.1 with
  | none => kIX
  | some z => f z.1 z.2
def aTick (g : Sg) : Int32 := g.1 0 1
def aWins (g : Sg) : Int32 := nI g.2.1.length
def aFree (g : Sg) : Int32 := fr g.1 g.2.1
def aDmg (g : Sg) : Int32 := dmg g.1 g.2.1
def aAt (g : Sg) (c r : Int32) : Int32 := if cell c r = true then o2i (sh g.1 c r g.2.1) else kIX
def aPlace (g : Sg) (w : Int32) : Int32 := aW g (fun p _ => nI p) w
def aSeen (g : Sg) (w : Int32) : Int32 := aW g (fun _ v => b2i (seen g.1 g.2.1 v)) w
def aPages (g : Sg) (w : Int32) : Int32 := aW g (fun _ v => if g.1 9 v = 0 then 0 else need g.1 v) w
def aPic (g : Sg) (w : Int32) : Int32 := aW g (fun _ v => g.1 10 v) w
def aPace (g : Sg) (w : Int32) : Int32 := aW g (fun _ v => g.1 11 v) w
def aMiss (g : Sg) (w : Int32) : Int32 := aW g (fun _ v => g.1 12 v) w
def aDead (g : Sg) (w : Int32) : Int32 := aW g (fun _ v => g.1 15 v) w
def aClose (g : Sg) (w : Int32) : Int32 × Sg := match wp w 0 g.2.1 with
  | none => (kIX, g)
  | some z => (nI (g.2.1.length - 1), lA (g.2.1.eraseIdx z.1) (clI g.1 z.1 g.2.1.length), g.2.1.eraseIdx z.1, g.2.2)
def aMove (g : Sg) (w c r : Int32) : Int32 × Sg := match wp w 0 g.2.1 with
  | none => (kIX, g)
  | some z => if (inB c 0 (8 - g.1 4 z.2) && inB r 0 (6 - g.1 5 z.2)) = true then (0, lA g.2.1 (mvI g.1 z.2 c r), g.2.1, g.2.2) else (kAR, g)
def aLay (g : Sg) (w b : Int32) : Int32 × Sg := match wp w 0 g.2.1 with
  | none => (kIX, g)
  | some z => if b = 0 then (nI z.1, lA (z.2 :: g.2.1.eraseIdx z.1) (dnI g.1 z.1 z.2), z.2 :: g.2.1.eraseIdx z.1, g.2.2) else (nI z.1, lA (g.2.1.eraseIdx z.1 ++ [z.2]) (upI g.1 z.1 g.2.1.length z.2), g.2.1.eraseIdx z.1 ++ [z.2], g.2.2)
def aPass (g : Sg) (t : Int32) : Int32 × Sg := if inB t 1 200 = true then (if g.1 0 1 + t ≤ 100000 then (itI g.2.1 g.2.2 t.toNatClampNeg g.1 0 1, itI g.2.1 g.2.2 t.toNatClampNeg g.1, g.2.1, g.2.2) else (kST, g)) else (kAR, g)
def aInput (g : Sg) (c r : Int32) : Int32 × Sg := if cell c r = true then (o2i (sh g.1 c r g.2.1), (match sh g.1 c r g.2.1 with | none => g.1 | some w => inpI g.1 w), g.2.1, g.2.2) else (kIX, g)
def aShow (g : Sg) : Int32 × Sg := (dmg g.1 g.2.1, (List.range' 0 48).foldl (shS g.2.1) g.1, g.2.1, g.2.2)
def aOpen (g : Sg) (x1 x2 x3 x4 x5 x6 x7 : Int32) : Int32 × Sg :=
  if okA x1 x2 x3 x4 x6 x7 = true then (if 8 ≤ g.2.1.length ∨ 40 ≤ g.2.2 then (kST, g) else match lendI (g.2.1 ++ [g.2.2]) g.2.2 (opI g.1 g.2.2 g.2.1.length x1 x2 x3 x4 x5) with
    | none => (kST, rf (u2 (opI g.1 g.2.2 g.2.1.length x1 x2 x3 x4 x5) 0 3 (nI g.2.1.length)) 2, g.2.1, g.2.2)
    | some J => (nI g.2.2, lA (g.2.1 ++ [g.2.2]) (opJ (rf J 0) g.2.2 x6 x7), g.2.1 ++ [g.2.2], g.2.2 + 1)) else (kAR, g)
/-! the component answers so -/
def GC (g : Sg) (E : IT) (P : PT) : Prop := RC g.1 E P g.2.1 g.2.2
def gh (g : Sg) (E : IT) (P : PT) : PH := hC g.1 E P g.2.2
def rdS (o : Option (String ⊕ Int32)) (a : Int32) : Prop := (o = some (.inl xIO) ∧ a = kIX) ∨ o = some (.inr a)
def chS (cds : List (String × Int32)) (o : Option ((String × PH) ⊕ (Int32 × PH))) (a : Int32 × Sg) : Prop := ∃ E P, GC a.2 E P ∧ (o = some (.inr (a.1, gh a.2 E P)) ∨ ∃ Ex g, (Ex, a.1) ∈ cds ∧ o = some (.inl (Ex, g)) ∧ sub (gh a.2 E P) g)
def chV (cds : List (String × Int32)) (o : Option ((String × PH) ⊕ PH)) (a : Int32 × Sg) : Prop := ∃ E P, GC a.2 E P ∧ ((a.1 = 0 ∧ o = some (.inr (gh a.2 E P))) ∨ ∃ Ex g, (Ex, a.1) ∈ cds ∧ o = some (.inl (Ex, g)) ∧ sub (gh a.2 E P) g)
theorem S_tick (g : Sg) (E : IT) (P : PT) : fX3_tick (gh g E P) 0 = some (aTick g) := R_tick _ _ _ _
theorem S_windows {g : Sg} {E : IT} {P : PT} (h : GC g E P) : fX3_windows (gh g E P) 0 = some (aWins g) := R_windows h
theorem S_free {g : Sg} {E : IT} {P : PT} (h : GC g E P) : fX3_free (gh g E P) 0 = some (aFree g) := R_free h
theorem S_damage {g : Sg} {E : IT} {P : PT} (h : GC g E P) : fX3_damage (gh g E P) 0 = some (aDmg g) := R_damage h
theorem S_show {g : Sg} {E : IT} {P : PT} (h : GC g E P) : fX3_show (gh g E P) 0 = some ((aShow g).1, gh (aShow g).2 E P) ∧ GC (aShow g).2 E P := M_show h
theorem S_at {g : Sg} {E : IT} {P : PT} (h : GC g E P) (c r : Int32) : rdS (fX3_at (gh g E P) 0 c r) (aAt g c r) := by
  unfold aAt
  cases hc : cell c r with
  | false => rw [if_neg (by decide)]; exact Or.inl ⟨R_atN hc, rfl⟩
  | true => rw [if_pos rfl]; exact Or.inr (R_atY h hc)
theorem S_rd {g : Sg} {E : IT} {P : PT} (h : GC g E P) (w : Int32) : ((((rdS (fX3_placeOf (gh g E P) 0 w) (aPlace g w) ∧ rdS (fX3_isSeen (gh g E P) 0 w) (aSeen g w)) ∧ rdS (fX3_pagesOf (gh g E P) 0 w) (aPages g w)) ∧ rdS (fX3_picture (gh g E P) 0 w) (aPic g w)) ∧ rdS (fX3_pace (gh g E P) 0 w) (aPace g w)) ∧ rdS (fX3_misses (gh g E P) 0 w) (aMiss g w) ∧ rdS (fX3_deadline (gh g E P) 0 w) (aDead g w) := by
  unfold aPlace aSeen aPages aPic aPace aMiss aDead aW
  rcases wp_cs w g.2.1 with ⟨h1, h2⟩ | ⟨p, v, h1, h2, rfl, h4⟩
  · rw [h1]
    obtain ⟨⟨⟨⟨⟨q1, q2⟩, q3⟩, q4⟩, q5⟩, q6, q7⟩ := R_n h h2
    exact ⟨⟨⟨⟨⟨Or.inl ⟨q1, rfl⟩, Or.inl ⟨q2, rfl⟩⟩, Or.inl ⟨q3, rfl⟩⟩, Or.inl ⟨q4, rfl⟩⟩, Or.inl ⟨q5, rfl⟩⟩, Or.inl ⟨q6, rfl⟩, Or.inl ⟨q7, rfl⟩⟩
  · rw [h1]
    obtain ⟨⟨⟨⟨⟨q1, q2⟩, q3⟩, q4⟩, q5⟩, q6, q7⟩ := R_y h h2 h4
    exact ⟨⟨⟨⟨⟨Or.inr q1, Or.inr q2⟩, Or.inr q3⟩, Or.inr q4⟩, Or.inr q5⟩, Or.inr q6, Or.inr q7⟩
theorem chS_n {cds : List (String × Int32)} {o : Option ((String × PH) ⊕ (Int32 × PH))} {g : Sg} {E : IT} {P : PT} {k : Int32} {Ex : String} (h : GC g E P) (hk : (Ex, k) ∈ cds) (ho : o = some (.inl (Ex, gh g E P))) : chS cds o (k, g) := ⟨E, P, h, Or.inr ⟨Ex, _, hk, ho, sub_r _⟩⟩
theorem S_close {g : Sg} {E : IT} {P : PT} (h : GC g E P) (w : Int32) : chS [(xIO, kIX)] (fX3_close (gh g E P) 0 w) (aClose g w) := by
  unfold aClose
  rcases wp_cs w g.2.1 with ⟨h1, h2⟩ | ⟨p, v, h1, h2, rfl, h4⟩
  · rw [h1]; exact chS_n h List.mem_cons_self (M_closeN h h2)
  · rw [h1]
    obtain ⟨E', P', q1, q2⟩ := M_closeY h h2 h4
    exact ⟨E', P', q2, Or.inl q1⟩
theorem S_lay {g : Sg} {E : IT} {P : PT} (h : GC g E P) (w b : Int32) : chS [(xIO, kIX)] (fX3_lay (gh g E P) 0 w b) (aLay g w b) := by
  unfold aLay
  rcases wp_cs w g.2.1 with ⟨h1, h2⟩ | ⟨p, v, h1, h2, rfl, h4⟩
  · rw [h1]; exact chS_n h List.mem_cons_self (M_layN h h2)
  · rw [h1]
    dsimp only
    by_cases hb : b = 0
    · rw [if_pos hb]
      subst hb
      obtain ⟨E', P', q1, q2⟩ := M_layD h h2 h4
      exact ⟨E', P', q2, Or.inl q1⟩
    · rw [if_neg hb]
      obtain ⟨E', P', q1, q2⟩ := M_layU h h2 h4 hb
      exact ⟨E', P', q2, Or.inl q1⟩
theorem S_move {g : Sg} {E : IT} {P : PT} (h : GC g E P) (w c r : Int32) : chV [(xIO, kIX), (xIA, kAR)] (fX3_move (gh g E P) 0 w c r) (aMove g w c r) := by
  unfold aMove
  rcases wp_cs w g.2.1 with ⟨h1, h2⟩ | ⟨p, v, h1, h2, rfl, h4⟩
  · rw [h1]; exact ⟨E, P, h, Or.inr ⟨_, _, List.mem_cons_self, M_moveN h h2, sub_r _⟩⟩
  · rw [h1]
    dsimp only
    cases hb : (inB c 0 (8 - g.1 4 v) && inB r 0 (6 - g.1 5 v)) with
    | true =>
      rw [if_pos rfl]
      obtain ⟨E', P', q1, q2⟩ := M_moveY h h2 hb
      exact ⟨E', P', q2, Or.inl ⟨rfl, q1⟩⟩
    | false =>
      rw [if_neg (by decide)]
      exact ⟨E, P, h, Or.inr ⟨_, _, List.mem_cons_of_mem _ List.mem_cons_self, M_moveB h h2 hb, sub_r _⟩⟩
theorem S_input {g : Sg} {E : IT} {P : PT} (h : GC g E P) (c r : Int32) : chS [(xIO, kIX)] (fX3_input (gh g E P) 0 c r) (aInput g c r) := by
  unfold aInput
  cases hc : cell c r with
  | false => rw [if_neg (by decide)]; exact chS_n h List.mem_cons_self (M_inputN hc)
  | true =>
    rw [if_pos rfl]
    obtain ⟨E', q1, q2⟩ := M_inputY h hc
    exact ⟨E', P, q2, Or.inl q1⟩
theorem S_advance {g : Sg} {E : IT} {P : PT} (h : GC g E P) (t : Int32) : chS [(xIA, kAR), (xIS, kST)] (fX3_advance (gh g E P) 0 t) (aPass g t) := by
  unfold aPass
  cases hc : inB t 1 200 with
  | false => rw [if_neg (by decide)]; exact chS_n h List.mem_cons_self (M_advA hc)
  | true =>
    rw [if_pos rfl]
    by_cases h2 : g.1 0 1 + t ≤ 100000
    · rw [if_pos h2]
      obtain ⟨q1, q2⟩ := inB_p hc
      obtain ⟨M, hM, rfl⟩ : ∃ M, M ≤ 200 ∧ t = nI M := i_nI (Int32.le_trans (by decide) q1) (show t ≤ nI 200 from q2) (by decide)
      obtain ⟨E', q3, q4⟩ := M_advY h hM hc h2
      rw [nI_clamp (by omega)]
      exact ⟨E', P, q4, Or.inl q3⟩
    · rw [if_neg h2]
      exact chS_n h (List.mem_cons_of_mem _ List.mem_cons_self) (M_advS hc h2)
theorem S_open {g : Sg} {E : IT} {P : PT} (h : GC g E P) (x1 x2 x3 x4 x5 x6 x7 : Int32) (h5 : x5 = 0 ∨ x5 = 1) : chS [(xIA, kAR), (xIS, kST)] (fX3_open (gh g E P) 0 x1 x2 x3 x4 x5 x6 x7 (wa g.2.2) (ta g.2.2)) (aOpen g x1 x2 x3 x4 x5 x6 x7) := by
  unfold aOpen
  cases hc : okA x1 x2 x3 x4 x6 x7 with
  | false => rw [if_neg (by decide)]; exact chS_n h List.mem_cons_self (M_openA hc)
  | true =>
    rw [if_pos rfl]
    by_cases h2 : 8 ≤ g.2.1.length ∨ 40 ≤ g.2.2
    · rw [if_pos h2]
      exact chS_n h (List.mem_cons_of_mem _ List.mem_cons_self) (M_openF h hc h2)
    · rw [if_neg h2]
      cases hl : lendI (g.2.1 ++ [g.2.2]) g.2.2 (opI g.1 g.2.2 g.2.1.length x1 x2 x3 x4 x5) with
      | none =>
        obtain ⟨k, F, Q, q1, q2, q3⟩ := M_openN h hc (by omega) (by omega) h5 hl
        exact ⟨F, Q, q3, Or.inr ⟨_, k, List.mem_cons_of_mem _ List.mem_cons_self, q1, q2⟩⟩
      | some J =>
        obtain ⟨F, Q, q1, q2⟩ := M_openS h hc (by omega) (by omega) h5 hl
        exact ⟨F, Q, q2, Or.inl q1⟩
