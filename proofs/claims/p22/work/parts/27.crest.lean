/-! BETWEEN TWO CALLS -/
/-- what lending may change -/
def dk (L : List Nat) (I J : IT) : Prop := (∀ a, a ≠ 9 → a ≠ 10 → a ≠ 14 → a ≠ 15 → J a = I a) ∧ (∀ w, J 15 w = I 15 w ∨ J 15 w = -1) ∧ ∀ a w, w ∉ L → J a w = I a w
theorem dk.r (L : List Nat) (I : IT) : dk L I I := ⟨fun _ _ _ _ _ => rfl, fun _ => Or.inl rfl, fun _ _ _ => rfl⟩
theorem dk.t {L : List Nat} {I J K : IT} (h : dk L I J) (k : dk L J K) : dk L I K :=
  ⟨fun a h1 h2 h3 h4 => (k.1 a h1 h2 h3 h4).trans (h.1 a h1 h2 h3 h4), fun w => by
    rcases k.2.1 w with q | q
    · rw [q]; exact h.2.1 w
    · exact Or.inr q, fun a w hw => (k.2.2 a w hw).trans (h.2.2 a w hw)⟩
theorem dk.u {L : List Nat} (I : IT) {a w : Nat} (x : Int32) (ha : a = 9 ∨ a = 10 ∨ a = 14) (hw : w ∈ L) : dk L I (u2 I a w x) :=
  ⟨fun b h1 h2 h3 h4 => u2_r _ _ _ (by omega), fun j => Or.inl (u2_a _ _ _ _ (by omega)), fun b j hj => by
    have : j ≠ w := fun e => hj (by rw [e]; exact hw)
    simp [u2, this]⟩
theorem dk.d {L : List Nat} (I : IT) {w : Nat} (hw : w ∈ L) : dk L I (drpI I w) := by
  unfold drpI
  split
  · exact dk.r L I
  · have q : dk L I (u2 I 15 w (-1)) := ⟨fun b h1 h2 h3 h4 => u2_r _ _ _ h4, fun j => by
      by_cases e : j = w
      · rw [e, u2_s]; exact Or.inr rfl
      · exact Or.inl (u2_k _ _ _ e), fun b j hj => by
      have : j ≠ w := fun e => hj (by rw [e]; exact hw)
      simp [u2, this]⟩
    exact q.t (dk.u _ _ (by omega) hw)
theorem dk.l {L : List Nat} (I : IT) {w : Nat} (hw : w ∈ L) : dk L I (lseI I w) := ((dk.u I 0 (by omega) hw).t (dk.u _ 0 (by omega) hw)).t (dk.d _ hw)
theorem dk.tk {L : List Nat} (v : Nat) : ∀ (l : List Nat) (I : IT), (∀ x, x ∈ l → x ∈ L) → dk L I (tk L v l I) := by
  intro l
  induction l with
  | nil => intro I _; exact dk.r L I
  | cons x l ih =>
    intro I h
    unfold Jvm.Pilot.CFrameBrokerLaw_law_r2629_d0af24.tk
    split
    · exact dk.r L I
    · split
      · exact (dk.l I (h x List.mem_cons_self)).t (ih _ fun y hy => h y (List.mem_cons_of_mem _ hy))
      · exact ih _ fun y hy => h y (List.mem_cons_of_mem _ hy)
theorem dk.e {L : List Nat} {v : Nat} {I J : IT} (hv : v ∈ L) (h : lendI L v I = some J) : dk L I J := by
  unfold lendI at h
  split at h
  · cases h
    exact (dk.tk v L I fun _ q => q).t (dk.u _ 1 (by omega) hv)
  · cases h
theorem dk.s {L : List Nat} (I : IT) {v : Nat} (hv : v ∈ L) : dk L I (stL L I v) := by
  unfold stL
  split
  · cases h : lendI L v I with
    | none => exact dk.r L I
    | some J => exact dk.e hv h
  · exact dk.r L I
theorem dk.ss {L : List Nat} : ∀ (l : List Nat) (I : IT), (∀ x, x ∈ l → x ∈ L) → dk L I (l.foldl (stL L) I) := by
  intro l
  induction l with
  | nil => intro I _; exact dk.r L I
  | cons x l ih => intro I h; exact (dk.s I (h x List.mem_cons_self)).t (ih _ fun y hy => h y (List.mem_cons_of_mem _ hy))
theorem dk.a (L : List Nat) (I : IT) : dk L I (lA L I) := dk.ss L.reverse I fun x hx => List.mem_reverse.mp hx
theorem Fa.dk {I J : IT} {L M : List Nat} {d : Int32} (h : Fa d I M) (k : dk L I J) : Fa d J M := fun w hw => by
  obtain ⟨⟨h7, h8⟩, h11, h13, h15⟩ := h w hw
  unfold fw
  rw [k.1 0 (by omega) (by omega) (by omega) (by omega), k.1 7 (by omega) (by omega) (by omega) (by omega), k.1 8 (by omega) (by omega) (by omega) (by omega), k.1 11 (by omega) (by omega) (by omega) (by omega), k.1 13 (by omega) (by omega) (by omega) (by omega), k.1 16 (by omega) (by omega) (by omega) (by omega)]
  refine ⟨⟨h7, h8⟩, h11, h13, ?_⟩
  rcases k.2.1 w with q | q
  · rw [q]; exact h15
  · exact Or.inl q
def pB (P : PT) (n : Nat) : Prop := ∀ a q i, P a q = some i → i < n
/-- windows that have never been -/
def uz (I : IT) (n : Nat) : Prop := ∀ i, n ≤ i → ((I 9 i = 0 ∧ I 10 i = 0) ∧ (I 12 i = 0 ∧ I 13 i = 0)) ∧ I 16 i = 0
def sI (I : IT) : Prop := ∀ k, k < 48 → I 17 k = -1 → I 18 k = 0
def RC (I E : IT) (P : PT) (L : List Nat) (n : Nat) : Prop := (cS I E P L n ∧ bN E P L n ∧ (∀ q, q < 48 → P 2 q = shc I L q) ∧ pB P n) ∧ (Fa 1 I L ∧ tb I 100000 ∧ uz I n ∧ sI I) ∧ (RM L I ∧ I 0 2 = nI n ∧ n ≤ 40)
theorem uz.of {I J : IT} {n : Nat} (h : uz I n) (k : ∀ i, n ≤ i → ∀ a, 9 ≤ a → a ≤ 16 → J a i = I a i) : uz J n := fun i hi => by
  rw [k i hi 9 (by omega) (by omega), k i hi 10 (by omega) (by omega), k i hi 12 (by omega) (by omega), k i hi 13 (by omega) (by omega), k i hi 16 (by omega) (by omega)]
  exact h i hi
theorem sI.of {I J : IT} (h : sI I) (h1 : J 17 = I 17) (h2 : J 18 = I 18) : sI J := fun k hk => by rw [h1, h2]; exact h k hk
/-- only the refusal changes -/
theorem RC.rf {I E : IT} {P : PT} {L : List Nat} {n : Nat} (h : RC I E P L n) (x : Int32) : RC (rf I x) E P L n := by
  obtain ⟨⟨hS, hB, hT, hP⟩, ⟨hF, ht, hz, hs⟩, ⟨hR, h2, hn⟩⟩ := h
  refine ⟨⟨hS.task (fun a h1 h2 _ _ => rf_a I x (by omega)) (eS.r E) (hS.2.2.2.1.of (rf_a I x (by omega)) rfl rfl), hB, fun q hq => ?_, hP⟩, ⟨fun w hw => (hF w hw).of (rf_0 I x (by omega)) (fun a h1 h2 => by rw [rf_a I x (by omega)]), ?_, hz.of (fun i hi a h1 h2 => by rw [rf_a I x (by omega)]), hs.of (rf_a I x (by omega)) (rf_a I x (by omega))⟩, ⟨hR.rf x, ?_, hn⟩⟩
  · rw [geo_shc (rf_geo I x)]; exact hT q hq
  · unfold tb; rw [rf_0 I x (by omega)]; exact ht
  · rw [rf_0 I x (by omega)]; exact h2
/-! finding -/
theorem F_get {E : IT} {P : PT} {L : List Nat} {n : Nat} (I : IT) (hB : bN E P L n) (hn : n ≤ 40) (x : Int32) : (plc x 0 (lvf L 0 n) = -1 ∧ fX3_find (hC I E P n) 0 x = some (.inl "java/lang/IndexOutOfBoundsException")) ∨ ∃ p v, (lvf L 0 n)[p]? = some v ∧ v ∈ L ∧ x = nI v ∧ plc x 0 (lvf L 0 n) = nI p ∧ fX3_find (hC I E P n) 0 x = some (.inr (some (wa v))) := by
  rcases plc_or (w := x) (lvf L 0 n) 0 with h | ⟨p, v, h1, h2, h3⟩
  · refine Or.inl ⟨h, ?_⟩
    rw [fX3_find, C_gr0, Option.bind_some, Option.bind_some, C_bob, Option.bind_some, b_indexOf hB.1 (by omega), Option.bind_some, h, Option.bind_some, b_getn, Option.bind_some]
  · rw [Nat.zero_add] at h3
    obtain ⟨g4, g5, g6⟩ := hB.1.g h1
    refine Or.inr ⟨p, v, h1, lvf_in (List.mem_of_getElem? h1), h2, h3, ?_⟩
    rw [fX3_find, C_gr0, Option.bind_some, Option.bind_some, C_bob, Option.bind_some, b_indexOf hB.1 (by omega), Option.bind_some, h3, Option.bind_some, b_get _ _ _ _ g6, Option.bind_some, g4]
    rfl
theorem F_no {I E : IT} {P : PT} {L : List Nat} {n : Nat} (h : RC I E P L n) {x : Int32} (hx : plc x 0 L = -1) : fX3_find (hC I E P n) 0 x = some (.inl "java/lang/IndexOutOfBoundsException") := by
  rcases F_get I h.1.2.1 h.2.2.2.2 x with ⟨-, q⟩ | ⟨p, v, q1, q2, q3, q4, q5⟩
  · exact q
  · have := h.2.2.1.mem q2
    rw [q3] at hx
    exact absurd q2 ((h.2.2.1.plcm (by omega)).mp hx)
theorem F_yes {I E : IT} {P : PT} {L : List Nat} {n p v : Nat} (h : RC I E P L n) (hp : L[p]? = some v) : fX3_find (hC I E P n) 0 (nI v) = some (.inr (some (wa v))) ∧ (∃ p', (lvf L 0 n)[p']? = some v ∧ plc (nI v) 0 (lvf L 0 n) = nI p') ∧ v < n ∧ v ∈ L := by
  have hm := List.mem_of_getElem? hp
  have hv := h.1.1.1.1.2.2 v hm
  have h40 := h.2.2.2.2
  rcases F_get I h.1.2.1 h40 (nI v) with ⟨q1, -⟩ | ⟨p', v', q1, q2, q3, q4, q5⟩
  · exact absurd (lvf_mem' hm hv) ((plc_m1 (show v < 1000 by omega) (lvf L 0 n) 0 (fun x hx => by have := (lvf_mem.mp hx).1; omega) (by have := h.1.2.1.1.2.1; omega)).mp q1)
  · have := h.2.2.1.mem q2
    have e : v = v' := (nI_E (by omega) (by omega)).mp q3
    subst e
    exact ⟨q5, ⟨p', q1, q4⟩, hv, hm⟩
/-! what only reads -/
theorem R_tick (I E : IT) (P : PT) (n : Nat) : fX3_tick (hC I E P n) 0 = some (I 0 1) := by rw [fX3_tick, C_gi7, Option.bind_some]
theorem R_windows {I E : IT} {P : PT} {L : List Nat} {n : Nat} (h : RC I E P L n) : fX3_windows (hC I E P n) 0 = some (nI L.length) := by
  rw [fX3_windows, C_gr1, Option.bind_some, C_sob, Option.bind_some, s_count, Option.bind_some, h.1.1.1.2.2]
theorem R_free {I E : IT} {P : PT} {L : List Nat} {n : Nat} (h : RC I E P L n) : fX3_free (hC I E P n) 0 = some (fr I L) := by
  rw [fX3_free, C_gi6, Option.bind_some, h.1.1.2.2.2.2]
theorem R_n {I E : IT} {P : PT} {L : List Nat} {n : Nat} (h : RC I E P L n) {x : Int32} (hx : plc x 0 L = -1) : ((((fX3_placeOf (hC I E P n) 0 x = some (.inl "java/lang/IndexOutOfBoundsException") ∧ fX3_isSeen (hC I E P n) 0 x = some (.inl "java/lang/IndexOutOfBoundsException")) ∧ fX3_pagesOf (hC I E P n) 0 x = some (.inl "java/lang/IndexOutOfBoundsException")) ∧ fX3_picture (hC I E P n) 0 x = some (.inl "java/lang/IndexOutOfBoundsException")) ∧ fX3_pace (hC I E P n) 0 x = some (.inl "java/lang/IndexOutOfBoundsException")) ∧ fX3_misses (hC I E P n) 0 x = some (.inl "java/lang/IndexOutOfBoundsException") ∧ fX3_deadline (hC I E P n) 0 x = some (.inl "java/lang/IndexOutOfBoundsException") := by
  have q := F_no h hx
  refine ⟨⟨⟨⟨⟨?_, ?_⟩, ?_⟩, ?_⟩, ?_⟩, ?_, ?_⟩
  · rw [fX3_placeOf, C_gr1, Option.bind_some, C_ob, Option.bind_some, q, Option.bind_some]
  · rw [fX3_isSeen, C_ob, Option.bind_some, q, Option.bind_some]
  · rw [fX3_pagesOf, C_ob, Option.bind_some, q, Option.bind_some]
  · rw [fX3_picture, C_ob, Option.bind_some, q, Option.bind_some]
  · rw [fX3_pace, C_ob, Option.bind_some, q, Option.bind_some]
  · rw [fX3_misses, C_ob, Option.bind_some, q, Option.bind_some]
  · rw [fX3_deadline, C_ob, Option.bind_some, q, Option.bind_some]
theorem R_y {I E : IT} {P : PT} {L : List Nat} {n p v : Nat} (h : RC I E P L n) (hp : L[p]? = some v) (hx : plc (nI v) 0 L = nI p) : ((((fX3_placeOf (hC I E P n) 0 (nI v) = some (.inr (nI p)) ∧ fX3_isSeen (hC I E P n) 0 (nI v) = some (.inr (b2i (seen I L v)))) ∧ fX3_pagesOf (hC I E P n) 0 (nI v) = some (.inr (if I 9 v = 0 then 0 else need I v))) ∧ fX3_picture (hC I E P n) 0 (nI v) = some (.inr (I 10 v))) ∧ fX3_pace (hC I E P n) 0 (nI v) = some (.inr (I 11 v))) ∧ fX3_misses (hC I E P n) 0 (nI v) = some (.inr (I 12 v)) ∧ fX3_deadline (hC I E P n) 0 (nI v) = some (.inr (I 15 v)) := by
  obtain ⟨q, -, hv, hm⟩ := F_yes h hp
  have hn := h.2.2.2.2
  refine ⟨⟨⟨⟨⟨?_, ?_⟩, ?_⟩, ?_⟩, ?_⟩, ?_, ?_⟩
  · rw [fX3_placeOf, C_gr1, Option.bind_some, C_ob, Option.bind_some, q, Option.bind_some]
    dsimp only
    rw [Option.bind_some, W_gi0 _ _ _ hv, Option.bind_some, C_sob, Option.bind_some, s_indexOf h.1.1.1.1 (by omega), Option.bind_some, hx]
  · rw [fX3_isSeen, C_ob, Option.bind_some, q, Option.bind_some]
    dsimp only
    rw [Option.bind_some, W_gi7 _ _ _ hv, Option.bind_some, h.1.1.2.2.1 v hm, p_z_b, Option.bind_some]
  · rw [fX3_pagesOf, C_ob, Option.bind_some, q, Option.bind_some]
    dsimp only
    rw [Option.bind_some, W_ob _ _ _ hv, Option.bind_some, W_held _ _ _ hv, Option.bind_some]
  · rw [fX3_picture, C_ob, Option.bind_some, q, Option.bind_some]
    dsimp only
    rw [Option.bind_some, W_gi9 _ _ _ hv, Option.bind_some]
  · rw [fX3_pace, C_ob, Option.bind_some, q, Option.bind_some]
    dsimp only
    rw [Option.bind_some, W_gr _ _ _ hv, Option.bind_some, T_gi2 _ _ _ hv, Option.bind_some]
  · rw [fX3_misses, C_ob, Option.bind_some, q, Option.bind_some]
    dsimp only
    rw [Option.bind_some, W_gr _ _ _ hv, Option.bind_some, T_gi3 _ _ _ hv, Option.bind_some]
  · have hN := h.1.1.2.2.2.1
    rw [fX3_deadline, C_ob, Option.bind_some, q, Option.bind_some]
    dsimp only
    rw [Option.bind_some, W_gr _ _ _ hv, Option.bind_some, T_gi6 _ _ _ hv, Option.bind_some]
    by_cases h1 : I 15 v = -1
    · rw [hN.n hv h1, if_pos rfl, fX3_deadline_24, h1]
    · rw [(hN.y hv h1).1, if_neg e10, T_gi8 _ _ _ hv, Option.bind_some, (hN.y hv h1).2, fX3_deadline_24]
