/-! PURE HEAPS. A cell by its number; where it lies in the machine says ad. What a method does is a plain function of pure heaps; here: one instruction, one row. -/
abbrev PE : Type := (Nat × vp_A) ⊕ (Nat × List Value)
abbrev PH : Type := Nat → Option PE
def p_up (h : PH) (a : Nat) (e : PE) : PH := fun q => if q = a then some e else h q
def p_v (ad : Nat → Nat) (v : Value) : Value := match v with
  | .ref a => .ref (ad a)
  | w => w
def p_k (k : Nat) : FieldType := match k with
  | 0 => .int
  | 1 => .boolean
  | 2 => .object RX1
  | _ => .long
def p_x (ad : Nat → Nat) (x : vp_A) : vp_A := match x with
  | (n, .inr (.inr (.inr (.inr f)))) => (n, .inr (.inr (.inr (.inr fun j => (f j).map ad))))
  | y => y
def p_at (D : va_G) (ad : Nat → Nat) (s : State) (H : Heap) (q : Nat) (e : PE) : Prop := match e with
  | .inl x => ∃ cA : ClassId, (ArrOfT s cA (p_k x.1) ∧ va_RA s cA (p_k x.1)) ∧ H[ad q]? = some (vp_cell cA (p_x ad x.2))
  | .inr o => va_at D vwCl (ad q, .inr (o.1, o.2.map (p_v ad))) H
/-- what a cell refers to is there -/
def p_rr (h : PH) (e : PE) : Prop := (∀ ci fs y, e = .inr (ci, fs) → Value.ref y ∈ fs → h y ≠ none) ∧ ∀ t n f j y, e = .inl (t, n, .inr (.inr (.inr (.inr f)))) → f j = some y → h y ≠ none
def p_Q (D : va_G) (ad : Nat → Nat) (B : Nat → Prop) (s : State) (h : PH) (H : Heap) : Prop :=
  (∀ q e, h q = some e → p_at D ad s H q e ∧ B (ad q)) ∧ (∀ q r e f, h q = some e → h r = some f → ad q = ad r → q = r) ∧ ∀ q e, h q = some e → p_rr h e
def p_A (ad : Nat → Nat) (h : PH) : Nat → Prop := fun x => ∃ q e, h q = some e ∧ ad q = x
def p_no : Nat → Prop := fun _ => False
def p_tt : Nat → Prop := fun _ => True
theorem p_at.moved {D : va_G} {ad : Nat → Nat} {u U : State} {H : Heap} {q : Nat} {e : PE} (hvm : u.vm.Alike U.vm) (h : p_at D ad u H q e) : p_at D ad U H q e := by
  cases e with
  | inl x =>
    obtain ⟨cA, ⟨h1, h2⟩, h3⟩ := h
    exact ⟨cA, ⟨arrOfT_moved hvm h1, h2.moved hvm⟩, h3⟩
  | inr o => exact h
theorem p_at.kept {D : va_G} {ad : Nat → Nat} {s : State} {H H1 : Heap} {q : Nat} {e : PE} (h : p_at D ad s H q e) (hq : H1[ad q]? = H[ad q]?) : p_at D ad s H1 q e := by
  cases e with
  | inl x =>
    obtain ⟨cA, h2, h3⟩ := h
    exact ⟨cA, h2, hq.trans h3⟩
  | inr o => exact va_at.kept (q := (ad q, .inr (o.1, o.2.map (p_v ad)))) h hq
theorem p_at.lt {D : va_G} {ad : Nat → Nat} {s : State} {H : Heap} {q : Nat} {e : PE} (h : p_at D ad s H q e) : ad q < H.size := by
  cases e with
  | inl x =>
    obtain ⟨cA, h2, h3⟩ := h
    exact (Array.getElem?_eq_some_iff.mp h3).1
  | inr o => exact va_at.lt (q := (ad q, .inr (o.1, o.2.map (p_v ad)))) h
/-- other addresses that agree on what is there -/
theorem p_at.ad {D : va_G} {ad ad1 : Nat → Nat} {s : State} {H : Heap} {q : Nat} {e : PE} {h : PH} (hh : p_at D ad s H q e) (hr : p_rr h e) (ha : ∀ x, h x ≠ none → ad1 x = ad x) (hq : ad1 q = ad q) : p_at D ad1 s H q e := by
  cases e with
  | inl x =>
    obtain ⟨cA, h2, h3⟩ := hh
    refine ⟨cA, h2, ?_⟩
    rw [hq, h3]
    obtain ⟨t, n, f⟩ := x
    obtain f | f | f | f | f := f
    · rfl
    · rfl
    · rfl
    · rfl
    · show some (arrV cA n fun j => va_rf ((f j).map ad)) = some (arrV cA n fun j => va_rf ((f j).map ad1))
      have hf : (fun j => va_rf ((f j).map ad)) = (fun j => va_rf ((f j).map ad1)) := by
        funext j
        cases hfj : f j with
        | none => rfl
        | some y => rw [Option.map_some, Option.map_some, ha y (hr.2 t n f j y rfl hfj)]
      rw [hf]
  | inr o =>
    obtain ⟨ci, fs⟩ := o
    show va_at D vwCl (ad1 q, .inr (ci, fs.map (p_v ad1))) H
    have hf : fs.map (p_v ad1) = fs.map (p_v ad) := List.map_congr_left fun v hv => by
      cases v with
      | ref y => exact congrArg Value.ref (ha y (hr.1 ci fs y rfl hv))
      | _ => rfl
    rw [hf, hq]
    exact hh
theorem p_Q.moved {D : va_G} {ad : Nat → Nat} {B : Nat → Prop} {u U : State} {h : PH} {H : Heap} (hvm : u.vm.Alike U.vm) (hQ : p_Q D ad B u h H) : p_Q D ad B U h H :=
  ⟨fun q e he => ⟨(hQ.1 q e he).1.moved hvm, (hQ.1 q e he).2⟩, hQ.2⟩
theorem p_Q.kept {D : va_G} {ad : Nat → Nat} {B : Nat → Prop} {s : State} {h : PH} {H H1 : Heap} (hQ : p_Q D ad B s h H) (hk : ∀ x : Nat, x < H.size → B x → H1[x]? = H[x]?) : p_Q D ad B s h H1 :=
  ⟨fun q e he => ⟨(hQ.1 q e he).1.kept (hk _ (hQ.1 q e he).1.lt (hQ.1 q e he).2), (hQ.1 q e he).2⟩, hQ.2⟩
theorem p_Q.mono {D : va_G} {ad : Nat → Nat} {B C : Nat → Prop} {s : State} {h : PH} {H : Heap} (hQ : p_Q D ad B s h H) (hk : ∀ q e, h q = some e → B (ad q) → C (ad q)) : p_Q D ad C s h H :=
  ⟨fun q e he => ⟨(hQ.1 q e he).1, hk q e he (hQ.1 q e he).2⟩, hQ.2⟩
theorem p_Q.tt {D : va_G} {ad : Nat → Nat} {B : Nat → Prop} {s : State} {h : PH} {H : Heap} (hQ : p_Q D ad B s h H) : p_Q D ad p_tt s h H := hQ.mono fun _ _ _ _ => trivial
theorem p_Q.self {D : va_G} {ad : Nat → Nat} {B : Nat → Prop} {s : State} {h : PH} {H : Heap} (hQ : p_Q D ad B s h H) : p_Q D ad (p_A ad h) s h H := hQ.mono fun q e he _ => ⟨q, e, he, rfl⟩
/-- fewer cells, if what they refer to stays -/
theorem p_Q.less {D : va_G} {ad : Nat → Nat} {B : Nat → Prop} {s : State} {h g : PH} {H : Heap} (hQ : p_Q D ad B s h H) (hg : ∀ q e, g q = some e → h q = some e) (hr : ∀ q e, g q = some e → p_rr g e) : p_Q D ad B s g H :=
  ⟨fun q e he => hQ.1 q e (hg q e he), fun q r e f hq hr => hQ.2.1 q r e f (hg q e hq) (hg r f hr), hr⟩
theorem p_up_some {h : PH} {a : Nat} {e : PE} {q : Nat} {f : PE} (hq : p_up h a e q = some f) : (q = a ∧ e = f) ∨ (q ≠ a ∧ h q = some f) := by
  unfold p_up at hq
  by_cases hqa : q = a
  · rw [if_pos hqa] at hq
    exact Or.inl ⟨hqa, Option.some.inj hq⟩
  · rw [if_neg hqa] at hq
    exact Or.inr ⟨hqa, hq⟩
theorem p_up_ne {h : PH} {a : Nat} {e : PE} {q : Nat} (hq : h q ≠ none) : p_up h a e q ≠ none := by
  unfold p_up
  by_cases hqa : q = a
  · rw [if_pos hqa]; exact fun z => by cases z
  · rw [if_neg hqa]; exact hq
theorem p_rr.up {h : PH} {a : Nat} {e f : PE} (hr : p_rr h f) : p_rr (p_up h a e) f := ⟨fun ci fs y h1 h2 => p_up_ne (hr.1 ci fs y h1 h2), fun t n g j y h1 h2 => p_up_ne (hr.2 t n g j y h1 h2)⟩
theorem p_Q.set {D : va_G} {ad : Nat → Nat} {B : Nat → Prop} {s : State} {h : PH} {H H1 : Heap} {a : Nat} {e0 e : PE} (hQ : p_Q D ad B s h H) (he : h a = some e0) (hr : p_rr h e) (h1 : p_at D ad s H1 a e) (oq : ∀ x : Nat, x ≠ ad a → H1[x]? = H[x]?) : p_Q D ad B s (p_up h a e) H1 := by
  have dom : ∀ q f, p_up h a e q = some f → ∃ f0, h q = some f0 := fun q f hq => by
    rcases p_up_some hq with ⟨h2, -⟩ | ⟨-, h2⟩
    · exact ⟨e0, by rw [h2]; exact he⟩
    · exact ⟨f, h2⟩
  refine ⟨fun q f hq => ?_, fun q r f g hq hr hqr => ?_, fun q f hq => ?_⟩
  · rcases p_up_some hq with ⟨rfl, rfl⟩ | ⟨hne, h2⟩
    · exact ⟨h1, (hQ.1 q e0 he).2⟩
    · exact ⟨(hQ.1 q f h2).1.kept (oq _ fun z => hne (hQ.2.1 q a f e0 h2 he z)), (hQ.1 q f h2).2⟩
  · obtain ⟨f0, hf0⟩ := dom q f hq
    obtain ⟨g0, hg0⟩ := dom r g hr
    exact hQ.2.1 q r f0 g0 hf0 hg0 hqr
  · rcases p_up_some hq with ⟨rfl, rfl⟩ | ⟨hne, h2⟩
    · exact hr.up
    · exact (hQ.2.2 q f h2).up
/-- a new cell, behind all others -/
theorem p_Q.new {D : va_G} {ad : Nat → Nat} {B : Nat → Prop} {s : State} {h : PH} {H H1 : Heap} {a : Nat} {e : PE} (hQ : p_Q D ad B s h H) (ha : h a = none) (hr : p_rr h e) (hB : B H.size) (o1 : ∀ x : Nat, x < H.size → H1[x]? = H[x]?) (h1 : ∀ ad1 : Nat → Nat, ad1 a = H.size → p_at D ad1 s H1 a e) :
    ∃ ad1 : Nat → Nat, ad1 a = H.size ∧ (∀ x, h x ≠ none → ad1 x = ad x) ∧ p_Q D ad1 B s (p_up h a e) H1 := by
  obtain ⟨ad1, had⟩ : ∃ z : Nat → Nat, z = fun x => if x = a then H.size else ad x := ⟨_, rfl⟩
  have e1 : ad1 a = H.size := by rw [had]; exact if_pos rfl
  have e2 : ∀ x, h x ≠ none → ad1 x = ad x := fun x hx => by
    rw [had]
    exact if_neg fun z => hx (by rw [z]; exact ha)
  refine ⟨ad1, e1, e2, fun q f hq => ?_, fun q r f g hq hr hqr => ?_, fun q f hq => ?_⟩
  · rcases p_up_some hq with ⟨rfl, rfl⟩ | ⟨hne, h2⟩
    · exact ⟨h1 ad1 e1, by rw [e1]; exact hB⟩
    · obtain ⟨g1, g2⟩ := hQ.1 q f h2
      have g3 : ad1 q = ad q := e2 q (by rw [h2]; exact fun z => by cases z)
      exact ⟨(g1.ad (hQ.2.2 q f h2) e2 g3).kept (by rw [g3]; exact o1 _ g1.lt), by rw [g3]; exact g2⟩
  · rcases p_up_some hq with ⟨z1, -⟩ | ⟨-, h2⟩ <;> rcases p_up_some hr with ⟨z2, -⟩ | ⟨-, h3⟩
    · rw [z1, z2]
    · exfalso
      have g3 : ad1 r = ad r := e2 r (by rw [h3]; exact fun z => by cases z)
      have := (hQ.1 r g h3).1.lt
      rw [z1, e1, g3] at hqr
      omega
    · exfalso
      have g3 : ad1 q = ad q := e2 q (by rw [h2]; exact fun z => by cases z)
      have := (hQ.1 q f h2).1.lt
      rw [z2, e1, g3] at hqr
      omega
    · rw [e2 q (by rw [h2]; exact fun z => by cases z), e2 r (by rw [h3]; exact fun z => by cases z)] at hqr
      exact hQ.2.1 q r f g h2 h3 hqr
  · rcases p_up_some hq with ⟨rfl, rfl⟩ | ⟨hne, h2⟩
    · exact hr.up
    · exact (hQ.2.2 q f h2).up
theorem p_rr_i {h : PH} {t n : Nat} {f : Nat → Int32} : p_rr h (.inl (t, n, .inl f)) := ⟨fun _ _ _ h1 => (by cases h1), fun _ _ _ _ _ h1 => (by cases h1)⟩
theorem p_rr_q {h : PH} {t n : Nat} {f : Nat → Option Nat} (hf : ∀ j y, f j = some y → h y ≠ none) : p_rr h (.inl (t, n, .inr (.inr (.inr (.inr f))))) := ⟨fun _ _ _ h1 => (by cases h1), fun _ _ _ j y h1 h2 => by cases h1; exact hf j y h2⟩
theorem p_rr_o {h : PH} {ci : Nat} {fs : List Value} (hf : ∀ y, Value.ref y ∈ fs → h y ≠ none) : p_rr h (.inr (ci, fs)) := ⟨fun _ _ y h1 h2 => (by cases h1; exact hf y h2), fun _ _ _ _ _ h1 => (by cases h1)⟩
theorem p_rr.fs {h : PH} {ci : Nat} {fs : List Value} (hr : p_rr h (.inr (ci, fs))) {y : Nat} (hy : Value.ref y ∈ fs) : h y ≠ none := hr.1 ci fs y rfl hy
theorem p_rr.f {h : PH} {t n : Nat} {f : Nat → Option Nat} (hr : p_rr h (.inl (t, n, .inr (.inr (.inr (.inr f)))))) {j y : Nat} (hy : f j = some y) : h y ≠ none := hr.2 t n f j y rfl hy
theorem p_b {α β : Type} {x : Option α} {f : α → Option β} {r : β} (h : x.bind f = some r) : ∃ v, x = some v ∧ f v = some r := Option.bind_eq_some_iff.mp h
/-! reading and writing -/
def p_g (h : PH) (a ci k : Nat) : Option Value := match h a with
  | some (.inr (c, fs)) => if c = ci then fs[k]? else none
  | _ => none
def p_gi (h : PH) (a ci k : Nat) : Option Int32 := match p_g h a ci k with
  | some (.int x) => some x
  | _ => none
def p_gr (h : PH) (a ci k : Nat) : Option Nat := match p_g h a ci k with
  | some (.ref x) => some x
  | _ => none
def p_s (h : PH) (a ci k : Nat) (v : Value) : Option PH := match h a with
  | some (.inr (c, fs)) => if c = ci ∧ k < fs.length then some (p_up h a (.inr (ci, fs.set k v))) else none
  | _ => none
def p_si (h : PH) (a ci k : Nat) (x : Int32) : Option PH := p_s h a ci k (.int x)
def p_sz (h : PH) (a ci k : Nat) (x : Int32) : Option PH := if x = 0 ∨ x = 1 then p_s h a ci k (.int x) else none
def p_sr (h : PH) (a ci k : Nat) (x : Nat) : Option PH := if (h x).isSome = true then p_s h a ci k (.ref x) else none
def p_nw (h : PH) (q ci : Nat) (fs : List Value) : Option PH := match h q with
  | none => some (p_up h q (.inr (ci, fs)))
  | some _ => none
def p_ni (h : PH) (q t n : Nat) : Option PH := match h q with
  | none => some (p_up h q (.inl (t, n, .inl fun _ => 0)))
  | some _ => none
def p_nr (h : PH) (q n : Nat) : Option PH := match h q with
  | none => some (p_up h q (.inl (2, n, .inr (.inr (.inr (.inr fun _ => none))))))
  | some _ => none
def p_ob (h : PH) (a ci : Nat) : Option Unit := match h a with
  | some (.inr (c, _)) => if c = ci then some () else none
  | _ => none
def p_ld (h : PH) (a t : Nat) (i : Int32) : Option Int32 := match h a with
  | some (.inl (u, n, .inl f)) => if u = t ∧ ¬ (i < 0 ∨ n ≤ i.toNatClampNeg) then some (f i.toNatClampNeg) else none
  | _ => none
def p_st (h : PH) (a : Nat) (i x : Int32) : Option PH := match h a with
  | some (.inl (u, n, .inl f)) => if u = 0 ∧ ¬ (i < 0 ∨ n ≤ i.toNatClampNeg) then some (p_up h a (.inl (0, n, .inl (upd f i.toNatClampNeg x)))) else none
  | _ => none
def p_sb (h : PH) (a : Nat) (i x : Int32) : Option PH := match h a with
  | some (.inl (u, n, .inl f)) => if (u = 1 ∧ ¬ (i < 0 ∨ n ≤ i.toNatClampNeg)) ∧ (x = 0 ∨ x = 1) then some (p_up h a (.inl (1, n, .inl (upd f i.toNatClampNeg x)))) else none
  | _ => none
def p_ldr (h : PH) (a : Nat) (i : Int32) : Option (Option Nat) := match h a with
  | some (.inl (u, n, .inr (.inr (.inr (.inr f))))) => if u = 2 ∧ ¬ (i < 0 ∨ n ≤ i.toNatClampNeg) then some (f i.toNatClampNeg) else none
  | _ => none
def p_wo (h : PH) (r : Option Nat) : Option Unit := match r with
  | none => some ()
  | some v => p_ob h v 1
def p_str (h : PH) (a : Nat) (i : Int32) (r : Option Nat) : Option PH := match h a with
  | some (.inl (u, n, .inr (.inr (.inr (.inr f))))) => if (u = 2 ∧ ¬ (i < 0 ∨ n ≤ i.toNatClampNeg)) ∧ p_wo h r = some () then some (p_up h a (.inl (2, n, .inr (.inr (.inr (.inr (va_up f i.toNatClampNeg r))))))) else none
  | _ => none
def p_len (h : PH) (a : Nat) : Option Int32 := match h a with
  | some (.inl (_, x)) => some (Int32.ofNat x.1)
  | _ => none
def p_z (x : Int32) : Option Int32 := if x = 0 ∨ x = 1 then some x else none
theorem p_g_of {h : PH} {a ci k : Nat} {v : Value} (hv : p_g h a ci k = some v) : ∃ fs, h a = some (.inr (ci, fs)) ∧ fs[k]? = some v := by
  unfold p_g at hv
  split at hv
  · next c fs hh =>
    by_cases hc : c = ci
    · rw [if_pos hc] at hv
      exact ⟨fs, by rw [hh, hc], hv⟩
    · rw [if_neg hc] at hv
      cases hv
  · cases hv
theorem p_gi_of {h : PH} {a ci k : Nat} {x : Int32} (hv : p_gi h a ci k = some x) : p_g h a ci k = some (.int x) := by
  unfold p_gi at hv
  split at hv
  · next x' hh => rw [hh]; cases hv; rfl
  · cases hv
theorem p_gr_of {h : PH} {a ci k : Nat} {x : Nat} (hv : p_gr h a ci k = some x) : p_g h a ci k = some (.ref x) := by
  unfold p_gr at hv
  split at hv
  · next x' hh => rw [hh]; cases hv; rfl
  · cases hv
theorem p_s_of {h h1 : PH} {a ci k : Nat} {v : Value} (hv : p_s h a ci k v = some h1) : ∃ fs, h a = some (.inr (ci, fs)) ∧ k < fs.length ∧ h1 = p_up h a (.inr (ci, fs.set k v)) := by
  unfold p_s at hv
  split at hv
  · next c fs hh =>
    by_cases hc : c = ci ∧ k < fs.length
    · rw [if_pos hc] at hv
      exact ⟨fs, by rw [hh, hc.1], hc.2, (Option.some.inj hv).symm⟩
    · rw [if_neg hc] at hv
      cases hv
  · cases hv
theorem p_nw_of {h h1 : PH} {q ci : Nat} {fs : List Value} (hv : p_nw h q ci fs = some h1) : h q = none ∧ h1 = p_up h q (.inr (ci, fs)) := by
  unfold p_nw at hv
  split at hv
  · next hh => exact ⟨hh, (Option.some.inj hv).symm⟩
  · cases hv
theorem p_ni_of {h h1 : PH} {q t n : Nat} (hv : p_ni h q t n = some h1) : h q = none ∧ h1 = p_up h q (.inl (t, n, .inl fun _ => 0)) := by
  unfold p_ni at hv
  split at hv
  · next hh => exact ⟨hh, (Option.some.inj hv).symm⟩
  · cases hv
theorem p_nr_of {h h1 : PH} {q n : Nat} (hv : p_nr h q n = some h1) : h q = none ∧ h1 = p_up h q (.inl (2, n, .inr (.inr (.inr (.inr fun _ => none))))) := by
  unfold p_nr at hv
  split at hv
  · next hh => exact ⟨hh, (Option.some.inj hv).symm⟩
  · cases hv
theorem p_sr_of {h h1 : PH} {a ci k x : Nat} (hv : p_sr h a ci k x = some h1) : h x ≠ none ∧ p_s h a ci k (.ref x) = some h1 := by
  unfold p_sr at hv
  by_cases hz : (h x).isSome = true
  · rw [if_pos hz] at hv
    exact ⟨fun z => (by rw [z] at hz; cases hz), hv⟩
  · rw [if_neg hz] at hv
    cases hv
theorem p_ob_ne {h : PH} {a ci : Nat} {u : Unit} (hv : p_ob h a ci = some u) : h a ≠ none := by
  intro z
  rw [p_ob, z] at hv
  cases hv
theorem p_ob_of {h : PH} {a ci : Nat} {u : Unit} (hv : p_ob h a ci = some u) : ∃ fs, h a = some (.inr (ci, fs)) := by
  unfold p_ob at hv
  split at hv
  · next c fs hh =>
    by_cases hc : c = ci
    · exact ⟨fs, by rw [hh, hc]⟩
    · rw [if_neg hc] at hv
      cases hv
  · cases hv
theorem p_ld_of {h : PH} {a t : Nat} {i x : Int32} (hv : p_ld h a t i = some x) : ∃ n f, h a = some (.inl (t, n, .inl f)) ∧ vp_in i n ∧ x = f i.toNatClampNeg := by
  unfold p_ld at hv
  split at hv
  · next u n f hh =>
    by_cases hc : u = t ∧ ¬ (i < 0 ∨ n ≤ i.toNatClampNeg)
    · rw [if_pos hc] at hv
      exact ⟨n, f, by rw [hh, hc.1], hc.2, (Option.some.inj hv).symm⟩
    · rw [if_neg hc] at hv
      cases hv
  · cases hv
theorem p_st_of {h h1 : PH} {a : Nat} {i x : Int32} (hv : p_st h a i x = some h1) : ∃ n f, h a = some (.inl (0, n, .inl f)) ∧ vp_in i n ∧ h1 = p_up h a (.inl (0, n, .inl (upd f i.toNatClampNeg x))) := by
  unfold p_st at hv
  split at hv
  · next u n f hh =>
    by_cases hc : u = 0 ∧ ¬ (i < 0 ∨ n ≤ i.toNatClampNeg)
    · rw [if_pos hc] at hv
      exact ⟨n, f, by rw [hh, hc.1], hc.2, (Option.some.inj hv).symm⟩
    · rw [if_neg hc] at hv
      cases hv
  · cases hv
theorem p_sb_of {h h1 : PH} {a : Nat} {i x : Int32} (hv : p_sb h a i x = some h1) : ∃ n f, h a = some (.inl (1, n, .inl f)) ∧ vp_in i n ∧ (x = 0 ∨ x = 1) ∧ h1 = p_up h a (.inl (1, n, .inl (upd f i.toNatClampNeg x))) := by
  unfold p_sb at hv
  split at hv
  · next u n f hh =>
    by_cases hc : (u = 1 ∧ ¬ (i < 0 ∨ n ≤ i.toNatClampNeg)) ∧ (x = 0 ∨ x = 1)
    · rw [if_pos hc] at hv
      exact ⟨n, f, by rw [hh, hc.1.1], hc.1.2, hc.2, (Option.some.inj hv).symm⟩
    · rw [if_neg hc] at hv
      cases hv
  · cases hv
theorem p_ldr_of {h : PH} {a : Nat} {i : Int32} {x : Option Nat} (hv : p_ldr h a i = some x) : ∃ n f, h a = some (.inl (2, n, .inr (.inr (.inr (.inr f))))) ∧ vp_in i n ∧ x = f i.toNatClampNeg := by
  unfold p_ldr at hv
  split at hv
  · next u n f hh =>
    by_cases hc : u = 2 ∧ ¬ (i < 0 ∨ n ≤ i.toNatClampNeg)
    · rw [if_pos hc] at hv
      exact ⟨n, f, by rw [hh, hc.1], hc.2, (Option.some.inj hv).symm⟩
    · rw [if_neg hc] at hv
      cases hv
  · cases hv
theorem p_str_of {h h1 : PH} {a : Nat} {i : Int32} {r : Option Nat} (hv : p_str h a i r = some h1) : ∃ n f, h a = some (.inl (2, n, .inr (.inr (.inr (.inr f))))) ∧ vp_in i n ∧ p_wo h r = some () ∧ h1 = p_up h a (.inl (2, n, .inr (.inr (.inr (.inr (va_up f i.toNatClampNeg r)))))) := by
  unfold p_str at hv
  split at hv
  · next u n f hh =>
    by_cases hc : (u = 2 ∧ ¬ (i < 0 ∨ n ≤ i.toNatClampNeg)) ∧ p_wo h r = some ()
    · rw [if_pos hc] at hv
      exact ⟨n, f, by rw [hh, hc.1.1], hc.1.2, hc.2, (Option.some.inj hv).symm⟩
    · rw [if_neg hc] at hv
      cases hv
  · cases hv
theorem p_len_of {h : PH} {a : Nat} {x : Int32} (hv : p_len h a = some x) : ∃ t y, h a = some (.inl (t, y)) ∧ x = Int32.ofNat y.1 := by
  unfold p_len at hv
  split at hv
  · next t y hh => exact ⟨t, y, hh, (Option.some.inj hv).symm⟩
  · cases hv
/-! locals that hold values of one place each -/
def p_L (ls : Array Slot) (nL : Nat) (lv : List (Nat × Value)) : Prop := lv_has ls nL lv ∧ ∀ q ∈ lv, q.2.category = 1
theorem p_cat (r : Option Nat) : (va_rf r).category = 1 := by cases r <;> rfl
theorem p_ci (x : Int32) : (Value.int x).category = 1 := rfl
theorem p_cr (x : Nat) : (Value.ref x).category = 1 := rfl
theorem p_cn : (Value.null).category = 1 := rfl
theorem p_L.sub {ls : Array Slot} {nL : Nat} {l l' : List (Nat × Value)} (h : p_L ls nL l) (ks : List Nat) (hl : lv_pick l ks = l') : p_L ls nL l' := by
  refine ⟨lv_sub h.1 ks hl, fun q hq => ?_⟩
  rw [← hl] at hq
  obtain ⟨k, -, hk⟩ := List.mem_filterMap.mp hq
  exact h.2 q (List.mem_of_getElem? hk)
theorem p_fl {lv : List (Nat × Value)} {i : Nat} (h : ∀ q ∈ lv, q.2.category = 1) : lv.filter (fun q => !(q.1 == i) && !(q.1 + 1 == i && q.2.category == 2)) = lv.filter (fun q => !(q.1 == i)) := by
  refine List.filter_congr fun q hq => ?_
  rw [h q hq]
  simp
theorem p_Lof {ls : Array Slot} {nL i : Nat} {v : Value} {lv lv' : List (Nat × Value)} (h : ∀ q ∈ lv, q.2.category = 1) (hv : v.category = 1) (hl : (i, v) :: lv.filter (fun q => !(q.1 == i)) = lv')
    (h1 : lv_has ls nL ((i, v) :: lv.filter (fun q => !(q.1 == i) && !(q.1 + 1 == i && q.2.category == 2)))) : p_L ls nL lv' := by
  rw [p_fl h, hl] at h1
  refine ⟨h1, fun q hq => ?_⟩
  rw [← hl] at hq
  rcases List.mem_cons.mp hq with rfl | hq
  · exact hv
  · exact h q (List.mem_filter.mp hq).1
