/-! THE LAW: cells apart -/
/-- what a call left alone -/
theorem p_Q.apart {D : va_G} {ad : Nat → Nat} {A B : Nat → Prop} {s : State} {g : PH} {H H1 : Heap} (hQ : p_Q D ad B s g H) (hk : ∀ x : Nat, x < H.size → ¬ A x → H1[x]? = H[x]?) (ha : ∀ r e, g r = some e → ¬ A (ad r)) : p_Q D ad B s g H1 :=
  ⟨fun q e he => ⟨(hQ.1 q e he).1.kept (hk _ (hQ.1 q e he).1.lt (ha q e he)), (hQ.1 q e he).2⟩, hQ.2⟩
/-- two heaps with no cell in common -/
def ap2 (ad au : Nat → Nat) (g h : PH) : Prop := ∀ q r e f, g q = some e → h r = some f → ad q ≠ au r
theorem ap2.symm {ad au : Nat → Nat} {g h : PH} (k : ap2 ad au g h) : ap2 au ad h g := fun q r e f h1 h2 z => k r q f e h2 h1 z.symm
theorem ap2.not {ad au : Nat → Nat} {g h : PH} (k : ap2 ad au g h) : ∀ r e, h r = some e → ¬ p_A ad g (au r) := fun r e hr ⟨q, f, h1, h2⟩ => k q r f e h1 hr h2
theorem ap2.notN {D : va_G} {ad au : Nat → Nat} {g h : PH} {B : Nat → Prop} {s : State} {H : Heap} {sz : Nat} (k : ap2 ad au g h) (hQ : p_Q D au B s h H) (hz : H.size = sz) : ∀ r e, h r = some e → ¬ p_AN ad g sz (au r) := fun r e hr q => by
  rcases q with q | q
  · exact k.not r e hr q
  · have := (hQ.1 r e hr).1.lt
    omega
/-- the cells that a call hands back are old ones of its own (or new ones): still apart -/
theorem ap2.new {D : va_G} {ad au : Nat → Nat} {g h : PH} {A : Nat → Prop} {t : State} {H : Heap} (hQ : p_Q D ad A t g H) (k : ∀ r e, h r = some e → ¬ A (au r)) : ap2 ad au g h := fun q r e f h1 h2 z => k r f h2 (by rw [← z]; exact (hQ.1 q e h1).2)
theorem ap2.fewer {ad au : Nat → Nat} {g g1 h : PH} (k : ap2 ad au g h) (hs : sub g1 g) : ap2 ad au g1 h := fun q r e f h1 h2 => k q r e f (hs q e h1) h2
/-- the same addresses, other contents -/
theorem hM_dom {I J : IT} {r : Nat} {e : PE} (h : hM J r = some e) : ∃ f, hM I r = some f := by
  unfold hM at h ⊢
  by_cases h0 : r = 0
  · rw [if_pos h0]; exact ⟨_, rfl⟩
  · rw [if_neg h0] at h ⊢
    by_cases h1 : r ≤ 18
    · rw [if_pos h1]; exact ⟨_, rfl⟩
    · rw [if_neg h1] at h; cases h
theorem ap2.m {ad au : Nat → Nat} {g : PH} {I : IT} (k : ap2 ad au g (hM I)) (J : IT) : ap2 ad au g (hM J) := fun q r e f h1 h2 => by
  obtain ⟨f2, h3⟩ := hM_dom (I := I) h2
  exact k q r e f2 h1 h3
theorem ap2.o {ad au : Nat → Nat} {g : PH} {f : Nat → Int64} (k : ap2 ad au g (hO f)) (f1 : Nat → Int64) : ap2 ad au g (hO f1) := fun q r e x h1 h2 => by
  obtain ⟨rfl, -⟩ := hO_o h2
  exact k q 0 e _ h1 (hO_0 f)
