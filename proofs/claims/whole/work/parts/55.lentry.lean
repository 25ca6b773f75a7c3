/-! THE LAW'S BODY: what it makes first, and the words that the Statement gives -/
theorem lb_seen {h0 g : PH} {w v : Int32} (h : fX4_isSeen h0 0 w = some (v, g)) : v = 0 ∨ v = 1 := by
  have e : ∀ (q : PH) (y : Int32), fX4_isSeen_21 q y = some (v, g) → v = 0 ∨ v = 1 := fun q y hy => by
    unfold fX4_isSeen_21 at hy
    obtain ⟨z, hz, h2⟩ := p_b hy
    cases h2
    unfold p_z at hz
    by_cases hq : y = 0 ∨ y = 1
    · rw [if_pos hq] at hz; cases hz; exact hq
    · rw [if_neg hq] at hz; cases hz
  unfold fX4_isSeen at h
  obtain ⟨_, -, h⟩ := p_b h
  obtain ⟨y3, -, h⟩ := p_b h
  by_cases h1 : y3.1 = 0
  · rw [if_pos h1] at h
    obtain ⟨_, -, h⟩ := p_b h
    obtain ⟨v8, -, h⟩ := p_b h
    by_cases h2 : v8 = 0
    · rw [if_pos h2] at h; exact e _ 0 h
    · rw [if_neg h2] at h; exact e _ 1 h
  · rw [if_neg h1] at h
    exact e _ 0 h
def hZ : PH := fun _ => none
theorem hZ_Q (D : va_G) (ad : Nat → Nat) (B : Nat → Prop) (s : State) (H : Heap) : p_Q D ad B s hZ H := ⟨fun q e h => (by cases h), fun q r e f h => (by cases h), fun q e h => (by cases h)⟩
section LN
variable {p : Program} {l : Launch} {e : Env} {R : Room} {s : State} {m : MethodId} {args : Array Value} {below : List Frame} {meth : Method} {c : Code} {H : Heap} {locs : List Loc} {cells slots : Nat} {Q : State → Prop}
variable {cc : ByteArray} {pc nL : Nat} {ls : Array Slot} {rest : List Value} {D : va_G} {ad : Nat → Nat} {A B : Nat → Prop} {h : PH} {Ts : List Cond} {own : String}
/-- a first object: where it lies, and that all else stays -/
theorem lb_new (hexec : p.tables.exec = Jvm.exec) (hb : c.code = cc) (hown : s.vm.findClass own = some m.cls) {ws : List Cond} (hts : ∀ w ∈ ws, w.before args s = true) {C : String} {T : u_T} {N ci index : Nat} {fs : List Value} {ty : Nat → FieldType} (hin : ∀ w ∈ u_ws C T N, w ∈ ws) (hty : ∀ k, k < N → parseFieldDescriptor (T k).2.2.1 = some (ty k))
    (hK : va_K D vwCl [] s) (hS : va_S A s.heap H locs) (hA : ∀ x, s.heap.size ≤ x → A x) (hc : vwCl[ci]? = some (C, T, N)) (hfs : ∀ j, j < N → defaultValue (ty j) = vp_V fs j) (hpv : ∀ ad1 : Nat → Nat, fs.map (p_v ad1) = fs) (hrf : ∀ y, Value.ref y ∉ fs)
    (hcl : (Cond.classLink own index C).before args s = true) (hinst : (Cond.instantiable C N).before args s = true) (hini : (Cond.initialized C).before args s = true) (hcells : cells + 1 ≤ R.cells) (hslots : slots + N ≤ R.slots) (hdg : decode cc pc = .ok (.new index, 3))
    (kk : ∀ (ad1 : Nat → Nat) (H1 : Heap), ad1 0 = H.size → (∀ x : Nat, x < H.size → H1[x]? = H[x]?) → p_Q D ad1 A s (p_up hZ 0 (.inr (ci, fs))) H1 → va_S A s.heap H1 locs → W p l e R s m args below meth c H1 locs (cells + 1) (slots + N) Q (F0 m (pc + 3) ls (.ref (ad1 0) :: rest))) : W p l e R s m args below meth c H locs cells slots Q (F0 m pc ls rest) := by
  have hKn := hK.1 ci _ hc
  refine W.newcK hexec hb hown hcl hinst hini rfl hdg hcells hslots hKn.2.1 rfl fun H1 kC hkC e1 z1 o1 => ?_
  obtain ⟨ad1, a1, a2, hQ1⟩ := (hZ_Q D id A s H).new (H1 := H1) (a := 0) (e := .inr (ci, fs)) rfl (p_rr_o fun y hy => absurd hy (hrf y)) (hA _ hS.1) o1 (fun ad1 had => by
    show va_at D vwCl (ad1 0, .inr (ci, fs.map (p_v ad1))) H1
    rw [hpv ad1, had]
    exact ⟨_, hc, (u_born ty hts hin hKn hkC e1 hty).to hfs⟩)
  have k := kk ad1 H1 a1 o1 hQ1 ⟨Nat.le_trans hS.1 (by omega), fun x h1 h2 => (o1 x (Nat.lt_of_lt_of_le h1 hS.1)).trans (hS.2.1 x h1 h2), hS.2.2⟩
  rw [a1] at k
  exact k
theorem lb_newL (hexec : p.tables.exec = Jvm.exec) (hb : c.code = cc) (hS : va_S A s.heap H locs) (hA : ∀ x, s.heap.size ≤ x → A x)
    (harr : (Cond.arrayClass .long).before args s = true) (hcells : cells + 1 ≤ R.cells) (hslots : slots + 1 ≤ R.slots) (hdg : decode cc pc = .ok (.newarray .long, 2))
    (kk : ∀ (ad1 : Nat → Nat) (H1 : Heap), ad1 0 = H.size → (∀ x : Nat, x < H.size → H1[x]? = H[x]?) → p_Q D ad1 A s (hO fun _ => 0) H1 → va_S A s.heap H1 locs → W p l e R s m args below meth c H1 locs (cells + 1) (slots + 1) Q (F0 m (pc + 2) ls (.ref (ad1 0) :: rest))) : W p l e R s m args below meth c H locs cells slots Q (F0 m pc ls (.int 1 :: rest)) := by
  refine va_newaK (N := 1) hexec hb (atype := .long) harr rfl hdg rfl (by decide) (by decide) (Nat.le_of_ble_eq_true rfl) hcells hslots rfl fun H1 cA e1 z1 o1 hAr hNm => ?_
  obtain ⟨ad1, a1, a2, hQ1⟩ := (hZ_Q D id A s H).new (H1 := H1) (a := 0) (e := .inl (3, 1, .inr (.inl fun _ => 0))) rfl ⟨fun ci fs y h1 _ => (by cases h1), fun t n g j y h1 _ => (by cases h1)⟩ (hA _ hS.1) o1 (fun ad1 had => by
    refine ⟨cA, ⟨hAr, hNm⟩, ?_⟩
    rw [had, e1]
    rfl)
  have hup : p_up hZ 0 (.inl (3, 1, .inr (.inl fun _ => 0))) = hO fun _ => 0 := rfl
  rw [hup] at hQ1
  have k := kk ad1 H1 a1 o1 hQ1 ⟨Nat.le_trans hS.1 (by omega), fun x h1 h2 => (o1 x (Nat.lt_of_lt_of_le h1 hS.1)).trans (hS.2.1 x h1 h2), hS.2.2⟩
  rw [a1] at k
  exact k
end LN
/-! the words that the Statement gives of the start -/
theorem lb_str {own tx : String} {k : Nat} {A : Array Value} {U : State} (h1 : (Cond.stringRef own k tx).before A U = true) (h2 : (Cond.exactly (.string own k) "java/lang/String").before A U = true) : ∃ sa, vk_R own k tx sa U := by
  obtain ⟨a, c, cell, kc, g, -⟩ := Cond.exactly_spec h2
  exact ⟨a, vk_R.of h1 g⟩
theorem lb_BXin : ∀ w ∈ p_BX, w ∈ lw_tbl := by decide +kernel
theorem lb_i0 : Cond.instantiable RX0 9 ∈ lw_tbl := by decide +kernel
theorem lb_i1 : Cond.instantiable RX1 10 ∈ lw_tbl := by decide +kernel
theorem lb_i2 : Cond.instantiable RX2 2 ∈ lw_tbl := by decide +kernel
theorem lb_i3 : Cond.instantiable RX3 8 ∈ lw_tbl := by decide +kernel
theorem lb_i4 : Cond.instantiable RX4 22 ∈ lw_tbl := by decide +kernel
theorem lb_c1 : Cond.castable xIO xIO ∈ lw_tbl := by decide +kernel
theorem lb_c2 : Cond.castable xIA xIA ∈ lw_tbl := by decide +kernel
theorem lb_c3 : Cond.castable xIS xIS ∈ lw_tbl := by decide +kernel
theorem lb_ls1 : Cond.laysStatic Bundle.tN "UNASSIGNED_STACK" Bundle.steD ∈ lw_tbl := by decide +kernel
theorem lb_ls2 : Cond.laysStatic Bundle.tN "SUPPRESSED_SENTINEL" Bundle.listD ∈ lw_tbl := by decide +kernel
theorem lb_ini : Cond.initialized Bundle.tN ∈ lw_tbl := by decide +kernel
theorem lb_Tin : ∀ q ∈ p_T, Cond.stringRef RX3 q.1 q.2 ∈ lw_tbl := by decide +kernel
theorem lb_given {args : Array Value} {s : State} (h : (Jvm.Cond.and given_1 narrow_1).before args s = true) : ((Cond.isRef (.static Bundle.tN "UNASSIGNED_STACK" Bundle.steD)).before args s = true ∧ (Cond.isRef (.static Bundle.tN "SUPPRESSED_SENTINEL" Bundle.listD)).before args s = true) ∧ ((Cond.not (.castable xIS xIA)).before args s = true ∧ (Cond.not (.castable xIA xIO)).before args s = true) ∧ ∀ q ∈ p_T, (Cond.exactly (.string RX3 q.1) "java/lang/String").before args s = true := by
  have hs := flat_of_before _ h
  refine ⟨⟨hs _ (by decide +kernel), hs _ (by decide +kernel)⟩, ⟨hs _ (by decide +kernel), hs _ (by decide +kernel)⟩, ?_⟩
  intro q hq
  simp only [p_T, List.mem_cons, List.not_mem_nil, or_false] at hq
  rcases hq with rfl | rfl | rfl | rfl | rfl | rfl | rfl | rfl <;> exact hs _ (by decide +kernel)
theorem lb_E0 {b : Nat} {s : State} (hts : ∀ w ∈ lw_tbl, w.before #[Value.ref b] s = true) (hgv : (Jvm.Cond.and given_1 narrow_1).before #[Value.ref b] s = true) : p_E (lb_B s) s s.heap := by
  obtain ⟨⟨h1, h2⟩, -, h3⟩ := lb_given hgv
  refine ⟨vx_Zqof (hts _ lb_ls1) (hts _ lb_ini) h1 fun a ha => Nat.not_le.mpr ha, vx_Zqof (hts _ lb_ls2) (hts _ lb_ini) h2 fun a ha => Nat.not_le.mpr ha, fun w hw => va_Nw.of (p_cd_tab (p_BX_ok w hw)) (hts w (lb_BXin w hw)), fun q hq => lb_str (hts _ (lb_Tin q hq)) (h3 q hq)⟩
theorem lb_ca0 {b : Nat} {s : State} (hts : ∀ w ∈ lw_tbl, w.before #[Value.ref b] s = true) (hgv : (Jvm.Cond.and given_1 narrow_1).before #[Value.ref b] s = true) : lb_ca s := by
  obtain ⟨-, ⟨h1, h2⟩, -⟩ := lb_given hgv
  exact ⟨⟨va_Nw.of rfl (hts _ lb_c1), va_Nw.of rfl (hts _ lb_c2), va_Nw.of rfl (hts _ lb_c3)⟩, va_Nc.of h1, va_Nc.of h2⟩
theorem lb_K0 {b : Nat} {s : State} (hts : ∀ w ∈ lw_tbl, w.before #[Value.ref b] s = true) : ∃ D : va_G, va_K D vwCl [] s := by
  obtain ⟨c0, i0, k0⟩ := u_known (C := RX0) (T := TX0) (N := 9) (n := 9) hts inX0 (hts _ lb_i0)
  obtain ⟨c1, i1, k1⟩ := u_known (C := RX1) (T := TX1) (N := 10) (n := 10) hts inX1 (hts _ lb_i1)
  obtain ⟨c2, i2, k2⟩ := u_known (C := RX2) (T := TX2) (N := 2) (n := 2) hts inX2 (hts _ lb_i2)
  obtain ⟨c3, i3, k3⟩ := u_known (C := RX3) (T := TX3) (N := 8) (n := 8) hts inX3 (hts _ lb_i3)
  obtain ⟨c4, i4, k4⟩ := u_known (C := RX4) (T := TX4) (N := 22) (n := 22) hts inX4 (hts _ lb_i4)
  refine ⟨(fun k => if k = 0 then c0 else if k = 1 then c1 else if k = 2 then c2 else if k = 3 then c3 else c4, fun k => if k = 0 then i0 else if k = 1 then i1 else if k = 2 then i2 else if k = 3 then i3 else i4), ?_, fun k q h => by simp at h⟩
  intro k q hq
  match k, hq with
  | 0, hq => cases hq; exact k0
  | 1, hq => cases hq; exact k1
  | 2, hq => cases hq; exact k2
  | 3, hq => cases hq; exact k3
  | 4, hq => cases hq; exact k4
  | k + 5, hq => simp [vwCl] at hq
theorem lb_k3 : Cond.classLink RL 8 RX3 ∈ lw_tbl := by decide +kernel
theorem lb_n3 : Cond.initialized RX3 ∈ lw_tbl := by decide +kernel
theorem lb_m3 : Cond.methodLink RL 63 yX3_init ∈ lw_tbl := by decide +kernel
theorem lb_s3 : Cond.instanceMethod yX3_init ∈ lw_tbl := by decide +kernel
theorem lb_k4 : Cond.classLink RL 64 RX4 ∈ lw_tbl := by decide +kernel
theorem lb_n4 : Cond.initialized RX4 ∈ lw_tbl := by decide +kernel
theorem lb_m4 : Cond.methodLink RL 66 yX4_init ∈ lw_tbl := by decide +kernel
theorem lb_s4 : Cond.instanceMethod yX4_init ∈ lw_tbl := by decide +kernel
theorem lb_la : Cond.arrayClass .long ∈ lw_tbl := by decide +kernel
theorem lb_ao : Cond.arrayOver (.object RX1) ∈ lw_tbl := by decide +kernel
theorem lb_h3 : p_up hZ 0 (.inr (3, [.null, .null, .null, .null, .null, .int 0, .int 0, .int 0])) = hCp [.null, .null, .null, .null, .null, .int 0, .int 0, .int 0] 0 := by
  funext q
  unfold p_up hCp
  by_cases h : q = 0
  · rw [if_pos h, if_pos h]
  · rw [if_neg h, if_neg h, if_neg (by omega)]
    rfl
theorem lb_h4 : p_up hZ 0 (.inr (4, mFp 0)) = hMp 0 := by
  funext q
  unfold p_up hMp
  by_cases h : q = 0
  · rw [if_pos h, if_pos h]
  · rw [if_neg h, if_neg h, if_neg (by omega)]
    rfl
theorem lb_f4 : ∀ j, j < 22 → defaultValue (tyX4 j) = vp_V (mFp 0) j := by decide +kernel
theorem lb_m0 {r : Nat} {e : PE} (h : hMp 0 r = some e) : r = 0 := by
  unfold hMp at h
  by_cases hr : r = 0
  · exact hr
  · rw [if_neg hr, if_neg (by omega)] at h
    cases h
