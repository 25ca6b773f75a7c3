/-! THE LAW: what it makes first, the words that the Statement gives, and its start; whole_start's head began as the kit's skeleton -/
/-- what a call left alone -/
theorem p_Q.apart {D : va_G} {ad : Nat → Nat} {A B : Nat → Prop} {s : State} {g : PH} {H H1 : Heap} (hQ : p_Q D ad B s g H) (hk : ∀ x : Nat, x < H.size → ¬ A x → H1[x]? = H[x]?) (ha : ∀ r e, g r = some e → ¬ A (ad r)) : p_Q D ad B s g H1 :=
  ⟨fun q e he => ⟨(hQ.1 q e he).1.kept (hk _ (hQ.1 q e he).1.lt (ha q e he)), (hQ.1 q e he).2⟩, hQ.2⟩
/-- two heaps with no cell in common -/
def ap2 (ad au : Nat → Nat) (g h : PH) : Prop := ∀ q r e f, g q = some e → h r = some f → ad q ≠ au r
theorem ap2.symm {ad au : Nat → Nat} {g h : PH} (k : ap2 ad au g h) : ap2 au ad h g := fun q r e f h1 h2 z => k r q f e h2 h1 z.symm
theorem ap2.not {ad au : Nat → Nat} {g h : PH} (k : ap2 ad au g h) : ∀ r e, h r = some e → ¬ p_A ad g (au r) := fun r e hr ⟨q, f, h1, h2⟩ => k q r f e h1 hr h2
theorem ap2.notN {D : va_G} {ad au : Nat → Nat} {g h : PH} {B : Nat → Prop} {s : State} {H : Heap} {sz : Nat} (k : ap2 ad au g h) (hQ : p_Q D au B s h H) (hz : H.size = sz) : ∀ r e, h r = some e → ¬ p_AN ad g sz (au r) := fun r e hr q => by
  rcases q with q | q
  · exact k.not r e hr q
  · have := (hQ.1 r e hr).1.lt
    omega
/-- the cells that a call hands back are old ones of its own (or new ones): still apart -/
theorem ap2.new {D : va_G} {ad au : Nat → Nat} {g h : PH} {A : Nat → Prop} {t : State} {H : Heap} (hQ : p_Q D ad A t g H) (k : ∀ r e, h r = some e → ¬ A (au r)) : ap2 ad au g h := fun q r e f h1 h2 z => k r f h2 (by rw [← z]; exact (hQ.1 q e h1).2)
theorem ap2.fewer {ad au : Nat → Nat} {g g1 h : PH} (k : ap2 ad au g h) (hs : sub g1 g) : ap2 ad au g1 h := fun q r e f h1 h2 => k q r e f (hs q e h1) h2
def hZ : PH := fun _ => none
theorem hZ_Q (D : va_G) (ad : Nat → Nat) (B : Nat → Prop) (s : State) (H : Heap) : p_Q D ad B s hZ H := ⟨fun q e h => (by cases h), fun q r e f h => (by cases h), fun q e h => (by cases h)⟩
section LN
variable {p : Program} {l : Launch} {e : Env} {R : Room} {s : State} {m : MethodId} {args : Array Value} {below : List Frame} {meth : Method} {c : Code} {H : Heap} {locs : List Loc} {cells slots : Nat} {Q : State → Prop}
variable {cc : ByteArray} {pc nL : Nat} {ls : Array Slot} {rest : List Value} {D : va_G} {ad : Nat → Nat} {A B : Nat → Prop} {h : PH} {Ts : List Cond} {own : String}
/-- a first object: where it lies, and that all else stays -/
theorem lb_new (hexec : p.tables.exec = Jvm.exec) (hb : c.code = cc) (hown : s.vm.findClass own = some m.cls) {ws : List Cond} (hts : ∀ w ∈ ws, w.before args s = true) {C : String} {T : u_T} {N ci index : Nat} {fs : List Value} {ty : Nat → FieldType} (hin : ∀ w ∈ u_ws C T N, w ∈ ws) (hty : ∀ k, k < N → parseFieldDescriptor (T k).2.2.1 = some (ty k))
    (hK : va_K D vwCl [] s) (hS : va_S A s.heap H locs) (hA : ∀ x, s.heap.size ≤ x → A x) (hc : vwCl[ci]? = some (C, T, N)) (hfs : ∀ j, j < N → defaultValue (ty j) = vp_V fs j) (hpv : ∀ ad1 : Nat → Nat, fs.map (p_v ad1) = fs) (hrf : ∀ y, Value.ref y ∉ fs)
    (hcl : (Cond.classLink own index C).before args s = true) (hinst : (Cond.instantiable C N).before args s = true) (hini : (Cond.initialized C).before args s = true) (hcells : cells + 1 ≤ R.cells) (hslots : slots + N ≤ R.slots) (hdg : decode cc pc = .ok (.new index, 3))
    (kk : ∀ (ad1 : Nat → Nat) (H1 : Heap), ad1 0 = H.size → (∀ x : Nat, x < H.size → H1[x]? = H[x]?) → p_Q D ad1 A s (p_up hZ 0 (.inr (ci, fs))) H1 → va_S A s.heap H1 locs → W p l e R s m args below meth c H1 locs (cells + 1) (slots + N) Q (F0 m (pc + 3) ls (.ref (ad1 0) :: rest))) : W p l e R s m args below meth c H locs cells slots Q (F0 m pc ls rest) := by
  have hKn := hK.1 ci _ hc
  refine W.newcK hexec hb hown hcl hinst hini rfl hdg hcells hslots hKn.2.1 rfl fun H1 kC hkC e1 z1 o1 => ?_
  obtain ⟨ad1, a1, a2, hQ1⟩ := (hZ_Q D id A s H).new (H1 := H1) (a := 0) (e := .inr (ci, fs)) rfl (p_rr_o fun y hy => absurd hy (hrf y)) (hA _ hS.1) o1 (fun ad1 had => by
    show va_at D vwCl (ad1 0, .inr (ci, fs.map (p_v ad1))) H1
    rw [hpv ad1, had]
    exact ⟨_, hc, (u_born ty hts hin hKn hkC e1 hty).to hfs⟩)
  have k := kk ad1 H1 a1 o1 hQ1 ⟨Nat.le_trans hS.1 (by omega), fun x h1 h2 => (o1 x (Nat.lt_of_lt_of_le h1 hS.1)).trans (hS.2.1 x h1 h2), hS.2.2⟩
  rw [a1] at k
  exact k
theorem lb_newI (hexec : p.tables.exec = Jvm.exec) (hb : c.code = cc) (hS : va_S A s.heap H locs) (hA : ∀ x, s.heap.size ≤ x → A x)
    (harr : (Cond.arrayClass .int).before args s = true) (hcells : cells + 1 ≤ R.cells) (hslots : slots + 1 ≤ R.slots) (hdg : decode cc pc = .ok (.newarray .int, 2))
    (kk : ∀ H1 : Heap, H1.size = H.size + 1 → (∀ x : Nat, x < H.size → H1[x]? = H[x]?) → nk H.size 0 s H1 → va_S A s.heap H1 locs → W p l e R s m args below meth c H1 locs (cells + 1) (slots + 1) Q (F0 m (pc + 2) ls (.ref H.size :: rest))) : W p l e R s m args below meth c H locs cells slots Q (F0 m pc ls (.int 1 :: rest)) := by
  refine va_newaK (N := 1) hexec hb (atype := .int) harr rfl hdg rfl (by decide) (by decide) (Nat.le_of_ble_eq_true rfl) hcells hslots rfl fun H1 cA e1 z1 o1 hAr hNm => ?_
  exact kk H1 z1 o1 ⟨cA, ⟨hAr, hNm⟩, e1⟩ ⟨Nat.le_trans hS.1 (by omega), fun x h1 h2 => (o1 x (Nat.lt_of_lt_of_le h1 hS.1)).trans (hS.2.1 x h1 h2), hS.2.2⟩
end LN
/-! the words that the Statement gives of the start -/
theorem lb_str {own tx : String} {k : Nat} {A : Array Value} {U : State} (h1 : (Cond.stringRef own k tx).before A U = true) (h2 : (Cond.exactly (.string own k) "java/lang/String").before A U = true) : ∃ sa, vk_R own k tx sa U := by
  obtain ⟨a, c, cell, kc, g, -⟩ := Cond.exactly_spec h2
  exact ⟨a, vk_R.of h1 g⟩
theorem lb_BXin : ∀ w ∈ p_BX, w ∈ lw_tbl := by decide +kernel
theorem lb_i0 : Cond.instantiable RX0 9 ∈ lw_tbl := by decide +kernel
theorem lb_i1 : Cond.instantiable RX1 10 ∈ lw_tbl := by decide +kernel
theorem lb_i2 : Cond.instantiable RX2 2 ∈ lw_tbl := by decide +kernel
theorem lb_i3 : Cond.instantiable RX3 8 ∈ lw_tbl := by decide +kernel
theorem lb_c1 : Cond.castable xIO xIO ∈ lw_tbl := by decide +kernel
theorem lb_c2 : Cond.castable xIA xIA ∈ lw_tbl := by decide +kernel
theorem lb_c3 : Cond.castable xIS xIS ∈ lw_tbl := by decide +kernel
theorem lb_ls1 : Cond.laysStatic Bundle.tN "UNASSIGNED_STACK" Bundle.steD ∈ lw_tbl := by decide +kernel
theorem lb_ls2 : Cond.laysStatic Bundle.tN "SUPPRESSED_SENTINEL" Bundle.listD ∈ lw_tbl := by decide +kernel
theorem lb_ini : Cond.initialized Bundle.tN ∈ lw_tbl := by decide +kernel
theorem lb_Tin : ∀ q ∈ p_T, Cond.stringRef RX3 q.1 q.2 ∈ lw_tbl := by decide +kernel
theorem lb_given {args : Array Value} {s : State} (h : (Jvm.Cond.and given_1 narrow_1).before args s = true) : ((Cond.isRef (.static Bundle.tN "UNASSIGNED_STACK" Bundle.steD)).before args s = true ∧ (Cond.isRef (.static Bundle.tN "SUPPRESSED_SENTINEL" Bundle.listD)).before args s = true) ∧ ((Cond.not (.castable xIS xIA)).before args s = true ∧ (Cond.not (.castable xIA xIO)).before args s = true) ∧ ∀ q ∈ p_T, (Cond.exactly (.string RX3 q.1) "java/lang/String").before args s = true := by
  have hs := flat_of_before _ h
  refine ⟨⟨hs _ (by decide +kernel), hs _ (by decide +kernel)⟩, ⟨hs _ (by decide +kernel), hs _ (by decide +kernel)⟩, ?_⟩
  intro q hq
  simp only [p_T, List.mem_cons, List.not_mem_nil, or_false] at hq
  rcases hq with rfl | rfl | rfl | rfl | rfl | rfl | rfl | rfl <;> exact hs _ (by decide +kernel)
theorem lb_E0 {b : Nat} {s : State} (hts : ∀ w ∈ lw_tbl, w.before #[Value.ref b] s = true) (hgv : (Jvm.Cond.and given_1 narrow_1).before #[Value.ref b] s = true) : p_E (lb_B s) s s.heap := by
  obtain ⟨⟨h1, h2⟩, -, h3⟩ := lb_given hgv
  refine ⟨vx_Zqof (hts _ lb_ls1) (hts _ lb_ini) h1 fun a ha => Nat.not_le.mpr ha, vx_Zqof (hts _ lb_ls2) (hts _ lb_ini) h2 fun a ha => Nat.not_le.mpr ha, fun w hw => va_Nw.of (p_cd_tab (p_BX_ok w hw)) (hts w (lb_BXin w hw)), fun q hq => lb_str (hts _ (lb_Tin q hq)) (h3 q hq)⟩
theorem lb_ca0 {b : Nat} {s : State} (hts : ∀ w ∈ lw_tbl, w.before #[Value.ref b] s = true) (hgv : (Jvm.Cond.and given_1 narrow_1).before #[Value.ref b] s = true) : lb_ca s := by
  obtain ⟨-, ⟨h1, h2⟩, -⟩ := lb_given hgv
  exact ⟨⟨va_Nw.of rfl (hts _ lb_c1), va_Nw.of rfl (hts _ lb_c2), va_Nw.of rfl (hts _ lb_c3)⟩, va_Nc.of h1, va_Nc.of h2⟩
theorem lb_K0 {b : Nat} {s : State} (hts : ∀ w ∈ lw_tbl, w.before #[Value.ref b] s = true) : ∃ D : va_G, va_K D vwCl [] s := by
  obtain ⟨c0, i0, k0⟩ := u_known (C := RX0) (T := TX0) (N := 9) (n := 9) hts inX0 (hts _ lb_i0)
  obtain ⟨c1, i1, k1⟩ := u_known (C := RX1) (T := TX1) (N := 10) (n := 10) hts inX1 (hts _ lb_i1)
  obtain ⟨c2, i2, k2⟩ := u_known (C := RX2) (T := TX2) (N := 2) (n := 2) hts inX2 (hts _ lb_i2)
  obtain ⟨c3, i3, k3⟩ := u_known (C := RX3) (T := TX3) (N := 8) (n := 8) hts inX3 (hts _ lb_i3)
  refine ⟨(fun k => if k = 0 then c0 else if k = 1 then c1 else if k = 2 then c2 else c3, fun k => if k = 0 then i0 else if k = 1 then i1 else if k = 2 then i2 else i3), ?_, fun k q h => by simp at h⟩
  intro k q hq
  match k, hq with
  | 0, hq => cases hq; exact k0
  | 1, hq => cases hq; exact k1
  | 2, hq => cases hq; exact k2
  | 3, hq => cases hq; exact k3
  | k + 4, hq => simp [vwCl] at hq
theorem lb_k3 : Cond.classLink RL 8 RX3 ∈ lw_tbl := by decide +kernel
theorem lb_n3 : Cond.initialized RX3 ∈ lw_tbl := by decide +kernel
theorem lb_m3 : Cond.methodLink RL 132 yX3_init ∈ lw_tbl := by decide +kernel
theorem lb_s3 : Cond.instanceMethod yX3_init ∈ lw_tbl := by decide +kernel
theorem lb_ao : Cond.arrayOver (.object RX1) ∈ lw_tbl := by decide +kernel
theorem lb_h3 : p_up hZ 0 (.inr (3, [.null, .null, .null, .null, .null, .int 0, .int 0, .int 0])) = hCp [.null, .null, .null, .null, .null, .int 0, .int 0, .int 0] 0 := by
  funext q
  unfold p_up hCp
  by_cases h : q = 0
  · rw [if_pos h, if_pos h]
  · rw [if_neg h, if_neg h, if_neg (by omega)]
    rfl
theorem lb_la : Cond.arrayClass .int ∈ lw_tbl := by decide +kernel
theorem lb_c0 {fs : List Value} {r : Nat} {e : PE} (h : hCp fs 0 r = some e) : r = 0 := by
  unfold hCp at h
  by_cases hr : r = 0
  · exact hr
  · rw [if_neg hr, if_neg (by omega)] at h
    cases h
set_option maxHeartbeats 8000000 in
set_option maxRecDepth 100000 in
/-- YOUR PART: from the entry, for every script of at most 260 ints, the law comes to its end with true -/
theorem whole_start {p : Program} {e : Env} {s : State} {m : MethodId} {below : List Frame} {meth : Method} {c : Code} (l : Launch) (hflags : l.flags = flags0) {b L : Nat} {xs : Nat → Int32} (hL : L ≤ 260) (C0 : lw_At p s m meth c b L xs) : W p l e room_1 s m #[Value.ref b] below meth c s.heap [] 0 0 (lw_Z below #[Value.ref b] s) (entryFrame m ([Value.ref b] : List Value).toArray 9) := by
  obtain ⟨hx, hb, hr, hml, hown, hts0, hX, hbl, hlocks, hgv⟩ := C0
  have hts : ∀ w ∈ wsL_law, w.before #[Value.ref b] s = true := fun w hw => hts0 w (wsL_law_in w hw)
  have hl9 : l.stackTraces = false := by unfold Launch.stackTraces; rw [hflags]; decide
  obtain ⟨D, hK⟩ := lb_K0 hts0
  have hCF : CallFix p m c cL_law 9 s #[Value.ref b] wsL_law RL := ⟨hx, hb, hml, hown, hts⟩
  have S : LS2 p l s m meth c D b L xs := ⟨hCF, hl9, hK, lb_E0 hts0 hgv, lb_ca0 hts0 hgv, hX, hbl, ⟨hr, hlocks⟩, hL⟩
  have hA : ∀ q : Nat, s.heap.size ≤ q → lb_B s q := fun _ h => h
  have hover : va_AO RX1 s := va_AO.of (hts0 _ lb_ao)
  have hS : va_S (lb_B s) s.heap s.heap [] := va_S.rf
  have hl := lv_entry ([.ref b]) (n := 9) (Nat.le_of_ble_eq_true rfl)
  rw [lg_entry_eq]
  generalize (lg_sl ([.ref b]) ++ List.replicate (9 - (lg_sl ([.ref b])).length) Slot.unset).toArray = ls at hl ⊢
  have hl : lv_has ls 9 [(0, .ref b)] := hl
  have h8 : ∀ j, j < 8 → defaultValue (tyX3 j) = vp_V [.null, .null, .null, .null, .null, .int 0, .int 0, .int 0] j := fun j hj => by rcases (show j = 0 ∨ j = 1 ∨ j = 2 ∨ j = 3 ∨ j = 4 ∨ j = 5 ∨ j = 6 ∨ j = 7 by omega) with rfl | rfl | rfl | rfl | rfl | rfl | rfl | rfl <;> rfl
  -- new FrameBroker()
  refine lb_new (ci := 3) (fs := [.null, .null, .null, .null, .null, .int 0, .int 0, .int 0]) (C := RX3) (T := TX3) (N := 8) hx hb hown hts0 inX3 tyX3_ok hK hS hA rfl h8 (fun _ => rfl) (fun y hy => by simp at hy) (hts0 _ lb_k3) (hts0 _ lb_i3) (hts0 _ lb_n3) (Nat.le_of_ble_eq_true rfl) (Nat.le_of_ble_eq_true rfl) dL_law_0 (fun a1 H1 ha1 ho1 hQ1 hS1 => ?_)
  rw [lb_h3] at hQ1
  refine lv_dup hx hb dL_law_3 rfl ?_
  refine va_callv (va_runI (As := []) (rest := [.ref (a1 0)]) hCF (kX3_init l D a1 H1.size _ 0 1 2 3 4 5 6 7 _ cInit) (cwI 0 hts gL_law_X3_init rfl rfl rfl (hts0 _ lb_n3) (hts0 _ lb_m3) (hts0 _ lb_s3) rfl (by decide +kernel) ⟨Nat.le_of_ble_eq_true rfl, Nat.le_of_ble_eq_true rfl⟩) (p_preSN hK hQ1 hover rfl) rfl rfl hl.1 rfl (lv_room (Nat.le_of_ble_eq_true rfl)) dL_law_4 ⟨Nat.le_of_ble_eq_true rfl, Nat.le_of_ble_eq_true rfl⟩) hS1 (fun x _ hx => p_subN hQ1 hS1 hA x hx) (fun x hx => p_subN hQ1 hS1 hA x hx) fun u t H2 locs2 ht2 hvm2 hu2 hB2 hz2 hk2 hS2 => ?_
  rw [ht2] at hB2
  have hQ2 : p_Q D u (lb_B s) s (hC I0 E0 Pn 0) H2 := (hB2.moved hvm2.symm).mono fun q f _ hx => p_subN hQ1 hS1 hA _ hx
  rw [← hu2]
  refine lv_astore_n (lv' := [(1, .ref (u 0)), (0, .ref b)]) hx hb dL_law_7 rfl hl (by decide) rfl (fun ls hl => ?_)
  -- new FrameBroker()
  refine lb_new (ci := 3) (fs := [.null, .null, .null, .null, .null, .int 0, .int 0, .int 0]) (C := RX3) (T := TX3) (N := 8) hx hb hown hts0 inX3 tyX3_ok hK hS2 hA rfl h8 (fun _ => rfl) (fun y hy => by simp at hy) (hts0 _ lb_k3) (hts0 _ lb_i3) (hts0 _ lb_n3) (Nat.le_of_ble_eq_true rfl) (Nat.le_of_ble_eq_true rfl) dL_law_8 (fun a3 H3 ha3 ho3 hQ3 hS3 => ?_)
  rw [lb_h3] at hQ3
  have hC3 : p_Q D u (lb_B s) s (hC I0 E0 Pn 0) H3 := hQ2.kept fun x h _ => ho3 x h
  have hap3 : ap2 u a3 (hC I0 E0 Pn 0) (hCp [.null, .null, .null, .null, .null, .int 0, .int 0, .int 0] 0) := fun q r f g hq hr z => by
    have := (hQ2.1 q f hq).1.lt
    have hr0 : r = 0 := lb_c0 hr
    rw [hr0, ha3] at z
    omega
  refine lv_dup hx hb dL_law_11 rfl ?_
  refine va_callv (va_runI (As := []) (rest := [.ref (a3 0)]) hCF (kX3_init l D a3 H3.size _ 0 1 2 3 4 5 6 7 _ cInit) (cwI 0 hts gL_law_X3_init rfl rfl rfl (hts0 _ lb_n3) (hts0 _ lb_m3) (hts0 _ lb_s3) rfl (by decide +kernel) ⟨Nat.le_of_ble_eq_true rfl, Nat.le_of_ble_eq_true rfl⟩) (p_preSN hK hQ3 hover rfl) rfl rfl hl.1 rfl (lv_room (Nat.le_of_ble_eq_true rfl)) dL_law_12 ⟨Nat.le_of_ble_eq_true rfl, Nat.le_of_ble_eq_true rfl⟩) hS3 (fun x _ hx => p_subN hQ3 hS3 hA x hx) (fun x hx => p_subN hQ3 hS3 hA x hx) fun v t4 H4 locs4 ht4 hvm4 hu4 hB4 hz4 hk4 hS4 => ?_
  rw [ht4] at hB4
  have hno4 : ∀ q f, hC I0 E0 Pn 0 q = some f → ¬ p_AN a3 (hCp [.null, .null, .null, .null, .null, .int 0, .int 0, .int 0] 0) H3.size (u q) := hap3.symm.notN hC3 rfl
  have hM4 : p_Q D v (p_AN a3 (hCp [.null, .null, .null, .null, .null, .int 0, .int 0, .int 0] 0) H3.size) s (hC I0 E0 Pn 0) H4 := hB4.moved hvm4.symm
  have hQ4 : p_Q D v (lb_B s) s (hC I0 E0 Pn 0) H4 := hM4.mono fun q f _ hx => p_subN hQ3 hS3 hA _ hx
  have hC4 : p_Q D u (lb_B s) s (hC I0 E0 Pn 0) H4 := hC3.apart hk4 hno4
  have hap4 : ap2 u v (hC I0 E0 Pn 0) (hC I0 E0 Pn 0) := (ap2.new hM4 hno4).symm
  rw [← hu4]
  refine lv_astore_n (lv' := [(2, .ref (v 0)), (1, .ref (u 0)), (0, .ref b)]) hx hb dL_law_15 rfl hl (by decide) rfl (fun ls hl => ?_)
  -- new int[1]
  refine lv_iconst (v := 1) hx hb dL_law_16 (by decide) ?_
  refine lb_newI hx hb hS4 hA (hts0 _ lb_la) (Nat.le_of_ble_eq_true rfl) (Nat.le_of_ble_eq_true rfl) dL_law_17 (fun H5 hz5 ho5 hN5 hS5 => ?_)
  have hC5 : p_Q D u (lb_B s) s (hC I0 E0 Pn 0) H5 := hC4.kept fun x h _ => ho5 x h
  have hM5 : p_Q D v (lb_B s) s (hC I0 E0 Pn 0) H5 := hQ4.kept fun x h _ => ho5 x h
  refine lv_astore_n (lv' := [(3, .ref H4.size), (2, .ref (v 0)), (1, .ref (u 0)), (0, .ref b)]) hx hb dL_law_19 rfl hl (by decide) rfl (fun ls hl => ?_)
  have hW : LW D s (u 0) (v 0) H4.size (I0, [], 0) (I0, [], 0) (nI 0) H5 := by
    refine ⟨p_A u (hC I0 E0 Pn 0), p_A v (hC I0 E0 Pn 0), ⟨⟨u, E0, Pn, rfl, RC_0, hC5.self⟩, ⟨v, E0, Pn, rfl, RC_0, hM5.self⟩, hN5⟩, ?_, ?_, hS4.1⟩
    · rintro q ⟨r, f, h1, h2⟩
      have a1 := (hC4.1 r f h1).1.lt
      have a2 : lb_B s (u r) := (hC4.1 r f h1).2
      rw [h2] at a1 a2
      refine ⟨⟨a2, by rw [hz5]; omega⟩, ?_, by omega⟩
      rintro ⟨r2, f2, h3, h4⟩
      exact hap4 r r2 f f2 h1 h3 (h2.trans h4.symm)
    · rintro q ⟨r, f, h1, h2⟩
      have a1 := (hQ4.1 r f h1).1.lt
      have a2 : lb_B s (v r) := (hQ4.1 r f h1).2
      rw [h2] at a1 a2
      exact ⟨⟨a2, by rw [hz5]; omega⟩, by omega⟩
  refine lv_bipush (v := nI 16) hx hb dL_law_20 (by decide) ?_
  refine lv_aload_n hx hb dL_law_22 rfl (lv_at hl 3 rfl) ?_
  refine lv_iconst (v := nI 0) hx hb dL_law_23 (by decide) ?_
  refine lw_dr hS5 (va_runS (As := [.ref b, .int (nI 0)]) (rest := [.int (nI 16)]) hCF (kL_drawn l b L xs 0 (by decide) (by omega)) (cwS 2 hts gL_law_L_drawn rfl rfl rfl (by decide +kernel) ⟨Nat.le_of_ble_eq_true rfl, Nat.le_of_ble_eq_true rfl⟩) (d_pre (hX.kept (hS5.2.1 b hbl (Nat.not_le.mpr hbl))) (Nat.lt_of_lt_of_le hbl hS5.1)) rfl rfl hl.1 rfl (lv_room (Nat.le_of_ble_eq_true rfl)) dL_law_24 ⟨Nat.le_of_ble_eq_true rfl, Nat.le_of_ble_eq_true rfl⟩) fun z H6 locs6 hz hz1 hk1 hS6 => ?_
  replace hW := hW.kept hz1 hk1
  refine lv_bipush (v := 25) hx hb dL_law_27 (by decide) ?_
  refine lv_irem hx hb dL_law_29 (by decide) ?_
  rw [show nI z - nI z / 25 * 25 = nI (z % 25) from pk_rem (d := 25) (by omega) (by decide) (by decide)]
  refine lv_iadd hx hb dL_law_30 ?_
  rw [nI_add]
  refine lv_istore (lv' := [(4, .int (nI (16 + z % 25))), (3, .ref H4.size), (2, .ref (v 0)), (1, .ref (u 0)), (0, .ref b)]) hx hb dL_law_31 hl (by decide) rfl (fun ls hl => ?_)
  refine lv_iconst (v := 1) hx hb dL_law_33 (by decide) ?_
  refine lv_istore (lv' := [(5, .int 1), (4, .int (nI (16 + z % 25))), (3, .ref H4.size), (2, .ref (v 0)), (1, .ref (u 0)), (0, .ref b)]) hx hb dL_law_34 hl (by decide) rfl (fun ls hl => ?_)
  refine lv_iconst (v := nI 0) hx hb dL_law_36 (by decide) ?_
  refine lv_istore (lv' := [(6, .int (nI 0)), (5, .int 1), (4, .int (nI (16 + z % 25))), (3, .ref H4.size), (2, .ref (v 0)), (1, .ref (u 0)), (0, .ref b)]) hx hb dL_law_37 hl (by decide) rfl (fun ls hl => ?_)
  have hT : 16 + z % 25 ≤ 40 := by omega
  have hRc : 330000 ≤ room_1.cells := Nat.le_of_ble_eq_true rfl
  have hRs : 1970000 ≤ room_1.slots := Nat.le_of_ble_eq_true rfl
  exact W.widen (k := 100) (n := 1000) (Nat.le_of_ble_eq_true rfl) (Nat.le_of_ble_eq_true rfl) (lw_loop S hT (16 + z % 25) 0 100 1000 H6 locs6 ls (I0, [], 0) (by omega) (by omega) (by omega) hW INV_0 (by decide) hS6 (lv_sub hl [0, 1, 2, 6, 5, 4, 3] rfl))
