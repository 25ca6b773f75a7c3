/-! THE LAW'S BODY: what follows both calls -/
section LT
variable {p : Program} {l : Launch} {e : Env} {s : State} {m : MethodId} {below : List Frame} {meth : Method} {c : Code} {H : Heap} {locs : List Loc} {cells slots cells1 slots1 : Nat}
variable {t b L x mo o i n : Nat} {ls : Array Slot} {D : va_G} {adC adM adO : Nat → Nat} {J E : IT} {P : PT} {Ls : List Nat} {f : Nat → Int64} {k5 bv : Int32} {xs : Nat → Int32}
theorem lb_lcmp {R : Room} {args : Array Value} {Q : State → Prop} {cc : ByteArray} {pc : Nat} {rest : List Value} (hexec : p.tables.exec = Jvm.exec) (hb : c.code = cc) {x : Int64} (hdg : decode cc pc = .ok (.lcmp, 1))
    (k : W p l e R s m args below meth c H locs cells slots Q (F0 m (pc + 1) ls (.int 0 :: rest))) : W p l e R s m args below meth c H locs cells slots Q (F0 m pc ls (.long x :: .long x :: rest)) := by
  intro T hT X
  obtain ⟨t, a, b⟩ := k T hT X
  refine ⟨t, ?_, b⟩
  jvm_step X.here [X.here.top, hexec, hb, hdg]
  exact a
/-- where the loop goes on -/
def lb_K (p : Program) (l : Launch) (e : Env) (s : State) (m : MethodId) (below : List Frame) (meth : Method) (c : Code) (D : va_G) (b x mo o cells slots i : Nat) : Prop := ∀ (H : Heap) (locs : List Loc) (ls : Array Slot), lb_I D s x mo o H → va_S (lb_B s) s.heap H locs → lv_has ls 7 (lb_l b x mo o (nI i)) → W p l e room_1 s m #[Value.ref b] below meth c H locs cells slots (lw_Z below #[Value.ref b] s) (F0 m 1136 ls [])
theorem lb_th (S : lb_S p l s m meth c D b L xs) (hc : cells1 ≤ room_1.cells) (hs : slots1 ≤ room_1.slots) (hQ : lb_Q D s adC adM adO (hC J E P n) J f H) (had : adM 0 = mo) (hS : va_S (lb_B s) s.heap H locs) (hls : ls.size = 7) (hm2 : ls[2]? = some (.val (.ref mo))) (h5 : ls[5]? = some (.val (.int k5))) (hk : J 0 0 = k5)
    (d0 : decode cL_law t = .ok (.aload_n 2, 1)) (d1 : decode cL_law (t + 1) = .ok (.invokevirtual 73, 3)) (d4 : decode cL_law (t + 4) = .ok (.iload 5, 2)) (d6 : decode cL_law (t + 6) = .ok (.if_icmp .eq 5, 3))
    (kk : ∀ (H1 : Heap) (locs1 : List Loc), lb_Q D s adC adM adO (hC J E P n) J f H1 → va_S (lb_B s) s.heap H1 locs1 → W p l e room_1 s m #[Value.ref b] below meth c H1 locs1 cells1 slots1 (lw_Z below #[Value.ref b] s) (F0 m (t + 11) ls [])) : W p l e room_1 s m #[Value.ref b] below meth c H locs cells1 slots1 (lw_Z below #[Value.ref b] s) (F0 m t ls []) := by
  obtain ⟨hC, -, hK, -⟩ := S
  have hx := hC.1
  have hb := hC.2.1
  have hts := hC.2.2.2.2
  refine lv_aload_n hx hb d0 rfl hm2 ?_
  rw [← had]
  refine lb_cRi (va_runV (As := []) (rest := []) hC (kX4_thrown l D adM (hM J) 0 (J 0 0) (mThrown J)) (cwV 0 hts gL_law_X4_thrown rfl rfl rfl (by decide +kernel) ⟨Nat.le_of_ble_eq_true rfl, Nat.le_of_ble_eq_true rfl⟩) (p_preV hK hQ.1.2.1.tt (hM_ob J) rfl) rfl rfl hls rfl (lv_room (Nat.le_of_ble_eq_true rfl)) d1 ⟨hc, hs⟩) hQ hS fun H1 locs1 hQ1 hS1 => ?_
  refine lv_iload hx hb d4 h5 ?_
  refine lv_icmp_eq (tgt := t + 11) hx hb d6 (by omega) (fun _ => kk H1 locs1 hQ1 hS1) fun h => absurd hk h
theorem lb_tail (S : lb_S p l s m meth c D b L xs) (hc : cells1 ≤ room_1.cells) (hs : slots1 ≤ room_1.slots) (hR : RC J E P Ls n) (hQ : lb_Q D s adC adM adO (hC J E P n) J f H) (had : adC 0 = x ∧ adM 0 = mo ∧ adO 0 = o) (hS : va_S (lb_B s) s.heap H locs) (hl : lv_has ls 7 ((6, .int bv) :: (5, .int k5) :: lb_l b x mo o (nI i))) (hk : J 0 0 = k5) (hf : k5 = 0 → f 0 = bv.toInt64)
    (d0 : decode cL_law t = .ok (.aload_n 2, 1)) (d1 : decode cL_law (t + 1) = .ok (.invokevirtual 73, 3)) (d4 : decode cL_law (t + 4) = .ok (.iload 5, 2)) (d6 : decode cL_law (t + 6) = .ok (.if_icmp .eq 5, 3)) (d11 : decode cL_law (t + 11) = .ok (.iload 5, 2)) (d13 : decode cL_law (t + 13) = .ok (.ifCond .ne 15, 3)) (d16 : decode cL_law (t + 16) = .ok (.aload_n 3, 1)) (d17 : decode cL_law (t + 17) = .ok (.iconst 0, 1)) (d18 : decode cL_law (t + 18) = .ok (.laload, 1)) (d19 : decode cL_law (t + 19) = .ok (.iload 6, 2)) (d21 : decode cL_law (t + 21) = .ok (.i2l, 1)) (d22 : decode cL_law (t + 22) = .ok (.lcmp, 1)) (d23 : decode cL_law (t + 23) = .ok (.ifCond .eq 5, 3)) {off : Int} (d28 : decode cL_law (t + 28) = .ok (.goto off, 3)) (ht : ((t + 28 : Nat) : Int) + off = ((1136 : Nat) : Int))
    (hK : lb_K p l e s m below meth c D b x mo o cells slots i) (h1 : cells1 ≤ cells) (h2 : slots1 ≤ slots) : W p l e room_1 s m #[Value.ref b] below meth c H locs cells1 slots1 (lw_Z below #[Value.ref b] s) (F0 m t ls []) := by
  refine lb_th S hc hs hQ had.2.1 hS hl.1 (lv_at hl 4 rfl) (lv_at hl 1 rfl) hk d0 d1 d4 d6 fun H1 locs1 hQ1 hS1 => ?_
  have fin : W p l e room_1 s m #[Value.ref b] below meth c H1 locs1 cells1 slots1 (lw_Z below #[Value.ref b] s) (F0 m (t + 28) ls []) := by
    refine lv_goto (tgt := 1136) S.1.1 S.1.2.1 d28 ht ?_
    exact W.widen h1 h2 (hK H1 locs1 ls ⟨J, E, P, Ls, n, adC, adM, adO, f, hR, had, hQ1⟩ hS1 (lv_sub hl [2, 3, 4, 5, 6] rfl))
  obtain ⟨hC, -⟩ := S
  have hx := hC.1
  have hb := hC.2.1
  refine lv_iload hx hb d11 (lv_at hl 1 rfl) ?_
  refine lv_if_ne (tgt := t + 28) hx hb d13 (by omega) (fun _ => fin) fun h => ?_
  refine lv_aload_n hx hb d16 rfl (lv_at hl 5 rfl) ?_
  refine lv_iconst (v := 0) hx hb d17 (by decide) ?_
  rw [← had.2.2]
  refine p_lald hC hQ1.1.2.2 d18 ?_
  refine lv_iload hx hb d19 (lv_at hl 0 rfl) ?_
  refine lv_i2l hx hb d21 rfl ?_
  rw [hf h]
  refine lb_lcmp hx hb d22 ?_
  exact lv_if_eq (tgt := t + 28) hx hb d23 (by omega) (fun _ => fin) fun h9 => absurd rfl h9
theorem lb_tailz (S : lb_S p l s m meth c D b L xs) (hc : cells1 ≤ room_1.cells) (hs : slots1 ≤ room_1.slots) (hR : RC J E P Ls n) (hQ : lb_Q D s adC adM adO (hC J E P n) J f H) (had : adC 0 = x ∧ adM 0 = mo ∧ adO 0 = o) (hS : va_S (lb_B s) s.heap H locs) (hl : lv_has ls 7 ((6, .int bv) :: (5, .int k5) :: lb_l b x mo o (nI i))) (hk : J 0 0 = k5) (hf : k5 = 0 → f 0 = bv.toInt64) (hbz : bv = 0 ∨ bv = 1)
    (d0 : decode cL_law t = .ok (.aload_n 2, 1)) (d1 : decode cL_law (t + 1) = .ok (.invokevirtual 73, 3)) (d4 : decode cL_law (t + 4) = .ok (.iload 5, 2)) (d6 : decode cL_law (t + 6) = .ok (.if_icmp .eq 5, 3)) (d11 : decode cL_law (t + 11) = .ok (.iload 5, 2)) (d13 : decode cL_law (t + 13) = .ok (.ifCond .ne 22, 3)) (d16 : decode cL_law (t + 16) = .ok (.aload_n 3, 1)) (d17 : decode cL_law (t + 17) = .ok (.iconst 0, 1)) (d18 : decode cL_law (t + 18) = .ok (.laload, 1)) (d19 : decode cL_law (t + 19) = .ok (.iload 6, 2)) (d21 : decode cL_law (t + 21) = .ok (.ifCond .eq 7, 3)) (d24 : decode cL_law (t + 24) = .ok (.lconst 1, 1)) (d25 : decode cL_law (t + 25) = .ok (.goto 4, 3)) (d28 : decode cL_law (t + 28) = .ok (.lconst 0, 1)) (d29 : decode cL_law (t + 29) = .ok (.lcmp, 1)) (d30 : decode cL_law (t + 30) = .ok (.ifCond .eq 5, 3)) {off : Int} (d35 : decode cL_law (t + 35) = .ok (.goto off, 3)) (ht : ((t + 35 : Nat) : Int) + off = ((1136 : Nat) : Int))
    (hK : lb_K p l e s m below meth c D b x mo o cells slots i) (h1 : cells1 ≤ cells) (h2 : slots1 ≤ slots) : W p l e room_1 s m #[Value.ref b] below meth c H locs cells1 slots1 (lw_Z below #[Value.ref b] s) (F0 m t ls []) := by
  refine lb_th S hc hs hQ had.2.1 hS hl.1 (lv_at hl 4 rfl) (lv_at hl 1 rfl) hk d0 d1 d4 d6 fun H1 locs1 hQ1 hS1 => ?_
  have fin : W p l e room_1 s m #[Value.ref b] below meth c H1 locs1 cells1 slots1 (lw_Z below #[Value.ref b] s) (F0 m (t + 35) ls []) := by
    refine lv_goto (tgt := 1136) S.1.1 S.1.2.1 d35 ht ?_
    exact W.widen h1 h2 (hK H1 locs1 ls ⟨J, E, P, Ls, n, adC, adM, adO, f, hR, had, hQ1⟩ hS1 (lv_sub hl [2, 3, 4, 5, 6] rfl))
  obtain ⟨hC, -⟩ := S
  have hx := hC.1
  have hb := hC.2.1
  refine lv_iload hx hb d11 (lv_at hl 1 rfl) ?_
  refine lv_if_ne (tgt := t + 35) hx hb d13 (by omega) (fun _ => fin) fun h => ?_
  refine lv_aload_n hx hb d16 rfl (lv_at hl 5 rfl) ?_
  refine lv_iconst (v := 0) hx hb d17 (by decide) ?_
  rw [← had.2.2]
  refine p_lald hC hQ1.1.2.2 d18 ?_
  refine lv_iload hx hb d19 (lv_at hl 0 rfl) ?_
  rw [hf h]
  have cmp : W p l e room_1 s m #[Value.ref b] below meth c H1 locs1 cells1 slots1 (lw_Z below #[Value.ref b] s) (F0 m (t + 29) ls [.long bv.toInt64, .long bv.toInt64]) := by
    refine lb_lcmp hx hb d29 ?_
    exact lv_if_eq (tgt := t + 35) hx hb d30 (by omega) (fun _ => fin) fun h9 => absurd rfl h9
  refine lv_if_eq (tgt := t + 28) hx hb d21 (by omega) (fun h9 => ?_) (fun h9 => ?_)
  · refine lv_lconst (v := bv.toInt64) hx hb d28 (by rw [h9]; decide) ?_
    exact cmp
  · refine lv_lconst (v := bv.toInt64) hx hb d24 (by rw [hbz.resolve_left h9]; decide) ?_
    exact lv_goto (tgt := t + 29) hx hb d25 (by omega) cmp
end LT
