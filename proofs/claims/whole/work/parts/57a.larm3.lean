/-! THE LAW: its arms (c); text by wip/whole/gen_arms.py -/
set_option maxHeartbeats 4000000 in
set_option maxRecDepth 100000 in
theorem lb_arm_show {p : Program} {l : Launch} {e : Env} {s : State} {m : MethodId} {below : List Frame} {meth : Method} {c : Code} {H : Heap} {locs : List Loc} {cells slots b L x mo o i : Nat} {ls : Array Slot} {D : va_G} {xs : Nat → Int32} (S : lb_S p l s m meth c D b L xs) (hc : cells + 3 ≤ 601024) (hs : slots + 25 ≤ 7293033) (hI : lb_I D s x mo o H) (hS : va_S (lb_B s) s.heap H locs) (hl : lv_has ls 7 (lb_l b x mo o (nI i))) (hi : i + 8 ≤ L)
    (K : lb_K p l e s m below meth c D b x mo o (cells + 3) (slots + 25) i) : W p l e room_1 s m #[Value.ref b] below meth c H locs cells slots (lw_Z below #[Value.ref b] s) (F0 m 604 ls []) := by
  obtain ⟨I, E, P, Ls, n, adC, adM, adO, f, hR, ⟨rfl, rfl, rfl⟩, hQ⟩ := hI
  have hCF := S.1
  have hK := S.2.2.1
  have hx := hCF.1
  have hb := hCF.2.1
  have hts := hCF.2.2.2.2
  obtain ⟨bv, J, hm, hcm, hR1⟩ := X_show hR
  refine lv_aload_n hx hb dL_law_604 rfl (lv_at hl 1 rfl) ?_
  refine lb_cCi (va_runV (As := []) (rest := []) hCF (kX3_show l D adC (hC I E P n) 0 (bv, hC J E P n) hcm) (cwV 0 hts gL_law_X3_show rfl rfl rfl (by decide +kernel) ⟨Nat.le_of_ble_eq_true rfl, Nat.le_of_ble_eq_true rfl⟩) (p_preV hK hQ.1.1.self hC_ob rfl) rfl rfl hl.1 rfl (lv_room (Nat.le_of_ble_eq_true rfl)) dL_law_605 ⟨by show cells + 0 ≤ 601024; omega, by show slots + 0 ≤ 7293033; omega⟩) hQ hS fun H1 locs1 hQ1 hS1 => ?_
  refine lv_aload_n hx hb dL_law_608 rfl (lv_at hl 2 rfl) ?_
  refine lb_cMi (va_runV (As := []) (rest := [.int bv]) hCF (kX4_show l D adM (hM I) 0 (bv, hM J) hm) (cwV 0 hts gL_law_X4_show rfl rfl rfl (by decide +kernel) ⟨Nat.le_of_ble_eq_true rfl, Nat.le_of_ble_eq_true rfl⟩) (p_preV hK hQ1.1.2.1.self (hM_ob I) rfl) rfl rfl hl.1 rfl (lv_room (Nat.le_of_ble_eq_true rfl)) dL_law_609 ⟨by show cells + 0 ≤ 601024; omega, by show slots + 0 ≤ 7293033; omega⟩) hQ1 hS1 fun H2 locs2 hQ2 hS2 => ?_
  refine lv_icmp_eq (tgt := 1136) hx hb dL_law_612 (by decide) (fun _ => ?_) fun h9 => absurd rfl h9
  exact W.widen (by omega) (by omega) (K H2 locs2 ls ⟨J, E, P, Ls, n, adC, adM, adO, f, hR1, ⟨rfl, rfl, rfl⟩, hQ2⟩ hS2 hl)
set_option maxHeartbeats 4000000 in
set_option maxRecDepth 100000 in
theorem lb_arm_tick {p : Program} {l : Launch} {e : Env} {s : State} {m : MethodId} {below : List Frame} {meth : Method} {c : Code} {H : Heap} {locs : List Loc} {cells slots b L x mo o i : Nat} {ls : Array Slot} {D : va_G} {xs : Nat → Int32} (S : lb_S p l s m meth c D b L xs) (hc : cells + 3 ≤ 601024) (hs : slots + 25 ≤ 7293033) (hI : lb_I D s x mo o H) (hS : va_S (lb_B s) s.heap H locs) (hl : lv_has ls 7 (lb_l b x mo o (nI i))) (hi : i + 8 ≤ L)
    (K : lb_K p l e s m below meth c D b x mo o (cells + 3) (slots + 25) i) : W p l e room_1 s m #[Value.ref b] below meth c H locs cells slots (lw_Z below #[Value.ref b] s) (F0 m 617 ls []) := by
  obtain ⟨I, E, P, Ls, n, adC, adM, adO, f, hR, ⟨rfl, rfl, rfl⟩, hQ⟩ := hI
  have hCF := S.1
  have hK := S.2.2.1
  have hx := hCF.1
  have hb := hCF.2.1
  have hts := hCF.2.2.2.2
  obtain ⟨bv, hm, hcm⟩ := X_tick hR
  refine lv_aload_n hx hb dL_law_617 rfl (lv_at hl 1 rfl) ?_
  refine lb_cRi (va_runV (As := []) (rest := []) hCF (kX3_tick l D adC (hC I E P n) 0 bv hcm) (cwV 0 hts gL_law_X3_tick rfl rfl rfl (by decide +kernel) ⟨Nat.le_of_ble_eq_true rfl, Nat.le_of_ble_eq_true rfl⟩) (p_preV hK hQ.1.1.tt hC_ob rfl) rfl rfl hl.1 rfl (lv_room (Nat.le_of_ble_eq_true rfl)) dL_law_618 ⟨by show cells + 0 ≤ 601024; omega, by show slots + 0 ≤ 7293033; omega⟩) hQ hS fun H1 locs1 hQ1 hS1 => ?_
  refine lv_aload_n hx hb dL_law_621 rfl (lv_at hl 2 rfl) ?_
  refine lb_cMi (va_runV (As := []) (rest := [.int bv]) hCF (kX4_tick l D adM (hM I) 0 (bv, hM (rf I 0)) hm) (cwV 0 hts gL_law_X4_tick rfl rfl rfl (by decide +kernel) ⟨Nat.le_of_ble_eq_true rfl, Nat.le_of_ble_eq_true rfl⟩) (p_preV hK hQ1.1.2.1.self (hM_ob I) rfl) rfl rfl hl.1 rfl (lv_room (Nat.le_of_ble_eq_true rfl)) dL_law_622 ⟨by show cells + 0 ≤ 601024; omega, by show slots + 0 ≤ 7293033; omega⟩) hQ1 hS1 fun H2 locs2 hQ2 hS2 => ?_
  refine lv_icmp_eq (tgt := 1136) hx hb dL_law_625 (by decide) (fun _ => ?_) fun h9 => absurd rfl h9
  rw [← hC_rf I E P n 0] at hQ2
  exact W.widen (by omega) (by omega) (K H2 locs2 ls ⟨rf I 0, E, P, Ls, n, adC, adM, adO, f, hR.rf 0, ⟨rfl, rfl, rfl⟩, hQ2⟩ hS2 hl)
set_option maxHeartbeats 4000000 in
set_option maxRecDepth 100000 in
theorem lb_arm_windows {p : Program} {l : Launch} {e : Env} {s : State} {m : MethodId} {below : List Frame} {meth : Method} {c : Code} {H : Heap} {locs : List Loc} {cells slots b L x mo o i : Nat} {ls : Array Slot} {D : va_G} {xs : Nat → Int32} (S : lb_S p l s m meth c D b L xs) (hc : cells + 3 ≤ 601024) (hs : slots + 25 ≤ 7293033) (hI : lb_I D s x mo o H) (hS : va_S (lb_B s) s.heap H locs) (hl : lv_has ls 7 (lb_l b x mo o (nI i))) (hi : i + 8 ≤ L)
    (K : lb_K p l e s m below meth c D b x mo o (cells + 3) (slots + 25) i) : W p l e room_1 s m #[Value.ref b] below meth c H locs cells slots (lw_Z below #[Value.ref b] s) (F0 m 630 ls []) := by
  obtain ⟨I, E, P, Ls, n, adC, adM, adO, f, hR, ⟨rfl, rfl, rfl⟩, hQ⟩ := hI
  have hCF := S.1
  have hK := S.2.2.1
  have hx := hCF.1
  have hb := hCF.2.1
  have hts := hCF.2.2.2.2
  obtain ⟨bv, hm, hcm⟩ := X_windows hR
  refine lv_aload_n hx hb dL_law_630 rfl (lv_at hl 1 rfl) ?_
  refine lb_cRi (va_runV (As := []) (rest := []) hCF (kX3_windows l D adC (hC I E P n) 0 bv hcm) (cwV 0 hts gL_law_X3_windows rfl rfl rfl (by decide +kernel) ⟨Nat.le_of_ble_eq_true rfl, Nat.le_of_ble_eq_true rfl⟩) (p_preV hK hQ.1.1.tt hC_ob rfl) rfl rfl hl.1 rfl (lv_room (Nat.le_of_ble_eq_true rfl)) dL_law_631 ⟨by show cells + 0 ≤ 601024; omega, by show slots + 0 ≤ 7293033; omega⟩) hQ hS fun H1 locs1 hQ1 hS1 => ?_
  refine lv_aload_n hx hb dL_law_634 rfl (lv_at hl 2 rfl) ?_
  refine lb_cMi (va_runV (As := []) (rest := [.int bv]) hCF (kX4_windows l D adM (hM I) 0 (bv, hM (rf I 0)) hm) (cwV 0 hts gL_law_X4_windows rfl rfl rfl (by decide +kernel) ⟨Nat.le_of_ble_eq_true rfl, Nat.le_of_ble_eq_true rfl⟩) (p_preV hK hQ1.1.2.1.self (hM_ob I) rfl) rfl rfl hl.1 rfl (lv_room (Nat.le_of_ble_eq_true rfl)) dL_law_635 ⟨by show cells + 0 ≤ 601024; omega, by show slots + 0 ≤ 7293033; omega⟩) hQ1 hS1 fun H2 locs2 hQ2 hS2 => ?_
  refine lv_icmp_eq (tgt := 1136) hx hb dL_law_638 (by decide) (fun _ => ?_) fun h9 => absurd rfl h9
  rw [← hC_rf I E P n 0] at hQ2
  exact W.widen (by omega) (by omega) (K H2 locs2 ls ⟨rf I 0, E, P, Ls, n, adC, adM, adO, f, hR.rf 0, ⟨rfl, rfl, rfl⟩, hQ2⟩ hS2 hl)
set_option maxHeartbeats 4000000 in
set_option maxRecDepth 100000 in
theorem lb_arm_free {p : Program} {l : Launch} {e : Env} {s : State} {m : MethodId} {below : List Frame} {meth : Method} {c : Code} {H : Heap} {locs : List Loc} {cells slots b L x mo o i : Nat} {ls : Array Slot} {D : va_G} {xs : Nat → Int32} (S : lb_S p l s m meth c D b L xs) (hc : cells + 3 ≤ 601024) (hs : slots + 25 ≤ 7293033) (hI : lb_I D s x mo o H) (hS : va_S (lb_B s) s.heap H locs) (hl : lv_has ls 7 (lb_l b x mo o (nI i))) (hi : i + 8 ≤ L)
    (K : lb_K p l e s m below meth c D b x mo o (cells + 3) (slots + 25) i) : W p l e room_1 s m #[Value.ref b] below meth c H locs cells slots (lw_Z below #[Value.ref b] s) (F0 m 643 ls []) := by
  obtain ⟨I, E, P, Ls, n, adC, adM, adO, f, hR, ⟨rfl, rfl, rfl⟩, hQ⟩ := hI
  have hCF := S.1
  have hK := S.2.2.1
  have hx := hCF.1
  have hb := hCF.2.1
  have hts := hCF.2.2.2.2
  obtain ⟨bv, hm, hcm⟩ := X_free hR
  refine lv_aload_n hx hb dL_law_643 rfl (lv_at hl 1 rfl) ?_
  refine lb_cRi (va_runV (As := []) (rest := []) hCF (kX3_free l D adC (hC I E P n) 0 bv hcm) (cwV 0 hts gL_law_X3_free rfl rfl rfl (by decide +kernel) ⟨Nat.le_of_ble_eq_true rfl, Nat.le_of_ble_eq_true rfl⟩) (p_preV hK hQ.1.1.tt hC_ob rfl) rfl rfl hl.1 rfl (lv_room (Nat.le_of_ble_eq_true rfl)) dL_law_644 ⟨by show cells + 0 ≤ 601024; omega, by show slots + 0 ≤ 7293033; omega⟩) hQ hS fun H1 locs1 hQ1 hS1 => ?_
  refine lv_aload_n hx hb dL_law_647 rfl (lv_at hl 2 rfl) ?_
  refine lb_cMi (va_runV (As := []) (rest := [.int bv]) hCF (kX4_free l D adM (hM I) 0 (bv, hM (rf I 0)) hm) (cwV 0 hts gL_law_X4_free rfl rfl rfl (by decide +kernel) ⟨Nat.le_of_ble_eq_true rfl, Nat.le_of_ble_eq_true rfl⟩) (p_preV hK hQ1.1.2.1.self (hM_ob I) rfl) rfl rfl hl.1 rfl (lv_room (Nat.le_of_ble_eq_true rfl)) dL_law_648 ⟨by show cells + 0 ≤ 601024; omega, by show slots + 0 ≤ 7293033; omega⟩) hQ1 hS1 fun H2 locs2 hQ2 hS2 => ?_
  refine lv_icmp_eq (tgt := 1136) hx hb dL_law_651 (by decide) (fun _ => ?_) fun h9 => absurd rfl h9
  rw [← hC_rf I E P n 0] at hQ2
  exact W.widen (by omega) (by omega) (K H2 locs2 ls ⟨rf I 0, E, P, Ls, n, adC, adM, adO, f, hR.rf 0, ⟨rfl, rfl, rfl⟩, hQ2⟩ hS2 hl)
set_option maxHeartbeats 4000000 in
set_option maxRecDepth 100000 in
theorem lb_arm_damage {p : Program} {l : Launch} {e : Env} {s : State} {m : MethodId} {below : List Frame} {meth : Method} {c : Code} {H : Heap} {locs : List Loc} {cells slots b L x mo o i : Nat} {ls : Array Slot} {D : va_G} {xs : Nat → Int32} (S : lb_S p l s m meth c D b L xs) (hc : cells + 3 ≤ 601024) (hs : slots + 25 ≤ 7293033) (hI : lb_I D s x mo o H) (hS : va_S (lb_B s) s.heap H locs) (hl : lv_has ls 7 (lb_l b x mo o (nI i))) (hi : i + 8 ≤ L)
    (K : lb_K p l e s m below meth c D b x mo o (cells + 3) (slots + 25) i) : W p l e room_1 s m #[Value.ref b] below meth c H locs cells slots (lw_Z below #[Value.ref b] s) (F0 m 656 ls []) := by
  obtain ⟨I, E, P, Ls, n, adC, adM, adO, f, hR, ⟨rfl, rfl, rfl⟩, hQ⟩ := hI
  have hCF := S.1
  have hK := S.2.2.1
  have hx := hCF.1
  have hb := hCF.2.1
  have hts := hCF.2.2.2.2
  obtain ⟨bv, hm, hcm⟩ := X_damage hR
  refine lv_aload_n hx hb dL_law_656 rfl (lv_at hl 1 rfl) ?_
  refine lb_cRi (va_runV (As := []) (rest := []) hCF (kX3_damage l D adC (hC I E P n) 0 bv hcm) (cwV 0 hts gL_law_X3_damage rfl rfl rfl (by decide +kernel) ⟨Nat.le_of_ble_eq_true rfl, Nat.le_of_ble_eq_true rfl⟩) (p_preV hK hQ.1.1.tt hC_ob rfl) rfl rfl hl.1 rfl (lv_room (Nat.le_of_ble_eq_true rfl)) dL_law_657 ⟨by show cells + 0 ≤ 601024; omega, by show slots + 0 ≤ 7293033; omega⟩) hQ hS fun H1 locs1 hQ1 hS1 => ?_
  refine lv_aload_n hx hb dL_law_660 rfl (lv_at hl 2 rfl) ?_
  refine lb_cMi (va_runV (As := []) (rest := [.int bv]) hCF (kX4_damage l D adM (hM I) 0 (bv, hM (rf I 0)) hm) (cwV 0 hts gL_law_X4_damage rfl rfl rfl (by decide +kernel) ⟨Nat.le_of_ble_eq_true rfl, Nat.le_of_ble_eq_true rfl⟩) (p_preV hK hQ1.1.2.1.self (hM_ob I) rfl) rfl rfl hl.1 rfl (lv_room (Nat.le_of_ble_eq_true rfl)) dL_law_661 ⟨by show cells + 0 ≤ 601024; omega, by show slots + 0 ≤ 7293033; omega⟩) hQ1 hS1 fun H2 locs2 hQ2 hS2 => ?_
  refine lv_icmp_eq (tgt := 1136) hx hb dL_law_664 (by decide) (fun _ => ?_) fun h9 => absurd rfl h9
  rw [← hC_rf I E P n 0] at hQ2
  exact W.widen (by omega) (by omega) (K H2 locs2 ls ⟨rf I 0, E, P, Ls, n, adC, adM, adO, f, hR.rf 0, ⟨rfl, rfl, rfl⟩, hQ2⟩ hS2 hl)
