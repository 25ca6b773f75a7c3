/-! THE LAW: its arms (b); text by wip/whole/gen_arms.py -/
set_option maxHeartbeats 4000000 in
set_option maxRecDepth 100000 in
theorem lb_arm_placeOf {p : Program} {l : Launch} {e : Env} {s : State} {m : MethodId} {below : List Frame} {meth : Method} {c : Code} {H : Heap} {locs : List Loc} {cells slots b L x mo o i : Nat} {ls : Array Slot} {D : va_G} {xs : Nat → Int32} (S : lb_S p l s m meth c D b L xs) (hc : cells + 3 ≤ 601024) (hs : slots + 25 ≤ 7293033) (hI : lb_I D s x mo o H) (hS : va_S (lb_B s) s.heap H locs) (hl : lv_has ls 7 (lb_l b x mo o (nI i))) (hi : i + 8 ≤ L)
    (K : lb_K p l e s m below meth c D b x mo o (cells + 3) (slots + 25) i) : W p l e room_1 s m #[Value.ref b] below meth c H locs cells slots (lw_Z below #[Value.ref b] s) (F0 m 737 ls []) := by
  obtain ⟨I, E, P, Ls, n, adC, adM, adO, f, hR, ⟨rfl, rfl, rfl⟩, hQ⟩ := hI
  have hCF := S.1
  have hK := S.2.2.1
  have hx := hCF.1
  have hb := hCF.2.1
  have hts := hCF.2.2.2.2
  refine lv_aload_n hx hb dL_law_737 rfl (lv_at hl 1 rfl) ?_
  refine lb_rd (j := 1) S hS (lv_at hl 0 rfl) (lv_at hl 4 rfl) hi (by decide) (by decide) dL_law_738 dL_law_739 dL_law_741 dL_law_742 dL_law_743 ?_
  refine lv_aload_n hx hb dL_law_744 rfl (lv_at hl 3 rfl) ?_
  have X := X_placeOf hR (xs (i + 1))
  obtain ⟨bv, J, hm, hJ, hR1, hcr⟩ := X
  have go : ∀ (f1 : Nat → Int64) (H1 : Heap) (locs1 : List Loc), (J 0 0 = 0 → f1 0 = bv.toInt64) → lb_Q D s adC adM adO (hC I E P n) I f1 H1 → va_S (lb_B s) s.heap H1 locs1 → W p l e room_1 s m #[Value.ref b] below meth c H1 locs1 (cells + 1) (slots + 6) (lw_Z below #[Value.ref b] s) (F0 m 748 ls [.int (J 0 0)]) := by
    intro f1 H1 locs1 hf1 hQ1 hS1
    replace hS := hS1
    refine lv_istore (lv' := (5, .int (J 0 0)) :: lb_l b (adC 0) (adM 0) (adO 0) (nI i)) hx hb dL_law_748 hl (by decide) rfl (fun ls hl => ?_)
    refine lv_aload_n hx hb dL_law_750 rfl (lv_at hl 3 rfl) ?_
    refine lb_rd (j := 1) S hS (lv_at hl 1 rfl) (lv_at hl 5 rfl) hi (by decide) (by decide) dL_law_751 dL_law_752 dL_law_754 dL_law_755 dL_law_756 ?_
    refine lb_cMi (va_runV (As := [.int (xs (i + 1))]) (rest := []) hCF (kX4_placeOf l D adM (hM I) 0 (xs (i + 1)) (bv, hM J) hm) (cwV 1 hts gL_law_X4_placeOf rfl rfl rfl (by decide +kernel) ⟨Nat.le_of_ble_eq_true rfl, Nat.le_of_ble_eq_true rfl⟩) (p_preV hK hQ1.1.2.1.self (hM_ob I) rfl) rfl rfl hl.1 rfl (lv_room (Nat.le_of_ble_eq_true rfl)) dL_law_757 ⟨by show cells + 1 + 0 ≤ 601024; omega, by show slots + 6 + 0 ≤ 7293033; omega⟩) hQ1 hS fun H2 locs2 hQ2 hS2 => ?_
    rw [← hJ] at hQ2
    refine lv_istore (lv' := (6, .int bv) :: (5, .int (J 0 0)) :: lb_l b (adC 0) (adM 0) (adO 0) (nI i)) hx hb dL_law_760 hl (by decide) rfl (fun ls hl => ?_)
    exact lb_tail S (by show cells + 1 ≤ 601024; omega) (by show slots + 6 ≤ 7293033; omega) hR1 hQ2 ⟨rfl, rfl, rfl⟩ hS2 hl rfl hf1 dL_law_762 dL_law_763 dL_law_766 dL_law_768 dL_law_773 dL_law_775 dL_law_778 dL_law_779 dL_law_780 dL_law_781 dL_law_783 dL_law_784 dL_law_785 dL_law_790 (by decide) K (by omega) (by omega)
  have hE := lb_E S hS
  have hca := S.2.2.2.2.1
  rcases hcr with ⟨h0, hq⟩ | ⟨h0, hq⟩
  · refine lb_cR (vx_runSW (As := [.ref (adC 0), .int (xs (i + 1)), .ref (adO 0)]) (rest := []) hCF (wL_placeOf l S.2.1 D adC adO (lb_B s) H.size (hC I E P n) f (xs (i + 1)) () (.inr bv) hq hC_ob (fun E9 h9 => by cases h9)) (vx_cwSW 3 hts gL_law_L_placeOf rfl rfl rfl (by decide +kernel) ⟨Nat.le_of_ble_eq_true rfl, Nat.le_of_ble_eq_true rfl⟩) (lb_pP hK hQ.1.1.tt hE rfl hQ.1.2.2.tt hca) rfl rfl hl.1 rfl (lv_room (Nat.le_of_ble_eq_true rfl)) dL_law_745 ⟨by show cells + 1 ≤ 601024; omega, by show slots + 6 ≤ 7293033; omega⟩) hQ hS fun H1 locs1 hQ1 hS1 => ?_
    have k := go (w_f f (.inr bv)) H1 locs1 (fun _ => (if_pos rfl : vp_updL f 0 bv.toInt64 0 = bv.toInt64)) hQ1 hS1
    rw [h0] at k
    exact k
  · refine lb_cR (vx_runSW (As := [.ref (adC 0), .int (xs (i + 1)), .ref (adO 0)]) (rest := []) hCF (wL_placeOf l S.2.1 D adC adO (lb_B s) H.size (hC I E P n) f (xs (i + 1)) () (.inl xIO) hq hC_ob (fun E9 h9 => by cases h9; rfl)) (vx_cwSW 3 hts gL_law_L_placeOf rfl rfl rfl (by decide +kernel) ⟨Nat.le_of_ble_eq_true rfl, Nat.le_of_ble_eq_true rfl⟩) (lb_pP hK hQ.1.1.tt hE rfl hQ.1.2.2.tt hca) rfl rfl hl.1 rfl (lv_room (Nat.le_of_ble_eq_true rfl)) dL_law_745 ⟨by show cells + 1 ≤ 601024; omega, by show slots + 6 ≤ 7293033; omega⟩) hQ hS fun H1 locs1 hQ1 hS1 => ?_
    have k := go f H1 locs1 (fun h => absurd (h0.symm.trans h) (by decide)) hQ1 hS1
    rw [h0] at k
    exact k
set_option maxHeartbeats 4000000 in
set_option maxRecDepth 100000 in
theorem lb_arm_isSeen {p : Program} {l : Launch} {e : Env} {s : State} {m : MethodId} {below : List Frame} {meth : Method} {c : Code} {H : Heap} {locs : List Loc} {cells slots b L x mo o i : Nat} {ls : Array Slot} {D : va_G} {xs : Nat → Int32} (S : lb_S p l s m meth c D b L xs) (hc : cells + 3 ≤ 601024) (hs : slots + 25 ≤ 7293033) (hI : lb_I D s x mo o H) (hS : va_S (lb_B s) s.heap H locs) (hl : lv_has ls 7 (lb_l b x mo o (nI i))) (hi : i + 8 ≤ L)
    (K : lb_K p l e s m below meth c D b x mo o (cells + 3) (slots + 25) i) : W p l e room_1 s m #[Value.ref b] below meth c H locs cells slots (lw_Z below #[Value.ref b] s) (F0 m 793 ls []) := by
  obtain ⟨I, E, P, Ls, n, adC, adM, adO, f, hR, ⟨rfl, rfl, rfl⟩, hQ⟩ := hI
  have hCF := S.1
  have hK := S.2.2.1
  have hx := hCF.1
  have hb := hCF.2.1
  have hts := hCF.2.2.2.2
  refine lv_aload_n hx hb dL_law_793 rfl (lv_at hl 1 rfl) ?_
  refine lb_rd (j := 1) S hS (lv_at hl 0 rfl) (lv_at hl 4 rfl) hi (by decide) (by decide) dL_law_794 dL_law_795 dL_law_797 dL_law_798 dL_law_799 ?_
  refine lv_aload_n hx hb dL_law_800 rfl (lv_at hl 3 rfl) ?_
  have X := X_isSeen hR (xs (i + 1))
  obtain ⟨bv, J, hm, hJ, hR1, hcr⟩ := X
  have hbz := lb_seen hm
  have go : ∀ (f1 : Nat → Int64) (H1 : Heap) (locs1 : List Loc), (J 0 0 = 0 → f1 0 = bv.toInt64) → lb_Q D s adC adM adO (hC I E P n) I f1 H1 → va_S (lb_B s) s.heap H1 locs1 → W p l e room_1 s m #[Value.ref b] below meth c H1 locs1 (cells + 1) (slots + 6) (lw_Z below #[Value.ref b] s) (F0 m 804 ls [.int (J 0 0)]) := by
    intro f1 H1 locs1 hf1 hQ1 hS1
    replace hS := hS1
    refine lv_istore (lv' := (5, .int (J 0 0)) :: lb_l b (adC 0) (adM 0) (adO 0) (nI i)) hx hb dL_law_804 hl (by decide) rfl (fun ls hl => ?_)
    refine lv_aload_n hx hb dL_law_806 rfl (lv_at hl 3 rfl) ?_
    refine lb_rd (j := 1) S hS (lv_at hl 1 rfl) (lv_at hl 5 rfl) hi (by decide) (by decide) dL_law_807 dL_law_808 dL_law_810 dL_law_811 dL_law_812 ?_
    refine lb_cMi (va_runV (As := [.int (xs (i + 1))]) (rest := []) hCF (kX4_isSeen l D adM (hM I) 0 (xs (i + 1)) (bv, hM J) hm) (cwV 1 hts gL_law_X4_isSeen rfl rfl rfl (by decide +kernel) ⟨Nat.le_of_ble_eq_true rfl, Nat.le_of_ble_eq_true rfl⟩) (p_preV hK hQ1.1.2.1.self (hM_ob I) rfl) rfl rfl hl.1 rfl (lv_room (Nat.le_of_ble_eq_true rfl)) dL_law_813 ⟨by show cells + 1 + 0 ≤ 601024; omega, by show slots + 6 + 0 ≤ 7293033; omega⟩) hQ1 hS fun H2 locs2 hQ2 hS2 => ?_
    rw [← hJ] at hQ2
    refine lv_istore (lv' := (6, .int bv) :: (5, .int (J 0 0)) :: lb_l b (adC 0) (adM 0) (adO 0) (nI i)) hx hb dL_law_816 hl (by decide) rfl (fun ls hl => ?_)
    exact lb_tailz S (by show cells + 1 ≤ 601024; omega) (by show slots + 6 ≤ 7293033; omega) hR1 hQ2 ⟨rfl, rfl, rfl⟩ hS2 hl rfl hf1 hbz dL_law_818 dL_law_819 dL_law_822 dL_law_824 dL_law_829 dL_law_831 dL_law_834 dL_law_835 dL_law_836 dL_law_837 dL_law_839 dL_law_842 dL_law_843 dL_law_846 dL_law_847 dL_law_848 dL_law_853 (by decide) K (by omega) (by omega)
  have hE := lb_E S hS
  have hca := S.2.2.2.2.1
  rcases hcr with ⟨h0, hq⟩ | ⟨h0, hq⟩
  · refine lb_cR (vx_runSW (As := [.ref (adC 0), .int (xs (i + 1)), .ref (adO 0)]) (rest := []) hCF (wL_isSeen l S.2.1 D adC adO (lb_B s) H.size (hC I E P n) f (xs (i + 1)) () (.inr bv) hq hC_ob (fun E9 h9 => by cases h9) (fun v9 h9 => by cases h9; exact hbz)) (vx_cwSW 3 hts gL_law_L_isSeen rfl rfl rfl (by decide +kernel) ⟨Nat.le_of_ble_eq_true rfl, Nat.le_of_ble_eq_true rfl⟩) (lb_pP hK hQ.1.1.tt hE rfl hQ.1.2.2.tt hca) rfl rfl hl.1 rfl (lv_room (Nat.le_of_ble_eq_true rfl)) dL_law_801 ⟨by show cells + 1 ≤ 601024; omega, by show slots + 6 ≤ 7293033; omega⟩) hQ hS fun H1 locs1 hQ1 hS1 => ?_
    have k := go (w_f f (.inr bv)) H1 locs1 (fun _ => (if_pos rfl : vp_updL f 0 bv.toInt64 0 = bv.toInt64)) hQ1 hS1
    rw [h0] at k
    exact k
  · refine lb_cR (vx_runSW (As := [.ref (adC 0), .int (xs (i + 1)), .ref (adO 0)]) (rest := []) hCF (wL_isSeen l S.2.1 D adC adO (lb_B s) H.size (hC I E P n) f (xs (i + 1)) () (.inl xIO) hq hC_ob (fun E9 h9 => by cases h9; rfl) (fun v9 h9 => by cases h9)) (vx_cwSW 3 hts gL_law_L_isSeen rfl rfl rfl (by decide +kernel) ⟨Nat.le_of_ble_eq_true rfl, Nat.le_of_ble_eq_true rfl⟩) (lb_pP hK hQ.1.1.tt hE rfl hQ.1.2.2.tt hca) rfl rfl hl.1 rfl (lv_room (Nat.le_of_ble_eq_true rfl)) dL_law_801 ⟨by show cells + 1 ≤ 601024; omega, by show slots + 6 ≤ 7293033; omega⟩) hQ hS fun H1 locs1 hQ1 hS1 => ?_
    have k := go f H1 locs1 (fun h => absurd (h0.symm.trans h) (by decide)) hQ1 hS1
    rw [h0] at k
    exact k
set_option maxHeartbeats 4000000 in
set_option maxRecDepth 100000 in
theorem lb_arm_pagesOf {p : Program} {l : Launch} {e : Env} {s : State} {m : MethodId} {below : List Frame} {meth : Method} {c : Code} {H : Heap} {locs : List Loc} {cells slots b L x mo o i : Nat} {ls : Array Slot} {D : va_G} {xs : Nat → Int32} (S : lb_S p l s m meth c D b L xs) (hc : cells + 3 ≤ 601024) (hs : slots + 25 ≤ 7293033) (hI : lb_I D s x mo o H) (hS : va_S (lb_B s) s.heap H locs) (hl : lv_has ls 7 (lb_l b x mo o (nI i))) (hi : i + 8 ≤ L)
    (K : lb_K p l e s m below meth c D b x mo o (cells + 3) (slots + 25) i) : W p l e room_1 s m #[Value.ref b] below meth c H locs cells slots (lw_Z below #[Value.ref b] s) (F0 m 856 ls []) := by
  obtain ⟨I, E, P, Ls, n, adC, adM, adO, f, hR, ⟨rfl, rfl, rfl⟩, hQ⟩ := hI
  have hCF := S.1
  have hK := S.2.2.1
  have hx := hCF.1
  have hb := hCF.2.1
  have hts := hCF.2.2.2.2
  refine lv_aload_n hx hb dL_law_856 rfl (lv_at hl 1 rfl) ?_
  refine lb_rd (j := 1) S hS (lv_at hl 0 rfl) (lv_at hl 4 rfl) hi (by decide) (by decide) dL_law_857 dL_law_858 dL_law_860 dL_law_861 dL_law_862 ?_
  refine lv_aload_n hx hb dL_law_863 rfl (lv_at hl 3 rfl) ?_
  have X := X_pagesOf hR (xs (i + 1))
  obtain ⟨bv, J, hm, hJ, hR1, hcr⟩ := X
  have go : ∀ (f1 : Nat → Int64) (H1 : Heap) (locs1 : List Loc), (J 0 0 = 0 → f1 0 = bv.toInt64) → lb_Q D s adC adM adO (hC I E P n) I f1 H1 → va_S (lb_B s) s.heap H1 locs1 → W p l e room_1 s m #[Value.ref b] below meth c H1 locs1 (cells + 1) (slots + 6) (lw_Z below #[Value.ref b] s) (F0 m 867 ls [.int (J 0 0)]) := by
    intro f1 H1 locs1 hf1 hQ1 hS1
    replace hS := hS1
    refine lv_istore (lv' := (5, .int (J 0 0)) :: lb_l b (adC 0) (adM 0) (adO 0) (nI i)) hx hb dL_law_867 hl (by decide) rfl (fun ls hl => ?_)
    refine lv_aload_n hx hb dL_law_869 rfl (lv_at hl 3 rfl) ?_
    refine lb_rd (j := 1) S hS (lv_at hl 1 rfl) (lv_at hl 5 rfl) hi (by decide) (by decide) dL_law_870 dL_law_871 dL_law_873 dL_law_874 dL_law_875 ?_
    refine lb_cMi (va_runV (As := [.int (xs (i + 1))]) (rest := []) hCF (kX4_pagesOf l D adM (hM I) 0 (xs (i + 1)) (bv, hM J) hm) (cwV 1 hts gL_law_X4_pagesOf rfl rfl rfl (by decide +kernel) ⟨Nat.le_of_ble_eq_true rfl, Nat.le_of_ble_eq_true rfl⟩) (p_preV hK hQ1.1.2.1.self (hM_ob I) rfl) rfl rfl hl.1 rfl (lv_room (Nat.le_of_ble_eq_true rfl)) dL_law_876 ⟨by show cells + 1 + 0 ≤ 601024; omega, by show slots + 6 + 0 ≤ 7293033; omega⟩) hQ1 hS fun H2 locs2 hQ2 hS2 => ?_
    rw [← hJ] at hQ2
    refine lv_istore (lv' := (6, .int bv) :: (5, .int (J 0 0)) :: lb_l b (adC 0) (adM 0) (adO 0) (nI i)) hx hb dL_law_879 hl (by decide) rfl (fun ls hl => ?_)
    exact lb_tail S (by show cells + 1 ≤ 601024; omega) (by show slots + 6 ≤ 7293033; omega) hR1 hQ2 ⟨rfl, rfl, rfl⟩ hS2 hl rfl hf1 dL_law_881 dL_law_882 dL_law_885 dL_law_887 dL_law_892 dL_law_894 dL_law_897 dL_law_898 dL_law_899 dL_law_900 dL_law_902 dL_law_903 dL_law_904 dL_law_909 (by decide) K (by omega) (by omega)
  have hE := lb_E S hS
  have hca := S.2.2.2.2.1
  rcases hcr with ⟨h0, hq⟩ | ⟨h0, hq⟩
  · refine lb_cR (vx_runSW (As := [.ref (adC 0), .int (xs (i + 1)), .ref (adO 0)]) (rest := []) hCF (wL_pagesOf l S.2.1 D adC adO (lb_B s) H.size (hC I E P n) f (xs (i + 1)) () (.inr bv) hq hC_ob (fun E9 h9 => by cases h9)) (vx_cwSW 3 hts gL_law_L_pagesOf rfl rfl rfl (by decide +kernel) ⟨Nat.le_of_ble_eq_true rfl, Nat.le_of_ble_eq_true rfl⟩) (lb_pP hK hQ.1.1.tt hE rfl hQ.1.2.2.tt hca) rfl rfl hl.1 rfl (lv_room (Nat.le_of_ble_eq_true rfl)) dL_law_864 ⟨by show cells + 1 ≤ 601024; omega, by show slots + 6 ≤ 7293033; omega⟩) hQ hS fun H1 locs1 hQ1 hS1 => ?_
    have k := go (w_f f (.inr bv)) H1 locs1 (fun _ => (if_pos rfl : vp_updL f 0 bv.toInt64 0 = bv.toInt64)) hQ1 hS1
    rw [h0] at k
    exact k
  · refine lb_cR (vx_runSW (As := [.ref (adC 0), .int (xs (i + 1)), .ref (adO 0)]) (rest := []) hCF (wL_pagesOf l S.2.1 D adC adO (lb_B s) H.size (hC I E P n) f (xs (i + 1)) () (.inl xIO) hq hC_ob (fun E9 h9 => by cases h9; rfl)) (vx_cwSW 3 hts gL_law_L_pagesOf rfl rfl rfl (by decide +kernel) ⟨Nat.le_of_ble_eq_true rfl, Nat.le_of_ble_eq_true rfl⟩) (lb_pP hK hQ.1.1.tt hE rfl hQ.1.2.2.tt hca) rfl rfl hl.1 rfl (lv_room (Nat.le_of_ble_eq_true rfl)) dL_law_864 ⟨by show cells + 1 ≤ 601024; omega, by show slots + 6 ≤ 7293033; omega⟩) hQ hS fun H1 locs1 hQ1 hS1 => ?_
    have k := go f H1 locs1 (fun h => absurd (h0.symm.trans h) (by decide)) hQ1 hS1
    rw [h0] at k
    exact k
set_option maxHeartbeats 4000000 in
set_option maxRecDepth 100000 in
theorem lb_arm_picture {p : Program} {l : Launch} {e : Env} {s : State} {m : MethodId} {below : List Frame} {meth : Method} {c : Code} {H : Heap} {locs : List Loc} {cells slots b L x mo o i : Nat} {ls : Array Slot} {D : va_G} {xs : Nat → Int32} (S : lb_S p l s m meth c D b L xs) (hc : cells + 3 ≤ 601024) (hs : slots + 25 ≤ 7293033) (hI : lb_I D s x mo o H) (hS : va_S (lb_B s) s.heap H locs) (hl : lv_has ls 7 (lb_l b x mo o (nI i))) (hi : i + 8 ≤ L)
    (K : lb_K p l e s m below meth c D b x mo o (cells + 3) (slots + 25) i) : W p l e room_1 s m #[Value.ref b] below meth c H locs cells slots (lw_Z below #[Value.ref b] s) (F0 m 912 ls []) := by
  obtain ⟨I, E, P, Ls, n, adC, adM, adO, f, hR, ⟨rfl, rfl, rfl⟩, hQ⟩ := hI
  have hCF := S.1
  have hK := S.2.2.1
  have hx := hCF.1
  have hb := hCF.2.1
  have hts := hCF.2.2.2.2
  refine lv_aload_n hx hb dL_law_912 rfl (lv_at hl 1 rfl) ?_
  refine lb_rd (j := 1) S hS (lv_at hl 0 rfl) (lv_at hl 4 rfl) hi (by decide) (by decide) dL_law_913 dL_law_914 dL_law_916 dL_law_917 dL_law_918 ?_
  refine lv_aload_n hx hb dL_law_919 rfl (lv_at hl 3 rfl) ?_
  have X := X_picture hR (xs (i + 1))
  obtain ⟨bv, J, hm, hJ, hR1, hcr⟩ := X
  have go : ∀ (f1 : Nat → Int64) (H1 : Heap) (locs1 : List Loc), (J 0 0 = 0 → f1 0 = bv.toInt64) → lb_Q D s adC adM adO (hC I E P n) I f1 H1 → va_S (lb_B s) s.heap H1 locs1 → W p l e room_1 s m #[Value.ref b] below meth c H1 locs1 (cells + 1) (slots + 6) (lw_Z below #[Value.ref b] s) (F0 m 923 ls [.int (J 0 0)]) := by
    intro f1 H1 locs1 hf1 hQ1 hS1
    replace hS := hS1
    refine lv_istore (lv' := (5, .int (J 0 0)) :: lb_l b (adC 0) (adM 0) (adO 0) (nI i)) hx hb dL_law_923 hl (by decide) rfl (fun ls hl => ?_)
    refine lv_aload_n hx hb dL_law_925 rfl (lv_at hl 3 rfl) ?_
    refine lb_rd (j := 1) S hS (lv_at hl 1 rfl) (lv_at hl 5 rfl) hi (by decide) (by decide) dL_law_926 dL_law_927 dL_law_929 dL_law_930 dL_law_931 ?_
    refine lb_cMi (va_runV (As := [.int (xs (i + 1))]) (rest := []) hCF (kX4_picture l D adM (hM I) 0 (xs (i + 1)) (bv, hM J) hm) (cwV 1 hts gL_law_X4_picture rfl rfl rfl (by decide +kernel) ⟨Nat.le_of_ble_eq_true rfl, Nat.le_of_ble_eq_true rfl⟩) (p_preV hK hQ1.1.2.1.self (hM_ob I) rfl) rfl rfl hl.1 rfl (lv_room (Nat.le_of_ble_eq_true rfl)) dL_law_932 ⟨by show cells + 1 + 0 ≤ 601024; omega, by show slots + 6 + 0 ≤ 7293033; omega⟩) hQ1 hS fun H2 locs2 hQ2 hS2 => ?_
    rw [← hJ] at hQ2
    refine lv_istore (lv' := (6, .int bv) :: (5, .int (J 0 0)) :: lb_l b (adC 0) (adM 0) (adO 0) (nI i)) hx hb dL_law_935 hl (by decide) rfl (fun ls hl => ?_)
    exact lb_tail S (by show cells + 1 ≤ 601024; omega) (by show slots + 6 ≤ 7293033; omega) hR1 hQ2 ⟨rfl, rfl, rfl⟩ hS2 hl rfl hf1 dL_law_937 dL_law_938 dL_law_941 dL_law_943 dL_law_948 dL_law_950 dL_law_953 dL_law_954 dL_law_955 dL_law_956 dL_law_958 dL_law_959 dL_law_960 dL_law_965 (by decide) K (by omega) (by omega)
  have hE := lb_E S hS
  have hca := S.2.2.2.2.1
  rcases hcr with ⟨h0, hq⟩ | ⟨h0, hq⟩
  · refine lb_cR (vx_runSW (As := [.ref (adC 0), .int (xs (i + 1)), .ref (adO 0)]) (rest := []) hCF (wL_picture l S.2.1 D adC adO (lb_B s) H.size (hC I E P n) f (xs (i + 1)) () (.inr bv) hq hC_ob (fun E9 h9 => by cases h9)) (vx_cwSW 3 hts gL_law_L_picture rfl rfl rfl (by decide +kernel) ⟨Nat.le_of_ble_eq_true rfl, Nat.le_of_ble_eq_true rfl⟩) (lb_pP hK hQ.1.1.tt hE rfl hQ.1.2.2.tt hca) rfl rfl hl.1 rfl (lv_room (Nat.le_of_ble_eq_true rfl)) dL_law_920 ⟨by show cells + 1 ≤ 601024; omega, by show slots + 6 ≤ 7293033; omega⟩) hQ hS fun H1 locs1 hQ1 hS1 => ?_
    have k := go (w_f f (.inr bv)) H1 locs1 (fun _ => (if_pos rfl : vp_updL f 0 bv.toInt64 0 = bv.toInt64)) hQ1 hS1
    rw [h0] at k
    exact k
  · refine lb_cR (vx_runSW (As := [.ref (adC 0), .int (xs (i + 1)), .ref (adO 0)]) (rest := []) hCF (wL_picture l S.2.1 D adC adO (lb_B s) H.size (hC I E P n) f (xs (i + 1)) () (.inl xIO) hq hC_ob (fun E9 h9 => by cases h9; rfl)) (vx_cwSW 3 hts gL_law_L_picture rfl rfl rfl (by decide +kernel) ⟨Nat.le_of_ble_eq_true rfl, Nat.le_of_ble_eq_true rfl⟩) (lb_pP hK hQ.1.1.tt hE rfl hQ.1.2.2.tt hca) rfl rfl hl.1 rfl (lv_room (Nat.le_of_ble_eq_true rfl)) dL_law_920 ⟨by show cells + 1 ≤ 601024; omega, by show slots + 6 ≤ 7293033; omega⟩) hQ hS fun H1 locs1 hQ1 hS1 => ?_
    have k := go f H1 locs1 (fun h => absurd (h0.symm.trans h) (by decide)) hQ1 hS1
    rw [h0] at k
    exact k
set_option maxHeartbeats 4000000 in
set_option maxRecDepth 100000 in
theorem lb_arm_pace {p : Program} {l : Launch} {e : Env} {s : State} {m : MethodId} {below : List Frame} {meth : Method} {c : Code} {H : Heap} {locs : List Loc} {cells slots b L x mo o i : Nat} {ls : Array Slot} {D : va_G} {xs : Nat → Int32} (S : lb_S p l s m meth c D b L xs) (hc : cells + 3 ≤ 601024) (hs : slots + 25 ≤ 7293033) (hI : lb_I D s x mo o H) (hS : va_S (lb_B s) s.heap H locs) (hl : lv_has ls 7 (lb_l b x mo o (nI i))) (hi : i + 8 ≤ L)
    (K : lb_K p l e s m below meth c D b x mo o (cells + 3) (slots + 25) i) : W p l e room_1 s m #[Value.ref b] below meth c H locs cells slots (lw_Z below #[Value.ref b] s) (F0 m 968 ls []) := by
  obtain ⟨I, E, P, Ls, n, adC, adM, adO, f, hR, ⟨rfl, rfl, rfl⟩, hQ⟩ := hI
  have hCF := S.1
  have hK := S.2.2.1
  have hx := hCF.1
  have hb := hCF.2.1
  have hts := hCF.2.2.2.2
  refine lv_aload_n hx hb dL_law_968 rfl (lv_at hl 1 rfl) ?_
  refine lb_rd (j := 1) S hS (lv_at hl 0 rfl) (lv_at hl 4 rfl) hi (by decide) (by decide) dL_law_969 dL_law_970 dL_law_972 dL_law_973 dL_law_974 ?_
  refine lv_aload_n hx hb dL_law_975 rfl (lv_at hl 3 rfl) ?_
  have X := X_pace hR (xs (i + 1))
  obtain ⟨bv, J, hm, hJ, hR1, hcr⟩ := X
  have go : ∀ (f1 : Nat → Int64) (H1 : Heap) (locs1 : List Loc), (J 0 0 = 0 → f1 0 = bv.toInt64) → lb_Q D s adC adM adO (hC I E P n) I f1 H1 → va_S (lb_B s) s.heap H1 locs1 → W p l e room_1 s m #[Value.ref b] below meth c H1 locs1 (cells + 1) (slots + 6) (lw_Z below #[Value.ref b] s) (F0 m 979 ls [.int (J 0 0)]) := by
    intro f1 H1 locs1 hf1 hQ1 hS1
    replace hS := hS1
    refine lv_istore (lv' := (5, .int (J 0 0)) :: lb_l b (adC 0) (adM 0) (adO 0) (nI i)) hx hb dL_law_979 hl (by decide) rfl (fun ls hl => ?_)
    refine lv_aload_n hx hb dL_law_981 rfl (lv_at hl 3 rfl) ?_
    refine lb_rd (j := 1) S hS (lv_at hl 1 rfl) (lv_at hl 5 rfl) hi (by decide) (by decide) dL_law_982 dL_law_983 dL_law_985 dL_law_986 dL_law_987 ?_
    refine lb_cMi (va_runV (As := [.int (xs (i + 1))]) (rest := []) hCF (kX4_pace l D adM (hM I) 0 (xs (i + 1)) (bv, hM J) hm) (cwV 1 hts gL_law_X4_pace rfl rfl rfl (by decide +kernel) ⟨Nat.le_of_ble_eq_true rfl, Nat.le_of_ble_eq_true rfl⟩) (p_preV hK hQ1.1.2.1.self (hM_ob I) rfl) rfl rfl hl.1 rfl (lv_room (Nat.le_of_ble_eq_true rfl)) dL_law_988 ⟨by show cells + 1 + 0 ≤ 601024; omega, by show slots + 6 + 0 ≤ 7293033; omega⟩) hQ1 hS fun H2 locs2 hQ2 hS2 => ?_
    rw [← hJ] at hQ2
    refine lv_istore (lv' := (6, .int bv) :: (5, .int (J 0 0)) :: lb_l b (adC 0) (adM 0) (adO 0) (nI i)) hx hb dL_law_991 hl (by decide) rfl (fun ls hl => ?_)
    exact lb_tail S (by show cells + 1 ≤ 601024; omega) (by show slots + 6 ≤ 7293033; omega) hR1 hQ2 ⟨rfl, rfl, rfl⟩ hS2 hl rfl hf1 dL_law_993 dL_law_994 dL_law_997 dL_law_999 dL_law_1004 dL_law_1006 dL_law_1009 dL_law_1010 dL_law_1011 dL_law_1012 dL_law_1014 dL_law_1015 dL_law_1016 dL_law_1021 (by decide) K (by omega) (by omega)
  have hE := lb_E S hS
  have hca := S.2.2.2.2.1
  rcases hcr with ⟨h0, hq⟩ | ⟨h0, hq⟩
  · refine lb_cR (vx_runSW (As := [.ref (adC 0), .int (xs (i + 1)), .ref (adO 0)]) (rest := []) hCF (wL_pace l S.2.1 D adC adO (lb_B s) H.size (hC I E P n) f (xs (i + 1)) () (.inr bv) hq hC_ob (fun E9 h9 => by cases h9)) (vx_cwSW 3 hts gL_law_L_pace rfl rfl rfl (by decide +kernel) ⟨Nat.le_of_ble_eq_true rfl, Nat.le_of_ble_eq_true rfl⟩) (lb_pP hK hQ.1.1.tt hE rfl hQ.1.2.2.tt hca) rfl rfl hl.1 rfl (lv_room (Nat.le_of_ble_eq_true rfl)) dL_law_976 ⟨by show cells + 1 ≤ 601024; omega, by show slots + 6 ≤ 7293033; omega⟩) hQ hS fun H1 locs1 hQ1 hS1 => ?_
    have k := go (w_f f (.inr bv)) H1 locs1 (fun _ => (if_pos rfl : vp_updL f 0 bv.toInt64 0 = bv.toInt64)) hQ1 hS1
    rw [h0] at k
    exact k
  · refine lb_cR (vx_runSW (As := [.ref (adC 0), .int (xs (i + 1)), .ref (adO 0)]) (rest := []) hCF (wL_pace l S.2.1 D adC adO (lb_B s) H.size (hC I E P n) f (xs (i + 1)) () (.inl xIO) hq hC_ob (fun E9 h9 => by cases h9; rfl)) (vx_cwSW 3 hts gL_law_L_pace rfl rfl rfl (by decide +kernel) ⟨Nat.le_of_ble_eq_true rfl, Nat.le_of_ble_eq_true rfl⟩) (lb_pP hK hQ.1.1.tt hE rfl hQ.1.2.2.tt hca) rfl rfl hl.1 rfl (lv_room (Nat.le_of_ble_eq_true rfl)) dL_law_976 ⟨by show cells + 1 ≤ 601024; omega, by show slots + 6 ≤ 7293033; omega⟩) hQ hS fun H1 locs1 hQ1 hS1 => ?_
    have k := go f H1 locs1 (fun h => absurd (h0.symm.trans h) (by decide)) hQ1 hS1
    rw [h0] at k
    exact k
set_option maxHeartbeats 4000000 in
set_option maxRecDepth 100000 in
theorem lb_arm_misses {p : Program} {l : Launch} {e : Env} {s : State} {m : MethodId} {below : List Frame} {meth : Method} {c : Code} {H : Heap} {locs : List Loc} {cells slots b L x mo o i : Nat} {ls : Array Slot} {D : va_G} {xs : Nat → Int32} (S : lb_S p l s m meth c D b L xs) (hc : cells + 3 ≤ 601024) (hs : slots + 25 ≤ 7293033) (hI : lb_I D s x mo o H) (hS : va_S (lb_B s) s.heap H locs) (hl : lv_has ls 7 (lb_l b x mo o (nI i))) (hi : i + 8 ≤ L)
    (K : lb_K p l e s m below meth c D b x mo o (cells + 3) (slots + 25) i) : W p l e room_1 s m #[Value.ref b] below meth c H locs cells slots (lw_Z below #[Value.ref b] s) (F0 m 1024 ls []) := by
  obtain ⟨I, E, P, Ls, n, adC, adM, adO, f, hR, ⟨rfl, rfl, rfl⟩, hQ⟩ := hI
  have hCF := S.1
  have hK := S.2.2.1
  have hx := hCF.1
  have hb := hCF.2.1
  have hts := hCF.2.2.2.2
  refine lv_aload_n hx hb dL_law_1024 rfl (lv_at hl 1 rfl) ?_
  refine lb_rd (j := 1) S hS (lv_at hl 0 rfl) (lv_at hl 4 rfl) hi (by decide) (by decide) dL_law_1025 dL_law_1026 dL_law_1028 dL_law_1029 dL_law_1030 ?_
  refine lv_aload_n hx hb dL_law_1031 rfl (lv_at hl 3 rfl) ?_
  have X := X_misses hR (xs (i + 1))
  obtain ⟨bv, J, hm, hJ, hR1, hcr⟩ := X
  have go : ∀ (f1 : Nat → Int64) (H1 : Heap) (locs1 : List Loc), (J 0 0 = 0 → f1 0 = bv.toInt64) → lb_Q D s adC adM adO (hC I E P n) I f1 H1 → va_S (lb_B s) s.heap H1 locs1 → W p l e room_1 s m #[Value.ref b] below meth c H1 locs1 (cells + 1) (slots + 6) (lw_Z below #[Value.ref b] s) (F0 m 1035 ls [.int (J 0 0)]) := by
    intro f1 H1 locs1 hf1 hQ1 hS1
    replace hS := hS1
    refine lv_istore (lv' := (5, .int (J 0 0)) :: lb_l b (adC 0) (adM 0) (adO 0) (nI i)) hx hb dL_law_1035 hl (by decide) rfl (fun ls hl => ?_)
    refine lv_aload_n hx hb dL_law_1037 rfl (lv_at hl 3 rfl) ?_
    refine lb_rd (j := 1) S hS (lv_at hl 1 rfl) (lv_at hl 5 rfl) hi (by decide) (by decide) dL_law_1038 dL_law_1039 dL_law_1041 dL_law_1042 dL_law_1043 ?_
    refine lb_cMi (va_runV (As := [.int (xs (i + 1))]) (rest := []) hCF (kX4_misses l D adM (hM I) 0 (xs (i + 1)) (bv, hM J) hm) (cwV 1 hts gL_law_X4_misses rfl rfl rfl (by decide +kernel) ⟨Nat.le_of_ble_eq_true rfl, Nat.le_of_ble_eq_true rfl⟩) (p_preV hK hQ1.1.2.1.self (hM_ob I) rfl) rfl rfl hl.1 rfl (lv_room (Nat.le_of_ble_eq_true rfl)) dL_law_1044 ⟨by show cells + 1 + 0 ≤ 601024; omega, by show slots + 6 + 0 ≤ 7293033; omega⟩) hQ1 hS fun H2 locs2 hQ2 hS2 => ?_
    rw [← hJ] at hQ2
    refine lv_istore (lv' := (6, .int bv) :: (5, .int (J 0 0)) :: lb_l b (adC 0) (adM 0) (adO 0) (nI i)) hx hb dL_law_1047 hl (by decide) rfl (fun ls hl => ?_)
    exact lb_tail S (by show cells + 1 ≤ 601024; omega) (by show slots + 6 ≤ 7293033; omega) hR1 hQ2 ⟨rfl, rfl, rfl⟩ hS2 hl rfl hf1 dL_law_1049 dL_law_1050 dL_law_1053 dL_law_1055 dL_law_1060 dL_law_1062 dL_law_1065 dL_law_1066 dL_law_1067 dL_law_1068 dL_law_1070 dL_law_1071 dL_law_1072 dL_law_1077 (by decide) K (by omega) (by omega)
  have hE := lb_E S hS
  have hca := S.2.2.2.2.1
  rcases hcr with ⟨h0, hq⟩ | ⟨h0, hq⟩
  · refine lb_cR (vx_runSW (As := [.ref (adC 0), .int (xs (i + 1)), .ref (adO 0)]) (rest := []) hCF (wL_misses l S.2.1 D adC adO (lb_B s) H.size (hC I E P n) f (xs (i + 1)) () (.inr bv) hq hC_ob (fun E9 h9 => by cases h9)) (vx_cwSW 3 hts gL_law_L_misses rfl rfl rfl (by decide +kernel) ⟨Nat.le_of_ble_eq_true rfl, Nat.le_of_ble_eq_true rfl⟩) (lb_pP hK hQ.1.1.tt hE rfl hQ.1.2.2.tt hca) rfl rfl hl.1 rfl (lv_room (Nat.le_of_ble_eq_true rfl)) dL_law_1032 ⟨by show cells + 1 ≤ 601024; omega, by show slots + 6 ≤ 7293033; omega⟩) hQ hS fun H1 locs1 hQ1 hS1 => ?_
    have k := go (w_f f (.inr bv)) H1 locs1 (fun _ => (if_pos rfl : vp_updL f 0 bv.toInt64 0 = bv.toInt64)) hQ1 hS1
    rw [h0] at k
    exact k
  · refine lb_cR (vx_runSW (As := [.ref (adC 0), .int (xs (i + 1)), .ref (adO 0)]) (rest := []) hCF (wL_misses l S.2.1 D adC adO (lb_B s) H.size (hC I E P n) f (xs (i + 1)) () (.inl xIO) hq hC_ob (fun E9 h9 => by cases h9; rfl)) (vx_cwSW 3 hts gL_law_L_misses rfl rfl rfl (by decide +kernel) ⟨Nat.le_of_ble_eq_true rfl, Nat.le_of_ble_eq_true rfl⟩) (lb_pP hK hQ.1.1.tt hE rfl hQ.1.2.2.tt hca) rfl rfl hl.1 rfl (lv_room (Nat.le_of_ble_eq_true rfl)) dL_law_1032 ⟨by show cells + 1 ≤ 601024; omega, by show slots + 6 ≤ 7293033; omega⟩) hQ hS fun H1 locs1 hQ1 hS1 => ?_
    have k := go f H1 locs1 (fun h => absurd (h0.symm.trans h) (by decide)) hQ1 hS1
    rw [h0] at k
    exact k
set_option maxHeartbeats 4000000 in
set_option maxRecDepth 100000 in
theorem lb_arm_deadline {p : Program} {l : Launch} {e : Env} {s : State} {m : MethodId} {below : List Frame} {meth : Method} {c : Code} {H : Heap} {locs : List Loc} {cells slots b L x mo o i : Nat} {ls : Array Slot} {D : va_G} {xs : Nat → Int32} (S : lb_S p l s m meth c D b L xs) (hc : cells + 3 ≤ 601024) (hs : slots + 25 ≤ 7293033) (hI : lb_I D s x mo o H) (hS : va_S (lb_B s) s.heap H locs) (hl : lv_has ls 7 (lb_l b x mo o (nI i))) (hi : i + 8 ≤ L)
    (K : lb_K p l e s m below meth c D b x mo o (cells + 3) (slots + 25) i) : W p l e room_1 s m #[Value.ref b] below meth c H locs cells slots (lw_Z below #[Value.ref b] s) (F0 m 1080 ls []) := by
  obtain ⟨I, E, P, Ls, n, adC, adM, adO, f, hR, ⟨rfl, rfl, rfl⟩, hQ⟩ := hI
  have hCF := S.1
  have hK := S.2.2.1
  have hx := hCF.1
  have hb := hCF.2.1
  have hts := hCF.2.2.2.2
  refine lv_aload_n hx hb dL_law_1080 rfl (lv_at hl 1 rfl) ?_
  refine lb_rd (j := 1) S hS (lv_at hl 0 rfl) (lv_at hl 4 rfl) hi (by decide) (by decide) dL_law_1081 dL_law_1082 dL_law_1084 dL_law_1085 dL_law_1086 ?_
  refine lv_aload_n hx hb dL_law_1087 rfl (lv_at hl 3 rfl) ?_
  have X := X_deadline hR (xs (i + 1))
  obtain ⟨bv, J, hm, hJ, hR1, hcr⟩ := X
  have go : ∀ (f1 : Nat → Int64) (H1 : Heap) (locs1 : List Loc), (J 0 0 = 0 → f1 0 = bv.toInt64) → lb_Q D s adC adM adO (hC I E P n) I f1 H1 → va_S (lb_B s) s.heap H1 locs1 → W p l e room_1 s m #[Value.ref b] below meth c H1 locs1 (cells + 1) (slots + 6) (lw_Z below #[Value.ref b] s) (F0 m 1091 ls [.int (J 0 0)]) := by
    intro f1 H1 locs1 hf1 hQ1 hS1
    replace hS := hS1
    refine lv_istore (lv' := (5, .int (J 0 0)) :: lb_l b (adC 0) (adM 0) (adO 0) (nI i)) hx hb dL_law_1091 hl (by decide) rfl (fun ls hl => ?_)
    refine lv_aload_n hx hb dL_law_1093 rfl (lv_at hl 3 rfl) ?_
    refine lb_rd (j := 1) S hS (lv_at hl 1 rfl) (lv_at hl 5 rfl) hi (by decide) (by decide) dL_law_1094 dL_law_1095 dL_law_1097 dL_law_1098 dL_law_1099 ?_
    refine lb_cMi (va_runV (As := [.int (xs (i + 1))]) (rest := []) hCF (kX4_deadline l D adM (hM I) 0 (xs (i + 1)) (bv, hM J) hm) (cwV 1 hts gL_law_X4_deadline rfl rfl rfl (by decide +kernel) ⟨Nat.le_of_ble_eq_true rfl, Nat.le_of_ble_eq_true rfl⟩) (p_preV hK hQ1.1.2.1.self (hM_ob I) rfl) rfl rfl hl.1 rfl (lv_room (Nat.le_of_ble_eq_true rfl)) dL_law_1100 ⟨by show cells + 1 + 0 ≤ 601024; omega, by show slots + 6 + 0 ≤ 7293033; omega⟩) hQ1 hS fun H2 locs2 hQ2 hS2 => ?_
    rw [← hJ] at hQ2
    refine lv_istore (lv' := (6, .int bv) :: (5, .int (J 0 0)) :: lb_l b (adC 0) (adM 0) (adO 0) (nI i)) hx hb dL_law_1103 hl (by decide) rfl (fun ls hl => ?_)
    exact lb_tail S (by show cells + 1 ≤ 601024; omega) (by show slots + 6 ≤ 7293033; omega) hR1 hQ2 ⟨rfl, rfl, rfl⟩ hS2 hl rfl hf1 dL_law_1105 dL_law_1106 dL_law_1109 dL_law_1111 dL_law_1116 dL_law_1118 dL_law_1121 dL_law_1122 dL_law_1123 dL_law_1124 dL_law_1126 dL_law_1127 dL_law_1128 dL_law_1133 (by decide) K (by omega) (by omega)
  have hE := lb_E S hS
  have hca := S.2.2.2.2.1
  rcases hcr with ⟨h0, hq⟩ | ⟨h0, hq⟩
  · refine lb_cR (vx_runSW (As := [.ref (adC 0), .int (xs (i + 1)), .ref (adO 0)]) (rest := []) hCF (wL_deadline l S.2.1 D adC adO (lb_B s) H.size (hC I E P n) f (xs (i + 1)) () (.inr bv) hq hC_ob (fun E9 h9 => by cases h9)) (vx_cwSW 3 hts gL_law_L_deadline rfl rfl rfl (by decide +kernel) ⟨Nat.le_of_ble_eq_true rfl, Nat.le_of_ble_eq_true rfl⟩) (lb_pP hK hQ.1.1.tt hE rfl hQ.1.2.2.tt hca) rfl rfl hl.1 rfl (lv_room (Nat.le_of_ble_eq_true rfl)) dL_law_1088 ⟨by show cells + 1 ≤ 601024; omega, by show slots + 6 ≤ 7293033; omega⟩) hQ hS fun H1 locs1 hQ1 hS1 => ?_
    have k := go (w_f f (.inr bv)) H1 locs1 (fun _ => (if_pos rfl : vp_updL f 0 bv.toInt64 0 = bv.toInt64)) hQ1 hS1
    rw [h0] at k
    exact k
  · refine lb_cR (vx_runSW (As := [.ref (adC 0), .int (xs (i + 1)), .ref (adO 0)]) (rest := []) hCF (wL_deadline l S.2.1 D adC adO (lb_B s) H.size (hC I E P n) f (xs (i + 1)) () (.inl xIO) hq hC_ob (fun E9 h9 => by cases h9; rfl)) (vx_cwSW 3 hts gL_law_L_deadline rfl rfl rfl (by decide +kernel) ⟨Nat.le_of_ble_eq_true rfl, Nat.le_of_ble_eq_true rfl⟩) (lb_pP hK hQ.1.1.tt hE rfl hQ.1.2.2.tt hca) rfl rfl hl.1 rfl (lv_room (Nat.le_of_ble_eq_true rfl)) dL_law_1088 ⟨by show cells + 1 ≤ 601024; omega, by show slots + 6 ≤ 7293033; omega⟩) hQ hS fun H1 locs1 hQ1 hS1 => ?_
    have k := go f H1 locs1 (fun h => absurd (h0.symm.trans h) (by decide)) hQ1 hS1
    rw [h0] at k
    exact k
set_option maxHeartbeats 4000000 in
set_option maxRecDepth 100000 in
theorem lb_arm_at {p : Program} {l : Launch} {e : Env} {s : State} {m : MethodId} {below : List Frame} {meth : Method} {c : Code} {H : Heap} {locs : List Loc} {cells slots b L x mo o i : Nat} {ls : Array Slot} {D : va_G} {xs : Nat → Int32} (S : lb_S p l s m meth c D b L xs) (hc : cells + 3 ≤ 601024) (hs : slots + 25 ≤ 7293033) (hI : lb_I D s x mo o H) (hS : va_S (lb_B s) s.heap H locs) (hl : lv_has ls 7 (lb_l b x mo o (nI i))) (hi : i + 8 ≤ L)
    (K : lb_K p l e s m below meth c D b x mo o (cells + 3) (slots + 25) i) : W p l e room_1 s m #[Value.ref b] below meth c H locs cells slots (lw_Z below #[Value.ref b] s) (F0 m 669 ls []) := by
  obtain ⟨I, E, P, Ls, n, adC, adM, adO, f, hR, ⟨rfl, rfl, rfl⟩, hQ⟩ := hI
  have hCF := S.1
  have hK := S.2.2.1
  have hx := hCF.1
  have hb := hCF.2.1
  have hts := hCF.2.2.2.2
  refine lv_aload_n hx hb dL_law_669 rfl (lv_at hl 1 rfl) ?_
  refine lb_rd (j := 1) S hS (lv_at hl 0 rfl) (lv_at hl 4 rfl) hi (by decide) (by decide) dL_law_670 dL_law_671 dL_law_673 dL_law_674 dL_law_675 ?_
  refine lb_rd (j := 2) S hS (lv_at hl 0 rfl) (lv_at hl 4 rfl) hi (by decide) (by decide) dL_law_676 dL_law_677 dL_law_679 dL_law_680 dL_law_681 ?_
  refine lv_aload_n hx hb dL_law_682 rfl (lv_at hl 3 rfl) ?_
  have X := X_at hR (xs (i + 1)) (xs (i + 2))
  obtain ⟨bv, J, hm, hJ, hR1, hcr⟩ := X
  have go : ∀ (f1 : Nat → Int64) (H1 : Heap) (locs1 : List Loc), (J 0 0 = 0 → f1 0 = bv.toInt64) → lb_Q D s adC adM adO (hC I E P n) I f1 H1 → va_S (lb_B s) s.heap H1 locs1 → W p l e room_1 s m #[Value.ref b] below meth c H1 locs1 (cells + 1) (slots + 6) (lw_Z below #[Value.ref b] s) (F0 m 686 ls [.int (J 0 0)]) := by
    intro f1 H1 locs1 hf1 hQ1 hS1
    replace hS := hS1
    refine lv_istore (lv' := (5, .int (J 0 0)) :: lb_l b (adC 0) (adM 0) (adO 0) (nI i)) hx hb dL_law_686 hl (by decide) rfl (fun ls hl => ?_)
    refine lv_aload_n hx hb dL_law_688 rfl (lv_at hl 3 rfl) ?_
    refine lb_rd (j := 1) S hS (lv_at hl 1 rfl) (lv_at hl 5 rfl) hi (by decide) (by decide) dL_law_689 dL_law_690 dL_law_692 dL_law_693 dL_law_694 ?_
    refine lb_rd (j := 2) S hS (lv_at hl 1 rfl) (lv_at hl 5 rfl) hi (by decide) (by decide) dL_law_695 dL_law_696 dL_law_698 dL_law_699 dL_law_700 ?_
    refine lb_cMi (va_runV (As := [.int (xs (i + 1)), .int (xs (i + 2))]) (rest := []) hCF (kX4_at l D adM (hM I) 0 (xs (i + 1)) (xs (i + 2)) (bv, hM J) hm) (cwV 2 hts gL_law_X4_at rfl rfl rfl (by decide +kernel) ⟨Nat.le_of_ble_eq_true rfl, Nat.le_of_ble_eq_true rfl⟩) (p_preV hK hQ1.1.2.1.self (hM_ob I) rfl) rfl rfl hl.1 rfl (lv_room (Nat.le_of_ble_eq_true rfl)) dL_law_701 ⟨by show cells + 1 + 0 ≤ 601024; omega, by show slots + 6 + 0 ≤ 7293033; omega⟩) hQ1 hS fun H2 locs2 hQ2 hS2 => ?_
    rw [← hJ] at hQ2
    refine lv_istore (lv' := (6, .int bv) :: (5, .int (J 0 0)) :: lb_l b (adC 0) (adM 0) (adO 0) (nI i)) hx hb dL_law_704 hl (by decide) rfl (fun ls hl => ?_)
    exact lb_tail S (by show cells + 1 ≤ 601024; omega) (by show slots + 6 ≤ 7293033; omega) hR1 hQ2 ⟨rfl, rfl, rfl⟩ hS2 hl rfl hf1 dL_law_706 dL_law_707 dL_law_710 dL_law_712 dL_law_717 dL_law_719 dL_law_722 dL_law_723 dL_law_724 dL_law_725 dL_law_727 dL_law_728 dL_law_729 dL_law_734 (by decide) K (by omega) (by omega)
  have hE := lb_E S hS
  have hca := S.2.2.2.2.1
  rcases hcr with ⟨h0, hq⟩ | ⟨h0, hq⟩
  · refine lb_cR (vx_runSW (As := [.ref (adC 0), .int (xs (i + 1)), .int (xs (i + 2)), .ref (adO 0)]) (rest := []) hCF (wL_at l S.2.1 D adC adO (lb_B s) H.size (hC I E P n) f (xs (i + 1)) (xs (i + 2)) () (.inr bv) hq hC_ob (fun E9 h9 => by cases h9)) (vx_cwSW 4 hts gL_law_L_at rfl rfl rfl (by decide +kernel) ⟨Nat.le_of_ble_eq_true rfl, Nat.le_of_ble_eq_true rfl⟩) (lb_pP hK hQ.1.1.tt hE rfl hQ.1.2.2.tt hca) rfl rfl hl.1 rfl (lv_room (Nat.le_of_ble_eq_true rfl)) dL_law_683 ⟨by show cells + 1 ≤ 601024; omega, by show slots + 6 ≤ 7293033; omega⟩) hQ hS fun H1 locs1 hQ1 hS1 => ?_
    have k := go (w_f f (.inr bv)) H1 locs1 (fun _ => (if_pos rfl : vp_updL f 0 bv.toInt64 0 = bv.toInt64)) hQ1 hS1
    rw [h0] at k
    exact k
  · refine lb_cR (vx_runSW (As := [.ref (adC 0), .int (xs (i + 1)), .int (xs (i + 2)), .ref (adO 0)]) (rest := []) hCF (wL_at l S.2.1 D adC adO (lb_B s) H.size (hC I E P n) f (xs (i + 1)) (xs (i + 2)) () (.inl xIO) hq hC_ob (fun E9 h9 => by cases h9; rfl)) (vx_cwSW 4 hts gL_law_L_at rfl rfl rfl (by decide +kernel) ⟨Nat.le_of_ble_eq_true rfl, Nat.le_of_ble_eq_true rfl⟩) (lb_pP hK hQ.1.1.tt hE rfl hQ.1.2.2.tt hca) rfl rfl hl.1 rfl (lv_room (Nat.le_of_ble_eq_true rfl)) dL_law_683 ⟨by show cells + 1 ≤ 601024; omega, by show slots + 6 ≤ 7293033; omega⟩) hQ hS fun H1 locs1 hQ1 hS1 => ?_
    have k := go f H1 locs1 (fun h => absurd (h0.symm.trans h) (by decide)) hQ1 hS1
    rw [h0] at k
    exact k
