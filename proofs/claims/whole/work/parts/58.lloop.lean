/-! THE LAW'S BODY: its loop -/
theorem lb_end {L j : Nat} (hL : L ≤ 4096) (hj : 8 * j ≤ L) (h : ¬ nI L - 8 < nI (8 * j)) : 8 * j + 8 ≤ L := by
  refine Nat.not_lt.mp fun h2 => h ?_
  by_cases h8 : 8 ≤ L
  · obtain ⟨k, rfl⟩ : ∃ k, L = k + 8 := ⟨L - 8, by omega⟩
    have e : nI (k + 8) - 8 = nI k := by
      rw [← nI_add k 8, show nI 8 = (8 : Int32) by decide]
      generalize nI k = y
      grind
    rw [e]
    exact nI_lt (by omega) (by omega)
  · have hj0 : j = 0 := by omega
    subst hj0
    have : L = 0 ∨ L = 1 ∨ L = 2 ∨ L = 3 ∨ L = 4 ∨ L = 5 ∨ L = 6 ∨ L = 7 := by omega
    rcases this with rfl | rfl | rfl | rfl | rfl | rfl | rfl | rfl <;> decide
set_option maxHeartbeats 4000000 in
set_option maxRecDepth 100000 in
theorem lb_loop {p : Program} {l : Launch} {e : Env} {s : State} {m : MethodId} {below : List Frame} {meth : Method} {c : Code} {b L x mo o : Nat} {D : va_G} {xs : Nat → Int32} (S : lb_S p l s m meth c D b L xs) :
    ∀ (n j : Nat) (H : Heap) (locs : List Loc) (ls : Array Slot), 8 * j ≤ L → L + 1 ≤ 8 * j + 8 * n → lb_I D s x mo o H → va_S (lb_B s) s.heap H locs → lv_has ls 7 (lb_l b x mo o (nI (8 * j))) → W p l e room_1 s m #[Value.ref b] below meth c H locs (28 + 3 * j) (899 + 25 * j) (lw_Z below #[Value.ref b] s) (F0 m 23 ls []) := by
  have hC := S.1
  have hx := hC.1
  have hb := hC.2.1
  obtain ⟨-, -, -, -, -, hX, hbl, ⟨hr, hlocks⟩, hL⟩ := id S
  intro n
  induction n with
  | zero => intro j H locs ls h1 h2; exact absurd h2 (by omega)
  | succ n ih =>
    intro j H locs ls h1 h2 hI hS hl
    refine lv_iload hx hb dL_law_23 (lv_at hl 4 rfl) ?_
    refine lv_aload_n hx hb dL_law_25 rfl (lv_at hl 0 rfl) ?_
    refine va_slen hx hb hX hbl (lb_nB hbl) hS dL_law_26 ?_
    refine lv_bipush (v := 8) hx hb dL_law_27 (by decide) ?_
    refine lv_isub hx hb dL_law_29 ?_
    refine lv_icmp_gt (tgt := 1142) hx hb dL_law_30 (by decide) (fun _ => ?_) (fun h9 => ?_)
    · refine lv_iconst (v := 1) hx hb dL_law_1142 (by decide) ?_
      refine va_forget (fun q hq => hS.2.2 q hq) ?_
      refine W.widen (k := 601024) (n := 7293033) (by omega) (by omega) ?_
      exact lw_ret hx hb hr hlocks dL_law_1143
    · have hi : 8 * j + 8 ≤ L := lb_end hL h1 h9
      have K : lb_K p l e s m below meth c D b x mo o (28 + 3 * j + 3) (899 + 25 * j + 25) (8 * j) := by
        intro H locs ls hI hS hl
        refine lv_iinc (v := nI (8 * (j + 1))) (lv' := [(4, .int (nI (8 * (j + 1)))), (0, .ref b), (1, .ref x), (2, .ref mo), (3, .ref o)]) hx hb dL_law_1136 hl (k := 4) rfl (by rw [show Int32.ofInt 8 = nI 8 by decide, nI_add]; rfl) (by decide) rfl (fun ls hl => ?_)
        refine lv_goto (tgt := 23) hx hb dL_law_1139 (by decide) ?_
        exact W.widen (by omega) (by omega) (ih (j + 1) H locs ls (by omega) (by omega) hI hS (lv_sub hl [1, 2, 3, 4, 0] rfl))
      have hc : 28 + 3 * j + 3 ≤ 601024 := by omega
      have hs : 899 + 25 * j + 25 ≤ 7293033 := by omega
      refine lv_aload_n hx hb dL_law_33 rfl (lv_at hl 0 rfl) ?_
      refine lv_iload hx hb dL_law_34 (lv_at hl 4 rfl) ?_
      refine va_sld hx hb hX hbl (lb_nB hbl) hS (vp_in_nI (by omega) (by omega)) dL_law_36 ?_
      refine lv_bipush (v := 31) hx hb dL_law_37 (by decide) ?_
      refine lv_iand hx hb dL_law_39 ?_
      refine lv_topi fun y _ => ?_
      by_cases hy : y.toInt < 0 ∨ 18 < y.toInt
      · refine lv_tableOut (tgt := 1136) hx hb dL_law_40 hy (by decide) ?_
        exact W.widen (by omega) (by omega) (K H locs ls hI hS hl)
      · have hy2 : ¬ y.toInt < 0 ∧ ¬ 18 < y.toInt := ⟨fun h => hy (Or.inl h), fun h => hy (Or.inr h)⟩
        have h19 : y.toInt = 0 ∨ y.toInt = 1 ∨ y.toInt = 2 ∨ y.toInt = 3 ∨ y.toInt = 4 ∨ y.toInt = 5 ∨ y.toInt = 6 ∨ y.toInt = 7 ∨ y.toInt = 8 ∨ y.toInt = 9 ∨ y.toInt = 10 ∨ y.toInt = 11 ∨ y.toInt = 12 ∨ y.toInt = 13 ∨ y.toInt = 14 ∨ y.toInt = 15 ∨ y.toInt = 16 ∨ y.toInt = 17 ∨ y.toInt = 18 := by omega
        rcases h19 with hk | hk | hk | hk | hk | hk | hk | hk | hk | hk | hk | hk | hk | hk | hk | hk | hk | hk | hk
        · exact lv_tableIn (tgt := 132) hx hb dL_law_40 hy2.1 hy2.2 (by rw [hk]; rfl) (by decide) (lb_arm_open S hc hs hI hS hl hi K)
        · exact lv_tableIn (tgt := 280) hx hb dL_law_40 hy2.1 hy2.2 (by rw [hk]; rfl) (by decide) (lb_arm_close S hc hs hI hS hl hi K)
        · exact lv_tableIn (tgt := 336) hx hb dL_law_40 hy2.1 hy2.2 (by rw [hk]; rfl) (by decide) (lb_arm_move S hc hs hI hS hl hi K)
        · exact lv_tableIn (tgt := 396) hx hb dL_law_40 hy2.1 hy2.2 (by rw [hk]; rfl) (by decide) (lb_arm_lay S hc hs hI hS hl hi K)
        · exact lv_tableIn (tgt := 480) hx hb dL_law_40 hy2.1 hy2.2 (by rw [hk]; rfl) (by decide) (lb_arm_advance S hc hs hI hS hl hi K)
        · exact lv_tableIn (tgt := 536) hx hb dL_law_40 hy2.1 hy2.2 (by rw [hk]; rfl) (by decide) (lb_arm_input S hc hs hI hS hl hi K)
        · exact lv_tableIn (tgt := 604) hx hb dL_law_40 hy2.1 hy2.2 (by rw [hk]; rfl) (by decide) (lb_arm_show S hc hs hI hS hl hi K)
        · exact lv_tableIn (tgt := 617) hx hb dL_law_40 hy2.1 hy2.2 (by rw [hk]; rfl) (by decide) (lb_arm_tick S hc hs hI hS hl hi K)
        · exact lv_tableIn (tgt := 630) hx hb dL_law_40 hy2.1 hy2.2 (by rw [hk]; rfl) (by decide) (lb_arm_windows S hc hs hI hS hl hi K)
        · exact lv_tableIn (tgt := 643) hx hb dL_law_40 hy2.1 hy2.2 (by rw [hk]; rfl) (by decide) (lb_arm_free S hc hs hI hS hl hi K)
        · exact lv_tableIn (tgt := 656) hx hb dL_law_40 hy2.1 hy2.2 (by rw [hk]; rfl) (by decide) (lb_arm_damage S hc hs hI hS hl hi K)
        · exact lv_tableIn (tgt := 669) hx hb dL_law_40 hy2.1 hy2.2 (by rw [hk]; rfl) (by decide) (lb_arm_at S hc hs hI hS hl hi K)
        · exact lv_tableIn (tgt := 737) hx hb dL_law_40 hy2.1 hy2.2 (by rw [hk]; rfl) (by decide) (lb_arm_placeOf S hc hs hI hS hl hi K)
        · exact lv_tableIn (tgt := 793) hx hb dL_law_40 hy2.1 hy2.2 (by rw [hk]; rfl) (by decide) (lb_arm_isSeen S hc hs hI hS hl hi K)
        · exact lv_tableIn (tgt := 856) hx hb dL_law_40 hy2.1 hy2.2 (by rw [hk]; rfl) (by decide) (lb_arm_pagesOf S hc hs hI hS hl hi K)
        · exact lv_tableIn (tgt := 912) hx hb dL_law_40 hy2.1 hy2.2 (by rw [hk]; rfl) (by decide) (lb_arm_picture S hc hs hI hS hl hi K)
        · exact lv_tableIn (tgt := 968) hx hb dL_law_40 hy2.1 hy2.2 (by rw [hk]; rfl) (by decide) (lb_arm_pace S hc hs hI hS hl hi K)
        · exact lv_tableIn (tgt := 1024) hx hb dL_law_40 hy2.1 hy2.2 (by rw [hk]; rfl) (by decide) (lb_arm_misses S hc hs hI hS hl hi K)
        · exact lv_tableIn (tgt := 1080) hx hb dL_law_40 hy2.1 hy2.2 (by rw [hk]; rfl) (by decide) (lb_arm_deadline S hc hs hI hS hl hi K)
