/-! THE LAW: what stands behind its loop -/
abbrev lw_l (b x1 x2 y : Nat) : List (Nat × Value) := [(0, .ref b), (1, .ref x1), (2, .ref x2), (3, .ref y)]
set_option maxHeartbeats 8000000 in
set_option maxRecDepth 100000 in
theorem lw_fin {p : Program} {l : Launch} {e : Env} {s : State} {m : MethodId} {below : List Frame} {meth : Method} {c : Code} {H : Heap} {locs : List Loc} {cells slots b L x1 x2 y : Nat} {ls : Array Slot} {D : va_G} {xs : Nat → Int32} {g : Sg} (S : LS2 p l s m meth c D b L xs) (hcc : cells + 160000 ≤ room_1.cells) (hss : slots + 960000 ≤ room_1.slots) (hW : LW D s x1 x2 y g g (nI g.2.2) H) (hI : INV g) (hS : va_S (lb_B s) s.heap H locs) (hls : lv_has ls 9 ((5, .int 1) :: lw_l b x1 x2 y)) :
    W p l e room_1 s m #[Value.ref b] below meth c H locs cells slots (lw_Z below #[Value.ref b] s) (F0 m 229 ls []) := by
  obtain ⟨hC, hl9, hK, hE, hca, hX, hbl, ⟨hr, hlocks⟩, hL⟩ := S
  have hx := hC.1
  have hb := hC.2.1
  have hts := hC.2.2.2.2
  have h40 := hI.n40
  have hEn : ∀ (H1 : Heap) (locs1 : List Loc), va_S (lb_B s) s.heap H1 locs1 → p_E p_no s H1 := fun H1 locs1 h1 => (hE.kept h1.2.1).narrow fun _ h9 => h9.elim
  have e0 : ¬ (1 : Int32) = 0 := by decide
  refine lv_iload hx hb dL_law_229 (lv_at hls 0 rfl) ?_
  refine lv_if_eq (tgt := 288) hx hb dL_law_231 (by decide) (fun h => absurd h e0) (fun _ => ?_)
  refine lv_aload_n hx hb dL_law_234 rfl (lv_at hls 2 rfl) ?_
  refine lv_aload_n hx hb dL_law_235 rfl (lv_at hls 3 rfl) ?_
  refine lv_aload_n hx hb dL_law_236 rfl (lv_at hls 4 rfl) ?_
  refine lv_iconst (v := nI 0) hx hb dL_law_237 (by decide) ?_
  refine lw_rd hW hS (va_runS (As := [.ref x1, .ref x2, .ref y, .int (nI 0)]) (rest := []) hC (kL_alike l hl9 D x1 x2 y H.size g (nI g.2.2) (nI 0) 1 (al_ok g h40 (by decide))) (cwS 4 hts gL_law_L_alike rfl rfl rfl (by decide +kernel) ⟨Nat.le_of_ble_eq_true rfl, Nat.le_of_ble_eq_true rfl⟩) (b_preN2 hK (lw_b1 hW).1 (lw_b1 hW).2.1 (hEn H locs hS) hca (lw_b1 hW).2.2) rfl rfl hls.1 rfl (lv_room (Nat.le_of_ble_eq_true rfl)) dL_law_238 ⟨by omega, by omega⟩) fun H1 locs1 hW hS => ?_
  refine lv_if_eq (tgt := 288) hx hb dL_law_241 (by decide) (fun h => absurd h e0) (fun _ => ?_)
  refine lv_aload_n hx hb dL_law_244 rfl (lv_at hls 2 rfl) ?_
  refine lv_aload_n hx hb dL_law_245 rfl (lv_at hls 4 rfl) ?_
  refine lw_rd hW hS (va_runS (As := [.ref x1, .ref y]) (rest := []) hC (kL_holds l hl9 D x1 y H1.size g (nI g.2.2) 1 (ho_ok hI)) (cwS 2 hts gL_law_L_holds rfl rfl rfl (by decide +kernel) ⟨Nat.le_of_ble_eq_true rfl, Nat.le_of_ble_eq_true rfl⟩) (b_preN hK (lw_b1 hW).1 (hEn H1 locs1 hS) hca (lw_b1 hW).2.2) rfl rfl hls.1 rfl (lv_room (Nat.le_of_ble_eq_true rfl)) dL_law_246 ⟨by omega, by omega⟩) fun H2 locs2 hW hS => ?_
  refine lv_if_eq (tgt := 288) hx hb dL_law_249 (by decide) (fun h => absurd h e0) (fun _ => ?_)
  refine lv_aload_n hx hb dL_law_252 rfl (lv_at hls 2 rfl) ?_
  refine lv_aload_n hx hb dL_law_253 rfl (lv_at hls 4 rfl) ?_
  refine lv_aload_n hx hb dL_law_254 rfl (lv_at hls 1 rfl) ?_
  refine lv_iconst (v := nI 0) hx hb dL_law_255 (by decide) ?_
  refine lw_dr hS (va_runS (As := [.ref b, .int (nI 0)]) (rest := [.ref y, .ref x1]) hC (kL_drawn l b L xs 0 (by decide) (by omega)) (cwS 2 hts gL_law_L_drawn rfl rfl rfl (by decide +kernel) ⟨Nat.le_of_ble_eq_true rfl, Nat.le_of_ble_eq_true rfl⟩) (d_pre (hX.kept (hS.2.1 b hbl (Nat.not_le.mpr hbl))) (Nat.lt_of_lt_of_le hbl hS.1)) rfl rfl hls.1 rfl (lv_room (Nat.le_of_ble_eq_true rfl)) dL_law_256 ⟨by omega, by omega⟩) fun z H3 locs3 hz hz1 hk1 hS => ?_
  replace hW := hW.kept hz1 hk1
  refine lv_bipush (v := 25) hx hb dL_law_259 (by decide) ?_
  refine lv_idiv hx hb dL_law_261 (by decide) ?_
  rw [show nI z / 25 = nI (z / 25) from pk_div (d := 25) (by omega) (by decide) (by decide)]
  obtain ⟨g', hg, hI', hn'⟩ := sw_ok hI (m := z / 25) (by omega)
  refine lw_mv hE hW hS (fun A hA hAy hb1 hEA hN => va_runS (As := [.ref x1, .ref y, .int (nI (z / 25))]) (rest := []) hC (kL_shows l hl9 D x1 y H3.size A hA hAy g (nI g.2.2) (nI (z / 25)) (1, g') hg) (cwS 3 hts gL_law_L_shows rfl rfl rfl (by decide +kernel) ⟨Nat.le_of_ble_eq_true rfl, Nat.le_of_ble_eq_true rfl⟩) (b_preN hK hb1 hEA hca hN) rfl rfl hls.1 rfl (lv_room (Nat.le_of_ble_eq_true rfl)) dL_law_262 ⟨by omega, by omega⟩) fun H4 locs4 hW hS => ?_
  refine lv_if_eq (tgt := 288) hx hb dL_law_265 (by decide) (fun h => absurd h e0) (fun _ => ?_)
  refine lv_aload_n hx hb dL_law_268 rfl (lv_at hls 2 rfl) ?_
  refine lv_aload_n hx hb dL_law_269 rfl (lv_at hls 4 rfl) ?_
  have hh := ho_ok hI'
  rw [hn'] at hh
  refine lw_rd hW hS (va_runS (As := [.ref x1, .ref y]) (rest := []) hC (kL_holds l hl9 D x1 y H4.size g' (nI g.2.2) 1 hh) (cwS 2 hts gL_law_L_holds rfl rfl rfl (by decide +kernel) ⟨Nat.le_of_ble_eq_true rfl, Nat.le_of_ble_eq_true rfl⟩) (b_preN hK (lw_b1 hW).1 (hEn H4 locs4 hS) hca (lw_b1 hW).2.2) rfl rfl hls.1 rfl (lv_room (Nat.le_of_ble_eq_true rfl)) dL_law_270 ⟨by omega, by omega⟩) fun H5 locs5 hW hS => ?_
  refine lv_if_eq (tgt := 288) hx hb dL_law_273 (by decide) (fun h => absurd h e0) (fun _ => ?_)
  refine lv_aload_n hx hb dL_law_276 rfl (lv_at hls 3 rfl) ?_
  refine lv_aload_n hx hb dL_law_277 rfl (lv_at hls 4 rfl) ?_
  obtain ⟨g9, hg9⟩ := en_ok hI
  refine lw_mv hE hW.swap hS (fun A hA hAy hb1 hEA hN => va_runS (As := [.ref x2, .ref y]) (rest := []) hC (kL_ends l hl9 D x2 y H5.size A hA hAy g (nI g.2.2) (1, g9) hg9) (cwS 2 hts gL_law_L_ends rfl rfl rfl (by decide +kernel) ⟨Nat.le_of_ble_eq_true rfl, Nat.le_of_ble_eq_true rfl⟩) (b_preN hK hb1 hEA hca hN) rfl rfl hls.1 rfl (lv_room (Nat.le_of_ble_eq_true rfl)) dL_law_278 ⟨by omega, by omega⟩) fun H6 locs6 hW hS => ?_
  refine lv_if_eq (tgt := 288) hx hb dL_law_281 (by decide) (fun h => absurd h e0) (fun _ => ?_)
  refine lv_iconst (v := 1) hx hb dL_law_284 (by decide) ?_
  refine lv_goto (tgt := 289) hx hb dL_law_285 (by decide) ?_
  refine va_forget (fun q hq => hS.2.2 q hq) ?_
  refine W.widen (k := room_1.cells) (n := room_1.slots) (by omega) (by omega) ?_
  exact lw_ret hx hb hr hlocks dL_law_289
/-! THE LAW: its loop -/
theorem pk_r3 {j : Nat} (h : j < 1000) : nI j - nI j / 3 * 3 = nI (j % 3) := pk_rem (d := 3) (by omega) (by decide) (by decide)
set_option maxHeartbeats 8000000 in
set_option maxRecDepth 100000 in
theorem lw_loop {p : Program} {l : Launch} {e : Env} {s : State} {m : MethodId} {below : List Frame} {meth : Method} {c : Code} {b L x1 x2 y T : Nat} {D : va_G} {xs : Nat → Int32} (S : LS2 p l s m meth c D b L xs) (hT : T ≤ 40) : ∀ (r j cells slots : Nat) (H : Heap) (locs : List Loc) (ls : Array Slot) (g : Sg), j + r = T → cells + r * 4100 + 160000 ≤ room_1.cells → slots + r * 25000 + 960000 ≤ room_1.slots → LW D s x1 x2 y g g (nI g.2.2) H → INV g → g.1 0 1 ≤ nI (40 * j) → va_S (lb_B s) s.heap H locs → lv_has ls 9 ((6, .int (nI j)) :: (5, .int 1) :: (4, .int (nI T)) :: lw_l b x1 x2 y) →
    W p l e room_1 s m #[Value.ref b] below meth c H locs cells slots (lw_Z below #[Value.ref b] s) (F0 m 39 ls []) := by
  obtain ⟨hC, hl9, hK, hE, hca, hX, hbl, ⟨hr, hlocks⟩, hL⟩ := id S
  have hx := hC.1
  have hb := hC.2.1
  have hts := hC.2.2.2.2
  have hEn : ∀ (H1 : Heap) (locs1 : List Loc), va_S (lb_B s) s.heap H1 locs1 → p_E p_no s H1 := fun H1 locs1 h1 => (hE.kept h1.2.1).narrow fun _ h9 => h9.elim
  have e0 : ¬ (1 : Int32) = 0 := by decide
  intro r
  induction r with
  | zero =>
    intro j cells slots H locs ls g hj hcc hss hW hI ht hS hls
    have hjT : j = T := by omega
    subst hjT
    refine lv_iload hx hb dL_law_39 (lv_at hls 0 rfl) ?_
    refine lv_iload hx hb dL_law_41 (lv_at hls 2 rfl) ?_
    refine lv_icmp_ge (tgt := 229) hx hb dL_law_43 (by decide) (fun _ => ?_) (fun h => absurd (Int32.le_refl _) h)
    exact lw_fin S (by omega) (by omega) hW hI hS (lv_sub hls [1, 3, 4, 5, 6] rfl)
  | succ r ih =>
    intro j cells slots H locs ls g hj hcc hss hW hI ht hS hls
    have h40 := hI.n40
    have htk : g.1 0 1 ≤ 90000 := by
      have a1 : nI (40 * j) ≤ 2000 := (nI_leI (a := 40 * j) (b := 2000) (by omega) (by omega)).mpr (by omega)
      generalize nI (40 * j) = u at *; generalize g.1 0 1 = t at *; grind
    refine lv_iload hx hb dL_law_39 (lv_at hls 0 rfl) ?_
    refine lv_iload hx hb dL_law_41 (lv_at hls 2 rfl) ?_
    refine lv_icmp_ge (tgt := 229) hx hb dL_law_43 (by decide) (fun h => absurd ((nI_L (by omega) (by omega)).mp h) (by omega)) (fun _ => ?_)
    refine lv_iload hx hb dL_law_46 (lv_at hls 1 rfl) ?_
    refine lv_if_eq (tgt := 229) hx hb dL_law_48 (by decide) (fun h => absurd h e0) (fun _ => ?_)
    refine lv_aload_n hx hb dL_law_51 rfl (lv_at hls 3 rfl) ?_
    refine lv_iconst (v := nI 1) hx hb dL_law_52 (by decide) ?_
    refine lv_iload hx hb dL_law_53 (lv_at hls 0 rfl) ?_
    refine lv_iadd hx hb dL_law_55 ?_
    rw [nI_add]
    refine lw_dr hS (va_runS (As := [.ref b, .int (nI (1 + j))]) (rest := []) hC (kL_drawn l b L xs (1 + j) (by omega) (by omega)) (cwS 2 hts gL_law_L_drawn rfl rfl rfl (by decide +kernel) ⟨Nat.le_of_ble_eq_true rfl, Nat.le_of_ble_eq_true rfl⟩) (d_pre (hX.kept (hS.2.1 b hbl (Nat.not_le.mpr hbl))) (Nat.lt_of_lt_of_le hbl hS.1)) rfl rfl hls.1 rfl (lv_room (Nat.le_of_ble_eq_true rfl)) dL_law_56 ⟨by omega, by omega⟩) fun z0 H1 locs1 hz0 hz1 hk1 hS => ?_
    replace hW := hW.kept hz1 hk1
    refine lv_istore (lv' := (7, .int (nI z0)) :: (6, .int (nI j)) :: (5, .int 1) :: (4, .int (nI T)) :: lw_l b x1 x2 y) hx hb dL_law_59 hls (by decide) rfl (fun ls hls => ?_)
    have at80 : ∀ z : Nat, z < 2147483648 → W p l e room_1 s m #[Value.ref b] below meth c H1 locs1 cells slots (lw_Z below #[Value.ref b] s) (F0 m 80 ls [.int (nI z)]) := by
      intro z hz
      refine lv_istore (lv' := (7, .int (nI z)) :: (6, .int (nI j)) :: (5, .int 1) :: (4, .int (nI T)) :: lw_l b x1 x2 y) hx hb dL_law_80 hls (by decide) rfl (fun ls hls => ?_)
      obtain ⟨w, hst, ha0, ha1⟩ := ac_ok hI htk (m := z) (by omega)
      have hIw := stp_INV hI hst
      have hnw := stp_n hI hst
      have htw := stp_t hI hst (N := 40 * j) (by omega) ht
      have h40w := hIw.n40
      refine lv_aload_n hx hb dL_law_82 rfl (lv_at hls 5 rfl) ?_
      refine lv_aload_n hx hb dL_law_83 rfl (lv_at hls 7 rfl) ?_
      refine lv_iload hx hb dL_law_84 (lv_at hls 0 rfl) ?_
      refine lv_iconst (v := 0) hx hb dL_law_86 (by decide) ?_
      refine lw_mv hE hW hS (fun A hA hAy hb1 hEA hN => va_runS (As := [.ref x1, .ref y, .int (nI z), .int 0]) (rest := []) hC (kL_act l hl9 D x1 y H1.size A hA hAy g (nI g.2.2) (nI z) 0 w ha0) (cwS 4 hts gL_law_L_act rfl rfl rfl (by decide +kernel) ⟨Nat.le_of_ble_eq_true rfl, Nat.le_of_ble_eq_true rfl⟩) (b_preN hK hb1 hEA hca hN) rfl rfl hls.1 rfl (lv_room (Nat.le_of_ble_eq_true rfl)) dL_law_87 ⟨by omega, by omega⟩) fun H2 locs2 hW hS => ?_
      refine lv_istore (lv' := (8, .int w.1) :: (7, .int (nI z)) :: (6, .int (nI j)) :: (5, .int 1) :: (4, .int (nI T)) :: lw_l b x1 x2 y) hx hb dL_law_90 hls (by decide) rfl (fun ls hls => ?_)
      refine lv_aload_n hx hb dL_law_92 rfl (lv_at hls 7 rfl) ?_
      refine lv_aload_n hx hb dL_law_93 rfl (lv_at hls 8 rfl) ?_
      refine lv_iload hx hb dL_law_94 (lv_at hls 1 rfl) ?_
      refine lv_sipush (v := 9973) hx hb dL_law_96 (by decide) ?_
      refine lv_irem hx hb dL_law_99 (by decide) ?_
      rw [show nI z - nI z / 9973 * 9973 = nI (z % 9973) from pk_rem (d := 9973) (by omega) (by decide) (by decide)]
      refine lw_mv hE hW.swap hS (fun A hA hAy hb1 hEA hN => va_runS (As := [.ref x2, .ref y, .int (nI (z % 9973))]) (rest := []) hC (kL_refuses l hl9 D x2 y H2.size A hA hAy g (nI g.2.2) (nI (z % 9973)) (1, g) (ref_ok hI (by omega))) (cwS 3 hts gL_law_L_refuses rfl rfl rfl (by decide +kernel) ⟨Nat.le_of_ble_eq_true rfl, Nat.le_of_ble_eq_true rfl⟩) (b_preN hK hb1 hEA hca hN) rfl rfl hls.1 rfl (lv_room (Nat.le_of_ble_eq_true rfl)) dL_law_100 ⟨by omega, by omega⟩) fun H3 locs3 hW hS => ?_
      refine lv_if_eq (tgt := 123) hx hb dL_law_103 (by decide) (fun h => absurd h e0) (fun _ => ?_)
      refine lv_aload_n hx hb dL_law_106 rfl (lv_at hls 7 rfl) ?_
      refine lv_aload_n hx hb dL_law_107 rfl (lv_at hls 8 rfl) ?_
      refine lv_iload hx hb dL_law_108 (lv_at hls 1 rfl) ?_
      refine lv_iconst (v := 1) hx hb dL_law_110 (by decide) ?_
      refine lw_mv hE hW hS (fun A hA hAy hb1 hEA hN => va_runS (As := [.ref x2, .ref y, .int (nI z), .int 1]) (rest := []) hC (kL_act l hl9 D x2 y H3.size A hA hAy g (nI g.2.2) (nI z) 1 w ha1) (cwS 4 hts gL_law_L_act rfl rfl rfl (by decide +kernel) ⟨Nat.le_of_ble_eq_true rfl, Nat.le_of_ble_eq_true rfl⟩) (b_preN hK hb1 hEA hca hN) rfl rfl hls.1 rfl (lv_room (Nat.le_of_ble_eq_true rfl)) dL_law_111 ⟨by omega, by omega⟩) fun H4 locs4 hW hS => ?_
      replace hW := hW.swap
      refine lv_iload hx hb dL_law_114 (lv_at hls 0 rfl) ?_
      refine lv_icmp_ne (tgt := 123) hx hb dL_law_116 (by decide) (fun h => absurd rfl h) (fun _ => ?_)
      refine lv_iconst (v := 1) hx hb dL_law_119 (by decide) ?_
      refine lv_goto (tgt := 124) hx hb dL_law_120 (by decide) ?_
      refine lv_istore (lv' := (5, .int 1) :: (8, .int w.1) :: (7, .int (nI z)) :: (6, .int (nI j)) :: (4, .int (nI T)) :: lw_l b x1 x2 y) hx hb dL_law_124 hls (by decide) rfl (fun ls hls => ?_)
      refine lv_aload_n hx hb dL_law_126 rfl (lv_at hls 8 rfl) ?_
      refine lv_iconst (v := 0) hx hb dL_law_127 (by decide) ?_
      refine lv_dup2_11 hx hb dL_law_128 rfl rfl ?_
      refine lw_n0 hx hb (lw_b1 hW).2.2 dL_law_129 ?_
      -- behind the counting
      have at149 : ∀ d : Int32, d = nI (if decide (z % 16 < 4) = true ∧ 0 ≤ w.1 then 1 else 0) → W p l e room_1 s m #[Value.ref b] below meth c H4 locs4 (cells + 50 + 57 + 50) (slots + 300 + 419 + 300) (lw_Z below #[Value.ref b] s) (F0 m 149 ls [.int d, .int (nI g.2.2), .int 0, .ref y]) := by
        intro d hd
        refine lv_iadd hx hb dL_law_149 ?_
        rw [hd, nI_add, ← hnw]
        refine lw_st hx hb hW hS dL_law_150 fun H5 locs5 hW hS => ?_
        refine lv_iload hx hb dL_law_151 (lv_at hls 0 rfl) ?_
        refine lv_if_eq (tgt := 220) hx hb dL_law_153 (by decide) (fun h => absurd h e0) (fun _ => ?_)
        -- the end of a round
        have at216 : ∀ (cells1 slots1 : Nat) (H : Heap) (locs : List Loc), cells1 + r * 4100 + 160000 ≤ room_1.cells → slots1 + r * 25000 + 960000 ≤ room_1.slots → LW D s x1 x2 y w.2 w.2 (nI w.2.2.2) H → va_S (lb_B s) s.heap H locs → W p l e room_1 s m #[Value.ref b] below meth c H locs cells1 slots1 (lw_Z below #[Value.ref b] s) (F0 m 216 ls []) := by
          intro cells1 slots1 H locs hcc hss hW hS
          refine lv_iconst (v := 1) hx hb dL_law_216 (by decide) ?_
          refine lv_goto (tgt := 221) hx hb dL_law_217 (by decide) ?_
          refine lv_istore (lv' := (5, .int 1) :: (8, .int w.1) :: (7, .int (nI z)) :: (6, .int (nI j)) :: (4, .int (nI T)) :: lw_l b x1 x2 y) hx hb dL_law_221 hls (by decide) rfl (fun ls hls => ?_)
          refine lv_iinc (v := nI (j + 1)) (lv' := (6, .int (nI (j + 1))) :: (5, .int 1) :: (8, .int w.1) :: (7, .int (nI z)) :: (4, .int (nI T)) :: lw_l b x1 x2 y) hx hb dL_law_223 hls (k := 3) rfl (by rw [show Int32.ofInt 1 = nI 1 by decide, nI_add]) (by decide) rfl (fun ls hls => ?_)
          refine lv_goto (tgt := 39) hx hb dL_law_226 (by decide) ?_
          exact ih (j + 1) cells1 slots1 H locs ls w.2 (by omega) hcc hss hW hIw (by rw [show 40 * (j + 1) = 40 * j + 40 by omega]; exact htw) hS (lv_sub hls [0, 1, 4, 5, 6, 7, 8] rfl)
        have at198 : ∀ (cells1 slots1 : Nat) (H : Heap) (locs : List Loc), cells1 + 3087 + r * 4100 + 160000 ≤ room_1.cells → slots1 + 18522 + r * 25000 + 960000 ≤ room_1.slots → LW D s x1 x2 y w.2 w.2 (nI w.2.2.2) H → va_S (lb_B s) s.heap H locs → W p l e room_1 s m #[Value.ref b] below meth c H locs cells1 slots1 (lw_Z below #[Value.ref b] s) (F0 m 198 ls []) := by
          intro cells1 slots1 H locs hcc hss hW hS
          refine lv_iload hx hb dL_law_198 (lv_at hls 3 rfl) ?_
          refine lv_bipush (v := 8) hx hb dL_law_200 (by decide) ?_
          refine lv_irem hx hb dL_law_202 (by decide) ?_
          refine lv_bipush (v := 7) hx hb dL_law_203 (by decide) ?_
          refine lv_icmp_lt (tgt := 216) hx hb dL_law_205 (by decide) (fun _ => at216 _ _ _ _ (by omega) (by omega) hW hS) (fun _ => ?_)
          refine lv_aload_n hx hb dL_law_208 rfl (lv_at hls 7 rfl) ?_
          refine lv_aload_n hx hb dL_law_209 rfl (lv_at hls 8 rfl) ?_
          refine lw_rd hW hS (va_runS (As := [.ref x2, .ref y]) (rest := []) hC (kL_holds l hl9 D x2 y H.size w.2 (nI w.2.2.2) 1 (ho_ok hIw)) (cwS 2 hts gL_law_L_holds rfl rfl rfl (by decide +kernel) ⟨Nat.le_of_ble_eq_true rfl, Nat.le_of_ble_eq_true rfl⟩) (b_preN hK (lw_b1 hW).2.1 (hEn H locs hS) hca (lw_b1 hW).2.2) rfl rfl hls.1 rfl (lv_room (Nat.le_of_ble_eq_true rfl)) dL_law_210 ⟨by omega, by omega⟩) fun H6 locs6 hW hS => ?_
          refine lv_if_eq (tgt := 220) hx hb dL_law_213 (by decide) (fun h => absurd h e0) (fun _ => ?_)
          exact at216 _ _ _ _ (by omega) (by omega) hW hS
        have at177 : ∀ (cells1 slots1 : Nat) (H : Heap) (locs : List Loc), cells1 + 784 + 3087 + r * 4100 + 160000 ≤ room_1.cells → slots1 + 4704 + 18522 + r * 25000 + 960000 ≤ room_1.slots → LW D s x1 x2 y w.2 w.2 (nI w.2.2.2) H → va_S (lb_B s) s.heap H locs → W p l e room_1 s m #[Value.ref b] below meth c H locs cells1 slots1 (lw_Z below #[Value.ref b] s) (F0 m 177 ls []) := by
          intro cells1 slots1 H locs hcc hss hW hS
          refine lv_iload hx hb dL_law_177 (lv_at hls 3 rfl) ?_
          refine lv_iconst (v := 3) hx hb dL_law_179 (by decide) ?_
          refine lv_irem hx hb dL_law_180 (by decide) ?_
          refine lv_iconst (v := 1) hx hb dL_law_181 (by decide) ?_
          refine lv_icmp_gt (tgt := 198) hx hb dL_law_182 (by decide) (fun _ => at198 _ _ _ _ (by omega) (by omega) hW hS) (fun _ => ?_)
          refine lv_aload_n hx hb dL_law_185 rfl (lv_at hls 6 rfl) ?_
          refine lv_aload_n hx hb dL_law_186 rfl (lv_at hls 7 rfl) ?_
          refine lv_aload_n hx hb dL_law_187 rfl (lv_at hls 8 rfl) ?_
          refine lv_iload hx hb dL_law_188 (lv_at hls 2 rfl) ?_
          refine lv_iconst (v := 3) hx hb dL_law_190 (by decide) ?_
          refine lv_idiv hx hb dL_law_191 (by decide) ?_
          rw [show nI z / 3 = nI (z / 3) from pk_div (d := 3) (by omega) (by decide) (by decide)]
          refine lw_rd hW hS (va_runS (As := [.ref x1, .ref x2, .ref y, .int (nI (z / 3))]) (rest := []) hC (kL_alike l hl9 D x1 x2 y H.size w.2 (nI w.2.2.2) (nI (z / 3)) 1 (al_ok w.2 h40w (by omega))) (cwS 4 hts gL_law_L_alike rfl rfl rfl (by decide +kernel) ⟨Nat.le_of_ble_eq_true rfl, Nat.le_of_ble_eq_true rfl⟩) (b_preN2 hK (lw_b1 hW).1 (lw_b1 hW).2.1 (hEn H locs hS) hca (lw_b1 hW).2.2) rfl rfl hls.1 rfl (lv_room (Nat.le_of_ble_eq_true rfl)) dL_law_192 ⟨by omega, by omega⟩) fun H6 locs6 hW hS => ?_
          refine lv_if_eq (tgt := 220) hx hb dL_law_195 (by decide) (fun h => absurd h e0) (fun _ => ?_)
          exact at198 _ _ _ _ (by omega) (by omega) hW hS
        refine lv_iload hx hb dL_law_156 (lv_at hls 3 rfl) ?_
        refine lv_iconst (v := 3) hx hb dL_law_158 (by decide) ?_
        refine lv_irem hx hb dL_law_159 (by decide) ?_
        refine lv_if_gt (tgt := 177) hx hb dL_law_160 (by decide) (fun _ => at177 _ _ _ _ (by omega) (by omega) hW hS) (fun _ => ?_)
        refine lv_aload_n hx hb dL_law_163 rfl (lv_at hls 7 rfl) ?_
        refine lv_aload_n hx hb dL_law_164 rfl (lv_at hls 8 rfl) ?_
        refine lv_iload hx hb dL_law_165 (lv_at hls 2 rfl) ?_
        refine lv_sipush (v := 499) hx hb dL_law_167 (by decide) ?_
        refine lv_irem hx hb dL_law_170 (by decide) ?_
        rw [show nI z - nI z / 499 * 499 = nI (z % 499) from pk_rem (d := 499) (by omega) (by decide) (by decide)]
        refine lw_mv hE hW.swap hS (fun A hA hAy hb1 hEA hN => va_runS (As := [.ref x2, .ref y, .int (nI (z % 499))]) (rest := []) hC (kL_refuses l hl9 D x2 y H5.size A hA hAy w.2 (nI w.2.2.2) (nI (z % 499)) (1, w.2) (ref_ok hIw (by omega))) (cwS 3 hts gL_law_L_refuses rfl rfl rfl (by decide +kernel) ⟨Nat.le_of_ble_eq_true rfl, Nat.le_of_ble_eq_true rfl⟩) (b_preN hK hb1 hEA hca hN) rfl rfl hls.1 rfl (lv_room (Nat.le_of_ble_eq_true rfl)) dL_law_171 ⟨by omega, by omega⟩) fun H6 locs6 hW hS => ?_
        refine lv_if_eq (tgt := 220) hx hb dL_law_174 (by decide) (fun h => absurd h e0) (fun _ => ?_)
        exact at177 _ _ _ _ (by omega) (by omega) hW.swap hS
      refine lv_iload hx hb dL_law_130 (lv_at hls 2 rfl) ?_
      refine lv_bipush (v := 16) hx hb dL_law_132 (by decide) ?_
      refine lv_irem hx hb dL_law_134 (by decide) ?_
      rw [show nI z - nI z / 16 * 16 = nI (z % 16) from pk_rem (d := 16) (by omega) (by decide) (by decide)]
      refine lv_iconst (v := nI 4) hx hb dL_law_135 (by decide) ?_
      refine lv_icmp_ge (tgt := 148) hx hb dL_law_136 (by decide) (fun h => ?_) (fun h => ?_)
      · have h4 : ¬ z % 16 < 4 := by have := (nI_L (by omega) (by omega)).mp h; omega
        refine lv_iconst (v := 0) hx hb dL_law_148 (by decide) ?_
        exact at149 0 (by rw [if_neg (fun q => h4 (of_decide_eq_true q.1))]; decide)
      · have h4 : z % 16 < 4 := Nat.not_le.mp fun q => h ((nI_L (by omega) (by omega)).mpr q)
        refine lv_iload hx hb dL_law_139 (lv_at hls 1 rfl) ?_
        refine lv_if_lt (tgt := 148) hx hb dL_law_141 (by decide) (fun h => ?_) (fun h => ?_)
        · refine lv_iconst (v := 0) hx hb dL_law_148 (by decide) ?_
          exact at149 0 (by rw [if_neg (fun q => Int32.not_le.mpr h q.2)]; decide)
        · refine lv_iconst (v := 1) hx hb dL_law_144 (by decide) ?_
          refine lv_goto (tgt := 149) hx hb dL_law_145 (by decide) ?_
          exact at149 1 (by rw [if_pos ⟨decide_eq_true h4, Int32.not_lt.mp h⟩]; decide)
    refine lv_iload hx hb dL_law_61 (lv_at hls 1 rfl) ?_
    refine lv_iconst (v := 3) hx hb dL_law_63 (by decide) ?_
    refine lv_icmp_ge (tgt := 78) hx hb dL_law_64 (by decide) (fun _ => ?_) (fun _ => ?_)
    · refine lv_iload hx hb dL_law_78 (lv_at hls 0 rfl) ?_
      exact at80 z0 hz0
    · refine lv_iload hx hb dL_law_67 (lv_at hls 0 rfl) ?_
      refine lv_bipush (v := 16) hx hb dL_law_69 (by decide) ?_
      refine lv_idiv hx hb dL_law_71 (by decide) ?_
      refine lv_bipush (v := 16) hx hb dL_law_72 (by decide) ?_
      refine lv_imul hx hb dL_law_74 ?_
      refine lv_goto (tgt := 80) hx hb dL_law_75 (by decide) ?_
      have e1 : nI z0 / 16 * 16 = nI (z0 / 16 * 16) := by
        have a1 : nI z0 - nI z0 / 16 * 16 = nI (z0 % 16) := pk_rem (d := 16) (by omega) (by decide) (by decide)
        have a2 : nI (z0 / 16 * 16) + nI (z0 % 16) = nI z0 := by rw [nI_add]; congr 1; omega
        rw [← a2] at a1 ⊢
        grind
      rw [e1]
      exact at80 _ (by omega)
