/-! THE LAW: walks of its methods; text by wip/p22/gen_b.py -/
abbrev rL_act : Room := { frames := 9, cells := 50, slots := 300, locals := 177 }
set_option maxHeartbeats 8000000 in
set_option maxRecDepth 100000 in
theorem kL_act (l : Launch) (hl : l.stackTraces = false) (D : va_G) (x y sz : Nat) (A : Nat → Prop) (hA : ∀ q, sz ≤ q → A q) (hAy : ¬ A y) (g : Sg) (k : Int32) (i2 : Int32) (i3 : Int32) (r : Int32 × Sg) (hf : fL_act k g i2 i3 = some r) : Met l yL_act wsL_act rL_act (b_N D x y A A sz g k [.ref x, .ref y, .int i2, .int i3]) (b_M D x A r) 50 300 A := by
  refine Met.ofW (cc := cL_act) (maxL := 10) (ret := some .int) (by decide) rfl ?_
  intro p e s m args below meth c s₁ B hml hv
  obtain ⟨hargs, hK, hQ, hE, hsz, hca, hN⟩ := hv
  have hAz : ∀ q, s.heap.size ≤ q → A q := fun q hq => hA q (by rw [← hsz]; exact hq)
  have hx := B.exec
  have hb := B.bytes
  have hr := B.returns
  have hts := atoms_spec (ws := wsL_act) B.pre
  have hown : s.vm.findClass RL = some m.cls := findClass_of_methodNamed B.named
  have hlocks := B.notSynchronized
  have hC : CallFix p m c cL_act 10 s args wsL_act RL := ⟨hx, hb, hml, hown, hts⟩
  have hS : va_S A s.heap s.heap [] := va_S.rf
  obtain ⟨ls, hls, hL⟩ := p_start (n := 10) hargs (by simp [p_cat, p_ci, p_cr, p_cn]) (Nat.le_of_ble_eq_true rfl)
  show W p l e rL_act s m args below meth c s.heap [] 0 0 (MQ below (b_M D x A r) args s 50 300 A) (entryFrame m args 10)
  rw [hls]
  clear hls
  have hL : p_L ls 10 [(0, .ref x), (1, .ref y), (2, .int i2), (3, .int i3)] := hL
  have b332 : ∀ (cells slots : Nat) (H : Heap) (locs : List Loc) (ls : Array Slot) (g1 : Sg) (si0 : Int32), cells + (1) ≤ 50 → slots + (6) ≤ 300 → bk D x A g1 s H → va_S A s.heap H locs → p_L ls 10 [] → fL_act_332 k  g1 si0 = some r → W p l e rL_act s m args below meth c H locs cells slots (MQ below (b_M D x A r) args s 50 300 A) (F0 m 332 ls [.int si0, .ref x]) := by
    intro cells slots H locs ls g1 si0 hcc hss hQ hS hL hf
    rw [fL_act_332] at hf
    obtain ⟨y1, e2, hf⟩ := p_b hf
    refine b_mv (vx_runSW (As := [.ref x, .int si0]) (rest := []) hC (b_eqM (wL_passes l hl D x H.size A (fun q hq => hAz q (Nat.le_trans hS.1 hq)) g1 si0) e2) (vx_cwSW 2 hts gL_act_L_passes rfl rfl rfl (by decide +kernel) ⟨Nat.le_of_ble_eq_true rfl, Nat.le_of_ble_eq_true rfl⟩) (b_preS hK hQ (hE.kept hS.2.1) hca) rfl rfl hL.1.1 rfl (lv_room (Nat.le_of_ble_eq_true rfl)) dL_act_332 ⟨by show _ ≤ (50 : Nat); omega, by show _ ≤ (300 : Nat); omega⟩) hS (fun H locs hQ hS => ?_)
    exact b_rM hC hr hlocks hQ hS hf (by omega) (by omega) dL_act_335
  have b321 : ∀ (cells slots : Nat) (H : Heap) (locs : List Loc) (ls : Array Slot) (g1 : Sg) (i3 : Int32) (i8 : Int32), cells + (1) ≤ 50 → slots + (6) ≤ 300 → bk D x A g1 s H → va_S A s.heap H locs → p_L ls 10 [(0, .ref x), (3, .int i3), (8, .int i8)] → fL_act_321 k  g1 i3 i8 = some r → W p l e rL_act s m args below meth c H locs cells slots (MQ below (b_M D x A r) args s 50 300 A) (F0 m 321 ls []) := by
    intro cells slots H locs ls g1 i3 i8 hcc hss hQ hS hL hf
    rw [fL_act_321] at hf
    refine lv_aload_n hx hb dL_act_321 rfl (lv_at hL.1 0 rfl) ?_
    refine lv_iload_n hx hb dL_act_322 rfl (lv_at hL.1 1 rfl) ?_
    refine lv_if_eq (tgt := 330) hx hb dL_act_323 (by decide) (fun c3 => ?_) (fun c3 => ?_)
    · rw [if_pos c3] at hf
      refine lv_iload hx hb dL_act_330 (lv_at hL.1 2 rfl) ?_
      exact b332 _ _ _ _ _ g1 i8 (by omega) (by omega) hQ hS (hL.sub [] rfl) hf
    · rw [if_neg c3] at hf
      refine lv_iconst (v := 1) hx hb dL_act_326 (by decide) ?_
      refine lv_goto (tgt := 332) hx hb dL_act_327 (by decide) ?_
      exact b332 _ _ _ _ _ g1 1 (by omega) (by omega) hQ hS (hL.sub [] rfl) hf
  have b298 : ∀ n : Nat, ∀ (cells slots : Nat) (H : Heap) (locs : List Loc) (ls : Array Slot) (g1 : Sg) (i3 : Int32) (i8 : Int32) (i9 : Int32), cells + (n * 1 + (1)) ≤ 50 → slots + (n * 6 + (6)) ≤ 300 → bk D x A g1 s H → va_S A s.heap H locs → p_L ls 10 [(0, .ref x), (3, .int i3), (8, .int i8), (9, .int i9)] → fL_act_298 k n g1 i3 i8 i9 = some r → W p l e rL_act s m args below meth c H locs cells slots (MQ below (b_M D x A r) args s 50 300 A) (F0 m 298 ls []) := by
    intro n
    induction n with
    | zero =>
      intro cells slots H locs ls g1 i3 i8 i9 hcc hss hQ hS hL hf
      simp [fL_act_298] at hf
    | succ n ih =>
      intro cells slots H locs ls g1 i3 i8 i9 hcc hss hQ hS hL hf
      rw [fL_act_298] at hf
      refine lv_iload hx hb dL_act_298 (lv_at hL.1 3 rfl) ?_
      refine lv_iload hx hb dL_act_300 (lv_at hL.1 2 rfl) ?_
      refine lv_icmp_ge (tgt := 321) hx hb dL_act_302 (by decide) (fun c4 => ?_) (fun c4 => ?_)
      · rw [if_pos c4] at hf
        exact b321 _ _ _ _ _ g1 i3 i8 (by omega) (by omega) hQ hS (hL.sub [0, 1, 2] rfl) hf
      · rw [if_neg c4] at hf
        refine lv_iload_n hx hb dL_act_305 rfl (lv_at hL.1 1 rfl) ?_
        refine lv_if_eq (tgt := 321) hx hb dL_act_306 (by decide) (fun c5 => ?_) (fun c5 => ?_)
        · rw [if_pos c5] at hf
          exact b321 _ _ _ _ _ g1 i3 i8 (by omega) (by omega) hQ hS (hL.sub [0, 1, 2] rfl) hf
        · rw [if_neg c5] at hf
          refine lv_aload_n hx hb dL_act_309 rfl (lv_at hL.1 0 rfl) ?_
          refine lv_iconst (v := 1) hx hb dL_act_310 (by decide) ?_
          obtain ⟨y6, e7, hf⟩ := p_b hf
          refine b_mv (vx_runSW (As := [.ref x, .int 1]) (rest := []) hC (b_eqM (wL_passes l hl D x H.size A (fun q hq => hAz q (Nat.le_trans hS.1 hq)) g1 1) e7) (vx_cwSW 2 hts gL_act_L_passes rfl rfl rfl (by decide +kernel) ⟨Nat.le_of_ble_eq_true rfl, Nat.le_of_ble_eq_true rfl⟩) (b_preS hK hQ (hE.kept hS.2.1) hca) rfl rfl hL.1.1 rfl (lv_room (Nat.le_of_ble_eq_true rfl)) dL_act_311 ⟨by show _ ≤ (50 : Nat); omega, by show _ ≤ (300 : Nat); omega⟩) hS (fun H locs hQ hS => ?_)
          refine lv_pop hx hb dL_act_314 rfl ?_
          refine p_iinc (v := (i9 + 1)) (lv' := [(9, .int (i9 + 1)), (0, .ref x), (3, .int i3), (8, .int i8)]) hx hb dL_act_315 hL (k := 3) rfl rfl (by decide) rfl (fun ls hL => ?_)
          refine lv_goto (tgt := 298) hx hb dL_act_318 (by decide) ?_
          exact ih _ _ _ _ _ y6.2 i3 i8 (i9 + 1) (by omega) (by omega) hQ hS (hL.sub [1, 2, 3, 0] rfl) hf
  have b291 : ∀ (cells slots : Nat) (H : Heap) (locs : List Loc) (ls : Array Slot) (g1 : Sg) (i3 : Int32) (si0 : Int32) (si1 : Int32) (si2 : Int32), cells + (50) ≤ 50 → slots + (300) ≤ 300 → bk D x A g1 s H → va_S A s.heap H locs → p_L ls 10 [(0, .ref x), (3, .int i3)] → fL_act_291 k  g1 i3 si0 si1 si2 = some r → W p l e rL_act s m args below meth c H locs cells slots (MQ below (b_M D x A r) args s 50 300 A) (F0 m 291 ls [.int si0, .int si1, .int si2]) := by
    intro cells slots H locs ls g1 i3 si0 si1 si2 hcc hss hQ hS hL hf
    rw [fL_act_291] at hf
    obtain ⟨u8, e9, hf⟩ := p_b hf
    refine lv_irem hx hb dL_act_291 (p_nzd_of e9) ?_
    refine lv_iadd hx hb dL_act_292 ?_
    refine p_istore (lv' := [(8, .int (si2 + (si1 - si1 / si0 * si0))), (0, .ref x), (3, .int i3)]) hx hb dL_act_293 hL (by decide) rfl (fun ls hL => ?_)
    refine lv_iconst (v := 1) hx hb dL_act_295 (by decide) ?_
    refine p_istore (lv' := [(9, .int 1), (8, .int (si2 + (si1 - si1 / si0 * si0))), (0, .ref x), (3, .int i3)]) hx hb dL_act_296 hL (by decide) rfl (fun ls hL => ?_)
    exact b298 49 _ _ _ _ _ g1 i3 (si2 + (si1 - si1 / si0 * si0)) 1 (by omega) (by omega) hQ hS (hL.sub [2, 3, 1, 0] rfl) hf
  have b251 : ∀ (cells slots : Nat) (H : Heap) (locs : List Loc) (ls : Array Slot) (g1 : Sg) (i4 : Int32), cells + (1) ≤ 50 → slots + (6) ≤ 300 → bk D x A g1 s H → va_S A s.heap H locs → p_L ls 10 [(0, .ref x), (4, .int i4)] → fL_act_251 k  g1 i4 = some r → W p l e rL_act s m args below meth c H locs cells slots (MQ below (b_M D x A r) args s 50 300 A) (F0 m 251 ls []) := by
    intro cells slots H locs ls g1 i4 hcc hss hQ hS hL hf
    rw [fL_act_251] at hf
    refine lv_aload_n hx hb dL_act_251 rfl (lv_at hL.1 0 rfl) ?_
    refine lv_iload hx hb dL_act_252 (lv_at hL.1 1 rfl) ?_
    refine lv_bipush (v := 8) hx hb dL_act_254 (by decide) ?_
    refine lv_irem hx hb dL_act_256 (by decide) ?_
    refine lv_iload hx hb dL_act_257 (lv_at hL.1 1 rfl) ?_
    refine lv_bipush (v := 8) hx hb dL_act_259 (by decide) ?_
    refine lv_idiv hx hb dL_act_261 (by decide) ?_
    refine lv_bipush (v := 6) hx hb dL_act_262 (by decide) ?_
    refine lv_irem hx hb dL_act_264 (by decide) ?_
    obtain ⟨y10, e11, hf⟩ := p_b hf
    refine b_mv (vx_runSW (As := [.ref x, .int (i4 - i4 / 8 * 8), .int ((i4 / 8) - (i4 / 8) / 6 * 6)]) (rest := []) hC (b_eqM (wL_inputs l hl D x H.size A (fun q hq => hAz q (Nat.le_trans hS.1 hq)) g1 (i4 - i4 / 8 * 8) ((i4 / 8) - (i4 / 8) / 6 * 6)) e11) (vx_cwSW 3 hts gL_act_L_inputs rfl rfl rfl (by decide +kernel) ⟨Nat.le_of_ble_eq_true rfl, Nat.le_of_ble_eq_true rfl⟩) (b_preS hK hQ (hE.kept hS.2.1) hca) rfl rfl hL.1.1 rfl (lv_room (Nat.le_of_ble_eq_true rfl)) dL_act_265 ⟨by show _ ≤ (50 : Nat); omega, by show _ ≤ (300 : Nat); omega⟩) hS (fun H locs hQ hS => ?_)
    exact b_rM hC hr hlocks hQ hS hf (by omega) (by omega) dL_act_268
  have b247 : ∀ (cells slots : Nat) (H : Heap) (locs : List Loc) (ls : Array Slot) (g1 : Sg) (si0 : Int32) (si1 : Int32), cells + (1) ≤ 50 → slots + (6) ≤ 300 → bk D x A g1 s H → va_S A s.heap H locs → p_L ls 10 [] → fL_act_247 k  g1 si0 si1 = some r → W p l e rL_act s m args below meth c H locs cells slots (MQ below (b_M D x A r) args s 50 300 A) (F0 m 247 ls [.int si0, .int si1, .ref x]) := by
    intro cells slots H locs ls g1 si0 si1 hcc hss hQ hS hL hf
    rw [fL_act_247] at hf
    obtain ⟨y12, e13, hf⟩ := p_b hf
    refine b_mv (vx_runSW (As := [.ref x, .int si1, .int si0]) (rest := []) hC (b_eqM (wL_lays l hl D x H.size A (fun q hq => hAz q (Nat.le_trans hS.1 hq)) g1 si1 si0) e13) (vx_cwSW 3 hts gL_act_L_lays rfl rfl rfl (by decide +kernel) ⟨Nat.le_of_ble_eq_true rfl, Nat.le_of_ble_eq_true rfl⟩) (b_preS hK hQ (hE.kept hS.2.1) hca) rfl rfl hL.1.1 rfl (lv_room (Nat.le_of_ble_eq_true rfl)) dL_act_247 ⟨by show _ ≤ (50 : Nat); omega, by show _ ≤ (300 : Nat); omega⟩) hS (fun H locs hQ hS => ?_)
    exact b_rM hC hr hlocks hQ hS hf (by omega) (by omega) dL_act_250
  have b229 : ∀ (cells slots : Nat) (H : Heap) (locs : List Loc) (ls : Array Slot) (g1 : Sg) (i4 : Int32) (i5 : Int32), cells + (1) ≤ 50 → slots + (6) ≤ 300 → bk D x A g1 s H → va_S A s.heap H locs → p_L ls 10 [(0, .ref x), (4, .int i4), (5, .int i5)] → fL_act_229 k  g1 i4 i5 = some r → W p l e rL_act s m args below meth c H locs cells slots (MQ below (b_M D x A r) args s 50 300 A) (F0 m 229 ls []) := by
    intro cells slots H locs ls g1 i4 i5 hcc hss hQ hS hL hf
    rw [fL_act_229] at hf
    refine lv_aload_n hx hb dL_act_229 rfl (lv_at hL.1 0 rfl) ?_
    refine lv_iload hx hb dL_act_230 (lv_at hL.1 2 rfl) ?_
    refine lv_iload hx hb dL_act_232 (lv_at hL.1 1 rfl) ?_
    refine lv_bipush (v := 40) hx hb dL_act_234 (by decide) ?_
    refine lv_idiv hx hb dL_act_236 (by decide) ?_
    refine lv_iconst (v := 2) hx hb dL_act_237 (by decide) ?_
    refine lv_irem hx hb dL_act_238 (by decide) ?_
    refine lv_if_ne (tgt := 246) hx hb dL_act_239 (by decide) (fun c14 => ?_) (fun c14 => ?_)
    · rw [if_neg c14] at hf
      refine lv_iconst (v := 0) hx hb dL_act_246 (by decide) ?_
      exact b247 _ _ _ _ _ g1 0 i5 (by omega) (by omega) hQ hS (hL.sub [] rfl) hf
    · rw [if_pos c14] at hf
      refine lv_iconst (v := 1) hx hb dL_act_242 (by decide) ?_
      refine lv_goto (tgt := 247) hx hb dL_act_243 (by decide) ?_
      exact b247 _ _ _ _ _ g1 1 i5 (by omega) (by omega) hQ hS (hL.sub [] rfl) hf
  have b205 : ∀ (cells slots : Nat) (H : Heap) (locs : List Loc) (ls : Array Slot) (g1 : Sg) (i4 : Int32) (i5 : Int32), cells + (2) ≤ 50 → slots + (12) ≤ 300 → bk D x A g1 s H → va_S A s.heap H locs → p_L ls 10 [(0, .ref x), (4, .int i4), (5, .int i5)] → fL_act_205 k  g1 i4 i5 = some r → W p l e rL_act s m args below meth c H locs cells slots (MQ below (b_M D x A r) args s 50 300 A) (F0 m 205 ls []) := by
    intro cells slots H locs ls g1 i4 i5 hcc hss hQ hS hL hf
    rw [fL_act_205] at hf
    refine lv_aload_n hx hb dL_act_205 rfl (lv_at hL.1 0 rfl) ?_
    refine lv_iload hx hb dL_act_206 (lv_at hL.1 2 rfl) ?_
    refine lv_iload hx hb dL_act_208 (lv_at hL.1 1 rfl) ?_
    refine lv_bipush (v := 40) hx hb dL_act_210 (by decide) ?_
    refine lv_idiv hx hb dL_act_212 (by decide) ?_
    refine lv_bipush (v := 8) hx hb dL_act_213 (by decide) ?_
    refine lv_irem hx hb dL_act_215 (by decide) ?_
    refine lv_iload hx hb dL_act_216 (lv_at hL.1 1 rfl) ?_
    refine lv_sipush (v := 320) hx hb dL_act_218 (by decide) ?_
    refine lv_idiv hx hb dL_act_221 (by decide) ?_
    refine lv_bipush (v := 6) hx hb dL_act_222 (by decide) ?_
    refine lv_irem hx hb dL_act_224 (by decide) ?_
    obtain ⟨y15, e16, hf⟩ := p_b hf
    refine b_mv (vx_runSW (As := [.ref x, .int i5, .int ((i4 / 40) - (i4 / 40) / 8 * 8), .int ((i4 / 320) - (i4 / 320) / 6 * 6)]) (rest := []) hC (b_eqM (wL_moves l hl D x H.size A (fun q hq => hAz q (Nat.le_trans hS.1 hq)) g1 i5 ((i4 / 40) - (i4 / 40) / 8 * 8) ((i4 / 320) - (i4 / 320) / 6 * 6)) e16) (vx_cwSW 4 hts gL_act_L_moves rfl rfl rfl (by decide +kernel) ⟨Nat.le_of_ble_eq_true rfl, Nat.le_of_ble_eq_true rfl⟩) (b_preS hK hQ (hE.kept hS.2.1) hca) rfl rfl hL.1.1 rfl (lv_room (Nat.le_of_ble_eq_true rfl)) dL_act_225 ⟨by show _ ≤ (50 : Nat); omega, by show _ ≤ (300 : Nat); omega⟩) hS (fun H locs hQ hS => ?_)
    exact b_rM hC hr hlocks hQ hS hf (by omega) (by omega) dL_act_228
  have b204 : ∀ (cells slots : Nat) (H : Heap) (locs : List Loc) (ls : Array Slot) (g1 : Sg) (si0 : Int32), cells + (0) ≤ 50 → slots + (0) ≤ 300 → bk D x A g1 s H → va_S A s.heap H locs → p_L ls 10 [] → fL_act_204 k  g1 si0 = some r → W p l e rL_act s m args below meth c H locs cells slots (MQ below (b_M D x A r) args s 50 300 A) (F0 m 204 ls [.int si0]) := by
    intro cells slots H locs ls g1 si0 hcc hss hQ hS hL hf
    rw [fL_act_204] at hf
    exact b_rM hC hr hlocks hQ hS hf (by omega) (by omega) dL_act_204
  have b157 : ∀ (cells slots : Nat) (H : Heap) (locs : List Loc) (ls : Array Slot) (g1 : Sg) (i4 : Int32) (si0 : Int32) (si1 : Int32) (si2 : Int32) (si3 : Int32) (si4 : Int32), cells + (3) ≤ 50 → slots + (25) ≤ 300 → bk D x A g1 s H → va_S A s.heap H locs → p_L ls 10 [(4, .int i4)] → fL_act_157 k  g1 i4 si0 si1 si2 si3 si4 = some r → W p l e rL_act s m args below meth c H locs cells slots (MQ below (b_M D x A r) args s 50 300 A) (F0 m 157 ls [.int si0, .int si1, .int si2, .int si3, .int si4, .ref x]) := by
    intro cells slots H locs ls g1 i4 si0 si1 si2 si3 si4 hcc hss hQ hS hL hf
    rw [fL_act_157] at hf
    refine lv_iconst (v := 1) hx hb dL_act_157 (by decide) ?_
    refine lv_iload hx hb dL_act_158 (lv_at hL.1 0 rfl) ?_
    refine lv_bipush (v := 7) hx hb dL_act_160 (by decide) ?_
    refine lv_idiv hx hb dL_act_162 (by decide) ?_
    refine lv_bipush (v := 30) hx hb dL_act_163 (by decide) ?_
    refine lv_irem hx hb dL_act_165 (by decide) ?_
    refine lv_iadd hx hb dL_act_166 ?_
    refine lv_iconst (v := 1) hx hb dL_act_167 (by decide) ?_
    refine lv_iload hx hb dL_act_168 (lv_at hL.1 0 rfl) ?_
    refine lv_bipush (v := 11) hx hb dL_act_170 (by decide) ?_
    refine lv_idiv hx hb dL_act_172 (by decide) ?_
    refine lv_bipush (v := 8) hx hb dL_act_173 (by decide) ?_
    refine lv_irem hx hb dL_act_175 (by decide) ?_
    refine lv_iadd hx hb dL_act_176 ?_
    obtain ⟨u19, e20, hf⟩ := p_b hf
    obtain ⟨y17, e18, hf⟩ := p_b hf
    refine b_mv (vx_runSW (As := [.ref x, .int si4, .int si3, .int si2, .int si1, .int si0, .int (1 + ((i4 / 7) - (i4 / 7) / 30 * 30)), .int (1 + ((i4 / 11) - (i4 / 11) / 8 * 8))]) (rest := []) hC (b_eqM (wL_opens l hl D x H.size A (fun q hq => hAz q (Nat.le_trans hS.1 hq)) g1 si4 si3 si2 si1 si0 (1 + ((i4 / 7) - (i4 / 7) / 30 * 30)) (1 + ((i4 / 11) - (i4 / 11) / 8 * 8)) (p_z_or e20)) e18) (vx_cwSW 8 hts gL_act_L_opens rfl rfl rfl (by decide +kernel) ⟨Nat.le_of_ble_eq_true rfl, Nat.le_of_ble_eq_true rfl⟩) (b_preS hK hQ (hE.kept hS.2.1) hca) rfl rfl hL.1.1 rfl (lv_room (Nat.le_of_ble_eq_true rfl)) dL_act_177 ⟨by show _ ≤ (50 : Nat); omega, by show _ ≤ (300 : Nat); omega⟩) hS (fun H locs hQ hS => ?_)
    exact b_rM hC hr hlocks hQ hS hf (by omega) (by omega) dL_act_180
  have b92 : ∀ (cells slots : Nat) (H : Heap) (locs : List Loc) (ls : Array Slot) (g1 : Sg) (i4 : Int32), cells + (3) ≤ 50 → slots + (25) ≤ 300 → bk D x A g1 s H → va_S A s.heap H locs → p_L ls 10 [(0, .ref x), (4, .int i4)] → fL_act_92 k  g1 i4 = some r → W p l e rL_act s m args below meth c H locs cells slots (MQ below (b_M D x A r) args s 50 300 A) (F0 m 92 ls []) := by
    intro cells slots H locs ls g1 i4 hcc hss hQ hS hL hf
    rw [fL_act_92] at hf
    refine lv_iload hx hb dL_act_92 (lv_at hL.1 1 rfl) ?_
    refine lv_bipush (v := 8) hx hb dL_act_94 (by decide) ?_
    refine lv_irem hx hb dL_act_96 (by decide) ?_
    refine p_istore (lv' := [(6, .int (i4 - i4 / 8 * 8)), (0, .ref x), (4, .int i4)]) hx hb dL_act_97 hL (by decide) rfl (fun ls hL => ?_)
    refine lv_iload hx hb dL_act_99 (lv_at hL.1 2 rfl) ?_
    refine lv_bipush (v := 8) hx hb dL_act_101 (by decide) ?_
    refine lv_idiv hx hb dL_act_103 (by decide) ?_
    refine lv_bipush (v := 6) hx hb dL_act_104 (by decide) ?_
    refine lv_irem hx hb dL_act_106 (by decide) ?_
    refine p_istore (lv' := [(7, .int ((i4 / 8) - (i4 / 8) / 6 * 6)), (6, .int (i4 - i4 / 8 * 8)), (0, .ref x), (4, .int i4)]) hx hb dL_act_107 hL (by decide) rfl (fun ls hL => ?_)
    refine lv_aload_n hx hb dL_act_109 rfl (lv_at hL.1 2 rfl) ?_
    refine lv_iload hx hb dL_act_110 (lv_at hL.1 1 rfl) ?_
    refine lv_iload hx hb dL_act_112 (lv_at hL.1 0 rfl) ?_
    refine lv_iconst (v := 1) hx hb dL_act_114 (by decide) ?_
    refine lv_iload hx hb dL_act_115 (lv_at hL.1 3 rfl) ?_
    refine lv_bipush (v := 48) hx hb dL_act_117 (by decide) ?_
    refine lv_idiv hx hb dL_act_119 (by decide) ?_
    refine lv_bipush (v := 8) hx hb dL_act_120 (by decide) ?_
    refine lv_iload hx hb dL_act_122 (lv_at hL.1 1 rfl) ?_
    refine lv_isub hx hb dL_act_124 ?_
    obtain ⟨u21, e22, hf⟩ := p_b hf
    refine lv_irem hx hb dL_act_125 (p_nzd_of e22) ?_
    refine lv_iadd hx hb dL_act_126 ?_
    refine lv_iconst (v := 1) hx hb dL_act_127 (by decide) ?_
    refine lv_iload hx hb dL_act_128 (lv_at hL.1 3 rfl) ?_
    refine lv_sipush (v := 384) hx hb dL_act_130 (by decide) ?_
    refine lv_idiv hx hb dL_act_133 (by decide) ?_
    refine lv_bipush (v := 6) hx hb dL_act_134 (by decide) ?_
    refine lv_iload hx hb dL_act_136 (lv_at hL.1 0 rfl) ?_
    refine lv_isub hx hb dL_act_138 ?_
    obtain ⟨u23, e24, hf⟩ := p_b hf
    refine lv_irem hx hb dL_act_139 (p_nzd_of e24) ?_
    refine lv_iadd hx hb dL_act_140 ?_
    refine lv_iload hx hb dL_act_141 (lv_at hL.1 3 rfl) ?_
    refine lv_sipush (v := 2304) hx hb dL_act_143 (by decide) ?_
    refine lv_idiv hx hb dL_act_146 (by decide) ?_
    refine lv_iconst (v := 3) hx hb dL_act_147 (by decide) ?_
    refine lv_irem hx hb dL_act_148 (by decide) ?_
    refine lv_if_ne (tgt := 156) hx hb dL_act_149 (by decide) (fun c25 => ?_) (fun c25 => ?_)
    · rw [if_neg c25] at hf
      refine lv_iconst (v := 0) hx hb dL_act_156 (by decide) ?_
      exact b157 _ _ _ _ _ g1 i4 0 (1 + ((i4 / 384) - (i4 / 384) / (6 - ((i4 / 8) - (i4 / 8) / 6 * 6)) * (6 - ((i4 / 8) - (i4 / 8) / 6 * 6)))) (1 + ((i4 / 48) - (i4 / 48) / (8 - (i4 - i4 / 8 * 8)) * (8 - (i4 - i4 / 8 * 8)))) ((i4 / 8) - (i4 / 8) / 6 * 6) (i4 - i4 / 8 * 8) (by omega) (by omega) hQ hS (hL.sub [3] rfl) hf
    · rw [if_pos c25] at hf
      refine lv_iconst (v := 1) hx hb dL_act_152 (by decide) ?_
      refine lv_goto (tgt := 157) hx hb dL_act_153 (by decide) ?_
      exact b157 _ _ _ _ _ g1 i4 1 (1 + ((i4 / 384) - (i4 / 384) / (6 - ((i4 / 8) - (i4 / 8) / 6 * 6)) * (6 - ((i4 / 8) - (i4 / 8) / 6 * 6)))) (1 + ((i4 / 48) - (i4 / 48) / (8 - (i4 - i4 / 8 * 8)) * (8 - (i4 - i4 / 8 * 8)))) ((i4 / 8) - (i4 / 8) / 6 * 6) (i4 - i4 / 8 * 8) (by omega) (by omega) hQ hS (hL.sub [3] rfl) hf
  have b22 : ∀ (cells slots : Nat) (H : Heap) (locs : List Loc) (ls : Array Slot) (g1 : Sg) (i2 : Int32) (i3 : Int32) (i4 : Int32) (si0 : Int32), cells + (50) ≤ 50 → slots + (300) ≤ 300 → bk D x A g1 s H → va_S A s.heap H locs → p_L ls 10 [(0, .ref x), (2, .int i2), (3, .int i3), (4, .int i4)] → fL_act_22 k  g1 i2 i3 i4 si0 = some r → W p l e rL_act s m args below meth c H locs cells slots (MQ below (b_M D x A r) args s 50 300 A) (F0 m 22 ls [.int si0]) := by
    intro cells slots H locs ls g1 i2 i3 i4 si0 hcc hss hQ hS hL hf
    rw [fL_act_22] at hf
    refine p_istore (lv' := [(5, .int si0), (0, .ref x), (2, .int i2), (3, .int i3), (4, .int i4)]) hx hb dL_act_22 hL (by decide) rfl (fun ls hL => ?_)
    refine lv_iload_n hx hb dL_act_24 rfl (lv_at hL.1 2 rfl) ?_
    refine lv_bipush (v := 16) hx hb dL_act_25 (by decide) ?_
    refine lv_irem hx hb dL_act_27 (by decide) ?_
    by_cases c26_0 : (i2 - i2 / 16 * 16) = 0
    · rw [if_pos c26_0] at hf
      refine lv_tableIn (tgt := 92) hx hb dL_act_28 (by rw [c26_0]; decide) (by rw [c26_0]; decide) (by rw [c26_0]; rfl) (by decide) ?_
      exact b92 _ _ _ _ _ g1 i4 (by omega) (by omega) hQ hS (hL.sub [1, 4] rfl) hf
    rw [if_neg c26_0] at hf
    by_cases c26_1 : (i2 - i2 / 16 * 16) = 1
    · rw [if_pos c26_1] at hf
      refine lv_tableIn (tgt := 92) hx hb dL_act_28 (by rw [c26_1]; decide) (by rw [c26_1]; decide) (by rw [c26_1]; rfl) (by decide) ?_
      exact b92 _ _ _ _ _ g1 i4 (by omega) (by omega) hQ hS (hL.sub [1, 4] rfl) hf
    rw [if_neg c26_1] at hf
    by_cases c26_2 : (i2 - i2 / 16 * 16) = 2
    · rw [if_pos c26_2] at hf
      refine lv_tableIn (tgt := 92) hx hb dL_act_28 (by rw [c26_2]; decide) (by rw [c26_2]; decide) (by rw [c26_2]; rfl) (by decide) ?_
      exact b92 _ _ _ _ _ g1 i4 (by omega) (by omega) hQ hS (hL.sub [1, 4] rfl) hf
    rw [if_neg c26_2] at hf
    by_cases c26_3 : (i2 - i2 / 16 * 16) = 3
    · rw [if_pos c26_3] at hf
      refine lv_tableIn (tgt := 92) hx hb dL_act_28 (by rw [c26_3]; decide) (by rw [c26_3]; decide) (by rw [c26_3]; rfl) (by decide) ?_
      exact b92 _ _ _ _ _ g1 i4 (by omega) (by omega) hQ hS (hL.sub [1, 4] rfl) hf
    rw [if_neg c26_3] at hf
    by_cases c26_4 : (i2 - i2 / 16 * 16) = 4
    · rw [if_pos c26_4] at hf
      refine lv_tableIn (tgt := 181) hx hb dL_act_28 (by rw [c26_4]; decide) (by rw [c26_4]; decide) (by rw [c26_4]; rfl) (by decide) ?_
      refine lv_iload hx hb dL_act_181 (lv_at hL.1 4 rfl) ?_
      refine lv_bipush (v := 40) hx hb dL_act_183 (by decide) ?_
      refine lv_idiv hx hb dL_act_185 (by decide) ?_
      refine lv_iconst (v := 2) hx hb dL_act_186 (by decide) ?_
      refine lv_irem hx hb dL_act_187 (by decide) ?_
      refine lv_if_ne (tgt := 198) hx hb dL_act_188 (by decide) (fun c27 => ?_) (fun c27 => ?_)
      · rw [if_neg c27] at hf
        refine lv_aload_n hx hb dL_act_198 rfl (lv_at hL.1 1 rfl) ?_
        refine lv_iload hx hb dL_act_199 (lv_at hL.1 0 rfl) ?_
        obtain ⟨y28, e29, hf⟩ := p_b hf
        refine b_mv (vx_runSW (As := [.ref x, .int si0]) (rest := []) hC (b_eqM (wL_closes l hl D x H.size A (fun q hq => hAz q (Nat.le_trans hS.1 hq)) g1 si0) e29) (vx_cwSW 2 hts gL_act_L_closes rfl rfl rfl (by decide +kernel) ⟨Nat.le_of_ble_eq_true rfl, Nat.le_of_ble_eq_true rfl⟩) (b_preS hK hQ (hE.kept hS.2.1) hca) rfl rfl hL.1.1 rfl (lv_room (Nat.le_of_ble_eq_true rfl)) dL_act_201 ⟨by show _ ≤ (50 : Nat); omega, by show _ ≤ (300 : Nat); omega⟩) hS (fun H locs hQ hS => ?_)
        exact b204 _ _ _ _ _ y28.2 y28.1 (by omega) (by omega) hQ hS (hL.sub [] rfl) hf
      · rw [if_pos c27] at hf
        refine lv_aload_n hx hb dL_act_191 rfl (lv_at hL.1 1 rfl) ?_
        refine b_rd (va_runV (As := []) (rest := []) hC (mX_windows l D x H.size g1) (cwV 0 hts gL_act_X3_windows rfl rfl rfl (by decide +kernel) ⟨Nat.le_of_ble_eq_true rfl, Nat.le_of_ble_eq_true rfl⟩) (b_preV hK hQ.tt ((hE.kept hS.2.1).narrow fun _ h9 => h9.elim) hca) rfl rfl hL.1.1 rfl (lv_room (Nat.le_of_ble_eq_true rfl)) dL_act_192 ⟨by show _ ≤ (50 : Nat); omega, by show _ ≤ (300 : Nat); omega⟩) hQ hS (fun H locs hQ hS => ?_)
        refine lv_goto (tgt := 204) hx hb dL_act_195 (by decide) ?_
        exact b204 _ _ _ _ _ g1 (aWins g1) (by omega) (by omega) hQ hS (hL.sub [] rfl) hf
    rw [if_neg c26_4] at hf
    by_cases c26_5 : (i2 - i2 / 16 * 16) = 5
    · rw [if_pos c26_5] at hf
      refine lv_tableIn (tgt := 205) hx hb dL_act_28 (by rw [c26_5]; decide) (by rw [c26_5]; decide) (by rw [c26_5]; rfl) (by decide) ?_
      exact b205 _ _ _ _ _ g1 i4 si0 (by omega) (by omega) hQ hS (hL.sub [1, 4, 0] rfl) hf
    rw [if_neg c26_5] at hf
    by_cases c26_6 : (i2 - i2 / 16 * 16) = 6
    · rw [if_pos c26_6] at hf
      refine lv_tableIn (tgt := 205) hx hb dL_act_28 (by rw [c26_6]; decide) (by rw [c26_6]; decide) (by rw [c26_6]; rfl) (by decide) ?_
      exact b205 _ _ _ _ _ g1 i4 si0 (by omega) (by omega) hQ hS (hL.sub [1, 4, 0] rfl) hf
    rw [if_neg c26_6] at hf
    by_cases c26_7 : (i2 - i2 / 16 * 16) = 7
    · rw [if_pos c26_7] at hf
      refine lv_tableIn (tgt := 229) hx hb dL_act_28 (by rw [c26_7]; decide) (by rw [c26_7]; decide) (by rw [c26_7]; rfl) (by decide) ?_
      exact b229 _ _ _ _ _ g1 i4 si0 (by omega) (by omega) hQ hS (hL.sub [1, 4, 0] rfl) hf
    rw [if_neg c26_7] at hf
    by_cases c26_8 : (i2 - i2 / 16 * 16) = 8
    · rw [if_pos c26_8] at hf
      refine lv_tableIn (tgt := 229) hx hb dL_act_28 (by rw [c26_8]; decide) (by rw [c26_8]; decide) (by rw [c26_8]; rfl) (by decide) ?_
      exact b229 _ _ _ _ _ g1 i4 si0 (by omega) (by omega) hQ hS (hL.sub [1, 4, 0] rfl) hf
    rw [if_neg c26_8] at hf
    by_cases c26_9 : (i2 - i2 / 16 * 16) = 9
    · rw [if_pos c26_9] at hf
      refine lv_tableIn (tgt := 251) hx hb dL_act_28 (by rw [c26_9]; decide) (by rw [c26_9]; decide) (by rw [c26_9]; rfl) (by decide) ?_
      exact b251 _ _ _ _ _ g1 i4 (by omega) (by omega) hQ hS (hL.sub [1, 4] rfl) hf
    rw [if_neg c26_9] at hf
    by_cases c26_10 : (i2 - i2 / 16 * 16) = 10
    · rw [if_pos c26_10] at hf
      refine lv_tableIn (tgt := 251) hx hb dL_act_28 (by rw [c26_10]; decide) (by rw [c26_10]; decide) (by rw [c26_10]; rfl) (by decide) ?_
      exact b251 _ _ _ _ _ g1 i4 (by omega) (by omega) hQ hS (hL.sub [1, 4] rfl) hf
    rw [if_neg c26_10] at hf
    by_cases c26_11 : (i2 - i2 / 16 * 16) = 11
    · rw [if_pos c26_11] at hf
      refine lv_tableIn (tgt := 269) hx hb dL_act_28 (by rw [c26_11]; decide) (by rw [c26_11]; decide) (by rw [c26_11]; rfl) (by decide) ?_
      refine lv_aload_n hx hb dL_act_269 rfl (lv_at hL.1 1 rfl) ?_
      obtain ⟨y30, e31, hf⟩ := p_b hf
      refine b_mv (va_runV (As := []) (rest := []) hC (b_eqM (mX_show l D x H.size A g1) e31) (cwV 0 hts gL_act_X3_show rfl rfl rfl (by decide +kernel) ⟨Nat.le_of_ble_eq_true rfl, Nat.le_of_ble_eq_true rfl⟩) (b_preV hK hQ (hE.kept hS.2.1) hca) rfl rfl hL.1.1 rfl (lv_room (Nat.le_of_ble_eq_true rfl)) dL_act_270 ⟨by show _ ≤ (50 : Nat); omega, by show _ ≤ (300 : Nat); omega⟩) hS (fun H locs hQ hS => ?_)
      exact b_rM hC hr hlocks hQ hS hf (by omega) (by omega) dL_act_273
    rw [if_neg c26_11] at hf
    refine lv_tableOut (tgt := 274) hx hb dL_act_28 (p_tout12 c26_0 c26_1 c26_2 c26_3 c26_4 c26_5 c26_6 c26_7 c26_8 c26_9 c26_10 c26_11) (by decide) ?_
    refine lv_iconst (v := 1) hx hb dL_act_274 (by decide) ?_
    refine lv_iload hx hb dL_act_275 (lv_at hL.1 4 rfl) ?_
    refine lv_iload hx hb dL_act_277 (lv_at hL.1 4 rfl) ?_
    refine lv_iconst (v := 3) hx hb dL_act_279 (by decide) ?_
    refine lv_irem hx hb dL_act_280 (by decide) ?_
    refine lv_if_ne (tgt := 289) hx hb dL_act_281 (by decide) (fun c32 => ?_) (fun c32 => ?_)
    · rw [if_neg c32] at hf
      refine lv_bipush (v := 6) hx hb dL_act_289 (by decide) ?_
      exact b291 _ _ _ _ _ g1 i3 6 i4 1 (by omega) (by omega) hQ hS (hL.sub [1, 3] rfl) hf
    · rw [if_pos c32] at hf
      refine lv_bipush (v := 40) hx hb dL_act_284 (by decide) ?_
      refine lv_goto (tgt := 291) hx hb dL_act_286 (by decide) ?_
      exact b291 _ _ _ _ _ g1 i3 40 i4 1 (by omega) (by omega) hQ hS (hL.sub [1, 3] rfl) hf
  obtain ⟨H, hH⟩ : ∃ z : Heap, z = s.heap := ⟨_, rfl⟩
  have hQ : bk D x A g s H := by rw [hH]; exact hQ
  have hS : va_S A s.heap H [] := by rw [hH]; exact hS
  rw [← hH]
  rw [fL_act] at hf
  obtain ⟨cells, hc0⟩ : ∃ z : Nat, z = 0 := ⟨_, rfl⟩
  obtain ⟨slots, hs0⟩ : ∃ z : Nat, z = 0 := ⟨_, rfl⟩
  have hcc : cells + 50 ≤ 50 := by omega
  have hss : slots + 300 ≤ 300 := by omega
  show W p l e rL_act s m args below meth c H [] 0 0 (MQ below (b_M D x A r) args s 50 300 A) (F0 m 0 ls [])
  refine W.widen (k := cells) (n := slots) (by omega) (by omega) ?_
  refine lv_iload_n hx hb dL_act_0 rfl (lv_at hL.1 2 rfl) ?_
  refine lv_bipush (v := 16) hx hb dL_act_1 (by decide) ?_
  refine lv_idiv hx hb dL_act_3 (by decide) ?_
  refine p_istore (lv' := [(4, .int (i2 / 16)), (0, .ref x), (1, .ref y), (2, .int i2), (3, .int i3)]) hx hb dL_act_4 hL (by decide) rfl (fun ls hL => ?_)
  refine lv_aload_n hx hb dL_act_6 rfl (lv_at hL.1 2 rfl) ?_
  refine lv_iconst (v := 0) hx hb dL_act_7 (by decide) ?_
  refine b_n0 hx hb hN hAy hS dL_act_8 ?_
  refine lv_if_ne (tgt := 16) hx hb dL_act_9 (by decide) (fun c33 => ?_) (fun c33 => ?_)
  · rw [if_neg c33] at hf
    refine lv_iload hx hb dL_act_16 (lv_at hL.1 0 rfl) ?_
    refine lv_aload_n hx hb dL_act_18 rfl (lv_at hL.1 2 rfl) ?_
    refine lv_iconst (v := 0) hx hb dL_act_19 (by decide) ?_
    refine b_n0 hx hb hN hAy hS dL_act_20 ?_
    obtain ⟨u34, e35, hf⟩ := p_b hf
    refine lv_irem hx hb dL_act_21 (p_nzd_of e35) ?_
    exact b22 _ _ _ _ _ g i2 i3 (i2 / 16) ((i2 / 16) - (i2 / 16) / k * k) (by omega) (by omega) hQ hS (hL.sub [1, 3, 4, 0] rfl) hf
  · rw [if_pos c33] at hf
    refine lv_iconst (v := 0) hx hb dL_act_12 (by decide) ?_
    refine lv_goto (tgt := 22) hx hb dL_act_13 (by decide) ?_
    exact b22 _ _ _ _ _ g i2 i3 (i2 / 16) 0 (by omega) (by omega) hQ hS (hL.sub [1, 3, 4, 0] rfl) hf
abbrev rL_shows : Room := { frames := 9, cells := 106, slots := 636, locals := 176 }
set_option maxHeartbeats 8000000 in
set_option maxRecDepth 100000 in
theorem kL_shows (l : Launch) (hl : l.stackTraces = false) (D : va_G) (x y sz : Nat) (A : Nat → Prop) (hA : ∀ q, sz ≤ q → A q) (hAy : ¬ A y) (g : Sg) (k : Int32) (i2 : Int32) (r : Int32 × Sg) (hf : fL_shows k g i2 = some r) : Met l yL_shows wsL_shows rL_shows (b_N D x y A A sz g k [.ref x, .ref y, .int i2]) (b_M D x A r) 106 636 A := by
  refine Met.ofW (cc := cL_shows) (maxL := 10) (ret := some .boolean) (by decide) rfl ?_
  intro p e s m args below meth c s₁ B hml hv
  obtain ⟨hargs, hK, hQ, hE, hsz, hca, hN⟩ := hv
  have hAz : ∀ q, s.heap.size ≤ q → A q := fun q hq => hA q (by rw [← hsz]; exact hq)
  have hx := B.exec
  have hb := B.bytes
  have hr := B.returns
  have hts := atoms_spec (ws := wsL_shows) B.pre
  have hown : s.vm.findClass RL = some m.cls := findClass_of_methodNamed B.named
  have hlocks := B.notSynchronized
  have hC : CallFix p m c cL_shows 10 s args wsL_shows RL := ⟨hx, hb, hml, hown, hts⟩
  have hS : va_S A s.heap s.heap [] := va_S.rf
  obtain ⟨ls, hls, hL⟩ := p_start (n := 10) hargs (by simp [p_cat, p_ci, p_cr, p_cn]) (Nat.le_of_ble_eq_true rfl)
  show W p l e rL_shows s m args below meth c s.heap [] 0 0 (MQ below (b_M D x A r) args s 106 636 A) (entryFrame m args 10)
  rw [hls]
  clear hls
  have hL : p_L ls 10 [(0, .ref x), (1, .ref y), (2, .int i2)] := hL
  have b304 : ∀ (cells slots : Nat) (H : Heap) (locs : List Loc) (ls : Array Slot) (g1 : Sg) (si0 : Int32), cells + (0) ≤ 106 → slots + (0) ≤ 636 → bk D x A g1 s H → va_S A s.heap H locs → p_L ls 10 [] → fL_shows_304 k  g1 si0 = some r → W p l e rL_shows s m args below meth c H locs cells slots (MQ below (b_M D x A r) args s 106 636 A) (F0 m 304 ls [.int si0]) := by
    intro cells slots H locs ls g1 si0 hcc hss hQ hS hL hf
    rw [fL_shows_304] at hf
    exact b_rZ hC hr hlocks hQ hS hf (by omega) (by omega) dL_shows_304
  have b303 : ∀ (cells slots : Nat) (H : Heap) (locs : List Loc) (ls : Array Slot) (g1 : Sg), cells + (0) ≤ 106 → slots + (0) ≤ 636 → bk D x A g1 s H → va_S A s.heap H locs → p_L ls 10 [] → fL_shows_303 k  g1 = some r → W p l e rL_shows s m args below meth c H locs cells slots (MQ below (b_M D x A r) args s 106 636 A) (F0 m 303 ls []) := by
    intro cells slots H locs ls g1 hcc hss hQ hS hL hf
    rw [fL_shows_303] at hf
    refine lv_iconst (v := 0) hx hb dL_shows_303 (by decide) ?_
    exact b304 _ _ _ _ _ g1 0 (by omega) (by omega) hQ hS (hL.sub [] rfl) hf
  have b299 : ∀ (cells slots : Nat) (H : Heap) (locs : List Loc) (ls : Array Slot) (g1 : Sg), cells + (0) ≤ 106 → slots + (0) ≤ 636 → bk D x A g1 s H → va_S A s.heap H locs → p_L ls 10 [] → fL_shows_299 k  g1 = some r → W p l e rL_shows s m args below meth c H locs cells slots (MQ below (b_M D x A r) args s 106 636 A) (F0 m 299 ls []) := by
    intro cells slots H locs ls g1 hcc hss hQ hS hL hf
    rw [fL_shows_299] at hf
    refine lv_iconst (v := 1) hx hb dL_shows_299 (by decide) ?_
    refine lv_goto (tgt := 304) hx hb dL_shows_300 (by decide) ?_
    exact b304 _ _ _ _ _ g1 1 (by omega) (by omega) hQ hS (hL.sub [] rfl) hf
  have b242 : ∀ (K : Sg → Int32 → Int32 → Int32 → Option (Int32 × Sg)) (nd ne : Nat), (∀ (cells slots : Nat) (H : Heap) (locs : List Loc) (ls : Array Slot) (g1 : Sg) (i4 : Int32) (i8 : Int32) (i9 : Int32), cells + (nd) ≤ 106 → slots + (ne) ≤ 636 → bk D x A g1 s H → va_S A s.heap H locs → p_L ls 10 [(0, .ref x), (1, .ref y), (4, .int i4), (8, .int i8), (9, .int i9)] → K g1 i4 i8 i9 = some r → W p l e rL_shows s m args below meth c H locs cells slots (MQ below (b_M D x A r) args s 106 636 A) (F0 m 203 ls [])) → ∀ (cells slots : Nat) (H : Heap) (locs : List Loc) (ls : Array Slot) (g1 : Sg) (i4 : Int32) (i9 : Int32) (si0 : Int32), cells + (0 + nd) ≤ 106 → slots + (0 + ne) ≤ 636 → bk D x A g1 s H → va_S A s.heap H locs → p_L ls 10 [(0, .ref x), (1, .ref y), (4, .int i4), (9, .int i9)] → fL_shows_242 k K  g1 i4 i9 si0 = some r → W p l e rL_shows s m args below meth c H locs cells slots (MQ below (b_M D x A r) args s 106 636 A) (F0 m 242 ls [.int si0]) := by
    intro K nd ne ihK
    intro cells slots H locs ls g1 i4 i9 si0 hcc hss hQ hS hL hf
    rw [fL_shows_242] at hf
    refine p_istore (lv' := [(8, .int si0), (0, .ref x), (1, .ref y), (4, .int i4), (9, .int i9)]) hx hb dL_shows_242 hL (by decide) rfl (fun ls hL => ?_)
    refine p_iinc (v := (i9 + 1)) (lv' := [(9, .int (i9 + 1)), (8, .int si0), (0, .ref x), (1, .ref y), (4, .int i4)]) hx hb dL_shows_244 hL (k := 4) rfl rfl (by decide) rfl (fun ls hL => ?_)
    refine lv_goto (tgt := 203) hx hb dL_shows_247 (by decide) ?_
    exact ihK _ _ _ _ _ g1 i4 si0 (i9 + 1) (by omega) (by omega) hQ hS (hL.sub [2, 3, 4, 1, 0] rfl) hf
  have b240 : ∀ (K : Sg → Int32 → Int32 → Int32 → Option (Int32 × Sg)) (nd ne : Nat), (∀ (cells slots : Nat) (H : Heap) (locs : List Loc) (ls : Array Slot) (g1 : Sg) (i4 : Int32) (i8 : Int32) (i9 : Int32), cells + (nd) ≤ 106 → slots + (ne) ≤ 636 → bk D x A g1 s H → va_S A s.heap H locs → p_L ls 10 [(0, .ref x), (1, .ref y), (4, .int i4), (8, .int i8), (9, .int i9)] → K g1 i4 i8 i9 = some r → W p l e rL_shows s m args below meth c H locs cells slots (MQ below (b_M D x A r) args s 106 636 A) (F0 m 203 ls [])) → ∀ (cells slots : Nat) (H : Heap) (locs : List Loc) (ls : Array Slot) (g1 : Sg) (i4 : Int32) (i8 : Int32) (i9 : Int32), cells + (0 + nd) ≤ 106 → slots + (0 + ne) ≤ 636 → bk D x A g1 s H → va_S A s.heap H locs → p_L ls 10 [(0, .ref x), (1, .ref y), (4, .int i4), (8, .int i8), (9, .int i9)] → fL_shows_240 k K  g1 i4 i8 i9 = some r → W p l e rL_shows s m args below meth c H locs cells slots (MQ below (b_M D x A r) args s 106 636 A) (F0 m 240 ls []) := by
    intro K nd ne ihK
    intro cells slots H locs ls g1 i4 i8 i9 hcc hss hQ hS hL hf
    rw [fL_shows_240] at hf
    refine lv_iload hx hb dL_shows_240 (lv_at hL.1 3 rfl) ?_
    exact b242 K nd ne ihK _ _ _ _ _ g1 i4 i9 i8 (by omega) (by omega) hQ hS (hL.sub [0, 1, 2, 4] rfl) hf
  have b203 : ∀ n : Nat, ∀ (cells slots : Nat) (H : Heap) (locs : List Loc) (ls : Array Slot) (g1 : Sg) (i4 : Int32) (i8 : Int32) (i9 : Int32), cells + (n * 2 + (1)) ≤ 106 → slots + (n * 12 + (6)) ≤ 636 → bk D x A g1 s H → va_S A s.heap H locs → p_L ls 10 [(0, .ref x), (1, .ref y), (4, .int i4), (8, .int i8), (9, .int i9)] → fL_shows_203 k n g1 i4 i8 i9 = some r → W p l e rL_shows s m args below meth c H locs cells slots (MQ below (b_M D x A r) args s 106 636 A) (F0 m 203 ls []) := by
    intro n
    induction n with
    | zero =>
      intro cells slots H locs ls g1 i4 i8 i9 hcc hss hQ hS hL hf
      simp [fL_shows_203] at hf
    | succ n ih =>
      intro cells slots H locs ls g1 i4 i8 i9 hcc hss hQ hS hL hf
      rw [fL_shows_203] at hf
      refine lv_iload hx hb dL_shows_203 (lv_at hL.1 4 rfl) ?_
      refine lv_aload_n hx hb dL_shows_205 rfl (lv_at hL.1 1 rfl) ?_
      refine lv_iconst (v := 0) hx hb dL_shows_206 (by decide) ?_
      refine b_n0 hx hb hN hAy hS dL_shows_207 ?_
      refine lv_icmp_ge (tgt := 250) hx hb dL_shows_208 (by decide) (fun c1 => ?_) (fun c1 => ?_)
      · rw [if_pos c1] at hf
        refine lv_iload hx hb dL_shows_250 (lv_at hL.1 2 rfl) ?_
        refine lv_if_eq (tgt := 303) hx hb dL_shows_252 (by decide) (fun c2 => ?_) (fun c2 => ?_)
        · rw [if_pos c2] at hf
          exact b303 _ _ _ _ _ g1 (by omega) (by omega) hQ hS (hL.sub [] rfl) hf
        · rw [if_neg c2] at hf
          refine lv_aload_n hx hb dL_shows_255 rfl (lv_at hL.1 0 rfl) ?_
          refine b_rd (va_runV (As := []) (rest := []) hC (mX_windows l D x H.size g1) (cwV 0 hts gL_shows_X3_windows rfl rfl rfl (by decide +kernel) ⟨Nat.le_of_ble_eq_true rfl, Nat.le_of_ble_eq_true rfl⟩) (b_preV hK hQ.tt ((hE.kept hS.2.1).narrow fun _ h9 => h9.elim) hca) rfl rfl hL.1.1 rfl (lv_room (Nat.le_of_ble_eq_true rfl)) dL_shows_256 ⟨by show _ ≤ (106 : Nat); omega, by show _ ≤ (636 : Nat); omega⟩) hQ hS (fun H locs hQ hS => ?_)
          refine lv_if_ne (tgt := 271) hx hb dL_shows_259 (by decide) (fun c3 => ?_) (fun c3 => ?_)
          · rw [if_neg c3] at hf
            refine lv_iload hx hb dL_shows_271 (lv_at hL.1 3 rfl) ?_
            refine lv_if_lt (tgt := 303) hx hb dL_shows_273 (by decide) (fun c4 => ?_) (fun c4 => ?_)
            · rw [if_pos c4] at hf
              exact b303 _ _ _ _ _ g1 (by omega) (by omega) hQ hS (hL.sub [] rfl) hf
            · rw [if_neg c4] at hf
              refine lv_aload_n hx hb dL_shows_276 rfl (lv_at hL.1 0 rfl) ?_
              refine lv_iload hx hb dL_shows_277 (lv_at hL.1 3 rfl) ?_
              refine lv_iconst (v := 1) hx hb dL_shows_279 (by decide) ?_
              obtain ⟨y5, e6, hf⟩ := p_b hf
              refine b_mv (vx_runSW (As := [.ref x, .int i8, .int 1]) (rest := []) hC (b_eqM (wL_lays l hl D x H.size A (fun q hq => hAz q (Nat.le_trans hS.1 hq)) g1 i8 1) e6) (vx_cwSW 3 hts gL_shows_L_lays rfl rfl rfl (by decide +kernel) ⟨Nat.le_of_ble_eq_true rfl, Nat.le_of_ble_eq_true rfl⟩) (b_preS hK hQ (hE.kept hS.2.1) hca) rfl rfl hL.1.1 rfl (lv_room (Nat.le_of_ble_eq_true rfl)) dL_shows_280 ⟨by show _ ≤ (106 : Nat); omega, by show _ ≤ (636 : Nat); omega⟩) hS (fun H locs hQ hS => ?_)
              refine lv_aload_n hx hb dL_shows_283 rfl (lv_at hL.1 0 rfl) ?_
              refine b_rd (va_runV (As := []) (rest := [.int y5.1]) hC (mX_windows l D x H.size y5.2) (cwV 0 hts gL_shows_X3_windows rfl rfl rfl (by decide +kernel) ⟨Nat.le_of_ble_eq_true rfl, Nat.le_of_ble_eq_true rfl⟩) (b_preV hK hQ.tt ((hE.kept hS.2.1).narrow fun _ h9 => h9.elim) hca) rfl rfl hL.1.1 rfl (lv_room (Nat.le_of_ble_eq_true rfl)) dL_shows_284 ⟨by show _ ≤ (106 : Nat); omega, by show _ ≤ (636 : Nat); omega⟩) hQ hS (fun H locs hQ hS => ?_)
              refine lv_iconst (v := 1) hx hb dL_shows_287 (by decide) ?_
              refine lv_isub hx hb dL_shows_288 ?_
              refine lv_icmp_ne (tgt := 303) hx hb dL_shows_289 (by decide) (fun c7 => ?_) (fun c7 => ?_)
              · rw [if_neg c7] at hf
                exact b303 _ _ _ _ _ y5.2 (by omega) (by omega) hQ hS (hL.sub [] rfl) hf
              · rw [if_pos c7] at hf
                refine lv_aload_n hx hb dL_shows_292 rfl (lv_at hL.1 0 rfl) ?_
                refine b_rd (va_runV (As := []) (rest := []) hC (mX_damage l D x H.size y5.2) (cwV 0 hts gL_shows_X3_damage rfl rfl rfl (by decide +kernel) ⟨Nat.le_of_ble_eq_true rfl, Nat.le_of_ble_eq_true rfl⟩) (b_preV hK hQ.tt ((hE.kept hS.2.1).narrow fun _ h9 => h9.elim) hca) rfl rfl hL.1.1 rfl (lv_room (Nat.le_of_ble_eq_true rfl)) dL_shows_293 ⟨by show _ ≤ (106 : Nat); omega, by show _ ≤ (636 : Nat); omega⟩) hQ hS (fun H locs hQ hS => ?_)
                refine lv_if_ne (tgt := 303) hx hb dL_shows_296 (by decide) (fun c8 => ?_) (fun c8 => ?_)
                · rw [if_neg c8] at hf
                  exact b303 _ _ _ _ _ y5.2 (by omega) (by omega) hQ hS (hL.sub [] rfl) hf
                · rw [if_pos c8] at hf
                  exact b299 _ _ _ _ _ y5.2 (by omega) (by omega) hQ hS (hL.sub [] rfl) hf
          · rw [if_pos c3] at hf
            refine lv_iload hx hb dL_shows_262 (lv_at hL.1 3 rfl) ?_
            refine lv_iconst (v := -1) hx hb dL_shows_264 (by decide) ?_
            refine lv_icmp_ne (tgt := 303) hx hb dL_shows_265 (by decide) (fun c9 => ?_) (fun c9 => ?_)
            · rw [if_neg c9] at hf
              exact b303 _ _ _ _ _ g1 (by omega) (by omega) hQ hS (hL.sub [] rfl) hf
            · rw [if_pos c9] at hf
              refine lv_goto (tgt := 299) hx hb dL_shows_268 (by decide) ?_
              exact b299 _ _ _ _ _ g1 (by omega) (by omega) hQ hS (hL.sub [] rfl) hf
      · rw [if_neg c1] at hf
        refine lv_aload_n hx hb dL_shows_211 rfl (lv_at hL.1 0 rfl) ?_
        refine lv_iload hx hb dL_shows_212 (lv_at hL.1 4 rfl) ?_
        refine b_rd (vx_runSW (As := [.ref x, .int i9]) (rest := []) hC (wL_place l hl D x H.size g1 i9) (vx_cwSW 2 hts gL_shows_L_place rfl rfl rfl (by decide +kernel) ⟨Nat.le_of_ble_eq_true rfl, Nat.le_of_ble_eq_true rfl⟩) (b_preS hK hQ.tt ((hE.kept hS.2.1).narrow fun _ h9 => h9.elim) hca) rfl rfl hL.1.1 rfl (lv_room (Nat.le_of_ble_eq_true rfl)) dL_shows_214 ⟨by show _ ≤ (106 : Nat); omega, by show _ ≤ (636 : Nat); omega⟩) hQ hS (fun H locs hQ hS => ?_)
        refine lv_aload_n hx hb dL_shows_217 rfl (lv_at hL.1 0 rfl) ?_
        refine b_rd (va_runV (As := []) (rest := [.int (aPlace g1 i9)]) hC (mX_windows l D x H.size g1) (cwV 0 hts gL_shows_X3_windows rfl rfl rfl (by decide +kernel) ⟨Nat.le_of_ble_eq_true rfl, Nat.le_of_ble_eq_true rfl⟩) (b_preV hK hQ.tt ((hE.kept hS.2.1).narrow fun _ h9 => h9.elim) hca) rfl rfl hL.1.1 rfl (lv_room (Nat.le_of_ble_eq_true rfl)) dL_shows_218 ⟨by show _ ≤ (106 : Nat); omega, by show _ ≤ (636 : Nat); omega⟩) hQ hS (fun H locs hQ hS => ?_)
        refine lv_iconst (v := 1) hx hb dL_shows_221 (by decide) ?_
        refine lv_isub hx hb dL_shows_222 ?_
        refine lv_icmp_ne (tgt := 240) hx hb dL_shows_223 (by decide) (fun c10 => ?_) (fun c10 => ?_)
        · rw [if_neg c10] at hf
          exact b240 (fL_shows_203 k n) (n * 2 + (1)) (n * 12 + (6)) ih _ _ _ _ _ g1 i4 i8 i9 (by omega) (by omega) hQ hS (hL.sub [0, 1, 2, 3, 4] rfl) hf
        · rw [if_pos c10] at hf
          refine lv_aload_n hx hb dL_shows_226 rfl (lv_at hL.1 0 rfl) ?_
          refine lv_iload hx hb dL_shows_227 (lv_at hL.1 4 rfl) ?_
          refine b_rd (vx_runSW (As := [.ref x, .int i9]) (rest := []) hC (wL_place l hl D x H.size g1 i9) (vx_cwSW 2 hts gL_shows_L_place rfl rfl rfl (by decide +kernel) ⟨Nat.le_of_ble_eq_true rfl, Nat.le_of_ble_eq_true rfl⟩) (b_preS hK hQ.tt ((hE.kept hS.2.1).narrow fun _ h9 => h9.elim) hca) rfl rfl hL.1.1 rfl (lv_room (Nat.le_of_ble_eq_true rfl)) dL_shows_229 ⟨by show _ ≤ (106 : Nat); omega, by show _ ≤ (636 : Nat); omega⟩) hQ hS (fun H locs hQ hS => ?_)
          refine lv_if_lt (tgt := 240) hx hb dL_shows_232 (by decide) (fun c11 => ?_) (fun c11 => ?_)
          · rw [if_pos c11] at hf
            exact b240 (fL_shows_203 k n) (n * 2 + (1)) (n * 12 + (6)) ih _ _ _ _ _ g1 i4 i8 i9 (by omega) (by omega) hQ hS (hL.sub [0, 1, 2, 3, 4] rfl) hf
          · rw [if_neg c11] at hf
            refine lv_iload hx hb dL_shows_235 (lv_at hL.1 4 rfl) ?_
            refine lv_goto (tgt := 242) hx hb dL_shows_237 (by decide) ?_
            exact b242 (fL_shows_203 k n) (n * 2 + (1)) (n * 12 + (6)) ih _ _ _ _ _ g1 i4 i9 i9 (by omega) (by omega) hQ hS (hL.sub [0, 1, 2, 4] rfl) hf
  have b197 : ∀ (cells slots : Nat) (H : Heap) (locs : List Loc) (ls : Array Slot) (g1 : Sg) (i4 : Int32), cells + (99) ≤ 106 → slots + (594) ≤ 636 → bk D x A g1 s H → va_S A s.heap H locs → p_L ls 10 [(0, .ref x), (1, .ref y), (4, .int i4)] → fL_shows_197 k  g1 i4 = some r → W p l e rL_shows s m args below meth c H locs cells slots (MQ below (b_M D x A r) args s 106 636 A) (F0 m 197 ls []) := by
    intro cells slots H locs ls g1 i4 hcc hss hQ hS hL hf
    rw [fL_shows_197] at hf
    refine lv_iconst (v := -1) hx hb dL_shows_197 (by decide) ?_
    refine p_istore (lv' := [(8, .int (-1)), (0, .ref x), (1, .ref y), (4, .int i4)]) hx hb dL_shows_198 hL (by decide) rfl (fun ls hL => ?_)
    refine lv_iconst (v := 0) hx hb dL_shows_200 (by decide) ?_
    refine p_istore (lv' := [(9, .int 0), (8, .int (-1)), (0, .ref x), (1, .ref y), (4, .int i4)]) hx hb dL_shows_201 hL (by decide) rfl (fun ls hL => ?_)
    exact b203 49 _ _ _ _ _ g1 i4 (-1) 0 (by omega) (by omega) hQ hS (hL.sub [2, 3, 4, 1, 0] rfl) hf
  have b195 : ∀ (cells slots : Nat) (H : Heap) (locs : List Loc) (ls : Array Slot) (g1 : Sg) (si0 : Int32), cells + (99) ≤ 106 → slots + (594) ≤ 636 → bk D x A g1 s H → va_S A s.heap H locs → p_L ls 10 [(0, .ref x), (1, .ref y)] → fL_shows_195 k  g1 si0 = some r → W p l e rL_shows s m args below meth c H locs cells slots (MQ below (b_M D x A r) args s 106 636 A) (F0 m 195 ls [.int si0]) := by
    intro cells slots H locs ls g1 si0 hcc hss hQ hS hL hf
    rw [fL_shows_195] at hf
    refine p_istore (lv' := [(4, .int si0), (0, .ref x), (1, .ref y)]) hx hb dL_shows_195 hL (by decide) rfl (fun ls hL => ?_)
    exact b197 _ _ _ _ _ g1 si0 (by omega) (by omega) hQ hS (hL.sub [1, 2, 0] rfl) hf
  have b194 : ∀ (cells slots : Nat) (H : Heap) (locs : List Loc) (ls : Array Slot) (g1 : Sg), cells + (99) ≤ 106 → slots + (594) ≤ 636 → bk D x A g1 s H → va_S A s.heap H locs → p_L ls 10 [(0, .ref x), (1, .ref y)] → fL_shows_194 k  g1 = some r → W p l e rL_shows s m args below meth c H locs cells slots (MQ below (b_M D x A r) args s 106 636 A) (F0 m 194 ls []) := by
    intro cells slots H locs ls g1 hcc hss hQ hS hL hf
    rw [fL_shows_194] at hf
    refine lv_iconst (v := 0) hx hb dL_shows_194 (by decide) ?_
    exact b195 _ _ _ _ _ g1 0 (by omega) (by omega) hQ hS (hL.sub [0, 1] rfl) hf
  have b160 : ∀ (cells slots : Nat) (H : Heap) (locs : List Loc) (ls : Array Slot) (g1 : Sg) (i5 : Int32) (i6 : Int32) (i8 : Int32), cells + (101) ≤ 106 → slots + (606) ≤ 636 → bk D x A g1 s H → va_S A s.heap H locs → p_L ls 10 [(0, .ref x), (1, .ref y), (5, .int i5), (6, .int i6), (8, .int i8)] → fL_shows_160 k  g1 i5 i6 i8 = some r → W p l e rL_shows s m args below meth c H locs cells slots (MQ below (b_M D x A r) args s 106 636 A) (F0 m 160 ls []) := by
    intro cells slots H locs ls g1 i5 i6 i8 hcc hss hQ hS hL hf
    rw [fL_shows_160] at hf
    refine lv_aload_n hx hb dL_shows_160 rfl (lv_at hL.1 0 rfl) ?_
    refine lv_iload hx hb dL_shows_161 (lv_at hL.1 2 rfl) ?_
    refine lv_bipush (v := 8) hx hb dL_shows_163 (by decide) ?_
    refine lv_irem hx hb dL_shows_165 (by decide) ?_
    refine lv_iload hx hb dL_shows_166 (lv_at hL.1 2 rfl) ?_
    refine lv_bipush (v := 8) hx hb dL_shows_168 (by decide) ?_
    refine lv_idiv hx hb dL_shows_170 (by decide) ?_
    obtain ⟨y12, e13, hf⟩ := p_b hf
    refine b_mv (vx_runSW (As := [.ref x, .int (i5 - i5 / 8 * 8), .int (i5 / 8)]) (rest := []) hC (b_eqM (wL_inputs l hl D x H.size A (fun q hq => hAz q (Nat.le_trans hS.1 hq)) g1 (i5 - i5 / 8 * 8) (i5 / 8)) e13) (vx_cwSW 3 hts gL_shows_L_inputs rfl rfl rfl (by decide +kernel) ⟨Nat.le_of_ble_eq_true rfl, Nat.le_of_ble_eq_true rfl⟩) (b_preS hK hQ (hE.kept hS.2.1) hca) rfl rfl hL.1.1 rfl (lv_room (Nat.le_of_ble_eq_true rfl)) dL_shows_171 ⟨by show _ ≤ (106 : Nat); omega, by show _ ≤ (636 : Nat); omega⟩) hS (fun H locs hQ hS => ?_)
    refine lv_iload hx hb dL_shows_174 (lv_at hL.1 3 rfl) ?_
    refine lv_icmp_ne (tgt := 194) hx hb dL_shows_176 (by decide) (fun c14 => ?_) (fun c14 => ?_)
    · rw [if_neg c14] at hf
      exact b194 _ _ _ _ _ y12.2 (by omega) (by omega) hQ hS (hL.sub [0, 1] rfl) hf
    · rw [if_pos c14] at hf
      refine lv_aload_n hx hb dL_shows_179 rfl (lv_at hL.1 0 rfl) ?_
      refine lv_iload hx hb dL_shows_180 (lv_at hL.1 3 rfl) ?_
      refine b_rd (vx_runSW (As := [.ref x, .int i6]) (rest := []) hC (wL_deadline l hl D x H.size y12.2 i6) (vx_cwSW 2 hts gL_shows_L_deadline rfl rfl rfl (by decide +kernel) ⟨Nat.le_of_ble_eq_true rfl, Nat.le_of_ble_eq_true rfl⟩) (b_preS hK hQ.tt ((hE.kept hS.2.1).narrow fun _ h9 => h9.elim) hca) rfl rfl hL.1.1 rfl (lv_room (Nat.le_of_ble_eq_true rfl)) dL_shows_182 ⟨by show _ ≤ (106 : Nat); omega, by show _ ≤ (636 : Nat); omega⟩) hQ hS (fun H locs hQ hS => ?_)
      refine lv_iload hx hb dL_shows_185 (lv_at hL.1 4 rfl) ?_
      refine lv_icmp_ne (tgt := 194) hx hb dL_shows_187 (by decide) (fun c15 => ?_) (fun c15 => ?_)
      · rw [if_neg c15] at hf
        exact b194 _ _ _ _ _ y12.2 (by omega) (by omega) hQ hS (hL.sub [0, 1] rfl) hf
      · rw [if_pos c15] at hf
        refine lv_iconst (v := 1) hx hb dL_shows_190 (by decide) ?_
        refine lv_goto (tgt := 195) hx hb dL_shows_191 (by decide) ?_
        exact b195 _ _ _ _ _ y12.2 1 (by omega) (by omega) hQ hS (hL.sub [0, 1] rfl) hf
  have b109 : ∀ (cells slots : Nat) (H : Heap) (locs : List Loc) (ls : Array Slot) (g1 : Sg) (i5 : Int32) (i6 : Int32) (i7 : Int32) (si0 : Int32), cells + (103) ≤ 106 → slots + (618) ≤ 636 → bk D x A g1 s H → va_S A s.heap H locs → p_L ls 10 [(0, .ref x), (1, .ref y), (5, .int i5), (6, .int i6), (7, .int i7)] → fL_shows_109 k  g1 i5 i6 i7 si0 = some r → W p l e rL_shows s m args below meth c H locs cells slots (MQ below (b_M D x A r) args s 106 636 A) (F0 m 109 ls [.int si0]) := by
    intro cells slots H locs ls g1 i5 i6 i7 si0 hcc hss hQ hS hL hf
    rw [fL_shows_109] at hf
    refine p_istore (lv' := [(4, .int si0), (0, .ref x), (1, .ref y), (5, .int i5), (6, .int i6), (7, .int i7)]) hx hb dL_shows_109 hL (by decide) rfl (fun ls hL => ?_)
    refine lv_iload hx hb dL_shows_111 (lv_at hL.1 0 rfl) ?_
    refine lv_if_eq (tgt := 197) hx hb dL_shows_113 (by decide) (fun c16 => ?_) (fun c16 => ?_)
    · rw [if_pos c16] at hf
      exact b197 _ _ _ _ _ g1 si0 (by omega) (by omega) hQ hS (hL.sub [1, 2, 0] rfl) hf
    · rw [if_neg c16] at hf
      refine lv_iload hx hb dL_shows_116 (lv_at hL.1 4 rfl) ?_
      refine lv_if_lt (tgt := 197) hx hb dL_shows_118 (by decide) (fun c17 => ?_) (fun c17 => ?_)
      · rw [if_pos c17] at hf
        exact b197 _ _ _ _ _ g1 si0 (by omega) (by omega) hQ hS (hL.sub [1, 2, 0] rfl) hf
      · rw [if_neg c17] at hf
        refine lv_aload_n hx hb dL_shows_121 rfl (lv_at hL.1 1 rfl) ?_
        refine lv_iload hx hb dL_shows_122 (lv_at hL.1 4 rfl) ?_
        refine b_rd (vx_runSW (As := [.ref x, .int i6]) (rest := []) hC (wL_pages l hl D x H.size g1 i6) (vx_cwSW 2 hts gL_shows_L_pages rfl rfl rfl (by decide +kernel) ⟨Nat.le_of_ble_eq_true rfl, Nat.le_of_ble_eq_true rfl⟩) (b_preS hK hQ.tt ((hE.kept hS.2.1).narrow fun _ h9 => h9.elim) hca) rfl rfl hL.1.1 rfl (lv_room (Nat.le_of_ble_eq_true rfl)) dL_shows_124 ⟨by show _ ≤ (106 : Nat); omega, by show _ ≤ (636 : Nat); omega⟩) hQ hS (fun H locs hQ hS => ?_)
        refine lv_if_le (tgt := 197) hx hb dL_shows_127 (by decide) (fun c18 => ?_) (fun c18 => ?_)
        · rw [if_pos c18] at hf
          exact b197 _ _ _ _ _ g1 si0 (by omega) (by omega) hQ hS (hL.sub [1, 2, 0] rfl) hf
        · rw [if_neg c18] at hf
          refine lv_aload_n hx hb dL_shows_130 rfl (lv_at hL.1 1 rfl) ?_
          refine lv_iload hx hb dL_shows_131 (lv_at hL.1 4 rfl) ?_
          refine b_rd (vx_runSW (As := [.ref x, .int i6]) (rest := []) hC (wL_deadline l hl D x H.size g1 i6) (vx_cwSW 2 hts gL_shows_L_deadline rfl rfl rfl (by decide +kernel) ⟨Nat.le_of_ble_eq_true rfl, Nat.le_of_ble_eq_true rfl⟩) (b_preS hK hQ.tt ((hE.kept hS.2.1).narrow fun _ h9 => h9.elim) hca) rfl rfl hL.1.1 rfl (lv_room (Nat.le_of_ble_eq_true rfl)) dL_shows_133 ⟨by show _ ≤ (106 : Nat); omega, by show _ ≤ (636 : Nat); omega⟩) hQ hS (fun H locs hQ hS => ?_)
          refine p_istore (lv' := [(8, .int (aDead g1 i6)), (4, .int si0), (0, .ref x), (1, .ref y), (5, .int i5), (6, .int i6), (7, .int i7)]) hx hb dL_shows_136 hL (by decide) rfl (fun ls hL => ?_)
          refine lv_iload hx hb dL_shows_138 (lv_at hL.1 0 rfl) ?_
          refine lv_aload_n hx hb dL_shows_140 rfl (lv_at hL.1 2 rfl) ?_
          refine b_rd (va_runV (As := []) (rest := [.int (aDead g1 i6)]) hC (mX_tick l D x H.size g1) (cwV 0 hts gL_shows_X3_tick rfl rfl rfl (by decide +kernel) ⟨Nat.le_of_ble_eq_true rfl, Nat.le_of_ble_eq_true rfl⟩) (b_preV hK hQ.tt ((hE.kept hS.2.1).narrow fun _ h9 => h9.elim) hca) rfl rfl hL.1.1 rfl (lv_room (Nat.le_of_ble_eq_true rfl)) dL_shows_141 ⟨by show _ ≤ (106 : Nat); omega, by show _ ≤ (636 : Nat); omega⟩) hQ hS (fun H locs hQ hS => ?_)
          refine lv_icmp_le (tgt := 194) hx hb dL_shows_144 (by decide) (fun c19 => ?_) (fun c19 => ?_)
          · rw [if_pos c19] at hf
            exact b194 _ _ _ _ _ g1 (by omega) (by omega) hQ hS (hL.sub [2, 3] rfl) hf
          · rw [if_neg c19] at hf
            refine lv_iload hx hb dL_shows_147 (lv_at hL.1 6 rfl) ?_
            refine lv_iconst (v := -1) hx hb dL_shows_149 (by decide) ?_
            refine lv_icmp_eq (tgt := 160) hx hb dL_shows_150 (by decide) (fun c20 => ?_) (fun c20 => ?_)
            · rw [if_pos c20] at hf
              exact b160 _ _ _ _ _ g1 i5 i6 (aDead g1 i6) (by omega) (by omega) hQ hS (hL.sub [2, 3, 4, 5, 0] rfl) hf
            · rw [if_neg c20] at hf
              refine lv_iload hx hb dL_shows_153 (lv_at hL.1 0 rfl) ?_
              refine lv_iload hx hb dL_shows_155 (lv_at hL.1 6 rfl) ?_
              refine lv_icmp_gt (tgt := 194) hx hb dL_shows_157 (by decide) (fun c21 => ?_) (fun c21 => ?_)
              · rw [if_pos c21] at hf
                exact b194 _ _ _ _ _ g1 (by omega) (by omega) hQ hS (hL.sub [2, 3] rfl) hf
              · rw [if_neg c21] at hf
                exact b160 _ _ _ _ _ g1 i5 i6 (aDead g1 i6) (by omega) (by omega) hQ hS (hL.sub [2, 3, 4, 5, 0] rfl) hf
  have b108 : ∀ (cells slots : Nat) (H : Heap) (locs : List Loc) (ls : Array Slot) (g1 : Sg) (i5 : Int32) (i6 : Int32) (i7 : Int32), cells + (103) ≤ 106 → slots + (618) ≤ 636 → bk D x A g1 s H → va_S A s.heap H locs → p_L ls 10 [(0, .ref x), (1, .ref y), (5, .int i5), (6, .int i6), (7, .int i7)] → fL_shows_108 k  g1 i5 i6 i7 = some r → W p l e rL_shows s m args below meth c H locs cells slots (MQ below (b_M D x A r) args s 106 636 A) (F0 m 108 ls []) := by
    intro cells slots H locs ls g1 i5 i6 i7 hcc hss hQ hS hL hf
    rw [fL_shows_108] at hf
    refine lv_iconst (v := 0) hx hb dL_shows_108 (by decide) ?_
    exact b109 _ _ _ _ _ g1 i5 i6 i7 0 (by omega) (by omega) hQ hS (hL.sub [0, 1, 2, 3, 4] rfl) hf
  have b71 : ∀ (cells slots : Nat) (H : Heap) (locs : List Loc) (ls : Array Slot) (g1 : Sg) (i4 : Int32) (i5 : Int32) (i6 : Int32) (si0 : Int32), cells + (104) ≤ 106 → slots + (624) ≤ 636 → bk D x A g1 s H → va_S A s.heap H locs → p_L ls 10 [(0, .ref x), (1, .ref y), (4, .int i4), (5, .int i5), (6, .int i6)] → fL_shows_71 k  g1 i4 i5 i6 si0 = some r → W p l e rL_shows s m args below meth c H locs cells slots (MQ below (b_M D x A r) args s 106 636 A) (F0 m 71 ls [.int si0]) := by
    intro cells slots H locs ls g1 i4 i5 i6 si0 hcc hss hQ hS hL hf
    rw [fL_shows_71] at hf
    refine p_istore (lv' := [(7, .int si0), (0, .ref x), (1, .ref y), (4, .int i4), (5, .int i5), (6, .int i6)]) hx hb dL_shows_71 hL (by decide) rfl (fun ls hL => ?_)
    refine lv_iload hx hb dL_shows_73 (lv_at hL.1 3 rfl) ?_
    refine lv_if_eq (tgt := 108) hx hb dL_shows_75 (by decide) (fun c22 => ?_) (fun c22 => ?_)
    · rw [if_pos c22] at hf
      exact b108 _ _ _ _ _ g1 i5 i6 si0 (by omega) (by omega) hQ hS (hL.sub [1, 2, 4, 5, 0] rfl) hf
    · rw [if_neg c22] at hf
      refine lv_aload_n hx hb dL_shows_78 rfl (lv_at hL.1 1 rfl) ?_
      refine lv_iload hx hb dL_shows_79 (lv_at hL.1 4 rfl) ?_
      refine lv_bipush (v := 8) hx hb dL_shows_81 (by decide) ?_
      refine lv_irem hx hb dL_shows_83 (by decide) ?_
      refine lv_iload hx hb dL_shows_84 (lv_at hL.1 4 rfl) ?_
      refine lv_bipush (v := 8) hx hb dL_shows_86 (by decide) ?_
      refine lv_idiv hx hb dL_shows_88 (by decide) ?_
      obtain ⟨y23, e24, hf⟩ := p_b hf
      refine b_mv (vx_runSW (As := [.ref x, .int (i5 - i5 / 8 * 8), .int (i5 / 8)]) (rest := []) hC (b_eqM (wL_inputs l hl D x H.size A (fun q hq => hAz q (Nat.le_trans hS.1 hq)) g1 (i5 - i5 / 8 * 8) (i5 / 8)) e24) (vx_cwSW 3 hts gL_shows_L_inputs rfl rfl rfl (by decide +kernel) ⟨Nat.le_of_ble_eq_true rfl, Nat.le_of_ble_eq_true rfl⟩) (b_preS hK hQ (hE.kept hS.2.1) hca) rfl rfl hL.1.1 rfl (lv_room (Nat.le_of_ble_eq_true rfl)) dL_shows_89 ⟨by show _ ≤ (106 : Nat); omega, by show _ ≤ (636 : Nat); omega⟩) hS (fun H locs hQ hS => ?_)
      refine lv_iload hx hb dL_shows_92 (lv_at hL.1 5 rfl) ?_
      refine lv_icmp_ne (tgt := 108) hx hb dL_shows_94 (by decide) (fun c25 => ?_) (fun c25 => ?_)
      · rw [if_neg c25] at hf
        exact b108 _ _ _ _ _ y23.2 i5 i6 si0 (by omega) (by omega) hQ hS (hL.sub [1, 2, 4, 5, 0] rfl) hf
      · rw [if_pos c25] at hf
        refine lv_aload_n hx hb dL_shows_97 rfl (lv_at hL.1 1 rfl) ?_
        refine b_rd (va_runV (As := []) (rest := []) hC (mX_damage l D x H.size y23.2) (cwV 0 hts gL_shows_X3_damage rfl rfl rfl (by decide +kernel) ⟨Nat.le_of_ble_eq_true rfl, Nat.le_of_ble_eq_true rfl⟩) (b_preV hK hQ.tt ((hE.kept hS.2.1).narrow fun _ h9 => h9.elim) hca) rfl rfl hL.1.1 rfl (lv_room (Nat.le_of_ble_eq_true rfl)) dL_shows_98 ⟨by show _ ≤ (106 : Nat); omega, by show _ ≤ (636 : Nat); omega⟩) hQ hS (fun H locs hQ hS => ?_)
        refine lv_if_ne (tgt := 108) hx hb dL_shows_101 (by decide) (fun c26 => ?_) (fun c26 => ?_)
        · rw [if_neg c26] at hf
          exact b108 _ _ _ _ _ y23.2 i5 i6 si0 (by omega) (by omega) hQ hS (hL.sub [1, 2, 4, 5, 0] rfl) hf
        · rw [if_pos c26] at hf
          refine lv_iconst (v := 1) hx hb dL_shows_104 (by decide) ?_
          refine lv_goto (tgt := 109) hx hb dL_shows_105 (by decide) ?_
          exact b109 _ _ _ _ _ y23.2 i5 i6 si0 1 (by omega) (by omega) hQ hS (hL.sub [1, 2, 4, 5, 0] rfl) hf
  have b32 : ∀ (cells slots : Nat) (H : Heap) (locs : List Loc) (ls : Array Slot) (g1 : Sg) (i2 : Int32) (si0 : Int32), cells + (106) ≤ 106 → slots + (636) ≤ 636 → bk D x A g1 s H → va_S A s.heap H locs → p_L ls 10 [(0, .ref x), (1, .ref y), (2, .int i2)] → fL_shows_32 k  g1 i2 si0 = some r → W p l e rL_shows s m args below meth c H locs cells slots (MQ below (b_M D x A r) args s 106 636 A) (F0 m 32 ls [.int si0]) := by
    intro cells slots H locs ls g1 i2 si0 hcc hss hQ hS hL hf
    rw [fL_shows_32] at hf
    refine p_istore (lv' := [(4, .int si0), (0, .ref x), (1, .ref y), (2, .int i2)]) hx hb dL_shows_32 hL (by decide) rfl (fun ls hL => ?_)
    refine lv_iload_n hx hb dL_shows_34 rfl (lv_at hL.1 3 rfl) ?_
    refine lv_bipush (v := 48) hx hb dL_shows_35 (by decide) ?_
    refine lv_irem hx hb dL_shows_37 (by decide) ?_
    refine p_istore (lv' := [(5, .int (i2 - i2 / 48 * 48)), (4, .int si0), (0, .ref x), (1, .ref y), (2, .int i2)]) hx hb dL_shows_38 hL (by decide) rfl (fun ls hL => ?_)
    refine lv_aload_n hx hb dL_shows_40 rfl (lv_at hL.1 2 rfl) ?_
    refine lv_iload hx hb dL_shows_41 (lv_at hL.1 0 rfl) ?_
    refine lv_bipush (v := 8) hx hb dL_shows_43 (by decide) ?_
    refine lv_irem hx hb dL_shows_45 (by decide) ?_
    refine lv_iload hx hb dL_shows_46 (lv_at hL.1 0 rfl) ?_
    refine lv_bipush (v := 8) hx hb dL_shows_48 (by decide) ?_
    refine lv_idiv hx hb dL_shows_50 (by decide) ?_
    refine b_rd (vx_runSW (As := [.ref x, .int ((i2 - i2 / 48 * 48) - (i2 - i2 / 48 * 48) / 8 * 8), .int ((i2 - i2 / 48 * 48) / 8)]) (rest := []) hC (wL_at l hl D x H.size g1 ((i2 - i2 / 48 * 48) - (i2 - i2 / 48 * 48) / 8 * 8) ((i2 - i2 / 48 * 48) / 8)) (vx_cwSW 3 hts gL_shows_L_at rfl rfl rfl (by decide +kernel) ⟨Nat.le_of_ble_eq_true rfl, Nat.le_of_ble_eq_true rfl⟩) (b_preS hK hQ.tt ((hE.kept hS.2.1).narrow fun _ h9 => h9.elim) hca) rfl rfl hL.1.1 rfl (lv_room (Nat.le_of_ble_eq_true rfl)) dL_shows_51 ⟨by show _ ≤ (106 : Nat); omega, by show _ ≤ (636 : Nat); omega⟩) hQ hS (fun H locs hQ hS => ?_)
    refine p_istore (lv' := [(6, .int (aAt g1 ((i2 - i2 / 48 * 48) - (i2 - i2 / 48 * 48) / 8 * 8) ((i2 - i2 / 48 * 48) / 8))), (5, .int (i2 - i2 / 48 * 48)), (4, .int si0), (0, .ref x), (1, .ref y), (2, .int i2)]) hx hb dL_shows_54 hL (by decide) rfl (fun ls hL => ?_)
    refine lv_iload hx hb dL_shows_56 (lv_at hL.1 0 rfl) ?_
    refine lv_if_ge (tgt := 65) hx hb dL_shows_58 (by decide) (fun c27 => ?_) (fun c27 => ?_)
    · rw [if_pos c27] at hf
      refine lv_aload_n hx hb dL_shows_65 rfl (lv_at hL.1 3 rfl) ?_
      refine lv_iload hx hb dL_shows_66 (lv_at hL.1 0 rfl) ?_
      refine b_rd (vx_runSW (As := [.ref x, .int (aAt g1 ((i2 - i2 / 48 * 48) - (i2 - i2 / 48 * 48) / 8 * 8) ((i2 - i2 / 48 * 48) / 8))]) (rest := []) hC (wL_deadline l hl D x H.size g1 (aAt g1 ((i2 - i2 / 48 * 48) - (i2 - i2 / 48 * 48) / 8 * 8) ((i2 - i2 / 48 * 48) / 8))) (vx_cwSW 2 hts gL_shows_L_deadline rfl rfl rfl (by decide +kernel) ⟨Nat.le_of_ble_eq_true rfl, Nat.le_of_ble_eq_true rfl⟩) (b_preS hK hQ.tt ((hE.kept hS.2.1).narrow fun _ h9 => h9.elim) hca) rfl rfl hL.1.1 rfl (lv_room (Nat.le_of_ble_eq_true rfl)) dL_shows_68 ⟨by show _ ≤ (106 : Nat); omega, by show _ ≤ (636 : Nat); omega⟩) hQ hS (fun H locs hQ hS => ?_)
      exact b71 _ _ _ _ _ g1 si0 (i2 - i2 / 48 * 48) (aAt g1 ((i2 - i2 / 48 * 48) - (i2 - i2 / 48 * 48) / 8 * 8) ((i2 - i2 / 48 * 48) / 8)) (aDead g1 (aAt g1 ((i2 - i2 / 48 * 48) - (i2 - i2 / 48 * 48) / 8 * 8) ((i2 - i2 / 48 * 48) / 8))) (by omega) (by omega) hQ hS (hL.sub [3, 4, 2, 1, 0] rfl) hf
    · rw [if_neg c27] at hf
      refine lv_iconst (v := 0) hx hb dL_shows_61 (by decide) ?_
      refine lv_goto (tgt := 71) hx hb dL_shows_62 (by decide) ?_
      exact b71 _ _ _ _ _ g1 si0 (i2 - i2 / 48 * 48) (aAt g1 ((i2 - i2 / 48 * 48) - (i2 - i2 / 48 * 48) / 8 * 8) ((i2 - i2 / 48 * 48) / 8)) 0 (by omega) (by omega) hQ hS (hL.sub [3, 4, 2, 1, 0] rfl) hf
  have b31 : ∀ (cells slots : Nat) (H : Heap) (locs : List Loc) (ls : Array Slot) (g1 : Sg) (i2 : Int32), cells + (106) ≤ 106 → slots + (636) ≤ 636 → bk D x A g1 s H → va_S A s.heap H locs → p_L ls 10 [(0, .ref x), (1, .ref y), (2, .int i2)] → fL_shows_31 k  g1 i2 = some r → W p l e rL_shows s m args below meth c H locs cells slots (MQ below (b_M D x A r) args s 106 636 A) (F0 m 31 ls []) := by
    intro cells slots H locs ls g1 i2 hcc hss hQ hS hL hf
    rw [fL_shows_31] at hf
    refine lv_iconst (v := 0) hx hb dL_shows_31 (by decide) ?_
    exact b32 _ _ _ _ _ g1 i2 0 (by omega) (by omega) hQ hS (hL.sub [0, 1, 2] rfl) hf
  obtain ⟨H, hH⟩ : ∃ z : Heap, z = s.heap := ⟨_, rfl⟩
  have hQ : bk D x A g s H := by rw [hH]; exact hQ
  have hS : va_S A s.heap H [] := by rw [hH]; exact hS
  rw [← hH]
  rw [fL_shows] at hf
  obtain ⟨cells, hc0⟩ : ∃ z : Nat, z = 0 := ⟨_, rfl⟩
  obtain ⟨slots, hs0⟩ : ∃ z : Nat, z = 0 := ⟨_, rfl⟩
  have hcc : cells + 106 ≤ 106 := by omega
  have hss : slots + 636 ≤ 636 := by omega
  show W p l e rL_shows s m args below meth c H [] 0 0 (MQ below (b_M D x A r) args s 106 636 A) (F0 m 0 ls [])
  refine W.widen (k := cells) (n := slots) (by omega) (by omega) ?_
  refine lv_aload_n hx hb dL_shows_0 rfl (lv_at hL.1 0 rfl) ?_
  refine b_rd (va_runV (As := []) (rest := []) hC (mX_damage l D x H.size g) (cwV 0 hts gL_shows_X3_damage rfl rfl rfl (by decide +kernel) ⟨Nat.le_of_ble_eq_true rfl, Nat.le_of_ble_eq_true rfl⟩) (b_preV hK hQ.tt ((hE.kept hS.2.1).narrow fun _ h9 => h9.elim) hca) rfl rfl hL.1.1 rfl (lv_room (Nat.le_of_ble_eq_true rfl)) dL_shows_1 ⟨by show _ ≤ (106 : Nat); omega, by show _ ≤ (636 : Nat); omega⟩) hQ hS (fun H locs hQ hS => ?_)
  refine p_istore_n (lv' := [(3, .int (aDmg g)), (0, .ref x), (1, .ref y), (2, .int i2)]) hx hb dL_shows_4 rfl hL (by decide) rfl (fun ls hL => ?_)
  refine lv_aload_n hx hb dL_shows_5 rfl (lv_at hL.1 1 rfl) ?_
  obtain ⟨y28, e29, hf⟩ := p_b hf
  refine b_mv (va_runV (As := []) (rest := []) hC (b_eqM (mX_show l D x H.size A g) e29) (cwV 0 hts gL_shows_X3_show rfl rfl rfl (by decide +kernel) ⟨Nat.le_of_ble_eq_true rfl, Nat.le_of_ble_eq_true rfl⟩) (b_preV hK hQ (hE.kept hS.2.1) hca) rfl rfl hL.1.1 rfl (lv_room (Nat.le_of_ble_eq_true rfl)) dL_shows_6 ⟨by show _ ≤ (106 : Nat); omega, by show _ ≤ (636 : Nat); omega⟩) hS (fun H locs hQ hS => ?_)
  refine lv_iload_n hx hb dL_shows_9 rfl (lv_at hL.1 0 rfl) ?_
  refine lv_icmp_ne (tgt := 31) hx hb dL_shows_10 (by decide) (fun c30 => ?_) (fun c30 => ?_)
  · rw [if_neg c30] at hf
    exact b31 _ _ _ _ _ y28.2 i2 (by omega) (by omega) hQ hS (hL.sub [1, 2, 3] rfl) hf
  · rw [if_pos c30] at hf
    refine lv_aload_n hx hb dL_shows_13 rfl (lv_at hL.1 1 rfl) ?_
    refine b_rd (va_runV (As := []) (rest := []) hC (mX_damage l D x H.size y28.2) (cwV 0 hts gL_shows_X3_damage rfl rfl rfl (by decide +kernel) ⟨Nat.le_of_ble_eq_true rfl, Nat.le_of_ble_eq_true rfl⟩) (b_preV hK hQ.tt ((hE.kept hS.2.1).narrow fun _ h9 => h9.elim) hca) rfl rfl hL.1.1 rfl (lv_room (Nat.le_of_ble_eq_true rfl)) dL_shows_14 ⟨by show _ ≤ (106 : Nat); omega, by show _ ≤ (636 : Nat); omega⟩) hQ hS (fun H locs hQ hS => ?_)
    refine lv_if_ne (tgt := 31) hx hb dL_shows_17 (by decide) (fun c31 => ?_) (fun c31 => ?_)
    · rw [if_neg c31] at hf
      exact b31 _ _ _ _ _ y28.2 i2 (by omega) (by omega) hQ hS (hL.sub [1, 2, 3] rfl) hf
    · rw [if_pos c31] at hf
      refine lv_aload_n hx hb dL_shows_20 rfl (lv_at hL.1 1 rfl) ?_
      obtain ⟨y32, e33, hf⟩ := p_b hf
      refine b_mv (va_runV (As := []) (rest := []) hC (b_eqM (mX_show l D x H.size A y28.2) e33) (cwV 0 hts gL_shows_X3_show rfl rfl rfl (by decide +kernel) ⟨Nat.le_of_ble_eq_true rfl, Nat.le_of_ble_eq_true rfl⟩) (b_preV hK hQ (hE.kept hS.2.1) hca) rfl rfl hL.1.1 rfl (lv_room (Nat.le_of_ble_eq_true rfl)) dL_shows_21 ⟨by show _ ≤ (106 : Nat); omega, by show _ ≤ (636 : Nat); omega⟩) hS (fun H locs hQ hS => ?_)
      refine lv_if_ne (tgt := 31) hx hb dL_shows_24 (by decide) (fun c34 => ?_) (fun c34 => ?_)
      · rw [if_neg c34] at hf
        exact b31 _ _ _ _ _ y32.2 i2 (by omega) (by omega) hQ hS (hL.sub [1, 2, 3] rfl) hf
      · rw [if_pos c34] at hf
        refine lv_iconst (v := 1) hx hb dL_shows_27 (by decide) ?_
        refine lv_goto (tgt := 32) hx hb dL_shows_28 (by decide) ?_
        exact b32 _ _ _ _ _ y32.2 i2 1 (by omega) (by omega) hQ hS (hL.sub [1, 2, 3] rfl) hf
abbrev rL_ends : Room := { frames := 10, cells := 151362, slots := 908172, locals := 189 }
set_option maxHeartbeats 8000000 in
set_option maxRecDepth 100000 in
theorem kL_ends (l : Launch) (hl : l.stackTraces = false) (D : va_G) (x y sz : Nat) (A : Nat → Prop) (hA : ∀ q, sz ≤ q → A q) (hAy : ¬ A y) (g : Sg) (k : Int32)  (r : Int32 × Sg) (hf : fL_ends k g  = some r) : Met l yL_ends wsL_ends rL_ends (b_N D x y A A sz g k [.ref x, .ref y]) (b_M D x A r) 151362 908172 A := by
  refine Met.ofW (cc := cL_ends) (maxL := 5) (ret := some .boolean) (by decide) rfl ?_
  intro p e s m args below meth c s₁ B hml hv
  obtain ⟨hargs, hK, hQ, hE, hsz, hca, hN⟩ := hv
  have hAz : ∀ q, s.heap.size ≤ q → A q := fun q hq => hA q (by rw [← hsz]; exact hq)
  have hx := B.exec
  have hb := B.bytes
  have hr := B.returns
  have hts := atoms_spec (ws := wsL_ends) B.pre
  have hown : s.vm.findClass RL = some m.cls := findClass_of_methodNamed B.named
  have hlocks := B.notSynchronized
  have hC : CallFix p m c cL_ends 5 s args wsL_ends RL := ⟨hx, hb, hml, hown, hts⟩
  have hS : va_S A s.heap s.heap [] := va_S.rf
  obtain ⟨ls, hls, hL⟩ := p_start (n := 5) hargs (by simp [p_cat, p_ci, p_cr, p_cn]) (Nat.le_of_ble_eq_true rfl)
  show W p l e rL_ends s m args below meth c s.heap [] 0 0 (MQ below (b_M D x A r) args s 151362 908172 A) (entryFrame m args 5)
  rw [hls]
  clear hls
  have hL : p_L ls 5 [(0, .ref x), (1, .ref y)] := hL
  have b96 : ∀ (cells slots : Nat) (H : Heap) (locs : List Loc) (ls : Array Slot) (g1 : Sg) (si0 : Int32), cells + (0) ≤ 151362 → slots + (0) ≤ 908172 → bk D x A g1 s H → va_S A s.heap H locs → p_L ls 5 [] → fL_ends_96 k  g1 si0 = some r → W p l e rL_ends s m args below meth c H locs cells slots (MQ below (b_M D x A r) args s 151362 908172 A) (F0 m 96 ls [.int si0]) := by
    intro cells slots H locs ls g1 si0 hcc hss hQ hS hL hf
    rw [fL_ends_96] at hf
    exact b_rZ hC hr hlocks hQ hS hf (by omega) (by omega) dL_ends_96
  have b95 : ∀ (cells slots : Nat) (H : Heap) (locs : List Loc) (ls : Array Slot) (g1 : Sg), cells + (0) ≤ 151362 → slots + (0) ≤ 908172 → bk D x A g1 s H → va_S A s.heap H locs → p_L ls 5 [] → fL_ends_95 k  g1 = some r → W p l e rL_ends s m args below meth c H locs cells slots (MQ below (b_M D x A r) args s 151362 908172 A) (F0 m 95 ls []) := by
    intro cells slots H locs ls g1 hcc hss hQ hS hL hf
    rw [fL_ends_95] at hf
    refine lv_iconst (v := 0) hx hb dL_ends_95 (by decide) ?_
    exact b96 _ _ _ _ _ g1 0 (by omega) (by omega) hQ hS (hL.sub [] rfl) hf
  have b64 : ∀ (cells slots : Nat) (H : Heap) (locs : List Loc) (ls : Array Slot) (g1 : Sg) (i2 : Int32) (i3 : Int32), cells + (1) ≤ 151362 → slots + (6) ≤ 908172 → bk D x A g1 s H → va_S A s.heap H locs → p_L ls 5 [(0, .ref x), (2, .int i2), (3, .int i3)] → fL_ends_64 k  g1 i2 i3 = some r → W p l e rL_ends s m args below meth c H locs cells slots (MQ below (b_M D x A r) args s 151362 908172 A) (F0 m 64 ls []) := by
    intro cells slots H locs ls g1 i2 i3 hcc hss hQ hS hL hf
    rw [fL_ends_64] at hf
    refine lv_iload_n hx hb dL_ends_64 rfl (lv_at hL.1 1 rfl) ?_
    refine lv_if_eq (tgt := 95) hx hb dL_ends_65 (by decide) (fun c1 => ?_) (fun c1 => ?_)
    · rw [if_pos c1] at hf
      exact b95 _ _ _ _ _ g1 (by omega) (by omega) hQ hS (hL.sub [] rfl) hf
    · rw [if_neg c1] at hf
      refine lv_iload_n hx hb dL_ends_68 rfl (lv_at hL.1 2 rfl) ?_
      refine lv_if_ne (tgt := 95) hx hb dL_ends_69 (by decide) (fun c2 => ?_) (fun c2 => ?_)
      · rw [if_neg c2] at hf
        exact b95 _ _ _ _ _ g1 (by omega) (by omega) hQ hS (hL.sub [] rfl) hf
      · rw [if_pos c2] at hf
        refine lv_aload_n hx hb dL_ends_72 rfl (lv_at hL.1 0 rfl) ?_
        refine b_rd (va_runV (As := []) (rest := []) hC (mX_free l D x H.size g1) (cwV 0 hts gL_ends_X3_free rfl rfl rfl (by decide +kernel) ⟨Nat.le_of_ble_eq_true rfl, Nat.le_of_ble_eq_true rfl⟩) (b_preV hK hQ.tt ((hE.kept hS.2.1).narrow fun _ h9 => h9.elim) hca) rfl rfl hL.1.1 rfl (lv_room (Nat.le_of_ble_eq_true rfl)) dL_ends_73 ⟨by show _ ≤ (151362 : Nat); omega, by show _ ≤ (908172 : Nat); omega⟩) hQ hS (fun H locs hQ hS => ?_)
        refine lv_bipush (v := 24) hx hb dL_ends_76 (by decide) ?_
        refine lv_icmp_ne (tgt := 95) hx hb dL_ends_78 (by decide) (fun c3 => ?_) (fun c3 => ?_)
        · rw [if_neg c3] at hf
          exact b95 _ _ _ _ _ g1 (by omega) (by omega) hQ hS (hL.sub [] rfl) hf
        · rw [if_pos c3] at hf
          refine lv_aload_n hx hb dL_ends_81 rfl (lv_at hL.1 0 rfl) ?_
          refine lv_iconst (v := 3) hx hb dL_ends_82 (by decide) ?_
          refine lv_iconst (v := 3) hx hb dL_ends_83 (by decide) ?_
          refine b_rd (vx_runSW (As := [.ref x, .int 3, .int 3]) (rest := []) hC (wL_at l hl D x H.size g1 3 3) (vx_cwSW 3 hts gL_ends_L_at rfl rfl rfl (by decide +kernel) ⟨Nat.le_of_ble_eq_true rfl, Nat.le_of_ble_eq_true rfl⟩) (b_preS hK hQ.tt ((hE.kept hS.2.1).narrow fun _ h9 => h9.elim) hca) rfl rfl hL.1.1 rfl (lv_room (Nat.le_of_ble_eq_true rfl)) dL_ends_84 ⟨by show _ ≤ (151362 : Nat); omega, by show _ ≤ (908172 : Nat); omega⟩) hQ hS (fun H locs hQ hS => ?_)
          refine lv_iconst (v := -1) hx hb dL_ends_87 (by decide) ?_
          refine lv_icmp_ne (tgt := 95) hx hb dL_ends_88 (by decide) (fun c4 => ?_) (fun c4 => ?_)
          · rw [if_neg c4] at hf
            exact b95 _ _ _ _ _ g1 (by omega) (by omega) hQ hS (hL.sub [] rfl) hf
          · rw [if_pos c4] at hf
            refine lv_iconst (v := 1) hx hb dL_ends_91 (by decide) ?_
            refine lv_goto (tgt := 96) hx hb dL_ends_92 (by decide) ?_
            exact b96 _ _ _ _ _ g1 1 (by omega) (by omega) hQ hS (hL.sub [] rfl) hf
  have b58 : ∀ (K : Sg → Int32 → Int32 → Int32 → Option (Int32 × Sg)) (nd ne : Nat), (∀ (cells slots : Nat) (H : Heap) (locs : List Loc) (ls : Array Slot) (g1 : Sg) (i2 : Int32) (i3 : Int32) (i4 : Int32), cells + (nd) ≤ 151362 → slots + (ne) ≤ 908172 → bk D x A g1 s H → va_S A s.heap H locs → p_L ls 5 [(0, .ref x), (1, .ref y), (2, .int i2), (3, .int i3), (4, .int i4)] → K g1 i2 i3 i4 = some r → W p l e rL_ends s m args below meth c H locs cells slots (MQ below (b_M D x A r) args s 151362 908172 A) (F0 m 10 ls [])) → ∀ (cells slots : Nat) (H : Heap) (locs : List Loc) (ls : Array Slot) (g1 : Sg) (i2 : Int32) (i3 : Int32) (i4 : Int32), cells + (0 + nd) ≤ 151362 → slots + (0 + ne) ≤ 908172 → bk D x A g1 s H → va_S A s.heap H locs → p_L ls 5 [(0, .ref x), (1, .ref y), (2, .int i2), (3, .int i3), (4, .int i4)] → fL_ends_58 k K  g1 i2 i3 i4 = some r → W p l e rL_ends s m args below meth c H locs cells slots (MQ below (b_M D x A r) args s 151362 908172 A) (F0 m 58 ls []) := by
    intro K nd ne ihK
    intro cells slots H locs ls g1 i2 i3 i4 hcc hss hQ hS hL hf
    rw [fL_ends_58] at hf
    refine p_iinc (v := (i4 + 1)) (lv' := [(4, .int (i4 + 1)), (0, .ref x), (1, .ref y), (2, .int i2), (3, .int i3)]) hx hb dL_ends_58 hL (k := 4) rfl rfl (by decide) rfl (fun ls hL => ?_)
    refine lv_goto (tgt := 10) hx hb dL_ends_61 (by decide) ?_
    exact ihK _ _ _ _ _ g1 i2 i3 (i4 + 1) (by omega) (by omega) hQ hS (hL.sub [1, 2, 3, 4, 0] rfl) hf
  have b57 : ∀ (K : Sg → Int32 → Int32 → Int32 → Option (Int32 × Sg)) (nd ne : Nat), (∀ (cells slots : Nat) (H : Heap) (locs : List Loc) (ls : Array Slot) (g1 : Sg) (i2 : Int32) (i3 : Int32) (i4 : Int32), cells + (nd) ≤ 151362 → slots + (ne) ≤ 908172 → bk D x A g1 s H → va_S A s.heap H locs → p_L ls 5 [(0, .ref x), (1, .ref y), (2, .int i2), (3, .int i3), (4, .int i4)] → K g1 i2 i3 i4 = some r → W p l e rL_ends s m args below meth c H locs cells slots (MQ below (b_M D x A r) args s 151362 908172 A) (F0 m 10 ls [])) → ∀ (cells slots : Nat) (H : Heap) (locs : List Loc) (ls : Array Slot) (g1 : Sg) (i3 : Int32) (i4 : Int32) (si0 : Int32), cells + (0 + nd) ≤ 151362 → slots + (0 + ne) ≤ 908172 → bk D x A g1 s H → va_S A s.heap H locs → p_L ls 5 [(0, .ref x), (1, .ref y), (3, .int i3), (4, .int i4)] → fL_ends_57 k K  g1 i3 i4 si0 = some r → W p l e rL_ends s m args below meth c H locs cells slots (MQ below (b_M D x A r) args s 151362 908172 A) (F0 m 57 ls [.int si0]) := by
    intro K nd ne ihK
    intro cells slots H locs ls g1 i3 i4 si0 hcc hss hQ hS hL hf
    rw [fL_ends_57] at hf
    refine p_istore_n (lv' := [(2, .int si0), (0, .ref x), (1, .ref y), (3, .int i3), (4, .int i4)]) hx hb dL_ends_57 rfl hL (by decide) rfl (fun ls hL => ?_)
    exact b58 K nd ne ihK _ _ _ _ _ g1 si0 i3 i4 (by omega) (by omega) hQ hS (hL.sub [1, 2, 0, 3, 4] rfl) hf
  have b56 : ∀ (K : Sg → Int32 → Int32 → Int32 → Option (Int32 × Sg)) (nd ne : Nat), (∀ (cells slots : Nat) (H : Heap) (locs : List Loc) (ls : Array Slot) (g1 : Sg) (i2 : Int32) (i3 : Int32) (i4 : Int32), cells + (nd) ≤ 151362 → slots + (ne) ≤ 908172 → bk D x A g1 s H → va_S A s.heap H locs → p_L ls 5 [(0, .ref x), (1, .ref y), (2, .int i2), (3, .int i3), (4, .int i4)] → K g1 i2 i3 i4 = some r → W p l e rL_ends s m args below meth c H locs cells slots (MQ below (b_M D x A r) args s 151362 908172 A) (F0 m 10 ls [])) → ∀ (cells slots : Nat) (H : Heap) (locs : List Loc) (ls : Array Slot) (g1 : Sg) (i3 : Int32) (i4 : Int32), cells + (0 + nd) ≤ 151362 → slots + (0 + ne) ≤ 908172 → bk D x A g1 s H → va_S A s.heap H locs → p_L ls 5 [(0, .ref x), (1, .ref y), (3, .int i3), (4, .int i4)] → fL_ends_56 k K  g1 i3 i4 = some r → W p l e rL_ends s m args below meth c H locs cells slots (MQ below (b_M D x A r) args s 151362 908172 A) (F0 m 56 ls []) := by
    intro K nd ne ihK
    intro cells slots H locs ls g1 i3 i4 hcc hss hQ hS hL hf
    rw [fL_ends_56] at hf
    refine lv_iconst (v := 0) hx hb dL_ends_56 (by decide) ?_
    exact b57 K nd ne ihK _ _ _ _ _ g1 i3 i4 0 (by omega) (by omega) hQ hS (hL.sub [0, 1, 2, 3] rfl) hf
  have b10 : ∀ n : Nat, ∀ (cells slots : Nat) (H : Heap) (locs : List Loc) (ls : Array Slot) (g1 : Sg) (i2 : Int32) (i3 : Int32) (i4 : Int32), cells + (n * 3089 + (1)) ≤ 151362 → slots + (n * 18534 + (6)) ≤ 908172 → bk D x A g1 s H → va_S A s.heap H locs → p_L ls 5 [(0, .ref x), (1, .ref y), (2, .int i2), (3, .int i3), (4, .int i4)] → fL_ends_10 k n g1 i2 i3 i4 = some r → W p l e rL_ends s m args below meth c H locs cells slots (MQ below (b_M D x A r) args s 151362 908172 A) (F0 m 10 ls []) := by
    intro n
    induction n with
    | zero =>
      intro cells slots H locs ls g1 i2 i3 i4 hcc hss hQ hS hL hf
      simp [fL_ends_10] at hf
    | succ n ih =>
      intro cells slots H locs ls g1 i2 i3 i4 hcc hss hQ hS hL hf
      rw [fL_ends_10] at hf
      refine lv_iload hx hb dL_ends_10 (lv_at hL.1 4 rfl) ?_
      refine lv_aload_n hx hb dL_ends_12 rfl (lv_at hL.1 1 rfl) ?_
      refine lv_iconst (v := 0) hx hb dL_ends_13 (by decide) ?_
      refine b_n0 hx hb hN hAy hS dL_ends_14 ?_
      refine lv_icmp_ge (tgt := 64) hx hb dL_ends_15 (by decide) (fun c5 => ?_) (fun c5 => ?_)
      · rw [if_pos c5] at hf
        exact b64 _ _ _ _ _ g1 i2 i3 (by omega) (by omega) hQ hS (hL.sub [0, 2, 3] rfl) hf
      · rw [if_neg c5] at hf
        refine lv_iload_n hx hb dL_ends_18 rfl (lv_at hL.1 2 rfl) ?_
        refine lv_if_eq (tgt := 64) hx hb dL_ends_19 (by decide) (fun c6 => ?_) (fun c6 => ?_)
        · rw [if_pos c6] at hf
          exact b64 _ _ _ _ _ g1 i2 i3 (by omega) (by omega) hQ hS (hL.sub [0, 2, 3] rfl) hf
        · rw [if_neg c6] at hf
          refine lv_aload_n hx hb dL_ends_22 rfl (lv_at hL.1 0 rfl) ?_
          refine lv_iload hx hb dL_ends_23 (lv_at hL.1 4 rfl) ?_
          refine b_rd (vx_runSW (As := [.ref x, .int i4]) (rest := []) hC (wL_place l hl D x H.size g1 i4) (vx_cwSW 2 hts gL_ends_L_place rfl rfl rfl (by decide +kernel) ⟨Nat.le_of_ble_eq_true rfl, Nat.le_of_ble_eq_true rfl⟩) (b_preS hK hQ.tt ((hE.kept hS.2.1).narrow fun _ h9 => h9.elim) hca) rfl rfl hL.1.1 rfl (lv_room (Nat.le_of_ble_eq_true rfl)) dL_ends_25 ⟨by show _ ≤ (151362 : Nat); omega, by show _ ≤ (908172 : Nat); omega⟩) hQ hS (fun H locs hQ hS => ?_)
          refine lv_if_lt (tgt := 58) hx hb dL_ends_28 (by decide) (fun c7 => ?_) (fun c7 => ?_)
          · rw [if_pos c7] at hf
            exact b58 (fL_ends_10 k n) (n * 3089 + (1)) (n * 18534 + (6)) ih _ _ _ _ _ g1 i2 i3 i4 (by omega) (by omega) hQ hS (hL.sub [0, 1, 2, 3, 4] rfl) hf
          · rw [if_neg c7] at hf
            refine p_iinc (v := (i3 + (-1))) (lv' := [(3, .int (i3 + (-1))), (0, .ref x), (1, .ref y), (2, .int i2), (4, .int i4)]) hx hb dL_ends_31 hL (k := 3) rfl rfl (by decide) rfl (fun ls hL => ?_)
            refine lv_aload_n hx hb dL_ends_34 rfl (lv_at hL.1 1 rfl) ?_
            refine lv_iload hx hb dL_ends_35 (lv_at hL.1 4 rfl) ?_
            obtain ⟨y8, e9, hf⟩ := p_b hf
            refine b_mv (vx_runSW (As := [.ref x, .int i4]) (rest := []) hC (b_eqM (wL_closes l hl D x H.size A (fun q hq => hAz q (Nat.le_trans hS.1 hq)) g1 i4) e9) (vx_cwSW 2 hts gL_ends_L_closes rfl rfl rfl (by decide +kernel) ⟨Nat.le_of_ble_eq_true rfl, Nat.le_of_ble_eq_true rfl⟩) (b_preS hK hQ (hE.kept hS.2.1) hca) rfl rfl hL.1.1 rfl (lv_room (Nat.le_of_ble_eq_true rfl)) dL_ends_37 ⟨by show _ ≤ (151362 : Nat); omega, by show _ ≤ (908172 : Nat); omega⟩) hS (fun H locs hQ hS => ?_)
            refine lv_iload_n hx hb dL_ends_40 rfl (lv_at hL.1 0 rfl) ?_
            refine lv_icmp_ne (tgt := 56) hx hb dL_ends_41 (by decide) (fun c10 => ?_) (fun c10 => ?_)
            · rw [if_neg c10] at hf
              exact b56 (fL_ends_10 k n) (n * 3089 + (1)) (n * 18534 + (6)) ih _ _ _ _ _ y8.2 (i3 + (-1)) i4 (by omega) (by omega) hQ hS (hL.sub [1, 2, 0, 4] rfl) hf
            · rw [if_pos c10] at hf
              refine lv_aload_n hx hb dL_ends_44 rfl (lv_at hL.1 1 rfl) ?_
              refine lv_aload_n hx hb dL_ends_45 rfl (lv_at hL.1 2 rfl) ?_
              obtain ⟨v11, e12, hf⟩ := p_b hf
              refine b_rd (va_runS (As := [.ref x, .ref y]) (rest := []) hC (kL_holds l hl D x y H.size y8.2 k v11 e12) (cwS 2 hts gL_ends_L_holds rfl rfl rfl (by decide +kernel) ⟨Nat.le_of_ble_eq_true rfl, Nat.le_of_ble_eq_true rfl⟩) (b_preN hK hQ.tt ((hE.kept hS.2.1).narrow fun _ h9 => h9.elim) hca (hN.kept (hS.2.1 y hN.lt hAy))) rfl rfl hL.1.1 rfl (lv_room (Nat.le_of_ble_eq_true rfl)) dL_ends_46 ⟨by show _ ≤ (151362 : Nat); omega, by show _ ≤ (908172 : Nat); omega⟩) hQ hS (fun H locs hQ hS => ?_)
              replace hcc := hcc
              refine lv_if_eq (tgt := 56) hx hb dL_ends_49 (by decide) (fun c13 => ?_) (fun c13 => ?_)
              · rw [if_pos c13] at hf
                exact b56 (fL_ends_10 k n) (n * 3089 + (1)) (n * 18534 + (6)) ih _ _ _ _ _ y8.2 (i3 + (-1)) i4 (by omega) (by omega) hQ hS (hL.sub [1, 2, 0, 4] rfl) hf
              · rw [if_neg c13] at hf
                refine lv_iconst (v := 1) hx hb dL_ends_52 (by decide) ?_
                refine lv_goto (tgt := 57) hx hb dL_ends_53 (by decide) ?_
                exact b57 (fL_ends_10 k n) (n * 3089 + (1)) (n * 18534 + (6)) ih _ _ _ _ _ y8.2 (i3 + (-1)) i4 1 (by omega) (by omega) hQ hS (hL.sub [1, 2, 0, 4] rfl) hf
  obtain ⟨H, hH⟩ : ∃ z : Heap, z = s.heap := ⟨_, rfl⟩
  have hQ : bk D x A g s H := by rw [hH]; exact hQ
  have hS : va_S A s.heap H [] := by rw [hH]; exact hS
  rw [← hH]
  rw [fL_ends] at hf
  obtain ⟨cells, hc0⟩ : ∃ z : Nat, z = 0 := ⟨_, rfl⟩
  obtain ⟨slots, hs0⟩ : ∃ z : Nat, z = 0 := ⟨_, rfl⟩
  have hcc : cells + 151362 ≤ 151362 := by omega
  have hss : slots + 908172 ≤ 908172 := by omega
  show W p l e rL_ends s m args below meth c H [] 0 0 (MQ below (b_M D x A r) args s 151362 908172 A) (F0 m 0 ls [])
  refine W.widen (k := cells) (n := slots) (by omega) (by omega) ?_
  refine lv_iconst (v := 1) hx hb dL_ends_0 (by decide) ?_
  refine p_istore_n (lv' := [(2, .int 1), (0, .ref x), (1, .ref y)]) hx hb dL_ends_1 rfl hL (by decide) rfl (fun ls hL => ?_)
  refine lv_aload_n hx hb dL_ends_2 rfl (lv_at hL.1 1 rfl) ?_
  refine b_rd (va_runV (As := []) (rest := []) hC (mX_windows l D x H.size g) (cwV 0 hts gL_ends_X3_windows rfl rfl rfl (by decide +kernel) ⟨Nat.le_of_ble_eq_true rfl, Nat.le_of_ble_eq_true rfl⟩) (b_preV hK hQ.tt ((hE.kept hS.2.1).narrow fun _ h9 => h9.elim) hca) rfl rfl hL.1.1 rfl (lv_room (Nat.le_of_ble_eq_true rfl)) dL_ends_3 ⟨by show _ ≤ (151362 : Nat); omega, by show _ ≤ (908172 : Nat); omega⟩) hQ hS (fun H locs hQ hS => ?_)
  refine p_istore_n (lv' := [(3, .int (aWins g)), (2, .int 1), (0, .ref x), (1, .ref y)]) hx hb dL_ends_6 rfl hL (by decide) rfl (fun ls hL => ?_)
  refine lv_iconst (v := 0) hx hb dL_ends_7 (by decide) ?_
  refine p_istore (lv' := [(4, .int 0), (3, .int (aWins g)), (2, .int 1), (0, .ref x), (1, .ref y)]) hx hb dL_ends_8 hL (by decide) rfl (fun ls hL => ?_)
  exact b10 49 _ _ _ _ _ g 1 (aWins g) 0 (by omega) (by omega) hQ hS (hL.sub [3, 4, 2, 1, 0] rfl) hf
