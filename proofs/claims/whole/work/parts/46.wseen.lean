/-! THE LAW: the wrapper of isSeen -/
abbrev rL_isSeen : Room := { frames := 8, cells := 1, slots := 6, locals := 133 }
set_option maxHeartbeats 4000000 in
set_option maxRecDepth 100000 in
theorem wL_isSeen (l : Launch) (hl : l.stackTraces = false) (D : va_G) (adC adO : Nat → Nat) (A : Nat → Prop) (sz : Nat) (h : PH) (f : Nat → Int64) (x1 : Int32) (o1 : Unit) (r : String ⊕ Int32) (hf : fX3_isSeen h 0 x1 = some r) (ho : p_ob h 0 3 = some o1) (hE9 : ∀ E, r = .inl E → E = xIO) (hz9 : ∀ v, r = .inr v → v = 0 ∨ v = 1) : Met l yL_isSeen wsL_isSeen rL_isSeen (w_P D adC adO A sz h f [.ref (adC 0), .int x1, .ref (adO 0)]) (w_R D adO r f) 1 6 (fun q => q = adO 0) := by
  refine p_ofWH (cc := cL_isSeen) (maxL := 4) (ret := (some .int)) (hh := [(0, 16, 19, 21)]) (by decide) rfl ?_
  intro p e s m args below meth c s₁ B hml htab hv
  obtain ⟨hargs, hK, hQ, hE, hsz, hO1, hcast⟩ := hv
  have hx := B.exec
  have hb := B.bytes
  have hr := B.returns
  have hts := atoms_spec (ws := wsL_isSeen) B.pre
  have hown : s.vm.findClass RL = some m.cls := findClass_of_methodNamed B.named
  have hlocks := B.notSynchronized
  have hC : CallFix p m c cL_isSeen 4 s args wsL_isSeen RL := ⟨hx, hb, hml, hown, hts⟩
  have hS : va_S (fun q => q = adO 0) s.heap s.heap [] := va_S.rf
  have hlnk : (Cond.classLink RL 21 xIO).before args s = true := hts _ (by decide +kernel)
  obtain ⟨ls, hls, hL⟩ := p_start (n := 4) hargs (by simp [p_cat, p_ci, p_cr, p_cn]) (Nat.le_of_ble_eq_true rfl)
  show W p l e rL_isSeen s m args below meth c s.heap [] 0 0 (MQ below (w_R D adO r f) args s 1 6 (fun q => q = adO 0)) (entryFrame m args 4)
  rw [hls]
  clear hls
  have hL : p_L ls 4 [(0, .ref (adC 0)), (1, .int x1), (2, .ref (adO 0))] := hL
  refine lv_aload_n hx hb dL_isSeen_0 rfl (lv_at hL.1 2 rfl) ?_
  refine lv_iconst hx hb dL_isSeen_1 (v := 0) rfl ?_
  refine lv_aload_n hx hb dL_isSeen_2 rfl (lv_at hL.1 0 rfl) ?_
  refine lv_iload_n hx hb dL_isSeen_3 rfl (lv_at hL.1 1 rfl) ?_
  refine vx_calli (vx_runV (As := [.int x1]) (rest := [.int 0, .ref (adO 0)]) hC (kX3_isSeen l hl D adC A sz h 0 x1 r hf) (cwV 1 hts gL_isSeen_X3_isSeen rfl rfl rfl (by decide +kernel) ⟨Nat.le_of_ble_eq_true rfl, Nat.le_of_ble_eq_true rfl⟩) (p_preVE hK hQ.tt hE hsz ho rfl) rfl rfl hL.1.1 rfl (lv_room (Nat.le_of_ble_eq_true rfl)) dL_isSeen_4 ⟨Nat.le_of_ble_eq_true rfl, Nat.le_of_ble_eq_true rfl⟩) hS (fun _ _ q => q.elim) (fun _ q => q.elim) (fun _ _ q => q.elim) ?_ ?_
  · intro E ce q9 u t H1 locs1 ht hvm _ hEr hz hk hS1 hcell hcv hcl
    have hE1 := hE9 E hEr
    subst hE1
    have hO2 : p_Q D adO p_tt s (hO f) H1 := hO1.kept fun x hx _ => hk x hx (fun q => q)
    refine vx_catch hown [] _ [] (htab.trans rfl) (fun z hz => by cases hz) (by decide) (by decide) hlnk (hcast.use rfl) hcell hcv hcl ?_
    refine lv_astore_n hx hb dL_isSeen_19 rfl hL.1 (by decide) rfl fun ls' h1 => ?_
    refine lv_iconst hx hb dL_isSeen_20 (v := 1) rfl ?_
    exact W.widen (Nat.le_of_ble_eq_true rfl) (Nat.le_of_ble_eq_true rfl) (W.iret hx hb hr (fun t ht hW => ⟨⟨1, (), rfl, by rw [hEr]; rfl, by rw [hEr]; show p_Q D adO p_tt t (hO f) t.heap; rw [ht]; exact hO2.moved hW.alike⟩, hS1.F ht⟩) hS1.2.2 dL_isSeen_21 hlocks)
  · intro v u t H1 locs1 ht hvm hEr _ hz hk hS1
    have hO2 : p_Q D adO p_tt s (hO f) H1 := hO1.kept fun x hx _ => hk x hx (fun q => q)
    have fin : ∀ x : Int64, x = v.toInt64 → W p l e rL_isSeen s m args below meth c H1 locs1 (0 + 1) (0 + 6) (MQ below (w_R D adO r f) args s 1 6 (fun q => q = adO 0)) (F0 m 15 ls [.long x, .int 0, .ref (adO 0)]) := fun x hx1 => by
      refine p_last hC hO2 hS1 rfl dL_isSeen_15 fun H2 locs2 hO3 oq hS2 => ?_
      refine lv_goto hx hb dL_isSeen_16 (tgt := 22) rfl ?_
      refine lv_iconst hx hb dL_isSeen_22 (v := 0) rfl ?_
      exact W.widen (Nat.le_of_ble_eq_true rfl) (Nat.le_of_ble_eq_true rfl) (W.iret hx hb hr (fun t ht hW => ⟨⟨0, (), rfl, by rw [hEr]; rfl, by rw [hEr]; show p_Q D adO p_tt t (hO (vp_updL f 0 v.toInt64)) t.heap; rw [ht, ← hx1]; exact hO3.moved hW.alike⟩, hS2.F ht⟩) hS2.2.2 dL_isSeen_23 hlocks)
    refine lv_if_eq (tgt := 14) hx hb dL_isSeen_7 (by decide) (fun c1 => ?_) (fun c1 => ?_)
    · refine lv_lconst hx hb dL_isSeen_14 (v := 0) rfl ?_
      exact fin 0 (by rw [c1]; rfl)
    · refine lv_lconst hx hb dL_isSeen_10 (v := 1) rfl ?_
      refine lv_goto hx hb dL_isSeen_11 (tgt := 15) rfl ?_
      exact fin 1 (by rw [(hz9 v hEr).resolve_left c1]; rfl)
