/-! THE LAW: its arms (d); text by wip/whole/gen_arms.py -/
set_option maxHeartbeats 4000000 in
set_option maxRecDepth 100000 in
theorem lb_arm_open {p : Program} {l : Launch} {e : Env} {s : State} {m : MethodId} {below : List Frame} {meth : Method} {c : Code} {H : Heap} {locs : List Loc} {cells slots b L x mo o i : Nat} {ls : Array Slot} {D : va_G} {xs : Nat → Int32} (S : lb_S p l s m meth c D b L xs) (hc : cells + 3 ≤ 601024) (hs : slots + 25 ≤ 7293033) (hI : lb_I D s x mo o H) (hS : va_S (lb_B s) s.heap H locs) (hl : lv_has ls 7 (lb_l b x mo o (nI i))) (hi : i + 8 ≤ L)
    (K : lb_K p l e s m below meth c D b x mo o (cells + 3) (slots + 25) i) : W p l e room_1 s m #[Value.ref b] below meth c H locs cells slots (lw_Z below #[Value.ref b] s) (F0 m 132 ls []) := by
  obtain ⟨I, E, P, Ls, n, adC, adM, adO, f, hR, ⟨rfl, rfl, rfl⟩, hQ⟩ := hI
  have hCF := S.1
  have hK := S.2.2.1
  have hx := hCF.1
  have hb := hCF.2.1
  have hts := hCF.2.2.2.2
  refine lv_aload_n hx hb dL_law_132 rfl (lv_at hl 1 rfl) ?_
  refine lb_rd (j := 1) S hS (lv_at hl 0 rfl) (lv_at hl 4 rfl) hi (by decide) (by decide) dL_law_133 dL_law_134 dL_law_136 dL_law_137 dL_law_138 ?_
  refine lb_rd (j := 2) S hS (lv_at hl 0 rfl) (lv_at hl 4 rfl) hi (by decide) (by decide) dL_law_139 dL_law_140 dL_law_142 dL_law_143 dL_law_144 ?_
  refine lb_rd (j := 3) S hS (lv_at hl 0 rfl) (lv_at hl 4 rfl) hi (by decide) (by decide) dL_law_145 dL_law_146 dL_law_148 dL_law_149 dL_law_150 ?_
  refine lb_rd (j := 4) S hS (lv_at hl 0 rfl) (lv_at hl 4 rfl) hi (by decide) (by decide) dL_law_151 dL_law_152 dL_law_154 dL_law_155 dL_law_156 ?_
  refine lb_rd (j := 5) S hS (lv_at hl 0 rfl) (lv_at hl 4 rfl) hi (by decide) (by decide) dL_law_157 dL_law_158 dL_law_160 dL_law_161 dL_law_162 ?_
  refine lb_bz S dL_law_163 dL_law_166 dL_law_167 dL_law_170 ?_
  refine lb_rdb (j := 6) S hS (lv_at hl 0 rfl) (lv_at hl 4 rfl) hi (by decide) (by decide) dL_law_171 dL_law_172 dL_law_174 dL_law_176 dL_law_177 ?_
  refine lb_rdb (j := 7) S hS (lv_at hl 0 rfl) (lv_at hl 4 rfl) hi (by decide) (by decide) dL_law_178 dL_law_179 dL_law_181 dL_law_183 dL_law_184 ?_
  refine lv_aload_n hx hb dL_law_185 rfl (lv_at hl 3 rfl) ?_
  have X := X_open hR (xs (i + 1)) (xs (i + 2)) (xs (i + 3)) (xs (i + 4)) (lb_z (xs (i + 5))) (xs (i + 6)) (xs (i + 7)) (lb_z2 _)
  obtain ⟨bv, J, E1, P1, L1, n1, hm, hR1, hcr⟩ := X
  have go : ∀ (u : Nat → Nat) (f1 : Nat → Int64) (H1 : Heap) (locs1 : List Loc), u 0 = adC 0 → (J 0 0 = 0 → f1 0 = bv.toInt64) → lb_Q D s u adM adO (hC J E1 P1 n1) I f1 H1 → va_S (lb_B s) s.heap H1 locs1 → W p l e room_1 s m #[Value.ref b] below meth c H1 locs1 (cells + 3) (slots + 25) (lw_Z below #[Value.ref b] s) (F0 m 189 ls [.int (J 0 0)]) := by
    intro u f1 H1 locs1 hu hf1 hQ1 hS1
    replace hS := hS1
    rw [← hu] at hl K
    refine lv_istore (lv' := (5, .int (J 0 0)) :: lb_l b (u 0) (adM 0) (adO 0) (nI i)) hx hb dL_law_189 hl (by decide) rfl (fun ls hl => ?_)
    refine lv_aload_n hx hb dL_law_191 rfl (lv_at hl 3 rfl) ?_
    refine lb_rd (j := 1) S hS (lv_at hl 1 rfl) (lv_at hl 5 rfl) hi (by decide) (by decide) dL_law_192 dL_law_193 dL_law_195 dL_law_196 dL_law_197 ?_
    refine lb_rd (j := 2) S hS (lv_at hl 1 rfl) (lv_at hl 5 rfl) hi (by decide) (by decide) dL_law_198 dL_law_199 dL_law_201 dL_law_202 dL_law_203 ?_
    refine lb_rd (j := 3) S hS (lv_at hl 1 rfl) (lv_at hl 5 rfl) hi (by decide) (by decide) dL_law_204 dL_law_205 dL_law_207 dL_law_208 dL_law_209 ?_
    refine lb_rd (j := 4) S hS (lv_at hl 1 rfl) (lv_at hl 5 rfl) hi (by decide) (by decide) dL_law_210 dL_law_211 dL_law_213 dL_law_214 dL_law_215 ?_
    refine lb_rd (j := 5) S hS (lv_at hl 1 rfl) (lv_at hl 5 rfl) hi (by decide) (by decide) dL_law_216 dL_law_217 dL_law_219 dL_law_220 dL_law_221 ?_
    refine lb_bz S dL_law_222 dL_law_225 dL_law_226 dL_law_229 ?_
    refine lb_rdb (j := 6) S hS (lv_at hl 1 rfl) (lv_at hl 5 rfl) hi (by decide) (by decide) dL_law_230 dL_law_231 dL_law_233 dL_law_235 dL_law_236 ?_
    refine lb_rdb (j := 7) S hS (lv_at hl 1 rfl) (lv_at hl 5 rfl) hi (by decide) (by decide) dL_law_237 dL_law_238 dL_law_240 dL_law_242 dL_law_243 ?_
    refine lb_cMi (va_runV (As := [.int (xs (i + 1)), .int (xs (i + 2)), .int (xs (i + 3)), .int (xs (i + 4)), .int (lb_z (xs (i + 5))), .int (xs (i + 6)), .int (xs (i + 7))]) (rest := []) hCF (kX4_open l D adM (hM I) 0 (xs (i + 1)) (xs (i + 2)) (xs (i + 3)) (xs (i + 4)) (lb_z (xs (i + 5))) (xs (i + 6)) (xs (i + 7)) (bv, hM J) hm) (cwV 7 hts gL_law_X4_open rfl rfl rfl (by decide +kernel) ⟨Nat.le_of_ble_eq_true rfl, Nat.le_of_ble_eq_true rfl⟩) (p_preV hK hQ1.1.2.1.self (hM_ob I) rfl) rfl rfl hl.1 rfl (lv_room (Nat.le_of_ble_eq_true rfl)) dL_law_244 ⟨by show cells + 3 + 0 ≤ 601024; omega, by show slots + 25 + 0 ≤ 7293033; omega⟩) hQ1 hS fun H2 locs2 hQ2 hS2 => ?_
    refine lv_istore (lv' := (6, .int bv) :: (5, .int (J 0 0)) :: lb_l b (u 0) (adM 0) (adO 0) (nI i)) hx hb dL_law_247 hl (by decide) rfl (fun ls hl => ?_)
    exact lb_tail S (by show cells + 3 ≤ 601024; omega) (by show slots + 25 ≤ 7293033; omega) hR1 hQ2 ⟨rfl, rfl, rfl⟩ hS2 hl rfl hf1 dL_law_249 dL_law_250 dL_law_253 dL_law_255 dL_law_260 dL_law_262 dL_law_265 dL_law_266 dL_law_267 dL_law_268 dL_law_270 dL_law_271 dL_law_272 dL_law_277 (by decide) K (by omega) (by omega)
  have hE := (lb_E S hS).narrow (lb_AN hQ.1.1 hS)
  have hca := S.2.2.2.2.1
  rcases hcr with ⟨h0, hq⟩ | ⟨Ex, g, hmem, hq, hsub⟩
  · refine lb_cM (vx_runSW (As := [.ref (adC 0), .int (xs (i + 1)), .int (xs (i + 2)), .int (xs (i + 3)), .int (xs (i + 4)), .int (lb_z (xs (i + 5))), .int (xs (i + 6)), .int (xs (i + 7)), .ref (adO 0)]) (rest := []) hCF (wL_open l S.2.1 D adC adO H.size (hC I E P n) f ((hQ.2.2.1.notN hQ.1.2.2 rfl) 0 _ (hO_0 f)) (xs (i + 1)) (xs (i + 2)) (xs (i + 3)) (xs (i + 4)) (lb_z (xs (i + 5))) (xs (i + 6)) (xs (i + 7)) (wa n) (ta n) () (.inr (bv, hC J E1 P1 n1)) hq hC_ob 1 (fun E9 g9 h9 => by cases h9)) (vx_cwSW 9 hts gL_law_L_open rfl rfl rfl (by decide +kernel) ⟨Nat.le_of_ble_eq_true rfl, Nat.le_of_ble_eq_true rfl⟩) (lb_pPM hK (hQ.1.1.mono fun q e he _ => Or.inl ⟨q, e, he, rfl⟩) hE rfl hQ.1.2.2.tt hca) rfl rfl hl.1 rfl (lv_room (Nat.le_of_ble_eq_true rfl)) dL_law_186 ⟨by show cells + 3 ≤ 601024; omega, by show slots + 25 ≤ 7293033; omega⟩) hQ hS (lb_AN hQ.1.1 hS) (hQ.2.1.notN hQ.1.2.1 rfl) ((hQ.2.2.1.notN hQ.1.2.2 rfl) 0 _ (hO_0 f)) fun u H1 locs1 hu hQ1 hS1 => ?_
    have k := go u (w_fM f (.inr (bv, hC J E1 P1 n1))) H1 locs1 hu (fun _ => (if_pos rfl : vp_updL f 0 bv.toInt64 0 = bv.toInt64)) hQ1 hS1
    rw [h0] at k
    exact k
  · have hx1 : (Ex = xIA ∧ J 0 0 = 1) ∨ (Ex = xIS ∧ J 0 0 = 2) := by simpa using hmem
    have hj : J 0 0 = J 0 0 := rfl
    refine lb_cM (vx_runSW (As := [.ref (adC 0), .int (xs (i + 1)), .int (xs (i + 2)), .int (xs (i + 3)), .int (xs (i + 4)), .int (lb_z (xs (i + 5))), .int (xs (i + 6)), .int (xs (i + 7)), .ref (adO 0)]) (rest := []) hCF (wL_open l S.2.1 D adC adO H.size (hC I E P n) f ((hQ.2.2.1.notN hQ.1.2.2 rfl) 0 _ (hO_0 f)) (xs (i + 1)) (xs (i + 2)) (xs (i + 3)) (xs (i + 4)) (lb_z (xs (i + 5))) (xs (i + 6)) (xs (i + 7)) (wa n) (ta n) () (.inl (Ex, g)) hq hC_ob (J 0 0) (fun E9 g9 h9 => by cases h9; exact hx1)) (vx_cwSW 9 hts gL_law_L_open rfl rfl rfl (by decide +kernel) ⟨Nat.le_of_ble_eq_true rfl, Nat.le_of_ble_eq_true rfl⟩) (lb_pPM hK (hQ.1.1.mono fun q e he _ => Or.inl ⟨q, e, he, rfl⟩) hE rfl hQ.1.2.2.tt hca) rfl rfl hl.1 rfl (lv_room (Nat.le_of_ble_eq_true rfl)) dL_law_186 ⟨by show cells + 3 ≤ 601024; omega, by show slots + 25 ≤ 7293033; omega⟩) hQ hS (lb_AN hQ.1.1 hS) (hQ.2.1.notN hQ.1.2.1 rfl) ((hQ.2.2.1.notN hQ.1.2.2 rfl) 0 _ (hO_0 f)) fun u H1 locs1 hu hQ1 hS1 => ?_
    have k := go u f H1 locs1 hu (fun h => by rcases hx1 with ⟨-, q⟩ | ⟨-, q⟩ <;> exact absurd (q.symm.trans h) (by decide)) ⟨⟨hQ1.1.1.sub hsub hR1.1.2.2.2, hQ1.1.2⟩, hQ1.2.1.fewer hsub, hQ1.2.2.1.fewer hsub, hQ1.2.2.2⟩ hS1
    exact k
