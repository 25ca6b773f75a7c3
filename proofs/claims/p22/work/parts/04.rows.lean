section PR
variable {p : Program} {l : Launch} {e : Env} {R : Room} {s : State} {m : MethodId} {args : Array Value} {below : List Frame} {meth : Method} {c : Code} {H : Heap} {locs : List Loc} {cells slots : Nat} {Q : State → Prop}
variable {cc : ByteArray} {pc nL : Nat} {ls : Array Slot} {rest : List Value} {D : va_G} {ad : Nat → Nat} {A B : Nat → Prop} {h : PH} {Ts : List Cond} {own : String}
/-! locals -/
theorem p_istore_n (hexec : p.tables.exec = Jvm.exec) (hb : c.code = cc) {k : Fin 4} {i : Nat} {x : Int32} {lv lv' : List (Nat × Value)} (hdg : decode cc pc = .ok (.istore_n k, 1)) (hi : (k : Nat) = i) (hL : p_L ls nL lv) (hn : i < nL) (hl : (i, Value.int x) :: lv.filter (fun q => !(q.1 == i)) = lv')
    (kk : ∀ ls' : Array Slot, p_L ls' nL lv' → W p l e R s m args below meth c H locs cells slots Q (F0 m (pc + 1) ls' rest)) : W p l e R s m args below meth c H locs cells slots Q (F0 m pc ls (.int x :: rest)) :=
  lv_istore_n hexec hb hdg hi hL.1 hn rfl fun ls' h1 => kk ls' (p_Lof hL.2 rfl hl h1)
theorem p_istore (hexec : p.tables.exec = Jvm.exec) (hb : c.code = cc) {i : Nat} {x : Int32} {lv lv' : List (Nat × Value)} (hdg : decode cc pc = .ok (.istore i, 2)) (hL : p_L ls nL lv) (hn : i < nL) (hl : (i, Value.int x) :: lv.filter (fun q => !(q.1 == i)) = lv')
    (kk : ∀ ls' : Array Slot, p_L ls' nL lv' → W p l e R s m args below meth c H locs cells slots Q (F0 m (pc + 2) ls' rest)) : W p l e R s m args below meth c H locs cells slots Q (F0 m pc ls (.int x :: rest)) :=
  lv_istore hexec hb hdg hL.1 hn rfl fun ls' h1 => kk ls' (p_Lof hL.2 rfl hl h1)
theorem p_iinc (hexec : p.tables.exec = Jvm.exec) (hb : c.code = cc) {i k : Nat} {n : Int} {x v : Int32} {lv lv' : List (Nat × Value)} (hdg : decode cc pc = .ok (.iinc i n, 3)) (hL : p_L ls nL lv) (hk : lv[k]? = some (i, .int x)) (hv : x + Int32.ofInt n = v) (hn : i < nL) (hl : (i, Value.int v) :: lv.filter (fun q => !(q.1 == i)) = lv')
    (kk : ∀ ls' : Array Slot, p_L ls' nL lv' → W p l e R s m args below meth c H locs cells slots Q (F0 m (pc + 3) ls' rest)) : W p l e R s m args below meth c H locs cells slots Q (F0 m pc ls rest) :=
  lv_iinc hexec hb hdg hL.1 hk hv hn rfl fun ls' h1 => kk ls' (p_Lof hL.2 rfl hl h1)
theorem p_astore_n (hexec : p.tables.exec = Jvm.exec) (hb : c.code = cc) {k : Fin 4} {i : Nat} {o : Option Nat} {lv lv' : List (Nat × Value)} (hdg : decode cc pc = .ok (.astore_n k, 1)) (hi : (k : Nat) = i) (hL : p_L ls nL lv) (hn : i < nL) (hl : (i, va_rf o) :: lv.filter (fun q => !(q.1 == i)) = lv')
    (kk : ∀ ls' : Array Slot, p_L ls' nL lv' → W p l e R s m args below meth c H locs cells slots Q (F0 m (pc + 1) ls' rest)) : W p l e R s m args below meth c H locs cells slots Q (F0 m pc ls (va_rf o :: rest)) := by
  cases o with
  | none => exact lv_astore_nN hexec hb hdg hi hL.1 hn rfl fun ls' h1 => kk ls' (p_Lof hL.2 rfl hl h1)
  | some a => exact lv_astore_n hexec hb hdg hi hL.1 hn rfl fun ls' h1 => kk ls' (p_Lof hL.2 rfl hl h1)
theorem p_astore (hexec : p.tables.exec = Jvm.exec) (hb : c.code = cc) {i : Nat} {o : Option Nat} {lv lv' : List (Nat × Value)} (hdg : decode cc pc = .ok (.astore i, 2)) (hL : p_L ls nL lv) (hn : i < nL) (hl : (i, va_rf o) :: lv.filter (fun q => !(q.1 == i)) = lv')
    (kk : ∀ ls' : Array Slot, p_L ls' nL lv' → W p l e R s m args below meth c H locs cells slots Q (F0 m (pc + 2) ls' rest)) : W p l e R s m args below meth c H locs cells slots Q (F0 m pc ls (va_rf o :: rest)) := by
  cases o with
  | none => exact lv_astoreN hexec hb hdg hL.1 hn rfl fun ls' h1 => kk ls' (p_Lof hL.2 rfl hl h1)
  | some a => exact lv_astore hexec hb hdg hL.1 hn rfl fun ls' h1 => kk ls' (p_Lof hL.2 rfl hl h1)
theorem p_aload_n (hexec : p.tables.exec = Jvm.exec) (hb : c.code = cc) {k : Fin 4} {i : Nat} {o : Option Nat} (hdg : decode cc pc = .ok (.aload_n k, 1)) (hi : (k : Nat) = i) (hl : ls[i]? = some (.val (va_rf o)))
    (kk : W p l e R s m args below meth c H locs cells slots Q (F0 m (pc + 1) ls (va_rf o :: rest))) : W p l e R s m args below meth c H locs cells slots Q (F0 m pc ls rest) := by
  cases o with
  | none => exact lv_aload_nN hexec hb hdg hi hl kk
  | some a => exact lv_aload_n hexec hb hdg hi hl kk
theorem p_aload (hexec : p.tables.exec = Jvm.exec) (hb : c.code = cc) {i : Nat} {o : Option Nat} (hdg : decode cc pc = .ok (.aload i, 2)) (hl : ls[i]? = some (.val (va_rf o)))
    (kk : W p l e R s m args below meth c H locs cells slots Q (F0 m (pc + 2) ls (va_rf o :: rest))) : W p l e R s m args below meth c H locs cells slots Q (F0 m pc ls rest) := by
  cases o with
  | none => exact lv_aloadN hexec hb hdg hl kk
  | some a => exact lv_aload hexec hb hdg hl kk
/-! fields -/
theorem p_getV (S : CallFix p m c cc nL s args Ts own) {C : String} {T : u_T} {N ci k a index : Nat} {v : Value} (hin : ∀ w ∈ u_ws C T N, w ∈ Ts) (hK : va_K D vwCl [] s) (hQ : p_Q D ad B s h H) (hv : p_g h a ci k = some v) (hc : vwCl[ci]? = some (C, T, N)) (hk : k < N)
    (hlink : Cond.fieldLink own index (T k).1 (T k).2.1 (T k).2.2.1 ∈ Ts) (hdg : decode cc pc = .ok (.getfield index, 3)) (kk : W p l e R s m args below meth c H locs cells slots Q (F0 m (pc + 3) ls (p_v ad v :: rest))) : W p l e R s m args below meth c H locs cells slots Q (F0 m pc ls (.ref (ad a) :: rest)) := by
  obtain ⟨fs, hh, hfs⟩ := p_g_of hv
  obtain ⟨hx, hb, -, hown, hts⟩ := S
  have hP : va_P D vwCl [(ad a, .inr (ci, fs.map (p_v ad)))] H := by
    intro k q hq
    cases k with
    | zero => cases hq; exact (hQ.1 a _ hh).1
    | succ k => simp at hq
  exact va_get (D := D) hx hb hts hin hown hK hP 0 rfl hc k hk (hts _ hlink) (fun _ h9 => h9) (by rw [List.getElem?_map, hfs]; rfl) hdg kk
theorem p_getI (S : CallFix p m c cc nL s args Ts own) {C : String} {T : u_T} {N ci k a index : Nat} {x : Int32} (hin : ∀ w ∈ u_ws C T N, w ∈ Ts) (hK : va_K D vwCl [] s) (hQ : p_Q D ad B s h H) (hv : p_gi h a ci k = some x) (hc : vwCl[ci]? = some (C, T, N)) (hk : k < N)
    (hlink : Cond.fieldLink own index (T k).1 (T k).2.1 (T k).2.2.1 ∈ Ts) (hdg : decode cc pc = .ok (.getfield index, 3)) (kk : W p l e R s m args below meth c H locs cells slots Q (F0 m (pc + 3) ls (.int x :: rest))) : W p l e R s m args below meth c H locs cells slots Q (F0 m pc ls (.ref (ad a) :: rest)) :=
  p_getV S hin hK hQ (p_gi_of hv) hc hk hlink hdg kk
theorem p_getR (S : CallFix p m c cc nL s args Ts own) {C : String} {T : u_T} {N ci k a index : Nat} {x : Nat} (hin : ∀ w ∈ u_ws C T N, w ∈ Ts) (hK : va_K D vwCl [] s) (hQ : p_Q D ad B s h H) (hv : p_gr h a ci k = some x) (hc : vwCl[ci]? = some (C, T, N)) (hk : k < N)
    (hlink : Cond.fieldLink own index (T k).1 (T k).2.1 (T k).2.2.1 ∈ Ts) (hdg : decode cc pc = .ok (.getfield index, 3)) (kk : W p l e R s m args below meth c H locs cells slots Q (F0 m (pc + 3) ls (.ref (ad x) :: rest))) : W p l e R s m args below meth c H locs cells slots Q (F0 m pc ls (.ref (ad a) :: rest)) :=
  p_getV S hin hK hQ (p_gr_of hv) hc hk hlink hdg kk
theorem p_putV (S : CallFix p m c cc nL s args Ts own) {C : String} {T : u_T} {N ci k a index : Nat} {v : Value} {ty0 : Nat → FieldType} {ty : FieldType} {h1 : PH} (hin : ∀ w ∈ u_ws C T N, w ∈ Ts) (hty : ∀ k, k < N → parseFieldDescriptor (T k).2.2.1 = some (ty0 k)) (hnm : ∀ a, a < N → ∀ b, b < N → a ≠ b → (T a).2.1 ≠ (T b).2.1)
    (hK : va_K D vwCl [] s) (hQ : p_Q D ad A s h H) (hS : va_S A s.heap H locs) (hv : p_s h a ci k v = some h1) (hc : vwCl[ci]? = some (C, T, N)) (hk : k < N) (hfin : (T k).2.2.2 = false) (hd : ty0 k = ty) (hn : narrow ty (p_v ad v) = p_v ad v) (hfit : fits ty (p_v ad v) = true) (href : ∀ y, v = .ref y → h y ≠ none)
    (hlink : Cond.fieldLink own index (T k).1 (T k).2.1 (T k).2.2.1 ∈ Ts) (hdg : decode cc pc = .ok (.putfield index, 3))
    (kk : ∀ (H1 : Heap) (locs1 : List Loc), p_Q D ad A s h1 H1 → va_S A s.heap H1 locs1 → W p l e R s m args below meth c H1 locs1 cells slots Q (F0 m (pc + 3) ls rest)) : W p l e R s m args below meth c H locs cells slots Q (F0 m pc ls (p_v ad v :: .ref (ad a) :: rest)) := by
  obtain ⟨fs, hh, hl, rfl⟩ := p_s_of hv
  obtain ⟨hexec, hb, -, hown, hts⟩ := S
  have hap := va_apart (own := own) hts hin ty0 hty hnm hK hc
  obtain ⟨hat, hAa⟩ := hQ.1 a _ hh
  obtain ⟨r, h1, cell, q1, q2, q3, q4⟩ := hat
  have hr : r = (C, T, N) := Option.some.inj (h1.symm.trans hc)
  subst hr
  obtain ⟨hSl, hfc, kC, hkC, hkind⟩ := hK.1 ci _ hc
  obtain ⟨cf, kf, fi, f, hi, hsl⟩ := hSl k hk
  have hlay := hts _ (hin _ (u_in_lay hk))
  unfold u_lay at hlay
  rw [if_neg (by rw [hfin]; decide)] at hlay
  have hst := (u_facts hfc hkC (u_lays hts hin hk) hi).1
  have h6 := u_store hfc hkC hkind hlay hi ((hty k hk).trans (congrArg some hd)) hn hfit
  refine W.putK hexec hb (f := f) ⟨hown, hts _ hlink, ⟨_, _, _, hi⟩, hst⟩ (by rw [q2]; exact h6) q1 q3 (by rw [hsl]; exact k2_hasslot (q4 k hk)) rfl rfl hdg fun H' e1 e2 e3 => ?_
  rw [hsl] at e1 ⊢
  refine kk H' _ (hQ.set hh (p_rr_o fun y hy => ?_) ?_ e3) (hS.put e2 e3 hAa)
  · rcases List.mem_or_eq_of_mem_set hy with h9 | h9
    · exact (hQ.2.2 a _ hh).fs h9
    · exact href y h9.symm
  show va_at D vwCl (ad a, .inr (ci, (fs.set k v).map (p_v ad))) H'
  rw [List.map_set]
  exact ⟨_, hc, t_OB.to (V := updV (vp_V (fs.map (p_v ad))) k (p_v ad v)) ⟨_, e1, q2, q3, t_set q4 hap hk (p_v ad v)⟩ (fun j _ => vp_updV_set (by rw [List.length_map]; exact hl) (p_v ad v) j)⟩
theorem p_putI (S : CallFix p m c cc nL s args Ts own) {C : String} {T : u_T} {N ci k a index : Nat} {x : Int32} {ty0 : Nat → FieldType} {h1 : PH} (hin : ∀ w ∈ u_ws C T N, w ∈ Ts) (hty : ∀ k, k < N → parseFieldDescriptor (T k).2.2.1 = some (ty0 k)) (hnm : ∀ a, a < N → ∀ b, b < N → a ≠ b → (T a).2.1 ≠ (T b).2.1)
    (hK : va_K D vwCl [] s) (hQ : p_Q D ad A s h H) (hS : va_S A s.heap H locs) (hv : p_si h a ci k x = some h1) (hc : vwCl[ci]? = some (C, T, N)) (hk : k < N) (hfin : (T k).2.2.2 = false) (hd : ty0 k = .int)
    (hlink : Cond.fieldLink own index (T k).1 (T k).2.1 (T k).2.2.1 ∈ Ts) (hdg : decode cc pc = .ok (.putfield index, 3))
    (kk : ∀ (H1 : Heap) (locs1 : List Loc), p_Q D ad A s h1 H1 → va_S A s.heap H1 locs1 → W p l e R s m args below meth c H1 locs1 cells slots Q (F0 m (pc + 3) ls rest)) : W p l e R s m args below meth c H locs cells slots Q (F0 m pc ls (.int x :: .ref (ad a) :: rest)) :=
  p_putV S hin hty hnm hK hQ hS (v := .int x) hv hc hk hfin hd rfl rfl (fun _ h9 => by cases h9) hlink hdg kk
theorem p_nz {x : Int32} (h : x = 0 ∨ x = 1) : narrow .boolean (.int x) = .int x ∧ fits .boolean (.int x) = true := by
  rcases h with rfl | rfl <;> decide
theorem p_putZ (S : CallFix p m c cc nL s args Ts own) {C : String} {T : u_T} {N ci k a index : Nat} {x : Int32} {ty0 : Nat → FieldType} {h1 : PH} (hin : ∀ w ∈ u_ws C T N, w ∈ Ts) (hty : ∀ k, k < N → parseFieldDescriptor (T k).2.2.1 = some (ty0 k)) (hnm : ∀ a, a < N → ∀ b, b < N → a ≠ b → (T a).2.1 ≠ (T b).2.1)
    (hK : va_K D vwCl [] s) (hQ : p_Q D ad A s h H) (hS : va_S A s.heap H locs) (hv : p_sz h a ci k x = some h1) (hc : vwCl[ci]? = some (C, T, N)) (hk : k < N) (hfin : (T k).2.2.2 = false) (hd : ty0 k = .boolean)
    (hlink : Cond.fieldLink own index (T k).1 (T k).2.1 (T k).2.2.1 ∈ Ts) (hdg : decode cc pc = .ok (.putfield index, 3))
    (kk : ∀ (H1 : Heap) (locs1 : List Loc), p_Q D ad A s h1 H1 → va_S A s.heap H1 locs1 → W p l e R s m args below meth c H1 locs1 cells slots Q (F0 m (pc + 3) ls rest)) : W p l e R s m args below meth c H locs cells slots Q (F0 m pc ls (.int x :: .ref (ad a) :: rest)) := by
  unfold p_sz at hv
  by_cases hz : x = 0 ∨ x = 1
  · rw [if_pos hz] at hv
    exact p_putV S hin hty hnm hK hQ hS (v := .int x) hv hc hk hfin hd (p_nz hz).1 (p_nz hz).2 (fun _ h9 => by cases h9) hlink hdg kk
  · rw [if_neg hz] at hv
    cases hv
/-- a final field, in its class's constructor -/
theorem p_putVF (S : CallFix p m c cc nL s args Ts own) {C : String} {T : u_T} {N ci k a index : Nat} {v : Value} {ty0 : Nat → FieldType} {ty : FieldType} {h1 : PH} (hin : ∀ w ∈ u_ws C T N, w ∈ Ts) (hty : ∀ k, k < N → parseFieldDescriptor (T k).2.2.1 = some (ty0 k)) (hnm : ∀ a, a < N → ∀ b, b < N → a ≠ b → (T a).2.1 ≠ (T b).2.1)
    (hK : va_K D vwCl [] s) (hQ : p_Q D ad A s h H) (hS : va_S A s.heap H locs) (hv : p_s h a ci k v = some h1) (hc : vwCl[ci]? = some (C, T, N)) (hk : k < N) (hfin : (T k).2.2.2 = true) (hin2 : meth.name = "<init>") (hdecl : (T k).1 = own) (hd : ty0 k = ty) (hn : narrow ty (p_v ad v) = p_v ad v) (hfit : fits ty (p_v ad v) = true) (href : ∀ y, v = .ref y → h y ≠ none)
    (hlink : Cond.fieldLink own index (T k).1 (T k).2.1 (T k).2.2.1 ∈ Ts) (hdg : decode cc pc = .ok (.putfield index, 3))
    (kk : ∀ (H1 : Heap) (locs1 : List Loc), p_Q D ad A s h1 H1 → va_S A s.heap H1 locs1 → W p l e R s m args below meth c H1 locs1 cells slots Q (F0 m (pc + 3) ls rest)) : W p l e R s m args below meth c H locs cells slots Q (F0 m pc ls (p_v ad v :: .ref (ad a) :: rest)) := by
  obtain ⟨fs, hh, hl, rfl⟩ := p_s_of hv
  obtain ⟨hexec, hb, -, hown, hts⟩ := S
  have hap := va_apart (own := own) hts hin ty0 hty hnm hK hc
  obtain ⟨hat, hAa⟩ := hQ.1 a _ hh
  obtain ⟨r, h1, cell, q1, q2, q3, q4⟩ := hat
  have hr : r = (C, T, N) := Option.some.inj (h1.symm.trans hc)
  subst hr
  obtain ⟨hSl, hfc, kC, hkC, hkind⟩ := hK.1 ci _ hc
  obtain ⟨cf, kf, fi, f, hi, hsl⟩ := hSl k hk
  have hlay := hts _ (hin _ (u_in_lay hk))
  unfold u_lay at hlay
  rw [if_pos hfin] at hlay
  have hst := (u_facts hfc hkC (u_lays hts hin hk) hi).1
  have hcf : m.cls = cf := by
    obtain ⟨_, _, c', _, _, _, -, -, hf', -, -, -, hown2, -⟩ := Cond.laysFinal_spec hlay
    have e1 : c' = cf := by have := hi.symm.trans hf'; simp at this; exact this.1.symm
    rw [hdecl] at hown2
    rw [← e1]; exact Option.some.inj (hown.symm.trans hown2)
  have h6 := u_fits hfc hkC hkind (Or.inr hlay) hi ((hty k hk).trans (congrArg some hd)) hn hfit
  refine W.putFinK hexec hb hown (hts _ hlink) hi hst hcf hin2 (by rw [q2]; exact h6) q1 q3 (by rw [hsl]; exact k2_hasslot (q4 k hk)) rfl rfl hdg fun H' e1 e2 e3 => ?_
  rw [hsl] at e1 ⊢
  refine kk H' _ (hQ.set hh (p_rr_o fun y hy => ?_) ?_ e3) (hS.put e2 e3 hAa)
  · rcases List.mem_or_eq_of_mem_set hy with h9 | h9
    · exact (hQ.2.2 a _ hh).fs h9
    · exact href y h9.symm
  show va_at D vwCl (ad a, .inr (ci, (fs.set k v).map (p_v ad))) H'
  rw [List.map_set]
  exact ⟨_, hc, t_OB.to (V := updV (vp_V (fs.map (p_v ad))) k (p_v ad v)) ⟨_, e1, q2, q3, t_set q4 hap hk (p_v ad v)⟩ (fun j _ => vp_updV_set (by rw [List.length_map]; exact hl) (p_v ad v) j)⟩
theorem p_putIF (S : CallFix p m c cc nL s args Ts own) {C : String} {T : u_T} {N ci k a index : Nat} {x : Int32} {ty0 : Nat → FieldType} {h1 : PH} (hin : ∀ w ∈ u_ws C T N, w ∈ Ts) (hty : ∀ k, k < N → parseFieldDescriptor (T k).2.2.1 = some (ty0 k)) (hnm : ∀ a, a < N → ∀ b, b < N → a ≠ b → (T a).2.1 ≠ (T b).2.1)
    (hK : va_K D vwCl [] s) (hQ : p_Q D ad A s h H) (hS : va_S A s.heap H locs) (hv : p_si h a ci k x = some h1) (hc : vwCl[ci]? = some (C, T, N)) (hk : k < N) (hfin : (T k).2.2.2 = true) (hin2 : meth.name = "<init>") (hdecl : (T k).1 = own) (hd : ty0 k = .int)
    (hlink : Cond.fieldLink own index (T k).1 (T k).2.1 (T k).2.2.1 ∈ Ts) (hdg : decode cc pc = .ok (.putfield index, 3))
    (kk : ∀ (H1 : Heap) (locs1 : List Loc), p_Q D ad A s h1 H1 → va_S A s.heap H1 locs1 → W p l e R s m args below meth c H1 locs1 cells slots Q (F0 m (pc + 3) ls rest)) : W p l e R s m args below meth c H locs cells slots Q (F0 m pc ls (.int x :: .ref (ad a) :: rest)) :=
  p_putVF S hin hty hnm hK hQ hS (v := .int x) hv hc hk hfin hin2 hdecl hd rfl rfl (fun _ h9 => by cases h9) hlink hdg kk
theorem p_putZF (S : CallFix p m c cc nL s args Ts own) {C : String} {T : u_T} {N ci k a index : Nat} {x : Int32} {ty0 : Nat → FieldType} {h1 : PH} (hin : ∀ w ∈ u_ws C T N, w ∈ Ts) (hty : ∀ k, k < N → parseFieldDescriptor (T k).2.2.1 = some (ty0 k)) (hnm : ∀ a, a < N → ∀ b, b < N → a ≠ b → (T a).2.1 ≠ (T b).2.1)
    (hK : va_K D vwCl [] s) (hQ : p_Q D ad A s h H) (hS : va_S A s.heap H locs) (hv : p_sz h a ci k x = some h1) (hc : vwCl[ci]? = some (C, T, N)) (hk : k < N) (hfin : (T k).2.2.2 = true) (hin2 : meth.name = "<init>") (hdecl : (T k).1 = own) (hd : ty0 k = .boolean)
    (hlink : Cond.fieldLink own index (T k).1 (T k).2.1 (T k).2.2.1 ∈ Ts) (hdg : decode cc pc = .ok (.putfield index, 3))
    (kk : ∀ (H1 : Heap) (locs1 : List Loc), p_Q D ad A s h1 H1 → va_S A s.heap H1 locs1 → W p l e R s m args below meth c H1 locs1 cells slots Q (F0 m (pc + 3) ls rest)) : W p l e R s m args below meth c H locs cells slots Q (F0 m pc ls (.int x :: .ref (ad a) :: rest)) := by
  unfold p_sz at hv
  by_cases hz : x = 0 ∨ x = 1
  · rw [if_pos hz] at hv
    exact p_putVF S hin hty hnm hK hQ hS (v := .int x) hv hc hk hfin hin2 hdecl hd (p_nz hz).1 (p_nz hz).2 (fun _ h9 => by cases h9) hlink hdg kk
  · rw [if_neg hz] at hv
    cases hv
theorem p_putRF (S : CallFix p m c cc nL s args Ts own) {C : String} {T : u_T} {N ci k a index : Nat} {x : Nat} {ty0 : Nat → FieldType} {h1 : PH} (hin : ∀ w ∈ u_ws C T N, w ∈ Ts) (hty : ∀ k, k < N → parseFieldDescriptor (T k).2.2.1 = some (ty0 k)) (hnm : ∀ a, a < N → ∀ b, b < N → a ≠ b → (T a).2.1 ≠ (T b).2.1)
    (hK : va_K D vwCl [] s) (hQ : p_Q D ad A s h H) (hS : va_S A s.heap H locs) (hv : p_sr h a ci k x = some h1) (hc : vwCl[ci]? = some (C, T, N)) (hk : k < N) (hfin : (T k).2.2.2 = true) (hin2 : meth.name = "<init>") (hdecl : (T k).1 = own) (hd : (ty0 k).isReference = true)
    (hlink : Cond.fieldLink own index (T k).1 (T k).2.1 (T k).2.2.1 ∈ Ts) (hdg : decode cc pc = .ok (.putfield index, 3))
    (kk : ∀ (H1 : Heap) (locs1 : List Loc), p_Q D ad A s h1 H1 → va_S A s.heap H1 locs1 → W p l e R s m args below meth c H1 locs1 cells slots Q (F0 m (pc + 3) ls rest)) : W p l e R s m args below meth c H locs cells slots Q (F0 m pc ls (.ref (ad x) :: .ref (ad a) :: rest)) :=
  p_putVF S hin hty hnm hK hQ hS (v := .ref x) (p_sr_of hv).2 hc hk hfin hin2 hdecl rfl (by cases hq : ty0 k <;> rw [hq] at hd <;> first | rfl | cases hd) (by cases hq : ty0 k <;> rw [hq] at hd <;> first | rfl | cases hd) (fun y h9 => by cases h9; exact (p_sr_of hv).1) hlink hdg kk
/-! arrays -/
theorem p_iald (S : CallFix p m c cc nL s args Ts own) {a : Nat} {i x : Int32} (hQ : p_Q D ad B s h H) (hv : p_ld h a 0 i = some x) (hdg : decode cc pc = .ok (.iaload, 1))
    (kk : W p l e R s m args below meth c H locs cells slots Q (F0 m (pc + 1) ls (.int x :: rest))) : W p l e R s m args below meth c H locs cells slots Q (F0 m pc ls (.int i :: .ref (ad a) :: rest)) := by
  obtain ⟨n, f, hh, hin, rfl⟩ := p_ld_of hv
  obtain ⟨cA, ⟨hA, -⟩, hcell⟩ := (hQ.1 a _ hh).1
  have hlt : i.toNatClampNeg < n := Nat.not_le.mp fun q => hin (Or.inr q)
  exact W.iald (v := .int (f i.toNatClampNeg)) S.1 S.2.1 hcell (hA n (fun j => .int (f j))) (fun q => by cases q) (by show ¬ (i < 0 ∨ (arrV _ _ _).slots.size ≤ _); rw [arrV_size]; exact hin) (by show (arrV cA n (fun j => .int (f j))).slots[_]? = _; rw [arrV_read _ _ hlt]) rfl rfl hdg kk
theorem p_zald (S : CallFix p m c cc nL s args Ts own) {a : Nat} {i x : Int32} (hQ : p_Q D ad B s h H) (hv : p_ld h a 1 i = some x) (hdg : decode cc pc = .ok (.baload, 1))
    (kk : W p l e R s m args below meth c H locs cells slots Q (F0 m (pc + 1) ls (.int x :: rest))) : W p l e R s m args below meth c H locs cells slots Q (F0 m pc ls (.int i :: .ref (ad a) :: rest)) := by
  obtain ⟨n, f, hh, hin, rfl⟩ := p_ld_of hv
  obtain ⟨cA, ⟨hA, -⟩, hcell⟩ := (hQ.1 a _ hh).1
  have hlt : i.toNatClampNeg < n := Nat.not_le.mp fun q => hin (Or.inr q)
  exact W.zald (v := .int (f i.toNatClampNeg)) S.1 S.2.1 hcell (hA n (fun j => .int (f j))) (fun q => by cases q) (by show ¬ (i < 0 ∨ (arrV _ _ _).slots.size ≤ _); rw [arrV_size]; exact hin) (by show (arrV cA n (fun j => .int (f j))).slots[_]? = _; rw [arrV_read _ _ hlt]) rfl rfl hdg kk
theorem p_aald (S : CallFix p m c cc nL s args Ts own) {a : Nat} {i : Int32} {o : Option Nat} (hQ : p_Q D ad B s h H) (hv : p_ldr h a i = some o) (hdg : decode cc pc = .ok (.aaload, 1))
    (kk : W p l e R s m args below meth c H locs cells slots Q (F0 m (pc + 1) ls (va_rf (o.map ad) :: rest))) : W p l e R s m args below meth c H locs cells slots Q (F0 m pc ls (.int i :: .ref (ad a) :: rest)) := by
  obtain ⟨n, f, hh, hin, rfl⟩ := p_ldr_of hv
  obtain ⟨cA, ⟨hA, -⟩, hcell⟩ := (hQ.1 a _ hh).1
  have hlt : i.toNatClampNeg < n := Nat.not_le.mp fun q => hin (Or.inr q)
  exact W.aald (v := va_rf ((f i.toNatClampNeg).map ad)) (ty := .object RX1) S.1 S.2.1 hcell (hA n (fun j => va_rf ((f j).map ad))) rfl (fun q => by cases q) (by show ¬ (i < 0 ∨ (arrV _ _ _).slots.size ≤ _); rw [arrV_size]; exact hin) (by show (arrV cA n (fun j => va_rf ((f j).map ad))).slots[_]? = _; rw [arrV_read _ _ hlt]) rfl rfl hdg kk
theorem p_alen (S : CallFix p m c cc nL s args Ts own) {a : Nat} {x : Int32} (hQ : p_Q D ad B s h H) (hv : p_len h a = some x) (hdg : decode cc pc = .ok (.arraylength, 1))
    (kk : W p l e R s m args below meth c H locs cells slots Q (F0 m (pc + 1) ls (.int x :: rest))) : W p l e R s m args below meth c H locs cells slots Q (F0 m pc ls (.ref (ad a) :: rest)) := by
  obtain ⟨t, ⟨n, f⟩, hh, rfl⟩ := p_len_of hv
  obtain ⟨cA, ⟨hA, -⟩, hcell⟩ := (hQ.1 a _ hh).1
  obtain f | f | f | f | f := f
  · exact W.alen (n := Int32.ofNat n) S.1 S.2.1 hcell (hA n (fun j => .int (f j))) (by show (arrV _ _ _).slots.size.toInt32 = _; rw [arrV_size] <;> rfl) rfl rfl hdg kk
  · exact W.alen (n := Int32.ofNat n) S.1 S.2.1 hcell (hA n (fun j => .long (f j))) (by show (arrV _ _ _).slots.size.toInt32 = _; rw [arrV_size] <;> rfl) rfl rfl hdg kk
  · exact W.alen (n := Int32.ofNat n) S.1 S.2.1 hcell (hA n (fun j => .float (f j))) (by show (arrV _ _ _).slots.size.toInt32 = _; rw [arrV_size] <;> rfl) rfl rfl hdg kk
  · exact W.alen (n := Int32.ofNat n) S.1 S.2.1 hcell (hA n (fun j => .double (f j))) (by show (arrV _ _ _).slots.size.toInt32 = _; rw [arrV_size] <;> rfl) rfl rfl hdg kk
  · exact W.alen (n := Int32.ofNat n) S.1 S.2.1 hcell (hA n (fun j => va_rf ((f j).map ad))) (by show (arrV _ _ _).slots.size.toInt32 = _; rw [arrV_size] <;> rfl) rfl rfl hdg kk
theorem p_updV {f : Nat → Int32} {k : Nat} {x : Int32} : updV (fun j => Value.int (f j)) k (.int x) = fun j => .int (upd f k x j) := by
  funext q
  by_cases hq : q = k
  · subst hq
    simp [updV, upd]
  · simp [updV, upd, hq]
theorem p_iast (S : CallFix p m c cc nL s args Ts own) {a : Nat} {i x : Int32} {h1 : PH} (hQ : p_Q D ad A s h H) (hS : va_S A s.heap H locs) (hv : p_st h a i x = some h1) (hdg : decode cc pc = .ok (.iastore, 1))
    (kk : ∀ (H1 : Heap) (locs1 : List Loc), p_Q D ad A s h1 H1 → va_S A s.heap H1 locs1 → W p l e R s m args below meth c H1 locs1 cells slots Q (F0 m (pc + 1) ls rest)) : W p l e R s m args below meth c H locs cells slots Q (F0 m pc ls (.int x :: .int i :: .ref (ad a) :: rest)) := by
  obtain ⟨n, f, hh, hin, rfl⟩ := p_st_of hv
  obtain ⟨⟨cA, hA, hcell⟩, hAa⟩ := hQ.1 a _ hh
  refine W.iast S.1 S.2.1 hcell (hA.1 n (fun j => .int (f j))) (fun q => by cases q) (by show ¬ (i < 0 ∨ (arrV _ _ _).slots.size ≤ _); rw [arrV_size]; exact hin) rfl rfl hdg fun H1 e1 z oq => ?_
  refine kk H1 _ (hQ.set hh p_rr_i ⟨cA, hA, ?_⟩ oq) (hS.put z oq hAa)
  rw [e1]
  show some ((arrV cA n (fun j => .int (f j))).setSlot _ _) = some (arrV cA n (fun j => .int (upd f i.toNatClampNeg x j)))
  rw [arrV_store, p_updV]
theorem p_zast (S : CallFix p m c cc nL s args Ts own) {a : Nat} {i x : Int32} {h1 : PH} (hQ : p_Q D ad A s h H) (hS : va_S A s.heap H locs) (hv : p_sb h a i x = some h1) (hdg : decode cc pc = .ok (.bastore, 1))
    (kk : ∀ (H1 : Heap) (locs1 : List Loc), p_Q D ad A s h1 H1 → va_S A s.heap H1 locs1 → W p l e R s m args below meth c H1 locs1 cells slots Q (F0 m (pc + 1) ls rest)) : W p l e R s m args below meth c H locs cells slots Q (F0 m pc ls (.int x :: .int i :: .ref (ad a) :: rest)) := by
  obtain ⟨n, f, hh, hin, hz, rfl⟩ := p_sb_of hv
  obtain ⟨⟨cA, hA, hcell⟩, hAa⟩ := hQ.1 a _ hh
  refine W.zast S.1 S.2.1 hcell (hA.1 n (fun j => .int (f j))) (fun q => by cases q) (by show ¬ (i < 0 ∨ (arrV _ _ _).slots.size ≤ _); rw [arrV_size]; exact hin) rfl rfl hdg fun H1 e1 z oq => ?_
  refine kk H1 _ (hQ.set hh p_rr_i ⟨cA, hA, ?_⟩ oq) (hS.put z oq hAa)
  rw [e1, (p_nz hz).1]
  show some ((arrV cA n (fun j => .int (f j))).setSlot _ _) = some (arrV cA n (fun j => .int (upd f i.toNatClampNeg x j)))
  rw [arrV_store, p_updV]
theorem p_updR {f : Nat → Option Nat} {k : Nat} {o : Option Nat} : updV (fun j => va_rf ((f j).map ad)) k (va_rf (o.map ad)) = fun j => va_rf ((va_up f k o j).map ad) := by
  funext q
  by_cases hq : q = k
  · subst hq
    simp [updV, va_up]
  · simp [updV, va_up, hq]
theorem p_aast (S : CallFix p m c cc nL s args Ts own) {a : Nat} {i : Int32} {o : Option Nat} {h1 : PH} (hK : va_K D vwCl [] s) (hQ : p_Q D ad A s h H) (hS : va_S A s.heap H locs) (hv : p_str h a i o = some h1) (hdg : decode cc pc = .ok (.aastore, 1))
    (kk : ∀ (H1 : Heap) (locs1 : List Loc), p_Q D ad A s h1 H1 → va_S A s.heap H1 locs1 → W p l e R s m args below meth c H1 locs1 cells slots Q (F0 m (pc + 1) ls rest)) : W p l e R s m args below meth c H locs cells slots Q (F0 m pc ls (va_rf (o.map ad) :: .int i :: .ref (ad a) :: rest)) := by
  obtain ⟨n, f, hh, hin, hw, rfl⟩ := p_str_of hv
  obtain ⟨⟨cA, hA, hcell⟩, hAa⟩ := hQ.1 a _ hh
  have hin0 : ¬ (i < 0 ∨ (arrV cA n (fun j => va_rf ((f j).map ad))).slots.size ≤ i.toNatClampNeg) := by rw [arrV_size]; exact hin
  cases o with
  | none =>
    refine va_WaastN (C := RX1) S.1 S.2.1 hcell (hA.1 n (fun j => va_rf ((f j).map ad))) (fun q => by cases q) hin0 rfl rfl hdg fun H1 e1 z oq => ?_
    refine kk H1 _ (hQ.set hh (p_rr_q fun j y hy => by
      by_cases hj : j = i.toNatClampNeg
      · rw [hj] at hy; simp [va_up] at hy
      · exact (hQ.2.2 a _ hh).f (j := j) (by rw [← hy]; simp [va_up, hj])) ⟨cA, hA, ?_⟩ oq) (hS.put z oq hAa)
    rw [e1]
    show some ((arrV cA n (fun j => va_rf ((f j).map ad))).setSlot _ (va_rf (Option.map ad none))) = some (arrV cA n (fun j => va_rf ((va_up f i.toNatClampNeg none j).map ad)))
    rw [arrV_store, p_updR]
  | some v =>
    obtain ⟨vs, hvs⟩ := p_ob_of (u := ()) hw
    obtain ⟨r', hr', cellV, g1, g2, g3, -⟩ := (hQ.1 v _ hvs).1
    have hcls := (hK.1 1 (RX1, TX1, 10) rfl).2
    obtain ⟨kA, comp, k1, k2, k3, -⟩ := hA.2
    have hcomp : comp = D.1 1 := Option.some.inj (k3.symm.trans hcls.1)
    subst hcomp
    obtain ⟨kC, hkC, -⟩ := hcls.2
    refine W.aast (v := ad v) S.1 S.2.1 hcell (fun q h => by cases h) (fun h => by cases h) k1 k2 rfl hkC ⟨fun q => hin (Or.inl q), Nat.not_le.mp fun q => hin0 (Or.inr q)⟩ g1 (fun q h => by rw [g3] at h; cases h) (by rw [g2]; exact hkC) (by rw [g2]; exact va_assign hcls) rfl rfl hdg fun H1 e1 z oq => ?_
    refine kk H1 _ (hQ.set hh (p_rr_q fun j y hy => by
      by_cases hj : j = i.toNatClampNeg
      · rw [hj] at hy; simp [va_up] at hy; rw [← hy]; exact p_ob_ne (u := ()) hw
      · exact (hQ.2.2 a _ hh).f (j := j) (by rw [← hy]; simp [va_up, hj])) ⟨cA, hA, ?_⟩ oq) (hS.put z oq hAa)
    rw [e1]
    show some ((arrV cA n (fun j => va_rf ((f j).map ad))).setSlot _ (va_rf (Option.map ad (some v)))) = some (arrV cA n (fun j => va_rf ((va_up f i.toNatClampNeg (some v) j).map ad)))
    rw [arrV_store, p_updR]
/-! new cells -/
theorem p_new (S : CallFix p m c cc nL s args Ts own) {C : String} {T : u_T} {N ci q index : Nat} {fs : List Value} {h1 : PH} {ty : Nat → FieldType} (hin : ∀ w ∈ u_ws C T N, w ∈ Ts) (hty : ∀ k, k < N → parseFieldDescriptor (T k).2.2.1 = some (ty k))
    (hK : va_K D vwCl [] s) (hQ : p_Q D ad A s h H) (hS : va_S A s.heap H locs) (hA : ∀ x, s.heap.size ≤ x → A x) (hv : p_nw h q ci fs = some h1) (hc : vwCl[ci]? = some (C, T, N)) (hfs : ∀ j, j < N → defaultValue (ty j) = vp_V fs j) (hpv : ∀ ad1 : Nat → Nat, fs.map (p_v ad1) = fs) (hrf : ∀ y, Value.ref y ∉ fs)
    (hcl : Cond.classLink own index C ∈ Ts) (hinst : Cond.instantiable C N ∈ Ts) (hini : Cond.initialized C ∈ Ts) (hcells : cells + 1 ≤ R.cells) (hslots : slots + N ≤ R.slots) (hdg : decode cc pc = .ok (.new index, 3))
    (kk : ∀ (ad1 : Nat → Nat) (H1 : Heap), (∀ x, h x ≠ none → ad1 x = ad x) → p_Q D ad1 A s h1 H1 → va_S A s.heap H1 locs → W p l e R s m args below meth c H1 locs (cells + 1) (slots + N) Q (F0 m (pc + 3) ls (.ref (ad1 q) :: rest))) : W p l e R s m args below meth c H locs cells slots Q (F0 m pc ls rest) := by
  obtain ⟨hn, rfl⟩ := p_nw_of hv
  obtain ⟨hexec, hb, -, hown, hts⟩ := S
  have hKn := hK.1 ci _ hc
  refine W.newcK hexec hb hown (hts _ hcl) (hts _ hinst) (hts _ hini) rfl hdg hcells hslots hKn.2.1 rfl fun H1 kC hkC e1 z1 o1 => ?_
  obtain ⟨ad1, a1, a2, hQ1⟩ := hQ.new (H1 := H1) (e := .inr (ci, fs)) hn (p_rr_o fun y hy => absurd hy (hrf y)) (hA _ hS.1) o1 (fun ad1 had => by
    show va_at D vwCl (ad1 q, .inr (ci, fs.map (p_v ad1))) H1
    rw [hpv ad1, had]
    exact ⟨_, hc, (u_born ty hts hin hKn hkC e1 hty).to hfs⟩)
  have k := kk ad1 H1 a2 hQ1 ⟨Nat.le_trans hS.1 (by omega), fun x h1 h2 => (o1 x (Nat.lt_of_lt_of_le h1 hS.1)).trans (hS.2.1 x h1 h2), hS.2.2⟩
  rw [a1] at k
  exact k
theorem p_newI (S : CallFix p m c cc nL s args Ts own) {q t N : Nat} {n : Int32} {h1 : PH} {atype : ArrayType} (hty : newarray.typeOf atype = p_k t) (hdv : defaultValue (p_k t) = .int 0)
    (hQ : p_Q D ad A s h H) (hS : va_S A s.heap H locs) (hA : ∀ x, s.heap.size ≤ x → A x) (hv : p_ni h q t N = some h1) (hn : ¬ n < 0) (hN : n.toNatClampNeg = N) (hbytes : N * componentBytes (newarray.typeOf atype) ≤ 536870912)
    (harr : Cond.arrayClass (newarray.typeOf atype) ∈ Ts) (hcells : cells + 1 ≤ R.cells) (hslots : slots + N ≤ R.slots) (hdg : decode cc pc = .ok (.newarray atype, 2))
    (kk : ∀ (ad1 : Nat → Nat) (H1 : Heap), (∀ x, h x ≠ none → ad1 x = ad x) → p_Q D ad1 A s h1 H1 → va_S A s.heap H1 locs → W p l e R s m args below meth c H1 locs (cells + 1) (slots + N) Q (F0 m (pc + 2) ls (.ref (ad1 q) :: rest))) : W p l e R s m args below meth c H locs cells slots Q (F0 m pc ls (.int n :: rest)) := by
  obtain ⟨hno, rfl⟩ := p_ni_of hv
  obtain ⟨hexec, hb, -, hown, hts⟩ := S
  refine va_newaK hexec hb (hts _ harr) rfl hdg rfl hn hN hbytes hcells hslots rfl fun H1 cA e1 z1 o1 hAr hNm => ?_
  obtain ⟨ad1, a1, a2, hQ1⟩ := hQ.new (H1 := H1) (e := .inl (t, N, .inl fun _ => 0)) hno p_rr_i (hA _ hS.1) o1 (fun ad1 had => by
    refine ⟨cA, ⟨by rw [← hty]; exact hAr, by
      show va_RA s cA (p_k t)
      rw [← hty]
      cases atype <;> exact hNm⟩, ?_⟩
    rw [had, e1, hty, hdv]
    rfl)
  have k := kk ad1 H1 a2 hQ1 ⟨Nat.le_trans hS.1 (by omega), fun x h1 h2 => (o1 x (Nat.lt_of_lt_of_le h1 hS.1)).trans (hS.2.1 x h1 h2), hS.2.2⟩
  rw [a1] at k
  exact k
theorem p_newR (S : CallFix p m c cc nL s args Ts own) {q N index : Nat} {n : Int32} {h1 : PH}
    (hQ : p_Q D ad A s h H) (hS : va_S A s.heap H locs) (hA : ∀ x, s.heap.size ≤ x → A x) (hv : p_nr h q N = some h1) (hn : ¬ n < 0) (hN : n.toNatClampNeg = N) (hbytes : N * 4 ≤ 536870912) (hover : va_AO RX1 s)
    (hcl : Cond.classLink own index RX1 ∈ Ts) (hcells : cells + 1 ≤ R.cells) (hslots : slots + N ≤ R.slots) (hdg : decode cc pc = .ok (.anewarray index, 3))
    (kk : ∀ (ad1 : Nat → Nat) (H1 : Heap), (∀ x, h x ≠ none → ad1 x = ad x) → p_Q D ad1 A s h1 H1 → va_S A s.heap H1 locs → W p l e R s m args below meth c H1 locs (cells + 1) (slots + N) Q (F0 m (pc + 3) ls (.ref (ad1 q) :: rest))) : W p l e R s m args below meth c H locs cells slots Q (F0 m pc ls (.int n :: rest)) := by
  obtain ⟨hno, rfl⟩ := p_nr_of hv
  obtain ⟨hexec, hb, -, hown, hts⟩ := S
  subst hN
  refine W.anew hexec hb hown (hts _ hcl) (va_AO.use hover) rfl hdg rfl hn hbytes hcells hslots fun cA kA comp f1 f2 f3 f4 => ?_
  generalize hH1 : H.push ({ cls := cA, slots := Array.replicate n.toNatClampNeg .null, vm := .none } : Cell) = H1
  have z1 : H1.size = H.size + 1 := by rw [← hH1, Array.size_push]
  have e1 : H1[H.size]? = some (arrV cA n.toNatClampNeg (fun _ => .null)) := by rw [← hH1, Array.getElem?_push_size, ← arrV_new]
  have o1 : ∀ q : Nat, q < H.size → H1[q]? = H[q]? := fun q hq => by rw [← hH1, Array.getElem?_push, if_neg (Nat.ne_of_lt hq)]
  have hAr : ArrOfT s cA (.object RX1) := fun N z => ⟨(fun k h => by cases h), kA, f2, comp, f3⟩
  obtain ⟨ad1, a1, a2, hQ1⟩ := hQ.new (H1 := H1) (e := .inl (2, n.toNatClampNeg, .inr (.inr (.inr (.inr fun _ => none))))) hno (p_rr_q fun j y hy => by cases hy) (hA _ hS.1) o1 (fun ad1 had => by
    refine ⟨cA, ⟨hAr, kA, comp, f2, f3, f4, f1⟩, ?_⟩
    rw [had, e1]
    rfl)
  have k := kk ad1 H1 a2 hQ1 ⟨Nat.le_trans hS.1 (by omega), fun x h1 h2 => (o1 x (Nat.lt_of_lt_of_le h1 hS.1)).trans (hS.2.1 x h1 h2), hS.2.2⟩
  rw [a1] at k
  exact k
/-! contracts: what is given, what is answered -/
def p_pre (D : va_G) (ad : Nat → Nat) (B : Nat → Prop) (h : PH) (As : List Value) : Array Value → State → Prop := va_Pc As (fun U => va_K D vwCl [] U ∧ p_Q D ad B U h U.heap)
theorem p_blind {As : List Value} : FrameBlind (p_pre D ad B h As) := fun a U g mk q => ⟨q.1, va_K.moved (u := U) (U := U.calling g mk a) (Vm.Alike.refl U.vm) q.2.1, p_Q.moved (u := U) (U := U.calling g mk a) (Vm.Alike.refl U.vm) q.2.2⟩
theorem p_preV {b ci : Nat} {u : Unit} {C : String} {T : u_T} {N : Nat} {As : List Value} (hK : va_K D vwCl [] s) (hQ : p_Q D ad B s h H) (ho : p_ob h b ci = some u) (hc : vwCl[ci]? = some (C, T, N)) : PreV s H C (ad b) (p_pre D ad B h (.ref (ad b) :: As)) As := by
  obtain ⟨fs, hh⟩ := p_ob_of ho
  obtain ⟨r, h1, cell, g1, g2, g3, -⟩ := (hQ.1 b _ hh).1
  exact ⟨p_blind, ⟨cell, g1, by rw [g3]; rfl, by rw [g2]; exact (hK.1 ci _ hc).2.1⟩, fun U hU hW => ⟨rfl, va_K.moved hW.alike hK, by rw [hU]; exact hQ.moved hW.alike⟩⟩
theorem p_preS {As : List Value} (hK : va_K D vwCl [] s) (hQ : p_Q D ad B s h H) : PreS s H (p_pre D ad B h As) As :=
  ⟨p_blind, fun U hU hW => ⟨rfl, va_K.moved hW.alike hK, by rw [hU]; exact hQ.moved hW.alike⟩⟩
def p_Ri (r : Int32) : Array Value → State → Outcome → State → Prop := va_Qi (fun x (_ : Unit) => x = r) (fun _ _ => True) p_no
def p_Rq (ad : Nat → Nat) (r : Option Nat) : Array Value → State → Outcome → State → Prop := va_Qq (fun x (_ : Unit) => x = r.map ad) (fun _ _ => True) p_no
def p_Mv (D : va_G) (ad : Nat → Nat) (A : Nat → Prop) (h1 : PH) : Array Value → State → Outcome → State → Prop := va_Qv (fun _ : Unit => True) (fun _ t => p_Q D ad A t h1 t.heap) A
def p_Mi (D : va_G) (ad : Nat → Nat) (A : Nat → Prop) (r : Int32 × PH) : Array Value → State → Outcome → State → Prop := va_Qi (fun x (_ : Unit) => x = r.1) (fun _ t => p_Q D ad A t r.2 t.heap) A
variable {st0 : List Value} {a : Array Value}
theorem p_cRi {r : Int32} (hr : va_Run p l e R s m args below meth c H locs cells slots 0 0 (F0 m pc ls st0) rest (p_Ri r a) p_no) (hQ : p_Q D ad B s h H) (hS : va_S A s.heap H locs)
    (kk : ∀ (H1 : Heap) (locs1 : List Loc), p_Q D ad B s h H1 → va_S A s.heap H1 locs1 → W p l e R s m args below meth c H1 locs1 cells slots Q (F0 m (pc + 3) ls (.int r :: rest))) : W p l e R s m args below meth c H locs cells slots Q (F0 m pc ls st0) :=
  va_calli hr hS (fun _ _ h => h.elim) (fun _ h => h.elim) fun x u t H1 locs1 ht hvm hp hB hz hk hS1 => by
    subst hp
    exact kk H1 locs1 (hQ.kept fun y hy _ => hk y hy fun z => z) hS1
theorem p_cRq {r : Option Nat} (hr : va_Run p l e R s m args below meth c H locs cells slots 0 0 (F0 m pc ls st0) rest (p_Rq ad r a) p_no) (hQ : p_Q D ad B s h H) (hS : va_S A s.heap H locs)
    (kk : ∀ (H1 : Heap) (locs1 : List Loc), p_Q D ad B s h H1 → va_S A s.heap H1 locs1 → W p l e R s m args below meth c H1 locs1 cells slots Q (F0 m (pc + 3) ls (va_rf (r.map ad) :: rest))) : W p l e R s m args below meth c H locs cells slots Q (F0 m pc ls st0) :=
  va_callq hr hS (fun _ _ h => h.elim) (fun _ h => h.elim) fun x u t H1 locs1 ht hvm hp hB hz hk hS1 => by
    subst hp
    exact kk H1 locs1 (hQ.kept fun y hy _ => hk y hy fun z => z) hS1
theorem p_sub (hQ : p_Q D ad A s h H) : ∀ x, p_A ad h x → A x := fun x hx => by
  obtain ⟨q, f, h1, h2⟩ := hx
  rw [← h2]
  exact (hQ.1 q f h1).2
theorem p_cMv {h1 : PH} (hr : va_Run p l e R s m args below meth c H locs cells slots 0 0 (F0 m pc ls st0) rest (p_Mv D ad (p_A ad h) h1 a) (p_A ad h)) (hQ : p_Q D ad A s h H) (hS : va_S A s.heap H locs)
    (kk : ∀ (H1 : Heap) (locs1 : List Loc), p_Q D ad A s h1 H1 → va_S A s.heap H1 locs1 → W p l e R s m args below meth c H1 locs1 cells slots Q (F0 m (pc + 3) ls rest)) : W p l e R s m args below meth c H locs cells slots Q (F0 m pc ls st0) :=
  va_callv hr hS (fun x _ hx => p_sub hQ x hx) (fun x hx => p_sub hQ x hx) fun u t H1 locs1 ht hvm hp hB hz hk hS1 => by
    rw [ht] at hB
    exact kk H1 locs1 ((hB.moved hvm.symm).mono fun q f _ hx => p_sub hQ _ hx) hS1
theorem p_cMi {r : Int32 × PH} (hr : va_Run p l e R s m args below meth c H locs cells slots 0 0 (F0 m pc ls st0) rest (p_Mi D ad (p_A ad h) r a) (p_A ad h)) (hQ : p_Q D ad A s h H) (hS : va_S A s.heap H locs)
    (kk : ∀ (H1 : Heap) (locs1 : List Loc), p_Q D ad A s r.2 H1 → va_S A s.heap H1 locs1 → W p l e R s m args below meth c H1 locs1 cells slots Q (F0 m (pc + 3) ls (.int r.1 :: rest))) : W p l e R s m args below meth c H locs cells slots Q (F0 m pc ls st0) :=
  va_calli hr hS (fun x _ hx => p_sub hQ x hx) (fun x hx => p_sub hQ x hx) fun x u t H1 locs1 ht hvm hp hB hz hk hS1 => by
    subst hp
    rw [ht] at hB
    exact kk H1 locs1 ((hB.moved hvm.symm).mono fun q f _ hx => p_sub hQ _ hx) hS1
/-! ends -/
theorem p_rRi (S : CallFix p m c cc nL s args Ts own) (hr : meth.sig.returnType = some .int) (hlocks : meth.locks = false) {v r : Int32} (hS : va_S p_no s.heap H locs) (hf : some v = some r) (hdg : decode cc pc = .ok (.ireturn, 1)) : W p l e R s m args below meth c H locs cells slots (MQ below (p_Ri r) args s cells slots p_no) (F0 m pc ls [.int v]) := by
  cases hf
  exact W.iret S.1 S.2.1 hr (fun t ht hW => ⟨⟨v, (), rfl, rfl, trivial⟩, hS.F ht⟩) hS.2.2 hdg hlocks
theorem p_rRz (S : CallFix p m c cc nL s args Ts own) (hr : meth.sig.returnType = some .boolean) (hlocks : meth.locks = false) {v r : Int32} (hS : va_S p_no s.heap H locs) (hf : p_z v = some r) (hdg : decode cc pc = .ok (.ireturn, 1)) : W p l e R s m args below meth c H locs cells slots (MQ below (p_Ri r) args s cells slots p_no) (F0 m pc ls [.int v]) := by
  unfold p_z at hf
  by_cases hz : v = 0 ∨ v = 1
  · rw [if_pos hz] at hf
    cases hf
    exact W.zret S.1 S.2.1 hr (p_nz hz).1 (fun t ht hW => ⟨⟨v, (), rfl, rfl, trivial⟩, hS.F ht⟩) hS.2.2 hdg hlocks
  · rw [if_neg hz] at hf
    cases hf
theorem p_rRq (S : CallFix p m c cc nL s args Ts own) {C : String} (hr : meth.sig.returnType = some (.object C)) (hlocks : meth.locks = false) {v r : Option Nat} (hS : va_S p_no s.heap H locs) (hf : some v = some r) (hdg : decode cc pc = .ok (.areturn, 1)) : W p l e R s m args below meth c H locs cells slots (MQ below (p_Rq ad r) args s cells slots p_no) (F0 m pc ls [va_rf (v.map ad)]) := by
  cases hf
  exact W.aret S.1 S.2.1 hr (Or.inl ⟨C, rfl⟩) (va_rf_or _) (fun t ht hW => ⟨⟨v.map ad, (), rfl, rfl, trivial⟩, hS.F ht⟩) hS.2.2 hdg hlocks
theorem p_rMv (S : CallFix p m c cc nL s args Ts own) (hr : meth.sig.returnType = none) (hlocks : meth.locks = false) {h1 : PH} (hQ : p_Q D ad A s h H) (hS : va_S A s.heap H locs) (hf : some h = some h1) (hdg : decode cc pc = .ok (.return_, 1)) : W p l e R s m args below meth c H locs cells slots (MQ below (p_Mv D ad A h1) args s cells slots A) (F0 m pc ls []) := by
  cases hf
  exact W.vret S.1 S.2.1 hr (fun t ht hW => ⟨⟨(), rfl, trivial, by show p_Q D ad A t h t.heap; rw [ht]; exact hQ.moved hW.alike⟩, hS.F ht⟩) hS.2.2 hdg hlocks
theorem p_rMi (S : CallFix p m c cc nL s args Ts own) (hr : meth.sig.returnType = some .int) (hlocks : meth.locks = false) {v : Int32} {r : Int32 × PH} (hQ : p_Q D ad A s h H) (hS : va_S A s.heap H locs) (hf : some (v, h) = some r) (hdg : decode cc pc = .ok (.ireturn, 1)) : W p l e R s m args below meth c H locs cells slots (MQ below (p_Mi D ad A r) args s cells slots A) (F0 m pc ls [.int v]) := by
  cases hf
  exact W.iret S.1 S.2.1 hr (fun t ht hW => ⟨⟨v, (), rfl, rfl, by show p_Q D ad A t h t.heap; rw [ht]; exact hQ.moved hW.alike⟩, hS.F ht⟩) hS.2.2 hdg hlocks
theorem p_rMz (S : CallFix p m c cc nL s args Ts own) (hr : meth.sig.returnType = some .boolean) (hlocks : meth.locks = false) {v : Int32} {r : Int32 × PH} (hQ : p_Q D ad A s h H) (hS : va_S A s.heap H locs) (hf : ((p_z v).bind fun z => some (z, h)) = some r) (hdg : decode cc pc = .ok (.ireturn, 1)) : W p l e R s m args below meth c H locs cells slots (MQ below (p_Mi D ad A r) args s cells slots A) (F0 m pc ls [.int v]) := by
  unfold p_z at hf
  by_cases hz : v = 0 ∨ v = 1
  · rw [if_pos hz] at hf
    cases hf
    exact W.zret S.1 S.2.1 hr (p_nz hz).1 (fun t ht hW => ⟨⟨v, (), rfl, rfl, by show p_Q D ad A t h t.heap; rw [ht]; exact hQ.moved hW.alike⟩, hS.F ht⟩) hS.2.2 hdg hlocks
  · rw [if_neg hz] at hf
    cases hf
theorem p_sl {vs : List Value} (hc : ∀ v ∈ vs, v.category = 1) : lg_sl vs = vs.map Slot.val := by
  induction vs with
  | nil => rfl
  | cons v vs ih =>
    have h1 := hc v List.mem_cons_self
    have h2 := ih fun w hw => hc w (List.mem_cons_of_mem _ hw)
    simp only [lg_sl] at h2
    simp [lg_sl, h1, h2]
def p_ix : Nat → List Value → List (Nat × Value)
  | _, [] => []
  | i, v :: vs => (i, v) :: p_ix (i + 1) vs
theorem p_ix_eq {vs : List Value} (hc : ∀ v ∈ vs, v.category = 1) : ∀ i, lv_args i vs = p_ix i vs := by
  induction vs with
  | nil => intro i; rfl
  | cons v vs ih =>
    intro i
    have h1 := hc v List.mem_cons_self
    have h2 := ih (fun w hw => hc w (List.mem_cons_of_mem _ hw)) (i + 1)
    simp [lv_args, p_ix, h1, h2]
theorem p_ix_cat {vs : List Value} (hc : ∀ v ∈ vs, v.category = 1) : ∀ i, ∀ q ∈ p_ix i vs, q.2.category = 1 := by
  induction vs with
  | nil => intro i q hq; cases hq
  | cons v vs ih =>
    intro i q hq
    rcases List.mem_cons.mp hq with rfl | hq
    · exact hc v List.mem_cons_self
    · exact ih (fun w hw => hc w (List.mem_cons_of_mem _ hw)) (i + 1) q hq
theorem p_start {args : Array Value} {vs : List Value} {n : Nat} (ha : args = vs.toArray) (hc : ∀ v ∈ vs, v.category = 1) (hn : vs.length ≤ n) : ∃ ls, entryFrame m args n = F0 m 0 ls [] ∧ p_L ls n (p_ix 0 vs) := by
  have h1 := lv_entry vs (n := n) (by rw [p_sl hc, List.length_map]; exact hn)
  rw [p_ix_eq hc] at h1
  exact ⟨_, by rw [ha, lg_entry_eq], h1, p_ix_cat hc 0⟩
end PR
