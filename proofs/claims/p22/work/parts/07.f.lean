-- X0_init
def fX0_init (h : PH) (a0 : Nat) (x1 : Int32) (x2 : Int32) (x3 : Int32)  : Option (PH) := (p_si h a0 0 0 x1).bind fun h_1 => (p_si h_1 a0 0 1 x2).bind fun h_3 => (p_si h_3 a0 0 2 1).bind fun h_5 => (p_si h_5 a0 0 3 0).bind fun h_7 => (p_si h_7 a0 0 4 0).bind fun h_9 => (p_si h_9 a0 0 5 x3).bind fun h_11 => (p_sz h_11 a0 0 6 0).bind fun h_13 => (p_si h_13 a0 0 7 0).bind fun h_15 => (p_si h_15 a0 0 8 x3).bind fun h_17 => some h_17
-- X0_begin
def fX0_begin (h : PH) (a0 : Nat) (x1 : Int32)  : Option (PH) := (p_sz h a0 0 6 1).bind fun h_1 => (p_si h_1 a0 0 7 0).bind fun h_3 => (p_si h_3 a0 0 8 x1).bind fun h_5 => some h_5
-- X0_beginIfDue
def fX0_beginIfDue_30 (h1 : PH)  : Option (PH) := some h1
def fX0_beginIfDue (h : PH) (a0 : Nat) (x1 : Int32)  : Option (PH) := (p_gi h a0 0 6).bind fun v1 => if v1 = 0 then ((p_gi h a0 0 5).bind fun v4 => if x1 < v4 then (fX0_beginIfDue_30 h ) else ((p_gi h a0 0 0).bind fun v7 => (p_gi h a0 0 2).bind fun v9 => (p_ob h a0 0).bind fun _ => (fX0_begin h a0 (x1 + (v7 * v9))).bind fun h_13 => fX0_beginIfDue_30 h_13 )) else (fX0_beginIfDue_30 h )
-- X0_drop
def fX0_drop_17 (h1 : PH)  : Option (PH) := some h1
def fX0_drop (h : PH) (a0 : Nat) (x1 : Int32)  : Option (PH) := (p_gi h a0 0 6).bind fun v1 => if v1 = 0 then (fX0_drop_17 h ) else ((p_sz h a0 0 6 0).bind fun h_4 => (p_si h_4 a0 0 5 x1).bind fun h_6 => fX0_drop_17 h_6 )
-- X0_hurry
def fX0_hurry_39 (h1 : PH)  : Option (PH) := some h1
def fX0_hurry (h : PH) (a0 : Nat) (x1 : Int32)  : Option (PH) := (p_gi h a0 0 0).bind fun v1 => (p_gi h a0 0 6).bind fun v3 => if v3 = 0 then ((p_ob h a0 0).bind fun _ => (fX0_begin h a0 (x1 + ((v1 + 1) / 2))).bind fun h_13 => fX0_hurry_39 h_13 ) else ((p_gi h a0 0 8).bind fun v6 => if v6 ≤ (x1 + ((v1 + 1) / 2)) then (fX0_hurry_39 h ) else ((p_si h a0 0 8 (x1 + ((v1 + 1) / 2))).bind fun h_9 => fX0_hurry_39 h_9 ))
-- X0_finish
def fX0_finish_58 (h1 : PH)  : Option (PH) := some h1
def fX0_finish_55 (h1 : PH) (sx0 : Int32) (sa1 : Nat) : Option (PH) := (p_si h1 sa1 0 2 sx0).bind fun h_1 => fX0_finish_58 h_1 
def fX0_finish (h : PH) (a0 : Nat)  : Option (PH) := (p_sz h a0 0 6 0).bind fun h_3 => (p_gi h_3 a0 0 8).bind fun v5 => (p_si h_3 a0 0 5 v5).bind fun h_7 => (p_gi h_7 a0 0 4).bind fun v9 => (p_si h_7 a0 0 4 (v9 + 1)).bind fun h_11 => (p_gi h_11 a0 0 4).bind fun v13 => if v13 < 3 then (fX0_finish_58 h_11 ) else ((p_si h_11 a0 0 4 0).bind fun h_16 => (p_gi h_16 a0 0 2).bind fun v18 => if v18 ≤ 1 then (fX0_finish_55 h_16 1 a0) else ((p_gi h_16 a0 0 2).bind fun v21 => fX0_finish_55 h_16 (v21 / 2) a0))
-- X0_miss
def fX0_miss_54 (h1 : PH) (sx0 : Int32) (sa1 : Nat) : Option (PH) := (p_si h1 sa1 0 2 sx0).bind fun h_1 => some h_1
def fX0_miss (h : PH) (a0 : Nat)  : Option (PH) := (p_gi h a0 0 3).bind fun v3 => (p_si h a0 0 3 (v3 + 1)).bind fun h_5 => (p_si h_5 a0 0 4 0).bind fun h_7 => (p_gi h_7 a0 0 8).bind fun v9 => (p_gi h_7 a0 0 0).bind fun v11 => (p_gi h_7 a0 0 2).bind fun v13 => (p_si h_7 a0 0 8 (v9 + (v11 * v13))).bind fun h_15 => (p_gi h_15 a0 0 2).bind fun v17 => if 8 ≤ v17 then (fX0_miss_54 h_15 8 a0) else ((p_gi h_15 a0 0 2).bind fun v20 => fX0_miss_54 h_15 (v20 * 2) a0)
-- X1_init
def fX1_init (h : PH) (a0 : Nat) (x1 : Int32) (x2 : Int32) (x3 : Int32) (x4 : Int32) (x5 : Int32) (x6 : Int32) (a7 : Nat)  : Option (PH) := (p_si h a0 1 0 x1).bind fun h_1 => (p_si h_1 a0 1 1 x2).bind fun h_3 => (p_si h_3 a0 1 2 x3).bind fun h_5 => (p_si h_5 a0 1 3 x4).bind fun h_7 => (p_si h_7 a0 1 4 x5).bind fun h_9 => (p_sz h_9 a0 1 5 x6).bind fun h_11 => (p_sr h_11 a0 1 6 a7).bind fun h_13 => (p_sz h_13 a0 1 7 0).bind fun h_15 => (p_sz h_15 a0 1 8 0).bind fun h_17 => (p_si h_17 a0 1 9 0).bind fun h_19 => some h_19
-- X1_covers
def fX1_covers_62 (h1 : PH) (sx0 : Int32) : Option (Int32) := p_z sx0
def fX1_covers_61 (h1 : PH)  : Option (Int32) := fX1_covers_62 h1 0
def fX1_covers_57 (h1 : PH)  : Option (Int32) := fX1_covers_62 h1 1
def fX1_covers (h : PH) (a0 : Nat) (x1 : Int32) (x2 : Int32)  : Option (Int32) := (p_gi h a0 1 1).bind fun v1 => if x1 < v1 then (fX1_covers_61 h ) else ((p_gi h a0 1 1).bind fun v4 => (p_gi h a0 1 3).bind fun v6 => if (v4 + v6) ≤ x1 then (fX1_covers_61 h ) else ((p_gi h a0 1 2).bind fun v9 => if x2 < v9 then (fX1_covers_61 h ) else ((p_gi h a0 1 2).bind fun v12 => (p_gi h a0 1 4).bind fun v14 => if (v12 + v14) ≤ x2 then (fX1_covers_61 h ) else ((p_gi h a0 1 5).bind fun v17 => if v17 = 0 then (fX1_covers_57 h ) else (if ((x1 + x2) - (x1 + x2) / 2 * 2) = 0 then (fX1_covers_57 h ) else (fX1_covers_61 h ))))))
-- X1_pagesNeeded
def fX1_pagesNeeded (h : PH) (a0 : Nat)  : Option (Int32) := (p_gi h a0 1 3).bind fun v1 => (p_gi h a0 1 4).bind fun v3 => some ((((v1 * v3) + 4) - 1) / 4)
-- X1_pagesHeld
def fX1_pagesHeld_15 (h1 : PH) (sx0 : Int32) : Option (Int32) := some sx0
def fX1_pagesHeld (h : PH) (a0 : Nat)  : Option (Int32) := (p_gi h a0 1 8).bind fun v1 => if v1 = 0 then (fX1_pagesHeld_15 h 0) else ((p_ob h a0 1).bind fun _ => (fX1_pagesNeeded h a0).bind fun v6 => fX1_pagesHeld_15 h v6)
-- X1_loseSurface
def fX1_loseSurface (h : PH) (a0 : Nat) (x1 : Int32)  : Option (PH) := (p_sz h a0 1 8 0).bind fun h_1 => (p_si h_1 a0 1 9 0).bind fun h_3 => (p_gr h_3 a0 1 6).bind fun a_5 => (p_ob h_3 a_5 0).bind fun _ => (fX0_drop h_3 a_5 x1).bind fun h_9 => some h_9
-- X2_init
def fX2_init (h : PH) (a0 : Nat) (q1 : Nat) : Option (PH) := (p_ob h a0 2).bind fun _ => (p_nr h q1 8).bind fun h_1 => (p_sr h_1 a0 2 0 q1).bind fun h_5 => (p_si h_5 a0 2 1 0).bind fun h_7 => some h_7
-- X2_count
def fX2_count (h : PH) (a0 : Nat)  : Option (Int32) := (p_gi h a0 2 1).bind fun v1 => some v1
-- X2_get
def fX2_get_23 (h1 : PH) (so0 : Option Nat) : Option (Option Nat) := some so0
def fX2_get_22 (h1 : PH)  : Option (Option Nat) := fX2_get_23 h1 (none : Option Nat)
def fX2_get (h : PH) (a0 : Nat) (x1 : Int32)  : Option (Option Nat) := if x1 < 0 then (fX2_get_22 h ) else ((p_gr h a0 2 0).bind fun a_2 => (p_len h a_2).bind fun v4 => if v4 ≤ x1 then (fX2_get_22 h ) else ((p_gr h a0 2 0).bind fun a_7 => (p_ldr h a_7 x1).bind fun o_10 => fX2_get_23 h o_10))
-- X2_indexOf
def fX2_indexOf_32 (K : PH → Nat → Int32 → Int32 → Option (Int32)) (h1 : PH) (a0 : Nat) (x1 : Int32) (x2 : Int32) : Option (Int32) := K h1 a0 x1 (x2 + 1)
def fX2_indexOf_2 (n : Nat) (h1 : PH) (a0 : Nat) (x1 : Int32) (x2 : Int32) : Option (Int32) := match n with
  | 0 => none
  | n + 1 => (p_gr h1 a0 2 0).bind fun a_1 => (p_len h1 a_1).bind fun v3 => if v3 ≤ x2 then (some (-1)) else ((p_gr h1 a0 2 0).bind fun a_6 => (p_ldr h1 a_6 x2).bind fun o_9 => match o_9 with | none => (fX2_indexOf_32 (fX2_indexOf_2 n) h1 a0 x1 x2) | some a_10 => ((p_gi h1 a_10 1 0).bind fun v11 => if v11 = x1 then (some x2) else (fX2_indexOf_32 (fX2_indexOf_2 n) h1 a0 x1 x2)))
def fX2_indexOf (h : PH) (a0 : Nat) (x1 : Int32)  : Option (Int32) := fX2_indexOf_2 64 h a0 x1 0
-- X2_topmostOver
def fX2_topmostOver_36 (K : PH → Nat → Int32 → Int32 → Int32 → Option (Option Nat)) (h1 : PH) (a0 : Nat) (x1 : Int32) (x2 : Int32) (x3 : Int32) : Option (Option Nat) := K h1 a0 x1 x2 (x3 + (-1))
def fX2_topmostOver_7 (n : Nat) (h1 : PH) (a0 : Nat) (x1 : Int32) (x2 : Int32) (x3 : Int32) : Option (Option Nat) := match n with
  | 0 => none
  | n + 1 => if x3 < 0 then (some (none : Option Nat)) else ((p_ob h1 a0 2).bind fun _ => (fX2_get h1 a0 x3).bind fun o_4 => match o_4 with | none => (fX2_topmostOver_36 (fX2_topmostOver_7 n) h1 a0 x1 x2 x3) | some a_6 => ((p_ob h1 a_6 1).bind fun _ => (fX1_covers h1 a_6 x1 x2).bind fun v9 => if v9 = 0 then (fX2_topmostOver_36 (fX2_topmostOver_7 n) h1 a0 x1 x2 x3) else (some (some a_6))))
def fX2_topmostOver (h : PH) (a0 : Nat) (x1 : Int32) (x2 : Int32)  : Option (Option Nat) := (p_gi h a0 2 1).bind fun v12 => fX2_topmostOver_7 64 h a0 x1 x2 (v12 - 1)
-- X2_addLast
def fX2_addLast_39 (h1 : PH)  : Option (PH) := some h1
def fX2_addLast (h : PH) (a0 : Nat) (o1 : Option Nat)  : Option (PH) := (p_gi h a0 2 1).bind fun v1 => if v1 < 0 then (fX2_addLast_39 h ) else ((p_gi h a0 2 1).bind fun v4 => (p_gr h a0 2 0).bind fun a_6 => (p_len h a_6).bind fun v8 => if v8 ≤ v4 then (fX2_addLast_39 h ) else ((p_gr h a0 2 0).bind fun a_11 => (p_gi h a0 2 1).bind fun v13 => (p_str h a_11 v13 o1).bind fun h_15 => (p_gi h_15 a0 2 1).bind fun v17 => (p_si h_15 a0 2 1 (v17 + 1)).bind fun h_19 => fX2_addLast_39 h_19 ))
-- X2_addFirst
def fX2_addFirst_18 (n : Nat) (h1 : PH) (a0 : Nat) (o1 : Option Nat) (x2 : Int32) : Option (PH) := match n with
  | 0 => none
  | n + 1 => if x2 ≤ 0 then ((p_gr h1 a0 2 0).bind fun a_2 => (p_str h1 a_2 0 o1).bind fun h_4 => (p_gi h_4 a0 2 1).bind fun v6 => (p_si h_4 a0 2 1 (v6 + 1)).bind fun h_8 => some h_8) else ((p_gr h1 a0 2 0).bind fun a_10 => (p_gr h1 a0 2 0).bind fun a_12 => (p_ldr h1 a_12 (x2 - 1)).bind fun o_15 => (p_str h1 a_10 x2 o_15).bind fun h_16 => fX2_addFirst_18 n h_16 a0 o1 (x2 + (-1)))
def fX2_addFirst (h : PH) (a0 : Nat) (o1 : Option Nat)  : Option (PH) := (p_gi h a0 2 1).bind fun v18 => (p_gr h a0 2 0).bind fun a_20 => (p_len h a_20).bind fun v22 => if v18 < v22 then ((p_gi h a0 2 1).bind fun v25 => fX2_addFirst_18 64 h a0 o1 v25) else (some h)
-- X2_remove
def fX2_remove_13 (n : Nat) (h1 : PH) (a0 : Nat) (x3 : Int32) : Option (PH) := match n with
  | 0 => none
  | n + 1 => (p_gr h1 a0 2 0).bind fun a_1 => (p_len h1 a_1).bind fun v3 => if v3 ≤ (x3 + 1) then ((p_gr h1 a0 2 0).bind fun a_6 => (p_gr h1 a0 2 0).bind fun a_8 => (p_len h1 a_8).bind fun v10 => (p_str h1 a_6 (v10 - 1) (none : Option Nat)).bind fun h_12 => (p_gi h_12 a0 2 1).bind fun v14 => (p_si h_12 a0 2 1 (v14 - 1)).bind fun h_16 => some h_16) else ((p_gr h1 a0 2 0).bind fun a_18 => (p_gr h1 a0 2 0).bind fun a_20 => (p_ldr h1 a_20 (x3 + 1)).bind fun o_23 => (p_str h1 a_18 x3 o_23).bind fun h_24 => fX2_remove_13 n h_24 a0 (x3 + 1))
def fX2_remove (h : PH) (a0 : Nat) (x1 : Int32)  : Option (PH) := (p_ob h a0 2).bind fun _ => (fX2_indexOf h a0 x1).bind fun v28 => if 0 ≤ v28 then (fX2_remove_13 64 h a0 v28) else (some h)
-- X3_init
def fX3_init_53 (n : Nat) (h1 : PH) (a0 : Nat) (x1 : Int32) : Option (PH) := match n with
  | 0 => none
  | n + 1 => if 48 ≤ x1 then ((p_si h1 a0 3 5 0).bind fun h_2 => (p_si h_2 a0 3 6 24).bind fun h_4 => (p_si h_4 a0 3 7 0).bind fun h_6 => some h_6) else ((p_gr h1 a0 3 3).bind fun a_8 => (p_st h1 a_8 x1 (-1)).bind fun h_10 => fX3_init_53 n h_10 a0 (x1 + 1))
def fX3_init (h : PH) (a0 : Nat) (q1 : Nat) (q2 : Nat) (q3 : Nat) (q4 : Nat) (q5 : Nat) (q6 : Nat) (q7 : Nat) : Option (PH) := (p_ob h a0 3).bind fun _ => (p_nw h q1 2 [.null, .int 0]).bind fun h_12 => (p_ob h_12 a0 3).bind fun _ => (p_ob h_12 q1 2).bind fun _ => (p_ob h_12 q1 2).bind fun _ => (fX2_init h_12 q1 q2).bind fun h_18 => (p_sr h_18 a0 3 0 q1).bind fun h_24 => (p_ob h_24 a0 3).bind fun _ => (p_nw h_24 q3 2 [.null, .int 0]).bind fun h_26 => (p_ob h_26 a0 3).bind fun _ => (p_ob h_26 q3 2).bind fun _ => (p_ob h_26 q3 2).bind fun _ => (fX2_init h_26 q3 q4).bind fun h_32 => (p_sr h_32 a0 3 1 q3).bind fun h_38 => (p_ob h_38 a0 3).bind fun _ => (p_nr h_38 q5 48).bind fun h_40 => (p_sr h_40 a0 3 2 q5).bind fun h_44 => (p_ob h_44 a0 3).bind fun _ => (p_ni h_44 q6 0 48).bind fun h_46 => (p_sr h_46 a0 3 3 q6).bind fun h_50 => (p_ob h_50 a0 3).bind fun _ => (p_ni h_50 q7 0 48).bind fun h_52 => (p_sr h_52 a0 3 4 q7).bind fun h_56 => fX3_init_53 64 h_56 a0 0
-- X3_isCell
def fX3_isCell_25 (h1 : PH) (sx0 : Int32) : Option (Int32) := p_z sx0
def fX3_isCell_24 (h1 : PH)  : Option (Int32) := fX3_isCell_25 h1 0
def fX3_isCell (h : PH) (x0 : Int32) (x1 : Int32)  : Option (Int32) := if x0 < 0 then (fX3_isCell_24 h ) else (if 8 ≤ x0 then (fX3_isCell_24 h ) else (if x1 < 0 then (fX3_isCell_24 h ) else (if 6 ≤ x1 then (fX3_isCell_24 h ) else (fX3_isCell_25 h 1))))
-- X3_fits
def fX3_fits_21 (h1 : PH) (sx0 : Int32) : Option (Int32) := p_z sx0
def fX3_fits_20 (h1 : PH)  : Option (Int32) := fX3_fits_21 h1 0
def fX3_fits (h : PH) (x0 : Int32) (x1 : Int32) (x2 : Int32) (x3 : Int32)  : Option (Int32) := if (8 - x0) < x2 then (fX3_fits_20 h ) else (if (6 - x1) < x3 then (fX3_fits_20 h ) else (fX3_fits_21 h 1))
-- X3_lookAtScreen
def fX3_lookAtScreen_77 (K : PH → Nat → Int32 → Option (PH)) (h1 : PH) (a0 : Nat) (x1 : Int32) : Option (PH) := K h1 a0 (x1 + 1)
def fX3_lookAtScreen_39 (n : Nat) (h1 : PH) (a0 : Nat) (x1 : Int32) : Option (PH) := match n with
  | 0 => none
  | n + 1 => if 48 ≤ x1 then (some h1) else ((p_gr h1 a0 3 1).bind fun a_2 => (p_ob h1 a_2 2).bind fun _ => (fX2_topmostOver h1 a_2 (x1 - x1 / 8 * 8) (x1 / 8)).bind fun o_6 => (p_gr h1 a0 3 2).bind fun a_8 => (p_str h1 a_8 x1 o_6).bind fun h_10 => match o_6 with | none => (fX3_lookAtScreen_77 (fX3_lookAtScreen_39 n) h_10 a0 x1) | some a_12 => ((p_sz h_10 a_12 1 7 1).bind fun h_13 => fX3_lookAtScreen_77 (fX3_lookAtScreen_39 n) h_13 a0 x1))
def fX3_lookAtScreen_31 (K : PH → Nat → Int32 → Option (PH)) (h1 : PH) (a0 : Nat) (x1 : Int32) : Option (PH) := K h1 a0 (x1 + 1)
def fX3_lookAtScreen_2 (n : Nat) (h1 : PH) (a0 : Nat) (x1 : Int32) : Option (PH) := match n with
  | 0 => none
  | n + 1 => (p_gr h1 a0 3 1).bind fun a_15 => (p_ob h1 a_15 2).bind fun _ => (fX2_count h1 a_15).bind fun v19 => if v19 ≤ x1 then (fX3_lookAtScreen_39 64 h1 a0 0) else ((p_gr h1 a0 3 1).bind fun a_22 => (p_ob h1 a_22 2).bind fun _ => (fX2_get h1 a_22 x1).bind fun o_26 => match o_26 with | none => (fX3_lookAtScreen_31 (fX3_lookAtScreen_2 n) h1 a0 x1) | some a_28 => ((p_sz h1 a_28 1 7 0).bind fun h_29 => fX3_lookAtScreen_31 (fX3_lookAtScreen_2 n) h_29 a0 x1))
def fX3_lookAtScreen (h : PH) (a0 : Nat)  : Option (PH) := fX3_lookAtScreen_2 64 h a0 0
-- X3_pagesOfUnseen
def fX3_pagesOfUnseen_49 (K : PH → Nat → Int32 → Int32 → Option (Int32)) (h1 : PH) (a0 : Nat) (x1 : Int32) (x2 : Int32) : Option (Int32) := K h1 a0 x1 (x2 + 1)
def fX3_pagesOfUnseen_4 (n : Nat) (h1 : PH) (a0 : Nat) (x1 : Int32) (x2 : Int32) : Option (Int32) := match n with
  | 0 => none
  | n + 1 => (p_gr h1 a0 3 1).bind fun a_1 => (p_ob h1 a_1 2).bind fun _ => (fX2_count h1 a_1).bind fun v5 => if v5 ≤ x2 then (some x1) else ((p_gr h1 a0 3 1).bind fun a_8 => (p_ob h1 a_8 2).bind fun _ => (fX2_get h1 a_8 x2).bind fun o_12 => match o_12 with | none => (fX3_pagesOfUnseen_49 (fX3_pagesOfUnseen_4 n) h1 a0 x1 x2) | some a_14 => ((p_gi h1 a_14 1 8).bind fun v15 => if v15 = 0 then (fX3_pagesOfUnseen_49 (fX3_pagesOfUnseen_4 n) h1 a0 x1 x2) else ((p_gi h1 a_14 1 7).bind fun v18 => if v18 = 0 then ((p_ob h1 a_14 1).bind fun _ => (fX1_pagesNeeded h1 a_14).bind fun v23 => fX3_pagesOfUnseen_49 (fX3_pagesOfUnseen_4 n) h1 a0 (x1 + v23) x2) else (fX3_pagesOfUnseen_49 (fX3_pagesOfUnseen_4 n) h1 a0 x1 x2))))
def fX3_pagesOfUnseen (h : PH) (a0 : Nat)  : Option (Int32) := fX3_pagesOfUnseen_4 64 h a0 0 0
-- X3_takeBackUntilFree
def fX3_takeBackUntilFree_75 (h1 : PH)  : Option (PH) := some h1
def fX3_takeBackUntilFree_69 (K : PH → Nat → Int32 → Int32 → Option (PH)) (h1 : PH) (a0 : Nat) (x1 : Int32) (x2 : Int32) : Option (PH) := K h1 a0 x1 (x2 + 1)
def fX3_takeBackUntilFree_2 (n : Nat) (h1 : PH) (a0 : Nat) (x1 : Int32) (x2 : Int32) : Option (PH) := match n with
  | 0 => none
  | n + 1 => (p_gr h1 a0 3 1).bind fun a_1 => (p_ob h1 a_1 2).bind fun _ => (fX2_count h1 a_1).bind fun v5 => if v5 ≤ x2 then (fX3_takeBackUntilFree_75 h1 ) else ((p_gi h1 a0 3 6).bind fun v8 => if x1 ≤ v8 then (fX3_takeBackUntilFree_75 h1 ) else ((p_gr h1 a0 3 1).bind fun a_11 => (p_ob h1 a_11 2).bind fun _ => (fX2_get h1 a_11 x2).bind fun o_15 => match o_15 with | none => (fX3_takeBackUntilFree_69 (fX3_takeBackUntilFree_2 n) h1 a0 x1 x2) | some a_17 => ((p_gi h1 a_17 1 8).bind fun v18 => if v18 = 0 then (fX3_takeBackUntilFree_69 (fX3_takeBackUntilFree_2 n) h1 a0 x1 x2) else ((p_gi h1 a_17 1 7).bind fun v21 => if v21 = 0 then ((p_gi h1 a0 3 6).bind fun v24 => (p_ob h1 a_17 1).bind fun _ => (fX1_pagesNeeded h1 a_17).bind fun v28 => (p_si h1 a0 3 6 (v24 + v28)).bind fun h_30 => (p_gi h_30 a0 3 7).bind fun v32 => (p_ob h_30 a_17 1).bind fun _ => (fX1_loseSurface h_30 a_17 v32).bind fun h_36 => fX3_takeBackUntilFree_69 (fX3_takeBackUntilFree_2 n) h_36 a0 x1 x2) else (fX3_takeBackUntilFree_69 (fX3_takeBackUntilFree_2 n) h1 a0 x1 x2)))))
def fX3_takeBackUntilFree (h : PH) (a0 : Nat) (x1 : Int32)  : Option (PH) := fX3_takeBackUntilFree_2 64 h a0 x1 0
-- X3_lend
def fX3_lend (h : PH) (a0 : Nat) (o1 : Option Nat)  : Option (Int32 × PH) := (o1).bind fun a_1 => (p_ob h a_1 1).bind fun _ => (fX1_pagesNeeded h a_1).bind fun v4 => (p_gi h a0 3 6).bind fun v6 => (p_ob h a0 3).bind fun _ => (fX3_pagesOfUnseen h a0).bind fun v10 => if v4 ≤ (v6 + v10) then ((p_ob h a0 3).bind fun _ => (fX3_takeBackUntilFree h a0 v4).bind fun h_15 => (p_gi h_15 a0 3 6).bind fun v17 => (p_si h_15 a0 3 6 (v17 - v4)).bind fun h_19 => (p_sz h_19 a_1 1 8 1).bind fun h_21 => (p_z 1).bind fun z => some (z, h_21)) else ((p_z 0).bind fun z => some (z, h))
-- X3_putOnTop
def fX3_putOnTop (h : PH) (a0 : Nat) (o1 : Option Nat)  : Option (Int32 × PH) := (p_gr h a0 3 1).bind fun a_1 => (p_ob h a_1 2).bind fun _ => (fX2_addLast h a_1 o1).bind fun h_5 => (p_ob h_5 a0 3).bind fun _ => (fX3_lookAtScreen h_5 a0).bind fun h_9 => (p_ob h_9 a0 3).bind fun _ => (fX3_lend h_9 a0 o1).bind fun y13 => if y13.1 = 0 then ((p_gr y13.2 a0 3 1).bind fun a_16 => (o1).bind fun a_18 => (p_gi y13.2 a_18 1 0).bind fun v19 => (p_ob y13.2 a_16 2).bind fun _ => (fX2_remove y13.2 a_16 v19).bind fun h_23 => (p_ob h_23 a0 3).bind fun _ => (fX3_lookAtScreen h_23 a0).bind fun h_27 => (p_z 0).bind fun z => some (z, h_27)) else ((p_z 1).bind fun z => some (z, y13.2))
-- X3_lendToSeen
def fX3_lendToSeen_47 (K : PH → Nat → Int32 → Option (PH)) (h1 : PH) (a0 : Nat) (x1 : Int32) : Option (PH) := K h1 a0 (x1 + (-1))
def fX3_lendToSeen_10 (n : Nat) (h1 : PH) (a0 : Nat) (x1 : Int32) : Option (PH) := match n with
  | 0 => none
  | n + 1 => if x1 < 0 then (some h1) else ((p_gr h1 a0 3 1).bind fun a_2 => (p_ob h1 a_2 2).bind fun _ => (fX2_get h1 a_2 x1).bind fun o_6 => match o_6 with | none => (fX3_lendToSeen_47 (fX3_lendToSeen_10 n) h1 a0 x1) | some a_8 => ((p_gi h1 a_8 1 7).bind fun v9 => if v9 = 0 then (fX3_lendToSeen_47 (fX3_lendToSeen_10 n) h1 a0 x1) else ((p_gi h1 a_8 1 8).bind fun v12 => if v12 = 0 then ((p_ob h1 a0 3).bind fun _ => (fX3_lend h1 a0 (some a_8)).bind fun y17 => fX3_lendToSeen_47 (fX3_lendToSeen_10 n) y17.2 a0 x1) else (fX3_lendToSeen_47 (fX3_lendToSeen_10 n) h1 a0 x1))))
def fX3_lendToSeen (h : PH) (a0 : Nat)  : Option (PH) := (p_gr h a0 3 1).bind fun a_19 => (p_ob h a_19 2).bind fun _ => (fX2_count h a_19).bind fun v23 => fX3_lendToSeen_10 64 h a0 (v23 - 1)
-- X3_open
def fX3_open_97 (h1 : PH)  : Option ((String × PH) ⊕ (Int32 × PH)) := some (.inl ("java/lang/IllegalStateException", h1))
def fX3_open_66 (h1 : PH)  : Option ((String × PH) ⊕ (Int32 × PH)) := some (.inl ("java/lang/IllegalArgumentException", h1))
def fX3_open_30 (h1 : PH)  : Option ((String × PH) ⊕ (Int32 × PH)) := some (.inl ("java/lang/IllegalArgumentException", h1))
def fX3_open (h : PH) (a0 : Nat) (x1 : Int32) (x2 : Int32) (x3 : Int32) (x4 : Int32) (x5 : Int32) (x6 : Int32) (x7 : Int32) (q1 : Nat) (q2 : Nat) : Option ((String × PH) ⊕ (Int32 × PH)) := (fX3_isCell h x1 x2).bind fun v1 => if v1 = 0 then (fX3_open_30 h ) else (if x3 < 1 then (fX3_open_30 h ) else (if x4 < 1 then (fX3_open_30 h ) else ((fX3_fits h x1 x2 x3 x4).bind fun v6 => if v6 = 0 then (fX3_open_30 h ) else (if x6 < 1 then (fX3_open_66 h ) else (if 100 < x6 then (fX3_open_66 h ) else (if x7 < 1 then (fX3_open_66 h ) else (if x7 ≤ 20 then ((p_gr h a0 3 1).bind fun a_13 => (p_ob h a_13 2).bind fun _ => (fX2_count h a_13).bind fun v17 => if 8 ≤ v17 then (fX3_open_97 h ) else ((p_gi h a0 3 5).bind fun v20 => if v20 < 40 then ((p_ob h a0 3).bind fun _ => (p_nw h q1 1 [.int 0, .int 0, .int 0, .int 0, .int 0, .int 0, .null, .int 0, .int 0, .int 0]).bind fun h_23 => (p_gi h_23 a0 3 5).bind fun v27 => (p_ob h_23 a0 3).bind fun _ => (p_ob h_23 q1 1).bind fun _ => (p_nw h_23 q2 0 [.int 0, .int 0, .int 0, .int 0, .int 0, .int 0, .int 0, .int 0, .int 0]).bind fun h_29 => (p_gi h_29 a0 3 7).bind fun v35 => (p_ob h_29 q2 0).bind fun _ => (fX0_init h_29 q2 x6 x7 v35).bind fun h_39 => (p_ob h_39 q1 1).bind fun _ => (fX1_init h_39 q1 v27 x1 x2 x3 x4 x5 q2).bind fun h_43 => (p_ob h_43 a0 3).bind fun _ => (fX3_putOnTop h_43 a0 (some q1)).bind fun y47 => if y47.1 = 0 then (some (.inl ("java/lang/IllegalStateException", y47.2))) else ((p_gi y47.2 a0 3 5).bind fun v50 => (p_si y47.2 a0 3 5 (v50 + 1)).bind fun h_52 => (p_gr h_52 a0 3 0).bind fun a_54 => (p_ob h_52 a_54 2).bind fun _ => (fX2_addLast h_52 a_54 (some q1)).bind fun h_58 => (p_ob h_58 a0 3).bind fun _ => (fX3_lendToSeen h_58 a0).bind fun h_62 => (p_gi h_62 q1 1 0).bind fun v64 => some (.inr (v64, h_62)))) else (fX3_open_97 h ))) else (fX3_open_66 h ))))))))
-- X3_find
def fX3_find (h : PH) (a0 : Nat) (x1 : Int32)  : Option (String ⊕ (Option Nat)) := (p_gr h a0 3 0).bind fun a_1 => (p_gr h a0 3 0).bind fun a_3 => (p_ob h a_3 2).bind fun _ => (fX2_indexOf h a_3 x1).bind fun v7 => (p_ob h a_1 2).bind fun _ => (fX2_get h a_1 v7).bind fun o_11 => match o_11 with | none => (some (.inl "java/lang/IndexOutOfBoundsException")) | some a_13 => (some (.inr (some a_13)))
-- X3_rearrange
def fX3_rearrange (h : PH) (a0 : Nat)  : Option (PH) := (p_ob h a0 3).bind fun _ => (fX3_lookAtScreen h a0).bind fun h_3 => (p_ob h_3 a0 3).bind fun _ => (fX3_lendToSeen h_3 a0).bind fun h_7 => some h_7
-- X3_close
def fX3_close (h : PH) (a0 : Nat) (x1 : Int32)  : Option ((String × PH) ⊕ (Int32 × PH)) := (p_ob h a0 3).bind fun _ => (fX3_find h a0 x1).bind fun o_3 => match o_3 with | .inl Ex5 => (some (.inl (Ex5, h))) | .inr o_5 => (p_gr h a0 3 1).bind fun a_6 => (p_ob h a_6 2).bind fun _ => (fX2_remove h a_6 x1).bind fun h_10 => (p_gr h_10 a0 3 0).bind fun a_12 => (p_ob h_10 a_12 2).bind fun _ => (fX2_remove h_10 a_12 x1).bind fun h_16 => (p_gi h_16 a0 3 6).bind fun v18 => (o_5).bind fun a_20 => (p_ob h_16 a_20 1).bind fun _ => (fX1_pagesHeld h_16 a_20).bind fun v23 => (p_si h_16 a0 3 6 (v18 + v23)).bind fun h_25 => (p_ob h_25 a0 3).bind fun _ => (fX3_rearrange h_25 a0).bind fun h_29 => (p_gr h_29 a0 3 1).bind fun a_31 => (p_ob h_29 a_31 2).bind fun _ => (fX2_count h_29 a_31).bind fun v35 => some (.inr (v35, h_29))
-- X3_move
def fX3_move_33 (h1 : PH)  : Option ((String × PH) ⊕ (PH)) := some (.inl ("java/lang/IllegalArgumentException", h1))
def fX3_move (h : PH) (a0 : Nat) (x1 : Int32) (x2 : Int32) (x3 : Int32)  : Option ((String × PH) ⊕ (PH)) := (p_ob h a0 3).bind fun _ => (fX3_find h a0 x1).bind fun o_3 => match o_3 with | .inl Ex5 => (some (.inl (Ex5, h))) | .inr o_5 => (fX3_isCell h x2 x3).bind fun v6 => if v6 = 0 then (fX3_move_33 h ) else ((o_5).bind fun a_9 => (p_gi h a_9 1 3).bind fun v10 => (p_gi h a_9 1 4).bind fun v12 => (fX3_fits h x2 x3 v10 v12).bind fun v14 => if v14 = 0 then (fX3_move_33 h ) else ((p_si h a_9 1 1 x2).bind fun h_17 => (p_si h_17 a_9 1 2 x3).bind fun h_19 => (p_ob h_19 a0 3).bind fun _ => (fX3_rearrange h_19 a0).bind fun h_23 => some (.inr h_23)))
-- X3_lay
def fX3_lay_47 (h1 : PH) (a0 : Nat) (x4 : Int32) : Option ((String × PH) ⊕ (Int32 × PH)) := (p_ob h1 a0 3).bind fun _ => (fX3_rearrange h1 a0).bind fun h_3 => some (.inr (x4, h_3))
def fX3_lay (h : PH) (a0 : Nat) (x1 : Int32) (x2 : Int32)  : Option ((String × PH) ⊕ (Int32 × PH)) := (p_ob h a0 3).bind fun _ => (fX3_find h a0 x1).bind fun o_7 => match o_7 with | .inl Ex9 => (some (.inl (Ex9, h))) | .inr o_9 => (p_gr h a0 3 1).bind fun a_10 => (p_ob h a_10 2).bind fun _ => (fX2_indexOf h a_10 x1).bind fun v14 => (p_gr h a0 3 1).bind fun a_16 => (p_ob h a_16 2).bind fun _ => (fX2_remove h a_16 x1).bind fun h_20 => if x2 = 0 then ((p_gr h_20 a0 3 1).bind fun a_23 => (p_ob h_20 a_23 2).bind fun _ => (fX2_addFirst h_20 a_23 o_9).bind fun h_27 => fX3_lay_47 h_27 a0 v14) else ((p_gr h_20 a0 3 1).bind fun a_29 => (p_ob h_20 a_29 2).bind fun _ => (fX2_addLast h_20 a_29 o_9).bind fun h_33 => fX3_lay_47 h_33 a0 v14)
-- X3_beginFrames
def fX3_beginFrames_68 (K : PH → Nat → Int32 → Option (PH)) (h1 : PH) (a0 : Nat) (x1 : Int32) : Option (PH) := K h1 a0 (x1 + 1)
def fX3_beginFrames_57 (K : PH → Nat → Int32 → Option (PH)) (h1 : PH) (a0 : Nat) (x1 : Int32) (o2 : Option Nat) : Option (PH) := (o2).bind fun a_1 => (p_gr h1 a_1 1 6).bind fun a_2 => (p_gi h1 a0 3 7).bind fun v4 => (p_ob h1 a_2 0).bind fun _ => (fX0_drop h1 a_2 v4).bind fun h_8 => fX3_beginFrames_68 K h_8 a0 x1
def fX3_beginFrames_2 (n : Nat) (h1 : PH) (a0 : Nat) (x1 : Int32) : Option (PH) := match n with
  | 0 => none
  | n + 1 => (p_gr h1 a0 3 0).bind fun a_10 => (p_ob h1 a_10 2).bind fun _ => (fX2_count h1 a_10).bind fun v14 => if v14 ≤ x1 then (some h1) else ((p_gr h1 a0 3 0).bind fun a_17 => (p_ob h1 a_17 2).bind fun _ => (fX2_get h1 a_17 x1).bind fun o_21 => match o_21 with | none => (fX3_beginFrames_68 (fX3_beginFrames_2 n) h1 a0 x1) | some a_23 => ((p_gi h1 a_23 1 7).bind fun v24 => if v24 = 0 then (fX3_beginFrames_57 (fX3_beginFrames_2 n) h1 a0 x1 (some a_23)) else ((p_gi h1 a_23 1 8).bind fun v27 => if v27 = 0 then (fX3_beginFrames_57 (fX3_beginFrames_2 n) h1 a0 x1 (some a_23)) else ((p_gr h1 a_23 1 6).bind fun a_30 => (p_gi h1 a0 3 7).bind fun v32 => (p_ob h1 a_30 0).bind fun _ => (fX0_beginIfDue h1 a_30 v32).bind fun h_36 => fX3_beginFrames_68 (fX3_beginFrames_2 n) h_36 a0 x1))))
def fX3_beginFrames (h : PH) (a0 : Nat)  : Option (PH) := fX3_beginFrames_2 64 h a0 0
-- X3_mostUrgent
def fX3_mostUrgent_61 (K : PH → Nat → Option Nat → Int32 → Option (Option Nat)) (h1 : PH) (a0 : Nat) (o1 : Option Nat) (x2 : Int32) : Option (Option Nat) := K h1 a0 o1 (x2 + 1)
def fX3_mostUrgent_59 (K : PH → Nat → Option Nat → Int32 → Option (Option Nat)) (h1 : PH) (a0 : Nat) (x2 : Int32) (o3 : Option Nat) : Option (Option Nat) := fX3_mostUrgent_61 K h1 a0 o3 x2
def fX3_mostUrgent_4 (n : Nat) (h1 : PH) (a0 : Nat) (o1 : Option Nat) (x2 : Int32) : Option (Option Nat) := match n with
  | 0 => none
  | n + 1 => (p_gr h1 a0 3 0).bind fun a_1 => (p_ob h1 a_1 2).bind fun _ => (fX2_count h1 a_1).bind fun v5 => if v5 ≤ x2 then (some o1) else ((p_gr h1 a0 3 0).bind fun a_8 => (p_ob h1 a_8 2).bind fun _ => (fX2_get h1 a_8 x2).bind fun o_12 => match o_12 with | none => (fX3_mostUrgent_61 (fX3_mostUrgent_4 n) h1 a0 o1 x2) | some a_14 => ((p_gr h1 a_14 1 6).bind fun a_15 => (p_gi h1 a_15 0 6).bind fun v17 => if v17 = 0 then (fX3_mostUrgent_61 (fX3_mostUrgent_4 n) h1 a0 o1 x2) else (match o1 with | none => (fX3_mostUrgent_59 (fX3_mostUrgent_4 n) h1 a0 x2 (some a_14)) | some a_20 => ((p_gr h1 a_14 1 6).bind fun a_21 => (p_gi h1 a_21 0 8).bind fun v23 => (p_gr h1 a_20 1 6).bind fun a_25 => (p_gi h1 a_25 0 8).bind fun v27 => if v27 ≤ v23 then (fX3_mostUrgent_61 (fX3_mostUrgent_4 n) h1 a0 (some a_20) x2) else (fX3_mostUrgent_59 (fX3_mostUrgent_4 n) h1 a0 x2 (some a_14))))))
def fX3_mostUrgent (h : PH) (a0 : Nat)  : Option (Option Nat) := fX3_mostUrgent_4 64 h a0 (none : Option Nat) 0
-- X3_countMisses
def fX3_countMisses_57 (K : PH → Nat → Int32 → Option (PH)) (h1 : PH) (a0 : Nat) (x1 : Int32) : Option (PH) := K h1 a0 (x1 + 1)
def fX3_countMisses_2 (n : Nat) (h1 : PH) (a0 : Nat) (x1 : Int32) : Option (PH) := match n with
  | 0 => none
  | n + 1 => (p_gr h1 a0 3 0).bind fun a_1 => (p_ob h1 a_1 2).bind fun _ => (fX2_count h1 a_1).bind fun v5 => if v5 ≤ x1 then (some h1) else ((p_gr h1 a0 3 0).bind fun a_8 => (p_ob h1 a_8 2).bind fun _ => (fX2_get h1 a_8 x1).bind fun o_12 => match o_12 with | none => (fX3_countMisses_57 (fX3_countMisses_2 n) h1 a0 x1) | some a_14 => ((p_gr h1 a_14 1 6).bind fun a_15 => (p_gi h1 a_15 0 6).bind fun v17 => if v17 = 0 then (fX3_countMisses_57 (fX3_countMisses_2 n) h1 a0 x1) else ((p_gr h1 a_14 1 6).bind fun a_20 => (p_gi h1 a_20 0 8).bind fun v22 => (p_gi h1 a0 3 7).bind fun v24 => if v22 = v24 then ((p_gr h1 a_14 1 6).bind fun a_27 => (p_ob h1 a_27 0).bind fun _ => (fX0_miss h1 a_27).bind fun h_31 => fX3_countMisses_57 (fX3_countMisses_2 n) h_31 a0 x1) else (fX3_countMisses_57 (fX3_countMisses_2 n) h1 a0 x1))))
def fX3_countMisses (h : PH) (a0 : Nat)  : Option (PH) := fX3_countMisses_2 64 h a0 0
-- X3_passTick
def fX3_passTick_74 (h1 : PH) (a0 : Nat) : Option (PH) := (p_ob h1 a0 3).bind fun _ => (fX3_countMisses h1 a0).bind fun h_3 => some h_3
def fX3_passTick_26 (h1 : PH) (a0 : Nat) (o1 : Option Nat) : Option (PH) := (p_gi h1 a0 3 7).bind fun v5 => (p_si h1 a0 3 7 (v5 + 1)).bind fun h_7 => match o1 with | none => (fX3_passTick_74 h_7 a0) | some a_9 => ((p_gr h_7 a_9 1 6).bind fun a_10 => (p_gi h_7 a_10 0 7).bind fun v12 => (p_gr h_7 a_9 1 6).bind fun a_14 => (p_gi h_7 a_14 0 1).bind fun v16 => if v12 < v16 then (fX3_passTick_74 h_7 a0) else ((p_gi h_7 a_9 1 9).bind fun v19 => (p_si h_7 a_9 1 9 (v19 + 1)).bind fun h_21 => (p_gr h_21 a_9 1 6).bind fun a_23 => (p_ob h_21 a_23 0).bind fun _ => (fX0_finish h_21 a_23).bind fun h_27 => fX3_passTick_74 h_27 a0))
def fX3_passTick (h : PH) (a0 : Nat)  : Option (PH) := (p_ob h a0 3).bind fun _ => (fX3_beginFrames h a0).bind fun h_31 => (p_ob h_31 a0 3).bind fun _ => (fX3_mostUrgent h_31 a0).bind fun o_35 => match o_35 with | none => (fX3_passTick_26 h_31 a0 (none : Option Nat)) | some a_37 => ((p_gr h_31 a_37 1 6).bind fun a_38 => (p_gi h_31 a_38 0 7).bind fun v40 => (p_si h_31 a_38 0 7 (v40 + 1)).bind fun h_42 => fX3_passTick_26 h_42 a0 (some a_37))
-- X3_advance
def fX3_advance_45 (n : Nat) (h1 : PH) (a0 : Nat) (x1 : Int32) (x2 : Int32) : Option ((String × PH) ⊕ (Int32 × PH)) := match n with
  | 0 => none
  | n + 1 => if x1 ≤ x2 then ((p_gi h1 a0 3 7).bind fun v2 => some (.inr (v2, h1))) else ((p_ob h1 a0 3).bind fun _ => (fX3_passTick h1 a0).bind fun h_6 => fX3_advance_45 n h_6 a0 x1 (x2 + 1))
def fX3_advance_12 (h1 : PH)  : Option ((String × PH) ⊕ (Int32 × PH)) := some (.inl ("java/lang/IllegalArgumentException", h1))
def fX3_advance (h : PH) (a0 : Nat) (x1 : Int32)  : Option ((String × PH) ⊕ (Int32 × PH)) := if x1 < 1 then (fX3_advance_12 h ) else (if x1 ≤ 200 then ((p_gi h a0 3 7).bind fun v10 => if (v10 + x1) ≤ 100000 then (fX3_advance_45 300 h a0 x1 0) else (some (.inl ("java/lang/IllegalStateException", h)))) else (fX3_advance_12 h ))
-- X3_findTopmost
def fX3_findTopmost (h : PH) (a0 : Nat) (x1 : Int32) (x2 : Int32)  : Option (String ⊕ (Option Nat)) := (fX3_isCell h x1 x2).bind fun v1 => if v1 = 0 then (some (.inl "java/lang/IndexOutOfBoundsException")) else ((p_gr h a0 3 2).bind fun a_4 => (p_ldr h a_4 ((x2 * 8) + x1)).bind fun o_7 => some (.inr o_7))
-- X3_numberOf
def fX3_numberOf_12 (h1 : PH) (sx0 : Int32) : Option (Int32) := some sx0
def fX3_numberOf (h : PH) (o0 : Option Nat)  : Option (Int32) := match o0 with | none => (fX3_numberOf_12 h (-1)) | some a_1 => ((p_gi h a_1 1 0).bind fun v2 => fX3_numberOf_12 h v2)
-- X3_input
def fX3_input_29 (h1 : PH) (o3 : Option Nat) : Option ((String × PH) ⊕ (Int32 × PH)) := (fX3_numberOf h1 o3).bind fun v1 => some (.inr (v1, h1))
def fX3_input (h : PH) (a0 : Nat) (x1 : Int32) (x2 : Int32)  : Option ((String × PH) ⊕ (Int32 × PH)) := (p_ob h a0 3).bind fun _ => (fX3_findTopmost h a0 x1 x2).bind fun o_5 => match o_5 with | .inl Ex7 => (some (.inl (Ex7, h))) | .inr o_7 => match o_7 with | none => (fX3_input_29 h (none : Option Nat)) | some a_8 => ((p_gi h a_8 1 8).bind fun v9 => if v9 = 0 then (fX3_input_29 h (some a_8)) else ((p_gr h a_8 1 6).bind fun a_12 => (p_gi h a0 3 7).bind fun v14 => (p_ob h a_12 0).bind fun _ => (fX0_hurry h a_12 v14).bind fun h_18 => fX3_input_29 h_18 (some a_8)))
-- X3_pictureOf
def fX3_pictureOf_12 (h1 : PH) (sx0 : Int32) : Option (Int32) := some sx0
def fX3_pictureOf (h : PH) (o0 : Option Nat)  : Option (Int32) := match o0 with | none => (fX3_pictureOf_12 h 0) | some a_1 => ((p_gi h a_1 1 9).bind fun v2 => fX3_pictureOf_12 h v2)
-- X3_countDamage
def fX3_countDamage_46 (K : PH → Nat → Int32 → Int32 → Option (Int32)) (h1 : PH) (a0 : Nat) (x1 : Int32) (x2 : Int32) : Option (Int32) := K h1 a0 x1 (x2 + 1)
def fX3_countDamage_43 (K : PH → Nat → Int32 → Int32 → Option (Int32)) (h1 : PH) (a0 : Nat) (x1 : Int32) (x2 : Int32) : Option (Int32) := fX3_countDamage_46 K h1 a0 (x1 + 1) x2
def fX3_countDamage_4 (n : Nat) (h1 : PH) (a0 : Nat) (x1 : Int32) (x2 : Int32) : Option (Int32) := match n with
  | 0 => none
  | n + 1 => if 48 ≤ x2 then (some x1) else ((p_gr h1 a0 3 2).bind fun a_2 => (p_ldr h1 a_2 x2).bind fun o_5 => (fX3_numberOf h1 o_5).bind fun v6 => (p_gr h1 a0 3 3).bind fun a_8 => (p_ld h1 a_8 0 x2).bind fun v11 => if v6 = v11 then ((fX3_pictureOf h1 o_5).bind fun v13 => (p_gr h1 a0 3 4).bind fun a_15 => (p_ld h1 a_15 0 x2).bind fun v18 => if v13 = v18 then (fX3_countDamage_46 (fX3_countDamage_4 n) h1 a0 x1 x2) else (fX3_countDamage_43 (fX3_countDamage_4 n) h1 a0 x1 x2)) else (fX3_countDamage_43 (fX3_countDamage_4 n) h1 a0 x1 x2))
def fX3_countDamage (h : PH) (a0 : Nat)  : Option (Int32) := fX3_countDamage_4 64 h a0 0 0
-- X3_rememberScreen
def fX3_rememberScreen_2 (n : Nat) (h1 : PH) (a0 : Nat) (x1 : Int32) : Option (PH) := match n with
  | 0 => none
  | n + 1 => if 48 ≤ x1 then (some h1) else ((p_gr h1 a0 3 2).bind fun a_2 => (p_ldr h1 a_2 x1).bind fun o_5 => (p_gr h1 a0 3 3).bind fun a_6 => (fX3_numberOf h1 o_5).bind fun v8 => (p_st h1 a_6 x1 v8).bind fun h_10 => (p_gr h_10 a0 3 4).bind fun a_12 => (fX3_pictureOf h_10 o_5).bind fun v14 => (p_st h_10 a_12 x1 v14).bind fun h_16 => fX3_rememberScreen_2 n h_16 a0 (x1 + 1))
def fX3_rememberScreen (h : PH) (a0 : Nat)  : Option (PH) := fX3_rememberScreen_2 64 h a0 0
-- X3_show
def fX3_show (h : PH) (a0 : Nat)  : Option (Int32 × PH) := (p_ob h a0 3).bind fun _ => (fX3_countDamage h a0).bind fun v3 => (p_ob h a0 3).bind fun _ => (fX3_rememberScreen h a0).bind fun h_7 => some (v3, h_7)
-- X3_tick
def fX3_tick (h : PH) (a0 : Nat)  : Option (Int32) := (p_gi h a0 3 7).bind fun v1 => some v1
-- X3_windows
def fX3_windows (h : PH) (a0 : Nat)  : Option (Int32) := (p_gr h a0 3 1).bind fun a_1 => (p_ob h a_1 2).bind fun _ => (fX2_count h a_1).bind fun v5 => some v5
-- X3_free
def fX3_free (h : PH) (a0 : Nat)  : Option (Int32) := (p_gi h a0 3 6).bind fun v1 => some v1
-- X3_damage
def fX3_damage (h : PH) (a0 : Nat)  : Option (Int32) := (p_ob h a0 3).bind fun _ => (fX3_countDamage h a0).bind fun v3 => some v3
-- X3_at
def fX3_at (h : PH) (a0 : Nat) (x1 : Int32) (x2 : Int32)  : Option (String ⊕ (Int32)) := (p_ob h a0 3).bind fun _ => (fX3_findTopmost h a0 x1 x2).bind fun o_3 => match o_3 with | .inl Ex5 => (some (.inl Ex5)) | .inr o_5 => (fX3_numberOf h o_5).bind fun v6 => some (.inr v6)
-- X3_placeOf
def fX3_placeOf (h : PH) (a0 : Nat) (x1 : Int32)  : Option (String ⊕ (Int32)) := (p_gr h a0 3 1).bind fun a_1 => (p_ob h a0 3).bind fun _ => (fX3_find h a0 x1).bind fun o_5 => match o_5 with | .inl Ex7 => (some (.inl Ex7)) | .inr o_7 => (o_7).bind fun a_8 => (p_gi h a_8 1 0).bind fun v9 => (p_ob h a_1 2).bind fun _ => (fX2_indexOf h a_1 v9).bind fun v13 => some (.inr v13)
-- X3_isSeen
def fX3_isSeen (h : PH) (a0 : Nat) (x1 : Int32)  : Option (String ⊕ (Int32)) := (p_ob h a0 3).bind fun _ => (fX3_find h a0 x1).bind fun o_3 => match o_3 with | .inl Ex5 => (some (.inl Ex5)) | .inr o_5 => (o_5).bind fun a_6 => (p_gi h a_6 1 7).bind fun v7 => (p_z v7).bind fun z => some (Sum.inr z)
-- X3_pagesOf
def fX3_pagesOf (h : PH) (a0 : Nat) (x1 : Int32)  : Option (String ⊕ (Int32)) := (p_ob h a0 3).bind fun _ => (fX3_find h a0 x1).bind fun o_3 => match o_3 with | .inl Ex5 => (some (.inl Ex5)) | .inr o_5 => (o_5).bind fun a_6 => (p_ob h a_6 1).bind fun _ => (fX1_pagesHeld h a_6).bind fun v9 => some (.inr v9)
-- X3_picture
def fX3_picture (h : PH) (a0 : Nat) (x1 : Int32)  : Option (String ⊕ (Int32)) := (p_ob h a0 3).bind fun _ => (fX3_find h a0 x1).bind fun o_3 => match o_3 with | .inl Ex5 => (some (.inl Ex5)) | .inr o_5 => (o_5).bind fun a_6 => (p_gi h a_6 1 9).bind fun v7 => some (.inr v7)
-- X3_pace
def fX3_pace (h : PH) (a0 : Nat) (x1 : Int32)  : Option (String ⊕ (Int32)) := (p_ob h a0 3).bind fun _ => (fX3_find h a0 x1).bind fun o_3 => match o_3 with | .inl Ex5 => (some (.inl Ex5)) | .inr o_5 => (o_5).bind fun a_6 => (p_gr h a_6 1 6).bind fun a_7 => (p_gi h a_7 0 2).bind fun v9 => some (.inr v9)
-- X3_misses
def fX3_misses (h : PH) (a0 : Nat) (x1 : Int32)  : Option (String ⊕ (Int32)) := (p_ob h a0 3).bind fun _ => (fX3_find h a0 x1).bind fun o_3 => match o_3 with | .inl Ex5 => (some (.inl Ex5)) | .inr o_5 => (o_5).bind fun a_6 => (p_gr h a_6 1 6).bind fun a_7 => (p_gi h a_7 0 3).bind fun v9 => some (.inr v9)
-- X3_deadline
def fX3_deadline_24 (h1 : PH) (sx0 : Int32) : Option (String ⊕ (Int32)) := some (.inr sx0)
def fX3_deadline (h : PH) (a0 : Nat) (x1 : Int32)  : Option (String ⊕ (Int32)) := (p_ob h a0 3).bind fun _ => (fX3_find h a0 x1).bind fun o_3 => match o_3 with | .inl Ex5 => (some (.inl Ex5)) | .inr o_5 => (o_5).bind fun a_6 => (p_gr h a_6 1 6).bind fun a_7 => (p_gi h a_7 0 6).bind fun v9 => if v9 = 0 then (fX3_deadline_24 h (-1)) else ((p_gi h a_7 0 8).bind fun v12 => fX3_deadline_24 h v12)
-- X4_init
def fX4_init_150 (n : Nat) (h1 : PH) (a0 : Nat) (x1 : Int32) : Option (PH) := match n with
  | 0 => none
  | n + 1 => if 48 ≤ x1 then (some h1) else ((p_gr h1 a0 4 20).bind fun a_2 => (p_st h1 a_2 x1 (-1)).bind fun h_4 => fX4_init_150 n h_4 a0 (x1 + 1))
def fX4_init (h : PH) (a0 : Nat) (q1 : Nat) (q2 : Nat) (q3 : Nat) (q4 : Nat) (q5 : Nat) (q6 : Nat) (q7 : Nat) (q8 : Nat) (q9 : Nat) (q10 : Nat) (q11 : Nat) (q12 : Nat) (q13 : Nat) (q14 : Nat) (q15 : Nat) (q16 : Nat) (q17 : Nat) (q18 : Nat) : Option (PH) := (p_ob h a0 4).bind fun _ => (p_ni h q1 0 8).bind fun h_6 => (p_sr h_6 a0 4 4 q1).bind fun h_10 => (p_ob h_10 a0 4).bind fun _ => (p_ni h_10 q2 0 40).bind fun h_12 => (p_sr h_12 a0 4 5 q2).bind fun h_16 => (p_ob h_16 a0 4).bind fun _ => (p_ni h_16 q3 0 40).bind fun h_18 => (p_sr h_18 a0 4 6 q3).bind fun h_22 => (p_ob h_22 a0 4).bind fun _ => (p_ni h_22 q4 0 40).bind fun h_24 => (p_sr h_24 a0 4 7 q4).bind fun h_28 => (p_ob h_28 a0 4).bind fun _ => (p_ni h_28 q5 0 40).bind fun h_30 => (p_sr h_30 a0 4 8 q5).bind fun h_34 => (p_ob h_34 a0 4).bind fun _ => (p_ni h_34 q6 1 40).bind fun h_36 => (p_sr h_36 a0 4 9 q6).bind fun h_40 => (p_ob h_40 a0 4).bind fun _ => (p_ni h_40 q7 0 40).bind fun h_42 => (p_sr h_42 a0 4 10 q7).bind fun h_46 => (p_ob h_46 a0 4).bind fun _ => (p_ni h_46 q8 0 40).bind fun h_48 => (p_sr h_48 a0 4 11 q8).bind fun h_52 => (p_ob h_52 a0 4).bind fun _ => (p_ni h_52 q9 1 40).bind fun h_54 => (p_sr h_54 a0 4 12 q9).bind fun h_58 => (p_ob h_58 a0 4).bind fun _ => (p_ni h_58 q10 0 40).bind fun h_60 => (p_sr h_60 a0 4 13 q10).bind fun h_64 => (p_ob h_64 a0 4).bind fun _ => (p_ni h_64 q11 0 40).bind fun h_66 => (p_sr h_66 a0 4 14 q11).bind fun h_70 => (p_ob h_70 a0 4).bind fun _ => (p_ni h_70 q12 0 40).bind fun h_72 => (p_sr h_72 a0 4 15 q12).bind fun h_76 => (p_ob h_76 a0 4).bind fun _ => (p_ni h_76 q13 0 40).bind fun h_78 => (p_sr h_78 a0 4 16 q13).bind fun h_82 => (p_ob h_82 a0 4).bind fun _ => (p_ni h_82 q14 0 40).bind fun h_84 => (p_sr h_84 a0 4 17 q14).bind fun h_88 => (p_ob h_88 a0 4).bind fun _ => (p_ni h_88 q15 0 40).bind fun h_90 => (p_sr h_90 a0 4 18 q15).bind fun h_94 => (p_ob h_94 a0 4).bind fun _ => (p_ni h_94 q16 0 40).bind fun h_96 => (p_sr h_96 a0 4 19 q16).bind fun h_100 => (p_ob h_100 a0 4).bind fun _ => (p_ni h_100 q17 0 48).bind fun h_102 => (p_sr h_102 a0 4 20 q17).bind fun h_106 => (p_ob h_106 a0 4).bind fun _ => (p_ni h_106 q18 0 48).bind fun h_108 => (p_sr h_108 a0 4 21 q18).bind fun h_112 => fX4_init_150 64 h_112 a0 0
-- X4_thrown
def fX4_thrown (h : PH) (a0 : Nat)  : Option (Int32) := (p_gi h a0 4 0).bind fun v1 => some v1
-- X4_refused
def fX4_refused_14 (h1 : PH) (sx0 : Int32) : Option (Int32 × PH) := (p_z sx0).bind fun z => some (z, h1)
def fX4_refused (h : PH) (a0 : Nat) (x1 : Int32)  : Option (Int32 × PH) := (p_si h a0 4 0 x1).bind fun h_1 => if x1 = 0 then (fX4_refused_14 h_1 0) else (fX4_refused_14 h_1 1)
-- X4_fine
def fX4_fine (h : PH) (a0 : Nat) (x1 : Int32)  : Option (Int32 × PH) := (p_si h a0 4 0 0).bind fun h_1 => some (x1, h_1)
-- X4_in
def fX4_in_15 (h1 : PH) (sx0 : Int32) : Option (Int32) := p_z sx0
def fX4_in_14 (h1 : PH)  : Option (Int32) := fX4_in_15 h1 0
def fX4_in (h : PH) (x0 : Int32) (x1 : Int32) (x2 : Int32)  : Option (Int32) := if x0 < x1 then (fX4_in_14 h ) else (if x2 < x0 then (fX4_in_14 h ) else (fX4_in_15 h 1))
-- X4_placeIn
def fX4_placeIn_2 (n : Nat) (h1 : PH) (a0 : Nat) (x1 : Int32) (x2 : Int32) : Option (Int32) := match n with
  | 0 => none
  | n + 1 => (p_gi h1 a0 4 3).bind fun v1 => if v1 ≤ x2 then (some (-1)) else ((p_gr h1 a0 4 4).bind fun a_4 => (p_ld h1 a_4 0 x2).bind fun v7 => if v7 = x1 then (some x2) else (fX4_placeIn_2 n h1 a0 x1 (x2 + 1)))
def fX4_placeIn (h : PH) (a0 : Nat) (x1 : Int32)  : Option (Int32) := fX4_placeIn_2 64 h a0 x1 0
-- X4_noWindow
def fX4_noWindow_15 (h1 : PH) (sx0 : Int32) (sa1 : Nat) : Option (Int32 × PH) := (p_ob h1 sa1 4).bind fun _ => (fX4_refused h1 sa1 sx0).bind fun y3 => (p_z y3.1).bind fun z => some (z, y3.2)
def fX4_noWindow (h : PH) (a0 : Nat) (x1 : Int32)  : Option (Int32 × PH) := (p_ob h a0 4).bind fun _ => (fX4_placeIn h a0 x1).bind fun v7 => if v7 = (-1) then (fX4_noWindow_15 h 1 a0) else (fX4_noWindow_15 h 0 a0)
-- X4_covers
def fX4_covers_90 (h1 : PH) (sx0 : Int32) : Option (Int32) := p_z sx0
def fX4_covers_89 (h1 : PH)  : Option (Int32) := fX4_covers_90 h1 0
def fX4_covers_85 (h1 : PH)  : Option (Int32) := fX4_covers_90 h1 1
def fX4_covers_61 (h1 : PH) (a0 : Nat) (x1 : Int32) (x2 : Int32) (x3 : Int32) (sx0 : Int32) : Option (Int32) := if sx0 = 0 then (fX4_covers_89 h1 ) else ((p_gr h1 a0 4 9).bind fun a_2 => (p_ld h1 a_2 1 x1).bind fun v5 => if v5 = 0 then (fX4_covers_85 h1 ) else (if ((x2 + x3) - (x2 + x3) / 2 * 2) = 0 then (fX4_covers_85 h1 ) else (fX4_covers_89 h1 )))
def fX4_covers_60 (h1 : PH) (a0 : Nat) (x1 : Int32) (x2 : Int32) (x3 : Int32) : Option (Int32) := fX4_covers_61 h1 a0 x1 x2 x3 0
def fX4_covers (h : PH) (a0 : Nat) (x1 : Int32) (x2 : Int32) (x3 : Int32)  : Option (Int32) := (p_gr h a0 4 5).bind fun a_8 => (p_ld h a_8 0 x1).bind fun v11 => (p_gr h a0 4 5).bind fun a_12 => (p_ld h a_12 0 x1).bind fun v15 => (p_gr h a0 4 7).bind fun a_16 => (p_ld h a_16 0 x1).bind fun v19 => (fX4_in h x2 v11 ((v15 + v19) - 1)).bind fun v20 => if v20 = 0 then (fX4_covers_60 h a0 x1 x2 x3) else ((p_gr h a0 4 6).bind fun a_23 => (p_ld h a_23 0 x1).bind fun v26 => (p_gr h a0 4 6).bind fun a_27 => (p_ld h a_27 0 x1).bind fun v30 => (p_gr h a0 4 8).bind fun a_31 => (p_ld h a_31 0 x1).bind fun v34 => (fX4_in h x3 v26 ((v30 + v34) - 1)).bind fun v35 => if v35 = 0 then (fX4_covers_60 h a0 x1 x2 x3) else (fX4_covers_61 h a0 x1 x2 x3 1))
-- X4_shownAt
def fX4_shownAt_7 (n : Nat) (h1 : PH) (a0 : Nat) (x1 : Int32) (x2 : Int32) (x3 : Int32) : Option (Int32) := match n with
  | 0 => none
  | n + 1 => if x3 < 0 then (some (-1)) else ((p_gr h1 a0 4 4).bind fun a_2 => (p_ld h1 a_2 0 x3).bind fun v5 => (p_ob h1 a0 4).bind fun _ => (fX4_covers h1 a0 v5 x1 x2).bind fun v8 => if v8 = 0 then (fX4_shownAt_7 n h1 a0 x1 x2 (x3 + (-1))) else ((p_gr h1 a0 4 4).bind fun a_11 => (p_ld h1 a_11 0 x3).bind fun v14 => some v14))
def fX4_shownAt (h : PH) (a0 : Nat) (x1 : Int32) (x2 : Int32)  : Option (Int32) := (p_gi h a0 4 3).bind fun v15 => fX4_shownAt_7 64 h a0 x1 x2 (v15 - 1)
-- X4_isShown
def fX4_isShown_35 (K : PH → Nat → Int32 → Int32 → Int32 → Option (Int32)) (h1 : PH) (a0 : Nat) (x1 : Int32) (x3 : Int32) (sx0 : Int32) : Option (Int32) := K h1 a0 x1 sx0 (x3 + 1)
def fX4_isShown_30 (K : PH → Nat → Int32 → Int32 → Int32 → Option (Int32)) (h1 : PH) (a0 : Nat) (x1 : Int32) (x3 : Int32) : Option (Int32) := fX4_isShown_35 K h1 a0 x1 x3 1
def fX4_isShown_4 (n : Nat) (h1 : PH) (a0 : Nat) (x1 : Int32) (x2 : Int32) (x3 : Int32) : Option (Int32) := match n with
  | 0 => none
  | n + 1 => if 48 ≤ x3 then (p_z x2) else (if x2 = 0 then ((p_ob h1 a0 4).bind fun _ => (fX4_shownAt h1 a0 (x3 - x3 / 8 * 8) (x3 / 8)).bind fun v5 => if v5 = x1 then (fX4_isShown_30 (fX4_isShown_4 n) h1 a0 x1 x3) else (fX4_isShown_35 (fX4_isShown_4 n) h1 a0 x1 x3 0)) else (fX4_isShown_30 (fX4_isShown_4 n) h1 a0 x1 x3))
def fX4_isShown (h : PH) (a0 : Nat) (x1 : Int32)  : Option (Int32) := fX4_isShown_4 64 h a0 x1 0 0
-- X4_need
def fX4_need (h : PH) (a0 : Nat) (x1 : Int32)  : Option (Int32) := (p_gr h a0 4 7).bind fun a_1 => (p_ld h a_1 0 x1).bind fun v4 => (p_gr h a0 4 8).bind fun a_5 => (p_ld h a_5 0 x1).bind fun v8 => some (((v4 * v8) + 3) / 4)
-- X4_freePages
def fX4_freePages_42 (K : PH → Nat → Int32 → Int32 → Option (Int32)) (h1 : PH) (a0 : Nat) (x2 : Int32) (sx0 : Int32) (sx1 : Int32) : Option (Int32) := K h1 a0 (sx1 - sx0) (x2 + 1)
def fX4_freePages_5 (n : Nat) (h1 : PH) (a0 : Nat) (x1 : Int32) (x2 : Int32) : Option (Int32) := match n with
  | 0 => none
  | n + 1 => (p_gi h1 a0 4 3).bind fun v1 => if v1 ≤ x2 then (some x1) else ((p_gr h1 a0 4 12).bind fun a_4 => (p_gr h1 a0 4 4).bind fun a_6 => (p_ld h1 a_6 0 x2).bind fun v9 => (p_ld h1 a_4 1 v9).bind fun v11 => if v11 = 0 then (fX4_freePages_42 (fX4_freePages_5 n) h1 a0 x2 0 x1) else ((p_gr h1 a0 4 4).bind fun a_13 => (p_ld h1 a_13 0 x2).bind fun v16 => (p_ob h1 a0 4).bind fun _ => (fX4_need h1 a0 v16).bind fun v19 => fX4_freePages_42 (fX4_freePages_5 n) h1 a0 x2 v19 x1))
def fX4_freePages (h : PH) (a0 : Nat)  : Option (Int32) := fX4_freePages_5 64 h a0 24 0
-- X4_drop
def fX4_drop_27 (h1 : PH)  : Option (PH) := some h1
def fX4_drop (h : PH) (a0 : Nat) (x1 : Int32)  : Option (PH) := (p_gr h a0 4 18).bind fun a_1 => (p_ld h a_1 0 x1).bind fun v4 => if v4 = (-1) then (fX4_drop_27 h ) else ((p_gr h a0 4 18).bind fun a_6 => (p_st h a_6 x1 (-1)).bind fun h_8 => (p_gr h_8 a0 4 17).bind fun a_10 => (p_gi h_8 a0 4 1).bind fun v12 => (p_st h_8 a_10 x1 v12).bind fun h_14 => fX4_drop_27 h_14 )
-- X4_lose
def fX4_lose (h : PH) (a0 : Nat) (x1 : Int32)  : Option (PH) := (p_gr h a0 4 12).bind fun a_1 => (p_sb h a_1 x1 0).bind fun h_3 => (p_gr h_3 a0 4 13).bind fun a_5 => (p_st h_3 a_5 x1 0).bind fun h_7 => (p_ob h_7 a0 4).bind fun _ => (fX4_drop h_7 a0 x1).bind fun h_11 => some h_11
-- X4_canLose
def fX4_canLose_27 (h1 : PH) (sx0 : Int32) : Option (Int32) := p_z sx0
def fX4_canLose_26 (h1 : PH)  : Option (Int32) := fX4_canLose_27 h1 0
def fX4_canLose (h : PH) (a0 : Nat) (x1 : Int32) (x2 : Int32)  : Option (Int32) := if x1 = x2 then (fX4_canLose_26 h ) else ((p_gr h a0 4 12).bind fun a_2 => (p_ld h a_2 1 x1).bind fun v5 => if v5 = 0 then (fX4_canLose_26 h ) else ((p_ob h a0 4).bind fun _ => (fX4_isShown h a0 x1).bind fun v9 => if v9 = 0 then (fX4_canLose_27 h 1) else (fX4_canLose_26 h )))
-- X4_lend
def fX4_lend_115 (h1 : PH) (a0 : Nat) (x1 : Int32) : Option (Int32 × PH) := (p_gr h1 a0 4 12).bind fun a_1 => (p_sb h1 a_1 x1 1).bind fun h_3 => (p_z 1).bind fun z => some (z, h_3)
def fX4_lend_109 (K : PH → Nat → Int32 → Int32 → Option (Int32 × PH)) (h1 : PH) (a0 : Nat) (x1 : Int32) (x3 : Int32) : Option (Int32 × PH) := K h1 a0 x1 (x3 + 1)
def fX4_lend_65 (n : Nat) (h1 : PH) (a0 : Nat) (x1 : Int32) (x3 : Int32) : Option (Int32 × PH) := match n with
  | 0 => none
  | n + 1 => (p_gi h1 a0 4 3).bind fun v5 => if v5 ≤ x3 then (fX4_lend_115 h1 a0 x1) else ((p_ob h1 a0 4).bind fun _ => (fX4_freePages h1 a0).bind fun v10 => (p_ob h1 a0 4).bind fun _ => (fX4_need h1 a0 x1).bind fun v14 => if v14 ≤ v10 then (fX4_lend_115 h1 a0 x1) else ((p_gr h1 a0 4 4).bind fun a_17 => (p_ld h1 a_17 0 x3).bind fun v20 => (p_ob h1 a0 4).bind fun _ => (fX4_canLose h1 a0 v20 x1).bind fun v23 => if v23 = 0 then (fX4_lend_109 (fX4_lend_65 n) h1 a0 x1 x3) else ((p_gr h1 a0 4 4).bind fun a_26 => (p_ld h1 a_26 0 x3).bind fun v29 => (p_ob h1 a0 4).bind fun _ => (fX4_lose h1 a0 v29).bind fun h_32 => fX4_lend_109 (fX4_lend_65 n) h_32 a0 x1 x3)))
def fX4_lend_44 (K : PH → Nat → Int32 → Int32 → Int32 → Option (Int32 × PH)) (h1 : PH) (a0 : Nat) (x1 : Int32) (x3 : Int32) (sx0 : Int32) (sx1 : Int32) : Option (Int32 × PH) := K h1 a0 x1 (sx1 + sx0) (x3 + 1)
def fX4_lend_7 (n : Nat) (h1 : PH) (a0 : Nat) (x1 : Int32) (x2 : Int32) (x3 : Int32) : Option (Int32 × PH) := match n with
  | 0 => none
  | n + 1 => (p_gi h1 a0 4 3).bind fun v34 => if v34 ≤ x3 then ((p_ob h1 a0 4).bind fun _ => (fX4_need h1 a0 x1).bind fun v39 => if v39 ≤ x2 then (fX4_lend_65 64 h1 a0 x1 0) else ((p_z 0).bind fun z => some (z, h1))) else ((p_gr h1 a0 4 4).bind fun a_42 => (p_ld h1 a_42 0 x3).bind fun v45 => (p_ob h1 a0 4).bind fun _ => (fX4_canLose h1 a0 v45 x1).bind fun v48 => if v48 = 0 then (fX4_lend_44 (fX4_lend_7 n) h1 a0 x1 x3 0 x2) else ((p_gr h1 a0 4 4).bind fun a_51 => (p_ld h1 a_51 0 x3).bind fun v54 => (p_ob h1 a0 4).bind fun _ => (fX4_need h1 a0 v54).bind fun v57 => fX4_lend_44 (fX4_lend_7 n) h1 a0 x1 x3 v57 x2))
def fX4_lend (h : PH) (a0 : Nat) (x1 : Int32)  : Option (Int32 × PH) := (p_ob h a0 4).bind fun _ => (fX4_freePages h a0).bind fun v61 => fX4_lend_7 64 h a0 x1 v61 0
-- X4_lendAll
def fX4_lendAll_49 (K : PH → Nat → Int32 → Option (PH)) (h1 : PH) (a0 : Nat) (x1 : Int32) : Option (PH) := K h1 a0 (x1 + (-1))
def fX4_lendAll_7 (n : Nat) (h1 : PH) (a0 : Nat) (x1 : Int32) : Option (PH) := match n with
  | 0 => none
  | n + 1 => if x1 < 0 then (some h1) else ((p_gr h1 a0 4 12).bind fun a_2 => (p_gr h1 a0 4 4).bind fun a_4 => (p_ld h1 a_4 0 x1).bind fun v7 => (p_ld h1 a_2 1 v7).bind fun v9 => if v9 = 0 then ((p_gr h1 a0 4 4).bind fun a_11 => (p_ld h1 a_11 0 x1).bind fun v14 => (p_ob h1 a0 4).bind fun _ => (fX4_isShown h1 a0 v14).bind fun v17 => if v17 = 0 then (fX4_lendAll_49 (fX4_lendAll_7 n) h1 a0 x1) else ((p_gr h1 a0 4 4).bind fun a_20 => (p_ld h1 a_20 0 x1).bind fun v23 => (p_ob h1 a0 4).bind fun _ => (fX4_lend h1 a0 v23).bind fun y26 => fX4_lendAll_49 (fX4_lendAll_7 n) y26.2 a0 x1)) else (fX4_lendAll_49 (fX4_lendAll_7 n) h1 a0 x1))
def fX4_lendAll (h : PH) (a0 : Nat)  : Option (PH) := (p_gi h a0 4 3).bind fun v28 => fX4_lendAll_7 64 h a0 (v28 - 1)
-- X4_frame
def fX4_frame (h : PH) (a0 : Nat) (x1 : Int32) (x2 : Int32) (x3 : Int32) (x4 : Int32)  : Option (PH) := (p_gr h a0 4 5).bind fun a_1 => (p_gi h a0 4 2).bind fun v3 => (p_st h a_1 v3 x1).bind fun h_5 => (p_gr h_5 a0 4 6).bind fun a_7 => (p_gi h_5 a0 4 2).bind fun v9 => (p_st h_5 a_7 v9 x2).bind fun h_11 => (p_gr h_11 a0 4 7).bind fun a_13 => (p_gi h_11 a0 4 2).bind fun v15 => (p_st h_11 a_13 v15 x3).bind fun h_17 => (p_gr h_17 a0 4 8).bind fun a_19 => (p_gi h_17 a0 4 2).bind fun v21 => (p_st h_17 a_19 v21 x4).bind fun h_23 => some h_23
-- X4_open
def fX4_open_212 (h1 : PH) (a0 : Nat) (x6 : Int32) (x7 : Int32) (sx0 : Int32) (sa1 : Nat) : Option (Int32 × PH) := (p_ob h1 sa1 4).bind fun _ => (fX4_refused h1 sa1 sx0).bind fun y3 => if y3.1 = 0 then ((p_gr y3.2 a0 4 10).bind fun a_6 => (p_gi y3.2 a0 4 2).bind fun v8 => (p_st y3.2 a_6 v8 x6).bind fun h_10 => (p_gr h_10 a0 4 11).bind fun a_12 => (p_gi h_10 a0 4 2).bind fun v14 => (p_st h_10 a_12 v14 x7).bind fun h_16 => (p_gr h_16 a0 4 14).bind fun a_18 => (p_gi h_16 a0 4 2).bind fun v20 => (p_st h_16 a_18 v20 1).bind fun h_22 => (p_gr h_22 a0 4 17).bind fun a_24 => (p_gi h_22 a0 4 2).bind fun v26 => (p_gi h_22 a0 4 1).bind fun v28 => (p_st h_22 a_24 v26 v28).bind fun h_30 => (p_gr h_30 a0 4 18).bind fun a_32 => (p_gi h_30 a0 4 2).bind fun v34 => (p_st h_30 a_32 v34 (-1)).bind fun h_36 => (p_gi h_36 a0 4 2).bind fun v38 => (p_si h_36 a0 4 2 (v38 + 1)).bind fun h_40 => (p_ob h_40 a0 4).bind fun _ => (fX4_lendAll h_40 a0).bind fun h_44 => (p_gi h_44 a0 4 2).bind fun v46 => some ((v46 - 1), h_44)) else (some (0, y3.2))
def fX4_open_192 (h1 : PH) (a0 : Nat) (x6 : Int32) (x7 : Int32) (x9 : Int32) (x10 : Int32) : Option (Int32 × PH) := if x9 = 0 then (fX4_open_212 h1 a0 x6 x7 1 a0) else (if x10 = 0 then (fX4_open_212 h1 a0 x6 x7 2 a0) else (fX4_open_212 h1 a0 x6 x7 0 a0))
def fX4_open_188 (h1 : PH) (a0 : Nat) (x6 : Int32) (x7 : Int32) (x9 : Int32) (x10 : Int32) (sx0 : Int32) (sx1 : Int32) (sa2 : Nat) : Option (Int32 × PH) := (p_si h1 sa2 4 3 (sx1 - sx0)).bind fun h_50 => fX4_open_192 h_50 a0 x6 x7 x9 x10
def fX4_open_113 (h1 : PH) (a0 : Nat) (x1 : Int32) (x2 : Int32) (x3 : Int32) (x4 : Int32) (x5 : Int32) (x6 : Int32) (x7 : Int32) (x9 : Int32) (sx0 : Int32) : Option (Int32 × PH) := if sx0 = 0 then (fX4_open_192 h1 a0 x6 x7 x9 sx0) else ((p_ob h1 a0 4).bind fun _ => (fX4_frame h1 a0 x1 x2 x3 x4).bind fun h_55 => (p_gr h_55 a0 4 9).bind fun a_57 => (p_gi h_55 a0 4 2).bind fun v59 => (p_sb h_55 a_57 v59 x5).bind fun h_61 => (p_gr h_61 a0 4 4).bind fun a_63 => (p_gi h_61 a0 4 3).bind fun v65 => (p_gi h_61 a0 4 2).bind fun v67 => (p_st h_61 a_63 v65 v67).bind fun h_69 => (p_gi h_69 a0 4 3).bind fun v71 => (p_si h_69 a0 4 3 (v71 + 1)).bind fun h_73 => (p_gi h_73 a0 4 2).bind fun v75 => (p_ob h_73 a0 4).bind fun _ => (fX4_lend h_73 a0 v75).bind fun y79 => (p_gi y79.2 a0 4 3).bind fun v81 => if y79.1 = 0 then (fX4_open_188 y79.2 a0 x6 x7 x9 y79.1 1 v81 a0) else (fX4_open_188 y79.2 a0 x6 x7 x9 y79.1 0 v81 a0))
def fX4_open_112 (h1 : PH) (a0 : Nat) (x1 : Int32) (x2 : Int32) (x3 : Int32) (x4 : Int32) (x5 : Int32) (x6 : Int32) (x7 : Int32) (x9 : Int32) : Option (Int32 × PH) := fX4_open_113 h1 a0 x1 x2 x3 x4 x5 x6 x7 x9 0
def fX4_open_83 (h1 : PH) (a0 : Nat) (x1 : Int32) (x2 : Int32) (x3 : Int32) (x4 : Int32) (x5 : Int32) (x6 : Int32) (x7 : Int32) (sx0 : Int32) : Option (Int32 × PH) := if sx0 = 0 then (fX4_open_112 h1 a0 x1 x2 x3 x4 x5 x6 x7 sx0) else ((p_gi h1 a0 4 3).bind fun v85 => if 8 ≤ v85 then (fX4_open_112 h1 a0 x1 x2 x3 x4 x5 x6 x7 sx0) else ((p_gi h1 a0 4 2).bind fun v88 => if 40 ≤ v88 then (fX4_open_112 h1 a0 x1 x2 x3 x4 x5 x6 x7 sx0) else (fX4_open_113 h1 a0 x1 x2 x3 x4 x5 x6 x7 sx0 1)))
def fX4_open_82 (h1 : PH) (a0 : Nat) (x1 : Int32) (x2 : Int32) (x3 : Int32) (x4 : Int32) (x5 : Int32) (x6 : Int32) (x7 : Int32) : Option (Int32 × PH) := fX4_open_83 h1 a0 x1 x2 x3 x4 x5 x6 x7 0
def fX4_open_24 (h1 : PH) (a0 : Nat) (x1 : Int32) (x2 : Int32) (x3 : Int32) (x4 : Int32) (x5 : Int32) (x6 : Int32) (x7 : Int32) (sx0 : Int32) : Option (Int32 × PH) := if sx0 = 0 then (fX4_open_82 h1 a0 x1 x2 x3 x4 x5 x6 x7) else ((fX4_in h1 x3 1 (8 - x1)).bind fun v92 => if v92 = 0 then (fX4_open_82 h1 a0 x1 x2 x3 x4 x5 x6 x7) else ((fX4_in h1 x4 1 (6 - x2)).bind fun v95 => if v95 = 0 then (fX4_open_82 h1 a0 x1 x2 x3 x4 x5 x6 x7) else ((fX4_in h1 x6 1 100).bind fun v98 => if v98 = 0 then (fX4_open_82 h1 a0 x1 x2 x3 x4 x5 x6 x7) else ((fX4_in h1 x7 1 20).bind fun v101 => if v101 = 0 then (fX4_open_82 h1 a0 x1 x2 x3 x4 x5 x6 x7) else (fX4_open_83 h1 a0 x1 x2 x3 x4 x5 x6 x7 1)))))
def fX4_open_23 (h1 : PH) (a0 : Nat) (x1 : Int32) (x2 : Int32) (x3 : Int32) (x4 : Int32) (x5 : Int32) (x6 : Int32) (x7 : Int32) : Option (Int32 × PH) := fX4_open_24 h1 a0 x1 x2 x3 x4 x5 x6 x7 0
def fX4_open (h : PH) (a0 : Nat) (x1 : Int32) (x2 : Int32) (x3 : Int32) (x4 : Int32) (x5 : Int32) (x6 : Int32) (x7 : Int32)  : Option (Int32 × PH) := (fX4_in h x1 0 7).bind fun v104 => if v104 = 0 then (fX4_open_23 h a0 x1 x2 x3 x4 x5 x6 x7) else ((fX4_in h x2 0 5).bind fun v107 => if v107 = 0 then (fX4_open_23 h a0 x1 x2 x3 x4 x5 x6 x7) else (fX4_open_24 h a0 x1 x2 x3 x4 x5 x6 x7 1))
-- X4_close
def fX4_close_16 (n : Nat) (h1 : PH) (a0 : Nat) (x2 : Int32) : Option (Int32 × PH) := match n with
  | 0 => none
  | n + 1 => (p_gi h1 a0 4 3).bind fun v1 => if v1 ≤ (x2 + 1) then ((p_gi h1 a0 4 3).bind fun v4 => (p_si h1 a0 4 3 (v4 - 1)).bind fun h_6 => (p_ob h_6 a0 4).bind fun _ => (fX4_lendAll h_6 a0).bind fun h_10 => (p_gi h_10 a0 4 3).bind fun v12 => some (v12, h_10)) else ((p_gr h1 a0 4 4).bind fun a_14 => (p_gr h1 a0 4 4).bind fun a_16 => (p_ld h1 a_16 0 (x2 + 1)).bind fun v19 => (p_st h1 a_14 x2 v19).bind fun h_20 => fX4_close_16 n h_20 a0 (x2 + 1))
def fX4_close (h : PH) (a0 : Nat) (x1 : Int32)  : Option (Int32 × PH) := (p_ob h a0 4).bind fun _ => (fX4_noWindow h a0 x1).bind fun y24 => if y24.1 = 0 then ((p_ob y24.2 a0 4).bind fun _ => (fX4_placeIn y24.2 a0 x1).bind fun v29 => fX4_close_16 64 y24.2 a0 v29) else (some (0, y24.2))
-- X4_move
def fX4_move_106 (h1 : PH)  : Option (PH) := some h1
def fX4_move_82 (h1 : PH) (a0 : Nat) (x1 : Int32) (x2 : Int32) (x3 : Int32) (sx0 : Int32) (sa1 : Nat) : Option (PH) := (p_ob h1 sa1 4).bind fun _ => (fX4_refused h1 sa1 sx0).bind fun y3 => if y3.1 = 0 then ((p_gr y3.2 a0 4 5).bind fun a_6 => (p_st y3.2 a_6 x1 x2).bind fun h_8 => (p_gr h_8 a0 4 6).bind fun a_10 => (p_st h_8 a_10 x1 x3).bind fun h_12 => (p_ob h_12 a0 4).bind fun _ => (fX4_lendAll h_12 a0).bind fun h_16 => fX4_move_106 h_16 ) else (fX4_move_106 y3.2 )
def fX4_move_60 (h1 : PH) (a0 : Nat) (x1 : Int32) (x2 : Int32) (x3 : Int32) (x4 : Int32) (sx0 : Int32) : Option (PH) := if x4 = 0 then (fX4_move_82 h1 a0 x1 x2 x3 1 a0) else (if sx0 = 0 then (fX4_move_82 h1 a0 x1 x2 x3 2 a0) else (fX4_move_82 h1 a0 x1 x2 x3 0 a0))
def fX4_move_59 (h1 : PH) (a0 : Nat) (x1 : Int32) (x2 : Int32) (x3 : Int32) (x4 : Int32) : Option (PH) := fX4_move_60 h1 a0 x1 x2 x3 x4 0
def fX4_move_14 (h1 : PH) (a0 : Nat) (x1 : Int32) (x2 : Int32) (x3 : Int32) (sx0 : Int32) : Option (PH) := if sx0 = 0 then (fX4_move_59 h1 a0 x1 x2 x3 sx0) else ((p_gr h1 a0 4 7).bind fun a_21 => (p_ld h1 a_21 0 x1).bind fun v24 => (fX4_in h1 x2 0 (8 - v24)).bind fun v25 => if v25 = 0 then (fX4_move_59 h1 a0 x1 x2 x3 sx0) else ((p_gr h1 a0 4 8).bind fun a_28 => (p_ld h1 a_28 0 x1).bind fun v31 => (fX4_in h1 x3 0 (6 - v31)).bind fun v32 => if v32 = 0 then (fX4_move_59 h1 a0 x1 x2 x3 sx0) else (fX4_move_60 h1 a0 x1 x2 x3 sx0 1)))
def fX4_move (h : PH) (a0 : Nat) (x1 : Int32) (x2 : Int32) (x3 : Int32)  : Option (PH) := (p_ob h a0 4).bind fun _ => (fX4_placeIn h a0 x1).bind fun v37 => if v37 = (-1) then (fX4_move_14 h a0 x1 x2 x3 0) else (fX4_move_14 h a0 x1 x2 x3 1)
-- X4_lay
def fX4_lay_46 (n : Nat) (h1 : PH) (a0 : Nat) (x1 : Int32) (x3 : Int32) (x4 : Int32) (x5 : Int32) (x6 : Int32) : Option (Int32 × PH) := match n with
  | 0 => none
  | n + 1 => if x6 = x4 then ((p_gr h1 a0 4 4).bind fun a_2 => (p_st h1 a_2 x4 x1).bind fun h_4 => (p_ob h_4 a0 4).bind fun _ => (fX4_lendAll h_4 a0).bind fun h_8 => some (x3, h_8)) else ((p_gr h1 a0 4 4).bind fun a_10 => (p_gr h1 a0 4 4).bind fun a_12 => (p_ld h1 a_12 0 (x6 + x5)).bind fun v15 => (p_st h1 a_10 x6 v15).bind fun h_16 => fX4_lay_46 n h_16 a0 x1 x3 x4 x5 (x6 + x5))
def fX4_lay_41 (h1 : PH) (a0 : Nat) (x1 : Int32) (x3 : Int32) (x4 : Int32) (sx0 : Int32) : Option (Int32 × PH) := fX4_lay_46 64 h1 a0 x1 x3 x4 sx0 x3
def fX4_lay_30 (h1 : PH) (a0 : Nat) (x1 : Int32) (x2 : Int32) (x3 : Int32) (sx0 : Int32) : Option (Int32 × PH) := if x2 = 0 then (fX4_lay_41 h1 a0 x1 x3 sx0 (-1)) else (fX4_lay_41 h1 a0 x1 x3 sx0 1)
def fX4_lay (h : PH) (a0 : Nat) (x1 : Int32) (x2 : Int32)  : Option (Int32 × PH) := (p_ob h a0 4).bind fun _ => (fX4_noWindow h a0 x1).bind fun y21 => if y21.1 = 0 then ((p_ob y21.2 a0 4).bind fun _ => (fX4_placeIn y21.2 a0 x1).bind fun v26 => if x2 = 0 then (fX4_lay_30 y21.2 a0 x1 x2 v26 0) else ((p_gi y21.2 a0 4 3).bind fun v29 => fX4_lay_30 y21.2 a0 x1 x2 v26 (v29 - 1))) else (some (0, y21.2))
-- X4_begin
def fX4_begin (h : PH) (a0 : Nat) (x1 : Int32) (x2 : Int32)  : Option (PH) := (p_gr h a0 4 19).bind fun a_1 => (p_st h a_1 x1 0).bind fun h_3 => (p_gr h_3 a0 4 18).bind fun a_5 => (p_st h_3 a_5 x1 x2).bind fun h_7 => some h_7
-- X4_start
def fX4_start_90 (K : PH → Nat → Int32 → Option (PH)) (h1 : PH) (a0 : Nat) (x1 : Int32) : Option (PH) := K h1 a0 (x1 + 1)
def fX4_start_36 (K : PH → Nat → Int32 → Option (PH)) (h1 : PH) (a0 : Nat) (x1 : Int32) : Option (PH) := (p_ob h1 a0 4).bind fun _ => (fX4_drop h1 a0 x1).bind fun h_3 => fX4_start_90 K h_3 a0 x1
def fX4_start_2 (n : Nat) (h1 : PH) (a0 : Nat) (x1 : Int32) : Option (PH) := match n with
  | 0 => none
  | n + 1 => (p_gi h1 a0 4 2).bind fun v5 => if v5 ≤ x1 then (some h1) else ((p_ob h1 a0 4).bind fun _ => (fX4_placeIn h1 a0 x1).bind fun v10 => if v10 = (-1) then (fX4_start_90 (fX4_start_2 n) h1 a0 x1) else ((p_gr h1 a0 4 12).bind fun a_13 => (p_ld h1 a_13 1 x1).bind fun v16 => if v16 = 0 then (fX4_start_36 (fX4_start_2 n) h1 a0 x1) else ((p_ob h1 a0 4).bind fun _ => (fX4_isShown h1 a0 x1).bind fun v20 => if v20 = 0 then (fX4_start_36 (fX4_start_2 n) h1 a0 x1) else ((p_gr h1 a0 4 18).bind fun a_23 => (p_ld h1 a_23 0 x1).bind fun v26 => if v26 = (-1) then ((p_gr h1 a0 4 17).bind fun a_28 => (p_ld h1 a_28 0 x1).bind fun v31 => (p_gi h1 a0 4 1).bind fun v32 => if v32 < v31 then (fX4_start_90 (fX4_start_2 n) h1 a0 x1) else ((p_gi h1 a0 4 1).bind fun v35 => (p_gr h1 a0 4 10).bind fun a_37 => (p_ld h1 a_37 0 x1).bind fun v40 => (p_gr h1 a0 4 14).bind fun a_41 => (p_ld h1 a_41 0 x1).bind fun v44 => (p_ob h1 a0 4).bind fun _ => (fX4_begin h1 a0 x1 (v35 + (v40 * v44))).bind fun h_47 => fX4_start_90 (fX4_start_2 n) h_47 a0 x1)) else (fX4_start_90 (fX4_start_2 n) h1 a0 x1)))))
def fX4_start (h : PH) (a0 : Nat)  : Option (PH) := fX4_start_2 64 h a0 0
-- X4_earliest
def fX4_earliest_66 (K : PH → Nat → Int32 → Int32 → Option (Int32)) (h1 : PH) (a0 : Nat) (x2 : Int32) (sx0 : Int32) : Option (Int32) := K h1 a0 sx0 (x2 + 1)
def fX4_earliest_65 (K : PH → Nat → Int32 → Int32 → Option (Int32)) (h1 : PH) (a0 : Nat) (x1 : Int32) (x2 : Int32) : Option (Int32) := fX4_earliest_66 K h1 a0 x2 x1
def fX4_earliest_61 (K : PH → Nat → Int32 → Int32 → Option (Int32)) (h1 : PH) (a0 : Nat) (x2 : Int32) : Option (Int32) := fX4_earliest_66 K h1 a0 x2 x2
def fX4_earliest_36 (K : PH → Nat → Int32 → Int32 → Option (Int32)) (h1 : PH) (a0 : Nat) (x1 : Int32) (x2 : Int32) (sx0 : Int32) : Option (Int32) := if sx0 = 0 then (fX4_earliest_65 K h1 a0 x1 x2) else (if x1 = (-1) then (fX4_earliest_61 K h1 a0 x2) else ((p_gr h1 a0 4 18).bind fun a_3 => (p_ld h1 a_3 0 x2).bind fun v6 => (p_gr h1 a0 4 18).bind fun a_7 => (p_ld h1 a_7 0 x1).bind fun v10 => if v10 ≤ v6 then (fX4_earliest_65 K h1 a0 x1 x2) else (fX4_earliest_61 K h1 a0 x2)))
def fX4_earliest_35 (K : PH → Nat → Int32 → Int32 → Option (Int32)) (h1 : PH) (a0 : Nat) (x1 : Int32) (x2 : Int32) : Option (Int32) := fX4_earliest_36 K h1 a0 x1 x2 0
def fX4_earliest_4 (n : Nat) (h1 : PH) (a0 : Nat) (x1 : Int32) (x2 : Int32) : Option (Int32) := match n with
  | 0 => none
  | n + 1 => (p_gi h1 a0 4 2).bind fun v12 => if v12 ≤ x2 then (some x1) else ((p_ob h1 a0 4).bind fun _ => (fX4_placeIn h1 a0 x2).bind fun v17 => if v17 = (-1) then (fX4_earliest_35 (fX4_earliest_4 n) h1 a0 x1 x2) else ((p_gr h1 a0 4 18).bind fun a_20 => (p_ld h1 a_20 0 x2).bind fun v23 => if v23 = (-1) then (fX4_earliest_35 (fX4_earliest_4 n) h1 a0 x1 x2) else (fX4_earliest_36 (fX4_earliest_4 n) h1 a0 x1 x2 1)))
def fX4_earliest (h : PH) (a0 : Nat)  : Option (Int32) := fX4_earliest_4 64 h a0 (-1) 0
-- X4_finish
def fX4_finish_105 (h1 : PH)  : Option (PH) := some h1
def fX4_finish_97 (h1 : PH) (a0 : Nat) (x1 : Int32) (sx0 : Int32) (sx1 : Int32) (sa2 : Nat) : Option (PH) := (p_st h1 sa2 sx1 sx0).bind fun h_1 => (p_gr h_1 a0 4 16).bind fun a_3 => (p_st h_1 a_3 x1 0).bind fun h_5 => fX4_finish_105 h_5 
def fX4_finish_52 (h1 : PH) (a0 : Nat) (x1 : Int32) (sx0 : Int32) (sx1 : Int32) (sa2 : Nat) : Option (PH) := (p_st h1 sa2 sx1 sx0).bind fun h_7 => (p_gr h_7 a0 4 18).bind fun a_9 => (p_st h_7 a_9 x1 (-1)).bind fun h_11 => (p_gr h_11 a0 4 16).bind fun a_13 => (p_ld h_11 a_13 0 x1).bind fun v16 => if v16 = 3 then ((p_gr h_11 a0 4 14).bind fun a_18 => (p_gr h_11 a0 4 14).bind fun a_20 => (p_ld h_11 a_20 0 x1).bind fun v23 => if v23 ≤ 1 then (fX4_finish_97 h_11 a0 x1 1 x1 a_18) else ((p_gr h_11 a0 4 14).bind fun a_25 => (p_ld h_11 a_25 0 x1).bind fun v28 => fX4_finish_97 h_11 a0 x1 (v28 / 2) x1 a_18)) else (fX4_finish_105 h_11 )
def fX4_finish (h : PH) (a0 : Nat) (x1 : Int32)  : Option (PH) := (p_gr h a0 4 13).bind fun a_29 => (p_ld h a_29 0 x1).bind fun v32 => (p_st h a_29 x1 (v32 + 1)).bind fun h_33 => (p_gr h_33 a0 4 17).bind fun a_35 => (p_gr h_33 a0 4 18).bind fun a_37 => (p_ld h_33 a_37 0 x1).bind fun v40 => (p_st h_33 a_35 x1 v40).bind fun h_41 => (p_gr h_41 a0 4 16).bind fun a_43 => (p_gr h_41 a0 4 18).bind fun a_45 => (p_ld h_41 a_45 0 x1).bind fun v48 => (p_gi h_41 a0 4 1).bind fun v49 => if v48 < v49 then (fX4_finish_52 h_41 a0 x1 0 x1 a_43) else ((p_gr h_41 a0 4 16).bind fun a_52 => (p_ld h_41 a_52 0 x1).bind fun v55 => fX4_finish_52 h_41 a0 x1 (v55 + 1) x1 a_43)
-- X4_miss
def fX4_miss_70 (h1 : PH) (sx0 : Int32) (sx1 : Int32) (sa2 : Nat) : Option (PH) := (p_st h1 sa2 sx1 sx0).bind fun h_1 => some h_1
def fX4_miss (h : PH) (a0 : Nat) (x1 : Int32)  : Option (PH) := (p_gr h a0 4 15).bind fun a_3 => (p_ld h a_3 0 x1).bind fun v6 => (p_st h a_3 x1 (v6 + 1)).bind fun h_7 => (p_gr h_7 a0 4 16).bind fun a_9 => (p_st h_7 a_9 x1 0).bind fun h_11 => (p_gr h_11 a0 4 18).bind fun a_13 => (p_ld h_11 a_13 0 x1).bind fun v16 => (p_gr h_11 a0 4 10).bind fun a_17 => (p_ld h_11 a_17 0 x1).bind fun v20 => (p_gr h_11 a0 4 14).bind fun a_21 => (p_ld h_11 a_21 0 x1).bind fun v24 => (p_st h_11 a_13 x1 (v16 + (v20 * v24))).bind fun h_25 => (p_gr h_25 a0 4 14).bind fun a_27 => (p_gr h_25 a0 4 14).bind fun a_29 => (p_ld h_25 a_29 0 x1).bind fun v32 => if 8 ≤ (2 * v32) then (fX4_miss_70 h_25 8 x1 a_27) else ((p_gr h_25 a0 4 14).bind fun a_34 => (p_ld h_25 a_34 0 x1).bind fun v37 => fX4_miss_70 h_25 (2 * v37) x1 a_27)
-- X4_pass
def fX4_pass_110 (K : PH → Nat → Int32 → Option (PH)) (h1 : PH) (a0 : Nat) (x2 : Int32) : Option (PH) := K h1 a0 (x2 + 1)
def fX4_pass_74 (n : Nat) (h1 : PH) (a0 : Nat) (x2 : Int32) : Option (PH) := match n with
  | 0 => none
  | n + 1 => (p_gi h1 a0 4 3).bind fun v1 => if v1 ≤ x2 then (some h1) else ((p_gr h1 a0 4 18).bind fun a_4 => (p_gr h1 a0 4 4).bind fun a_6 => (p_ld h1 a_6 0 x2).bind fun v9 => (p_ld h1 a_4 0 v9).bind fun v11 => (p_gi h1 a0 4 1).bind fun v12 => if v11 = v12 then ((p_gr h1 a0 4 4).bind fun a_15 => (p_ld h1 a_15 0 x2).bind fun v18 => (p_ob h1 a0 4).bind fun _ => (fX4_miss h1 a0 v18).bind fun h_21 => fX4_pass_110 (fX4_pass_74 n) h_21 a0 x2) else (fX4_pass_110 (fX4_pass_74 n) h1 a0 x2))
def fX4_pass_72 (h1 : PH) (a0 : Nat) : Option (PH) := fX4_pass_74 64 h1 a0 0
def fX4_pass_35 (h1 : PH) (a0 : Nat) (x1 : Int32) (sx0 : Int32) (sx1 : Int32) (sx2 : Int32) (sa3 : Nat) : Option (PH) := (p_st h1 sa3 sx2 (sx1 + sx0)).bind fun h_23 => (p_gi h_23 a0 4 1).bind fun v25 => (p_si h_23 a0 4 1 (v25 + 1)).bind fun h_27 => if x1 = (-1) then (fX4_pass_72 h_27 a0) else ((p_gr h_27 a0 4 19).bind fun a_30 => (p_ld h_27 a_30 0 x1).bind fun v33 => (p_gr h_27 a0 4 11).bind fun a_34 => (p_ld h_27 a_34 0 x1).bind fun v37 => if v33 = v37 then ((p_ob h_27 a0 4).bind fun _ => (fX4_finish h_27 a0 x1).bind fun h_41 => fX4_pass_72 h_41 a0) else (fX4_pass_72 h_27 a0))
def fX4_pass_23 (h1 : PH) (a0 : Nat) (x1 : Int32) (sx0 : Int32) (sa1 : Nat) : Option (PH) := (p_ld h1 sa1 0 sx0).bind fun v44 => if x1 = (-1) then (fX4_pass_35 h1 a0 x1 0 v44 sx0 sa1) else (fX4_pass_35 h1 a0 x1 1 v44 sx0 sa1)
def fX4_pass (h : PH) (a0 : Nat)  : Option (PH) := (p_ob h a0 4).bind fun _ => (fX4_start h a0).bind fun h_48 => (p_ob h_48 a0 4).bind fun _ => (fX4_earliest h_48 a0).bind fun v52 => (p_gr h_48 a0 4 19).bind fun a_54 => if v52 = (-1) then (fX4_pass_23 h_48 a0 v52 0 a_54) else (fX4_pass_23 h_48 a0 v52 v52 a_54)
-- X4_advance
def fX4_advance_42 (n : Nat) (h1 : PH) (a0 : Nat) (x1 : Int32) (x2 : Int32) : Option (Int32 × PH) := match n with
  | 0 => none
  | n + 1 => if x1 ≤ x2 then ((p_gi h1 a0 4 1).bind fun v2 => some (v2, h1)) else ((p_ob h1 a0 4).bind fun _ => (fX4_pass h1 a0).bind fun h_6 => fX4_advance_42 n h_6 a0 x1 (x2 + 1))
def fX4_advance_32 (h1 : PH) (a0 : Nat) (x1 : Int32) (sx0 : Int32) (sa1 : Nat) : Option (Int32 × PH) := (p_ob h1 sa1 4).bind fun _ => (fX4_refused h1 sa1 sx0).bind fun y10 => if y10.1 = 0 then (fX4_advance_42 300 y10.2 a0 x1 0) else (some (0, y10.2))
def fX4_advance (h : PH) (a0 : Nat) (x1 : Int32)  : Option (Int32 × PH) := (fX4_in h x1 1 200).bind fun v13 => if v13 = 0 then (fX4_advance_32 h a0 x1 1 a0) else ((p_gi h a0 4 1).bind fun v16 => if (v16 + x1) ≤ 100000 then (fX4_advance_32 h a0 x1 0 a0) else (fX4_advance_32 h a0 x1 2 a0))
-- X4_noCell
def fX4_noCell_25 (h1 : PH) (sx0 : Int32) (sa1 : Nat) : Option (Int32 × PH) := (p_ob h1 sa1 4).bind fun _ => (fX4_refused h1 sa1 sx0).bind fun y3 => (p_z y3.1).bind fun z => some (z, y3.2)
def fX4_noCell_24 (h1 : PH) (sa0 : Nat) : Option (Int32 × PH) := fX4_noCell_25 h1 1 sa0
def fX4_noCell (h : PH) (a0 : Nat) (x1 : Int32) (x2 : Int32)  : Option (Int32 × PH) := (fX4_in h x1 0 7).bind fun v5 => if v5 = 0 then (fX4_noCell_24 h a0) else ((fX4_in h x2 0 5).bind fun v8 => if v8 = 0 then (fX4_noCell_24 h a0) else (fX4_noCell_25 h 0 a0))
-- X4_input
def fX4_input_88 (h1 : PH) (x3 : Int32) : Option (Int32 × PH) := some (x3, h1)
def fX4_input (h : PH) (a0 : Nat) (x1 : Int32) (x2 : Int32)  : Option (Int32 × PH) := (p_ob h a0 4).bind fun _ => (fX4_noCell h a0 x1 x2).bind fun y3 => if y3.1 = 0 then ((p_ob y3.2 a0 4).bind fun _ => (fX4_shownAt y3.2 a0 x1 x2).bind fun v8 => if v8 = (-1) then (fX4_input_88 y3.2 v8) else ((p_gr y3.2 a0 4 12).bind fun a_11 => (p_ld y3.2 a_11 1 v8).bind fun v14 => if v14 = 0 then (fX4_input_88 y3.2 v8) else ((p_gi y3.2 a0 4 1).bind fun v16 => (p_gr y3.2 a0 4 10).bind fun a_18 => (p_ld y3.2 a_18 0 v8).bind fun v21 => (p_gr y3.2 a0 4 18).bind fun a_22 => (p_ld y3.2 a_22 0 v8).bind fun v25 => if v25 = (-1) then ((p_ob y3.2 a0 4).bind fun _ => (fX4_begin y3.2 a0 v8 (v16 + ((v21 + 1) / 2))).bind fun h_38 => fX4_input_88 h_38 v8) else ((p_gr y3.2 a0 4 18).bind fun a_27 => (p_ld y3.2 a_27 0 v8).bind fun v30 => if v30 ≤ (v16 + ((v21 + 1) / 2)) then (fX4_input_88 y3.2 v8) else ((p_gr y3.2 a0 4 18).bind fun a_32 => (p_st y3.2 a_32 v8 (v16 + ((v21 + 1) / 2))).bind fun h_34 => fX4_input_88 h_34 v8))))) else (some (0, y3.2))
-- X4_countDamage
def fX4_countDamage_71 (K : PH → Nat → Int32 → Int32 → Option (Int32)) (h1 : PH) (a0 : Nat) (x2 : Int32) (sx0 : Int32) (sx1 : Int32) : Option (Int32) := K h1 a0 (sx1 + sx0) (x2 + 1)
def fX4_countDamage_58 (K : PH → Nat → Int32 → Int32 → Option (Int32)) (h1 : PH) (a0 : Nat) (x1 : Int32) (x2 : Int32) (sx0 : Int32) : Option (Int32) := if sx0 = 0 then (fX4_countDamage_71 K h1 a0 x2 1 x1) else (fX4_countDamage_71 K h1 a0 x2 0 x1)
def fX4_countDamage_57 (K : PH → Nat → Int32 → Int32 → Option (Int32)) (h1 : PH) (a0 : Nat) (x1 : Int32) (x2 : Int32) : Option (Int32) := fX4_countDamage_58 K h1 a0 x1 x2 0
def fX4_countDamage_53 (K : PH → Nat → Int32 → Int32 → Option (Int32)) (h1 : PH) (a0 : Nat) (x1 : Int32) (x2 : Int32) : Option (Int32) := fX4_countDamage_58 K h1 a0 x1 x2 1
def fX4_countDamage_4 (n : Nat) (h1 : PH) (a0 : Nat) (x1 : Int32) (x2 : Int32) : Option (Int32) := match n with
  | 0 => none
  | n + 1 => if 48 ≤ x2 then (some x1) else ((p_ob h1 a0 4).bind fun _ => (fX4_shownAt h1 a0 (x2 - x2 / 8 * 8) (x2 / 8)).bind fun v5 => (p_gr h1 a0 4 20).bind fun a_7 => (p_ld h1 a_7 0 x2).bind fun v10 => if v5 = v10 then (if v5 = (-1) then (fX4_countDamage_53 (fX4_countDamage_4 n) h1 a0 x1 x2) else ((p_gr h1 a0 4 13).bind fun a_13 => (p_ld h1 a_13 0 v5).bind fun v16 => (p_gr h1 a0 4 21).bind fun a_17 => (p_ld h1 a_17 0 x2).bind fun v20 => if v16 = v20 then (fX4_countDamage_53 (fX4_countDamage_4 n) h1 a0 x1 x2) else (fX4_countDamage_57 (fX4_countDamage_4 n) h1 a0 x1 x2))) else (fX4_countDamage_57 (fX4_countDamage_4 n) h1 a0 x1 x2))
def fX4_countDamage (h : PH) (a0 : Nat)  : Option (Int32) := fX4_countDamage_4 64 h a0 0 0
-- X4_show
def fX4_show_53 (K : PH → Nat → Int32 → Int32 → Option (Int32 × PH)) (h1 : PH) (a0 : Nat) (x1 : Int32) (x2 : Int32) (sx0 : Int32) (sx1 : Int32) (sa2 : Nat) : Option (Int32 × PH) := (p_st h1 sa2 sx1 sx0).bind fun h_1 => K h_1 a0 x1 (x2 + 1)
def fX4_show_7 (n : Nat) (h1 : PH) (a0 : Nat) (x1 : Int32) (x2 : Int32) : Option (Int32 × PH) := match n with
  | 0 => none
  | n + 1 => if 48 ≤ x2 then ((p_ob h1 a0 4).bind fun _ => (fX4_fine h1 a0 x1).bind fun y6 => some (y6.1, y6.2)) else ((p_ob h1 a0 4).bind fun _ => (fX4_shownAt h1 a0 (x2 - x2 / 8 * 8) (x2 / 8)).bind fun v10 => (p_gr h1 a0 4 20).bind fun a_12 => (p_st h1 a_12 x2 v10).bind fun h_14 => (p_gr h_14 a0 4 21).bind fun a_16 => if v10 = (-1) then (fX4_show_53 (fX4_show_7 n) h_14 a0 x1 x2 0 x2 a_16) else ((p_gr h_14 a0 4 13).bind fun a_19 => (p_ld h_14 a_19 0 v10).bind fun v22 => fX4_show_53 (fX4_show_7 n) h_14 a0 x1 x2 v22 x2 a_16))
def fX4_show (h : PH) (a0 : Nat)  : Option (Int32 × PH) := (p_ob h a0 4).bind fun _ => (fX4_countDamage h a0).bind fun v25 => fX4_show_7 64 h a0 v25 0
-- X4_tick
def fX4_tick (h : PH) (a0 : Nat)  : Option (Int32 × PH) := (p_gi h a0 4 1).bind fun v1 => (p_ob h a0 4).bind fun _ => (fX4_fine h a0 v1).bind fun y5 => some (y5.1, y5.2)
-- X4_windows
def fX4_windows (h : PH) (a0 : Nat)  : Option (Int32 × PH) := (p_gi h a0 4 3).bind fun v1 => (p_ob h a0 4).bind fun _ => (fX4_fine h a0 v1).bind fun y5 => some (y5.1, y5.2)
-- X4_free
def fX4_free (h : PH) (a0 : Nat)  : Option (Int32 × PH) := (p_ob h a0 4).bind fun _ => (fX4_freePages h a0).bind fun v3 => (p_ob h a0 4).bind fun _ => (fX4_fine h a0 v3).bind fun y7 => some (y7.1, y7.2)
-- X4_damage
def fX4_damage (h : PH) (a0 : Nat)  : Option (Int32 × PH) := (p_ob h a0 4).bind fun _ => (fX4_countDamage h a0).bind fun v3 => (p_ob h a0 4).bind fun _ => (fX4_fine h a0 v3).bind fun y7 => some (y7.1, y7.2)
-- X4_at
def fX4_at_19 (h1 : PH) (sx0 : Int32) : Option (Int32 × PH) := some (sx0, h1)
def fX4_at (h : PH) (a0 : Nat) (x1 : Int32) (x2 : Int32)  : Option (Int32 × PH) := (p_ob h a0 4).bind fun _ => (fX4_noCell h a0 x1 x2).bind fun y3 => if y3.1 = 0 then ((p_ob y3.2 a0 4).bind fun _ => (fX4_shownAt y3.2 a0 x1 x2).bind fun v8 => fX4_at_19 y3.2 v8) else (fX4_at_19 y3.2 0)
-- X4_placeOf
def fX4_placeOf_17 (h1 : PH) (sx0 : Int32) : Option (Int32 × PH) := some (sx0, h1)
def fX4_placeOf (h : PH) (a0 : Nat) (x1 : Int32)  : Option (Int32 × PH) := (p_ob h a0 4).bind fun _ => (fX4_noWindow h a0 x1).bind fun y3 => if y3.1 = 0 then ((p_ob y3.2 a0 4).bind fun _ => (fX4_placeIn y3.2 a0 x1).bind fun v8 => fX4_placeOf_17 y3.2 v8) else (fX4_placeOf_17 y3.2 0)
-- X4_isSeen
def fX4_isSeen_21 (h1 : PH) (sx0 : Int32) : Option (Int32 × PH) := (p_z sx0).bind fun z => some (z, h1)
def fX4_isSeen_20 (h1 : PH)  : Option (Int32 × PH) := fX4_isSeen_21 h1 0
def fX4_isSeen (h : PH) (a0 : Nat) (x1 : Int32)  : Option (Int32 × PH) := (p_ob h a0 4).bind fun _ => (fX4_noWindow h a0 x1).bind fun y3 => if y3.1 = 0 then ((p_ob y3.2 a0 4).bind fun _ => (fX4_isShown y3.2 a0 x1).bind fun v8 => if v8 = 0 then (fX4_isSeen_20 y3.2 ) else (fX4_isSeen_21 y3.2 1)) else (fX4_isSeen_20 y3.2 )
-- X4_pagesOf
def fX4_pagesOf_26 (h1 : PH) (sx0 : Int32) : Option (Int32 × PH) := some (sx0, h1)
def fX4_pagesOf_17 (h1 : PH)  : Option (Int32 × PH) := fX4_pagesOf_26 h1 0
def fX4_pagesOf (h : PH) (a0 : Nat) (x1 : Int32)  : Option (Int32 × PH) := (p_ob h a0 4).bind fun _ => (fX4_noWindow h a0 x1).bind fun y3 => if y3.1 = 0 then ((p_gr y3.2 a0 4 12).bind fun a_6 => (p_ld y3.2 a_6 1 x1).bind fun v9 => if v9 = 0 then (fX4_pagesOf_17 y3.2 ) else ((p_ob y3.2 a0 4).bind fun _ => (fX4_need y3.2 a0 x1).bind fun v13 => fX4_pagesOf_26 y3.2 v13)) else (fX4_pagesOf_17 y3.2 )
-- X4_picture
def fX4_picture_18 (h1 : PH) (sx0 : Int32) : Option (Int32 × PH) := some (sx0, h1)
def fX4_picture (h : PH) (a0 : Nat) (x1 : Int32)  : Option (Int32 × PH) := (p_ob h a0 4).bind fun _ => (fX4_noWindow h a0 x1).bind fun y3 => if y3.1 = 0 then ((p_gr y3.2 a0 4 13).bind fun a_6 => (p_ld y3.2 a_6 0 x1).bind fun v9 => fX4_picture_18 y3.2 v9) else (fX4_picture_18 y3.2 0)
-- X4_pace
def fX4_pace_18 (h1 : PH) (sx0 : Int32) : Option (Int32 × PH) := some (sx0, h1)
def fX4_pace (h : PH) (a0 : Nat) (x1 : Int32)  : Option (Int32 × PH) := (p_ob h a0 4).bind fun _ => (fX4_noWindow h a0 x1).bind fun y3 => if y3.1 = 0 then ((p_gr y3.2 a0 4 14).bind fun a_6 => (p_ld y3.2 a_6 0 x1).bind fun v9 => fX4_pace_18 y3.2 v9) else (fX4_pace_18 y3.2 0)
-- X4_misses
def fX4_misses_18 (h1 : PH) (sx0 : Int32) : Option (Int32 × PH) := some (sx0, h1)
def fX4_misses (h : PH) (a0 : Nat) (x1 : Int32)  : Option (Int32 × PH) := (p_ob h a0 4).bind fun _ => (fX4_noWindow h a0 x1).bind fun y3 => if y3.1 = 0 then ((p_gr y3.2 a0 4 15).bind fun a_6 => (p_ld y3.2 a_6 0 x1).bind fun v9 => fX4_misses_18 y3.2 v9) else (fX4_misses_18 y3.2 0)
-- X4_deadline
def fX4_deadline_18 (h1 : PH) (sx0 : Int32) : Option (Int32 × PH) := some (sx0, h1)
def fX4_deadline (h : PH) (a0 : Nat) (x1 : Int32)  : Option (Int32 × PH) := (p_ob h a0 4).bind fun _ => (fX4_noWindow h a0 x1).bind fun y3 => if y3.1 = 0 then ((p_gr y3.2 a0 4 18).bind fun a_6 => (p_ld y3.2 a_6 0 x1).bind fun v9 => fX4_deadline_18 y3.2 v9) else (fX4_deadline_18 y3.2 0)
