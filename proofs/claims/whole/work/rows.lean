section
-- ===== PART A: goes FIRST, ahead of the names: the tables' words, and 'selects' of the private methods out of them =====
/-- a private method of a class that the tables say can be made, by its rows of tables_1 -/
def lw_okq (q : MethodName × Nat) : Prop := (q.1.cls ≠ "java/lang/invoke/MethodHandle" ∧ q.1.cls ≠ "java/lang/invoke/VarHandle") ∧ Cond.instantiable q.1.cls q.2 ∈ tables_1 ∧ Cond.privateMethod q.1 ∈ tables_1 ∧ Cond.instanceMethod q.1 ∈ tables_1
theorem lw_p0 : lw_okq (⟨"FrameBroker", "countDamage", "()I"⟩, 8) := ⟨⟨by decide +kernel, by decide +kernel⟩, List.mem_of_getElem? (i := 13) (by decide +kernel), List.mem_of_getElem? (i := 67) (by decide +kernel), List.mem_of_getElem? (i := 68) (by decide +kernel)⟩
theorem lw_p1 : lw_okq (⟨"FrameBroker", "rememberScreen", "()V"⟩, 8) := ⟨⟨by decide +kernel, by decide +kernel⟩, List.mem_of_getElem? (i := 13) (by decide +kernel), List.mem_of_getElem? (i := 77) (by decide +kernel), List.mem_of_getElem? (i := 78) (by decide +kernel)⟩
theorem lw_p2 : lw_okq (⟨"java/lang/Throwable", "fillInStackTrace", "(I)Ljava/lang/Throwable;"⟩, 6) := ⟨⟨by decide +kernel, by decide +kernel⟩, List.mem_of_getElem? (i := 154) (by decide +kernel), List.mem_of_getElem? (i := 152) (by decide +kernel), List.mem_of_getElem? (i := 153) (by decide +kernel)⟩
theorem lw_p3 : lw_okq (⟨"FrameBroker", "putOnTop", "(LFrameBroker$Window;)Z"⟩, 8) := ⟨⟨by decide +kernel, by decide +kernel⟩, List.mem_of_getElem? (i := 13) (by decide +kernel), List.mem_of_getElem? (i := 287) (by decide +kernel), List.mem_of_getElem? (i := 288) (by decide +kernel)⟩
theorem lw_p4 : lw_okq (⟨"FrameBroker", "lookAtScreen", "()V"⟩, 8) := ⟨⟨by decide +kernel, by decide +kernel⟩, List.mem_of_getElem? (i := 13) (by decide +kernel), List.mem_of_getElem? (i := 295) (by decide +kernel), List.mem_of_getElem? (i := 296) (by decide +kernel)⟩
theorem lw_p5 : lw_okq (⟨"FrameBroker", "lend", "(LFrameBroker$Window;)Z"⟩, 8) := ⟨⟨by decide +kernel, by decide +kernel⟩, List.mem_of_getElem? (i := 13) (by decide +kernel), List.mem_of_getElem? (i := 312) (by decide +kernel), List.mem_of_getElem? (i := 313) (by decide +kernel)⟩
theorem lw_p6 : lw_okq (⟨"FrameBroker", "pagesOfUnseen", "()I"⟩, 8) := ⟨⟨by decide +kernel, by decide +kernel⟩, List.mem_of_getElem? (i := 13) (by decide +kernel), List.mem_of_getElem? (i := 320) (by decide +kernel), List.mem_of_getElem? (i := 321) (by decide +kernel)⟩
theorem lw_p7 : lw_okq (⟨"FrameBroker", "takeBackUntilFree", "(I)V"⟩, 8) := ⟨⟨by decide +kernel, by decide +kernel⟩, List.mem_of_getElem? (i := 13) (by decide +kernel), List.mem_of_getElem? (i := 324) (by decide +kernel), List.mem_of_getElem? (i := 325) (by decide +kernel)⟩
theorem lw_p8 : lw_okq (⟨"FrameBroker", "lendToSeen", "()V"⟩, 8) := ⟨⟨by decide +kernel, by decide +kernel⟩, List.mem_of_getElem? (i := 13) (by decide +kernel), List.mem_of_getElem? (i := 345) (by decide +kernel), List.mem_of_getElem? (i := 346) (by decide +kernel)⟩
theorem lw_p9 : lw_okq (⟨"FrameBroker", "find", "(I)LFrameBroker$Window;"⟩, 8) := ⟨⟨by decide +kernel, by decide +kernel⟩, List.mem_of_getElem? (i := 13) (by decide +kernel), List.mem_of_getElem? (i := 357) (by decide +kernel), List.mem_of_getElem? (i := 358) (by decide +kernel)⟩
theorem lw_p10 : lw_okq (⟨"FrameBroker", "rearrange", "()V"⟩, 8) := ⟨⟨by decide +kernel, by decide +kernel⟩, List.mem_of_getElem? (i := 13) (by decide +kernel), List.mem_of_getElem? (i := 383) (by decide +kernel), List.mem_of_getElem? (i := 384) (by decide +kernel)⟩
theorem lw_p11 : lw_okq (⟨"FrameBroker", "passTick", "()V"⟩, 8) := ⟨⟨by decide +kernel, by decide +kernel⟩, List.mem_of_getElem? (i := 13) (by decide +kernel), List.mem_of_getElem? (i := 415) (by decide +kernel), List.mem_of_getElem? (i := 416) (by decide +kernel)⟩
theorem lw_p12 : lw_okq (⟨"FrameBroker", "beginFrames", "()V"⟩, 8) := ⟨⟨by decide +kernel, by decide +kernel⟩, List.mem_of_getElem? (i := 13) (by decide +kernel), List.mem_of_getElem? (i := 419) (by decide +kernel), List.mem_of_getElem? (i := 420) (by decide +kernel)⟩
theorem lw_p13 : lw_okq (⟨"FrameBroker", "mostUrgent", "()LFrameBroker$Window;"⟩, 8) := ⟨⟨by decide +kernel, by decide +kernel⟩, List.mem_of_getElem? (i := 13) (by decide +kernel), List.mem_of_getElem? (i := 432) (by decide +kernel), List.mem_of_getElem? (i := 433) (by decide +kernel)⟩
theorem lw_p14 : lw_okq (⟨"FrameBroker", "countMisses", "()V"⟩, 8) := ⟨⟨by decide +kernel, by decide +kernel⟩, List.mem_of_getElem? (i := 13) (by decide +kernel), List.mem_of_getElem? (i := 440) (by decide +kernel), List.mem_of_getElem? (i := 441) (by decide +kernel)⟩
theorem lw_p15 : lw_okq (⟨"FrameBroker", "findTopmost", "(II)LFrameBroker$Window;"⟩, 8) := ⟨⟨by decide +kernel, by decide +kernel⟩, List.mem_of_getElem? (i := 13) (by decide +kernel), List.mem_of_getElem? (i := 455) (by decide +kernel), List.mem_of_getElem? (i := 456) (by decide +kernel)⟩
def lw_privs_1 : List (MethodName × Nat) := [(⟨"FrameBroker", "countDamage", "()I"⟩, 8), (⟨"FrameBroker", "rememberScreen", "()V"⟩, 8), (⟨"java/lang/Throwable", "fillInStackTrace", "(I)Ljava/lang/Throwable;"⟩, 6), (⟨"FrameBroker", "putOnTop", "(LFrameBroker$Window;)Z"⟩, 8), (⟨"FrameBroker", "lookAtScreen", "()V"⟩, 8), (⟨"FrameBroker", "lend", "(LFrameBroker$Window;)Z"⟩, 8), (⟨"FrameBroker", "pagesOfUnseen", "()I"⟩, 8), (⟨"FrameBroker", "takeBackUntilFree", "(I)V"⟩, 8), (⟨"FrameBroker", "lendToSeen", "()V"⟩, 8), (⟨"FrameBroker", "find", "(I)LFrameBroker$Window;"⟩, 8), (⟨"FrameBroker", "rearrange", "()V"⟩, 8), (⟨"FrameBroker", "passTick", "()V"⟩, 8), (⟨"FrameBroker", "beginFrames", "()V"⟩, 8), (⟨"FrameBroker", "mostUrgent", "()LFrameBroker$Window;"⟩, 8), (⟨"FrameBroker", "countMisses", "()V"⟩, 8), (⟨"FrameBroker", "findTopmost", "(II)LFrameBroker$Window;"⟩, 8)]
theorem lw_r1 : ∀ q ∈ lw_privs_1, lw_okq q := List.forall_mem_cons.mpr ⟨lw_p0, List.forall_mem_cons.mpr ⟨lw_p1, List.forall_mem_cons.mpr ⟨lw_p2, List.forall_mem_cons.mpr ⟨lw_p3, List.forall_mem_cons.mpr ⟨lw_p4, List.forall_mem_cons.mpr ⟨lw_p5, List.forall_mem_cons.mpr ⟨lw_p6, List.forall_mem_cons.mpr ⟨lw_p7, List.forall_mem_cons.mpr ⟨lw_p8, List.forall_mem_cons.mpr ⟨lw_p9, List.forall_mem_cons.mpr ⟨lw_p10, List.forall_mem_cons.mpr ⟨lw_p11, List.forall_mem_cons.mpr ⟨lw_p12, List.forall_mem_cons.mpr ⟨lw_p13, List.forall_mem_cons.mpr ⟨lw_p14, List.forall_mem_cons.mpr ⟨lw_p15, fun _ h => absurd h List.not_mem_nil⟩⟩⟩⟩⟩⟩⟩⟩⟩⟩⟩⟩⟩⟩⟩⟩
theorem lw_p16 : lw_okq (⟨"FrameBrokerModel", "frame", "(IIII)V"⟩, 22) := ⟨⟨by decide +kernel, by decide +kernel⟩, List.mem_of_getElem? (i := 520) (by decide +kernel), List.mem_of_getElem? (i := 605) (by decide +kernel), List.mem_of_getElem? (i := 606) (by decide +kernel)⟩
theorem lw_p17 : lw_okq (⟨"FrameBrokerModel", "lend", "(I)Z"⟩, 22) := ⟨⟨by decide +kernel, by decide +kernel⟩, List.mem_of_getElem? (i := 520) (by decide +kernel), List.mem_of_getElem? (i := 609) (by decide +kernel), List.mem_of_getElem? (i := 610) (by decide +kernel)⟩
theorem lw_p18 : lw_okq (⟨"FrameBrokerModel", "freePages", "()I"⟩, 22) := ⟨⟨by decide +kernel, by decide +kernel⟩, List.mem_of_getElem? (i := 520) (by decide +kernel), List.mem_of_getElem? (i := 613) (by decide +kernel), List.mem_of_getElem? (i := 614) (by decide +kernel)⟩
theorem lw_p19 : lw_okq (⟨"FrameBrokerModel", "need", "(I)I"⟩, 22) := ⟨⟨by decide +kernel, by decide +kernel⟩, List.mem_of_getElem? (i := 520) (by decide +kernel), List.mem_of_getElem? (i := 617) (by decide +kernel), List.mem_of_getElem? (i := 618) (by decide +kernel)⟩
theorem lw_p20 : lw_okq (⟨"FrameBrokerModel", "canLose", "(II)Z"⟩, 22) := ⟨⟨by decide +kernel, by decide +kernel⟩, List.mem_of_getElem? (i := 520) (by decide +kernel), List.mem_of_getElem? (i := 621) (by decide +kernel), List.mem_of_getElem? (i := 622) (by decide +kernel)⟩
theorem lw_p21 : lw_okq (⟨"FrameBrokerModel", "isShown", "(I)Z"⟩, 22) := ⟨⟨by decide +kernel, by decide +kernel⟩, List.mem_of_getElem? (i := 520) (by decide +kernel), List.mem_of_getElem? (i := 625) (by decide +kernel), List.mem_of_getElem? (i := 626) (by decide +kernel)⟩
theorem lw_p22 : lw_okq (⟨"FrameBrokerModel", "shownAt", "(II)I"⟩, 22) := ⟨⟨by decide +kernel, by decide +kernel⟩, List.mem_of_getElem? (i := 520) (by decide +kernel), List.mem_of_getElem? (i := 629) (by decide +kernel), List.mem_of_getElem? (i := 630) (by decide +kernel)⟩
theorem lw_p23 : lw_okq (⟨"FrameBrokerModel", "covers", "(III)Z"⟩, 22) := ⟨⟨by decide +kernel, by decide +kernel⟩, List.mem_of_getElem? (i := 520) (by decide +kernel), List.mem_of_getElem? (i := 633) (by decide +kernel), List.mem_of_getElem? (i := 634) (by decide +kernel)⟩
theorem lw_p24 : lw_okq (⟨"FrameBrokerModel", "lose", "(I)V"⟩, 22) := ⟨⟨by decide +kernel, by decide +kernel⟩, List.mem_of_getElem? (i := 520) (by decide +kernel), List.mem_of_getElem? (i := 637) (by decide +kernel), List.mem_of_getElem? (i := 638) (by decide +kernel)⟩
theorem lw_p25 : lw_okq (⟨"FrameBrokerModel", "drop", "(I)V"⟩, 22) := ⟨⟨by decide +kernel, by decide +kernel⟩, List.mem_of_getElem? (i := 520) (by decide +kernel), List.mem_of_getElem? (i := 641) (by decide +kernel), List.mem_of_getElem? (i := 642) (by decide +kernel)⟩
theorem lw_p26 : lw_okq (⟨"FrameBrokerModel", "refused", "(I)Z"⟩, 22) := ⟨⟨by decide +kernel, by decide +kernel⟩, List.mem_of_getElem? (i := 520) (by decide +kernel), List.mem_of_getElem? (i := 645) (by decide +kernel), List.mem_of_getElem? (i := 646) (by decide +kernel)⟩
theorem lw_p27 : lw_okq (⟨"FrameBrokerModel", "lendAll", "()V"⟩, 22) := ⟨⟨by decide +kernel, by decide +kernel⟩, List.mem_of_getElem? (i := 520) (by decide +kernel), List.mem_of_getElem? (i := 649) (by decide +kernel), List.mem_of_getElem? (i := 650) (by decide +kernel)⟩
theorem lw_p28 : lw_okq (⟨"FrameBrokerModel", "noWindow", "(I)Z"⟩, 22) := ⟨⟨by decide +kernel, by decide +kernel⟩, List.mem_of_getElem? (i := 520) (by decide +kernel), List.mem_of_getElem? (i := 657) (by decide +kernel), List.mem_of_getElem? (i := 658) (by decide +kernel)⟩
theorem lw_p29 : lw_okq (⟨"FrameBrokerModel", "placeIn", "(I)I"⟩, 22) := ⟨⟨by decide +kernel, by decide +kernel⟩, List.mem_of_getElem? (i := 520) (by decide +kernel), List.mem_of_getElem? (i := 661) (by decide +kernel), List.mem_of_getElem? (i := 662) (by decide +kernel)⟩
theorem lw_p30 : lw_okq (⟨"FrameBrokerModel", "pass", "()V"⟩, 22) := ⟨⟨by decide +kernel, by decide +kernel⟩, List.mem_of_getElem? (i := 520) (by decide +kernel), List.mem_of_getElem? (i := 678) (by decide +kernel), List.mem_of_getElem? (i := 679) (by decide +kernel)⟩
theorem lw_p31 : lw_okq (⟨"FrameBrokerModel", "start", "()V"⟩, 22) := ⟨⟨by decide +kernel, by decide +kernel⟩, List.mem_of_getElem? (i := 520) (by decide +kernel), List.mem_of_getElem? (i := 682) (by decide +kernel), List.mem_of_getElem? (i := 683) (by decide +kernel)⟩
def lw_privs_2 : List (MethodName × Nat) := [(⟨"FrameBrokerModel", "frame", "(IIII)V"⟩, 22), (⟨"FrameBrokerModel", "lend", "(I)Z"⟩, 22), (⟨"FrameBrokerModel", "freePages", "()I"⟩, 22), (⟨"FrameBrokerModel", "need", "(I)I"⟩, 22), (⟨"FrameBrokerModel", "canLose", "(II)Z"⟩, 22), (⟨"FrameBrokerModel", "isShown", "(I)Z"⟩, 22), (⟨"FrameBrokerModel", "shownAt", "(II)I"⟩, 22), (⟨"FrameBrokerModel", "covers", "(III)Z"⟩, 22), (⟨"FrameBrokerModel", "lose", "(I)V"⟩, 22), (⟨"FrameBrokerModel", "drop", "(I)V"⟩, 22), (⟨"FrameBrokerModel", "refused", "(I)Z"⟩, 22), (⟨"FrameBrokerModel", "lendAll", "()V"⟩, 22), (⟨"FrameBrokerModel", "noWindow", "(I)Z"⟩, 22), (⟨"FrameBrokerModel", "placeIn", "(I)I"⟩, 22), (⟨"FrameBrokerModel", "pass", "()V"⟩, 22), (⟨"FrameBrokerModel", "start", "()V"⟩, 22)]
theorem lw_r2 : ∀ q ∈ lw_privs_2, lw_okq q := List.forall_mem_cons.mpr ⟨lw_p16, List.forall_mem_cons.mpr ⟨lw_p17, List.forall_mem_cons.mpr ⟨lw_p18, List.forall_mem_cons.mpr ⟨lw_p19, List.forall_mem_cons.mpr ⟨lw_p20, List.forall_mem_cons.mpr ⟨lw_p21, List.forall_mem_cons.mpr ⟨lw_p22, List.forall_mem_cons.mpr ⟨lw_p23, List.forall_mem_cons.mpr ⟨lw_p24, List.forall_mem_cons.mpr ⟨lw_p25, List.forall_mem_cons.mpr ⟨lw_p26, List.forall_mem_cons.mpr ⟨lw_p27, List.forall_mem_cons.mpr ⟨lw_p28, List.forall_mem_cons.mpr ⟨lw_p29, List.forall_mem_cons.mpr ⟨lw_p30, List.forall_mem_cons.mpr ⟨lw_p31, fun _ h => absurd h List.not_mem_nil⟩⟩⟩⟩⟩⟩⟩⟩⟩⟩⟩⟩⟩⟩⟩⟩
theorem lw_p32 : lw_okq (⟨"FrameBrokerModel", "begin", "(II)V"⟩, 22) := ⟨⟨by decide +kernel, by decide +kernel⟩, List.mem_of_getElem? (i := 520) (by decide +kernel), List.mem_of_getElem? (i := 686) (by decide +kernel), List.mem_of_getElem? (i := 687) (by decide +kernel)⟩
theorem lw_p33 : lw_okq (⟨"FrameBrokerModel", "earliest", "()I"⟩, 22) := ⟨⟨by decide +kernel, by decide +kernel⟩, List.mem_of_getElem? (i := 520) (by decide +kernel), List.mem_of_getElem? (i := 690) (by decide +kernel), List.mem_of_getElem? (i := 691) (by decide +kernel)⟩
theorem lw_p34 : lw_okq (⟨"FrameBrokerModel", "finish", "(I)V"⟩, 22) := ⟨⟨by decide +kernel, by decide +kernel⟩, List.mem_of_getElem? (i := 520) (by decide +kernel), List.mem_of_getElem? (i := 694) (by decide +kernel), List.mem_of_getElem? (i := 695) (by decide +kernel)⟩
theorem lw_p35 : lw_okq (⟨"FrameBrokerModel", "miss", "(I)V"⟩, 22) := ⟨⟨by decide +kernel, by decide +kernel⟩, List.mem_of_getElem? (i := 520) (by decide +kernel), List.mem_of_getElem? (i := 698) (by decide +kernel), List.mem_of_getElem? (i := 699) (by decide +kernel)⟩
theorem lw_p36 : lw_okq (⟨"FrameBrokerModel", "noCell", "(II)Z"⟩, 22) := ⟨⟨by decide +kernel, by decide +kernel⟩, List.mem_of_getElem? (i := 520) (by decide +kernel), List.mem_of_getElem? (i := 706) (by decide +kernel), List.mem_of_getElem? (i := 707) (by decide +kernel)⟩
theorem lw_p37 : lw_okq (⟨"FrameBrokerModel", "countDamage", "()I"⟩, 22) := ⟨⟨by decide +kernel, by decide +kernel⟩, List.mem_of_getElem? (i := 520) (by decide +kernel), List.mem_of_getElem? (i := 714) (by decide +kernel), List.mem_of_getElem? (i := 715) (by decide +kernel)⟩
theorem lw_p38 : lw_okq (⟨"FrameBrokerModel", "fine", "(I)I"⟩, 22) := ⟨⟨by decide +kernel, by decide +kernel⟩, List.mem_of_getElem? (i := 520) (by decide +kernel), List.mem_of_getElem? (i := 718) (by decide +kernel), List.mem_of_getElem? (i := 719) (by decide +kernel)⟩
def lw_privs_3 : List (MethodName × Nat) := [(⟨"FrameBrokerModel", "begin", "(II)V"⟩, 22), (⟨"FrameBrokerModel", "earliest", "()I"⟩, 22), (⟨"FrameBrokerModel", "finish", "(I)V"⟩, 22), (⟨"FrameBrokerModel", "miss", "(I)V"⟩, 22), (⟨"FrameBrokerModel", "noCell", "(II)Z"⟩, 22), (⟨"FrameBrokerModel", "countDamage", "()I"⟩, 22), (⟨"FrameBrokerModel", "fine", "(I)I"⟩, 22)]
theorem lw_r3 : ∀ q ∈ lw_privs_3, lw_okq q := List.forall_mem_cons.mpr ⟨lw_p32, List.forall_mem_cons.mpr ⟨lw_p33, List.forall_mem_cons.mpr ⟨lw_p34, List.forall_mem_cons.mpr ⟨lw_p35, List.forall_mem_cons.mpr ⟨lw_p36, List.forall_mem_cons.mpr ⟨lw_p37, List.forall_mem_cons.mpr ⟨lw_p38, fun _ h => absurd h List.not_mem_nil⟩⟩⟩⟩⟩⟩⟩
def lw_privs : List (MethodName × Nat) := lw_privs_1 ++ (lw_privs_2 ++ (lw_privs_3))
def lw_tbl : List Cond := k2_sels lw_privs ++ tables_1
theorem lw_privs_ok : ∀ q ∈ lw_privs, lw_okq q := by
  show ∀ q ∈ lw_privs_1 ++ (lw_privs_2 ++ (lw_privs_3)), lw_okq q
  exact List.forall_mem_append.mpr ⟨lw_r1, List.forall_mem_append.mpr ⟨lw_r2, lw_r3⟩⟩
-- ===== end of PART A; then your names; then what follows =====
end
section
/-! ===== BEGIN words of one list among another's, by their places ===== -/
theorem goodIn_r {big : List Cond} (ws : List Cond) (ps : List Nat) (hp : ws = ps.filterMap (fun i => big[i]?)) (h : ws.all goodWord = true) : GoodIn big ws := by
  intro w hw
  have h1 := List.all_eq_true.mp h w hw
  rw [hp] at hw
  obtain ⟨i, -, hi⟩ := List.mem_filterMap.mp hw
  have hm : w ∈ big := by first | exact List.mem_of_getElem? hi | exact List.getElem?_mem hi
  exact ⟨hm, good_of_word h1⟩
theorem goodIn_app {big a b : List Cond} (ha : GoodIn big a) (hb : GoodIn big b) : GoodIn big (a ++ b) := fun w h => (List.mem_append.mp h).elim (ha w) (hb w)
theorem goodIn_ca {big a b : List Cond} {c : Cond} (ha : GoodIn big (c :: a)) (hb : GoodIn big b) : GoodIn big (c :: (a ++ b)) := fun w h => (List.mem_cons.mp h).elim (fun e => ha w (List.mem_cons.mpr (Or.inl e))) (fun h => (List.mem_append.mp h).elim (fun h => ha w (List.mem_cons.mpr (Or.inr h))) (hb w))
theorem goodIn_sub {big ws : List Cond} (hm : ∀ w ∈ ws, w ∈ big) (h : ws.all goodWord = true) : GoodIn big ws := fun w hw => ⟨hm w hw, good_of_word (List.all_eq_true.mp h w hw)⟩
/-! ===== END ===== -/

/-! ===== BEGIN exceptions that leave a method, and their catching by the caller (launches without stack traces) ===== -/
section VXA
/-! The laws vx_back, vx_callV, vx_callS, vx_callSW, vx_throw0, vx_throwS follow proofs of the library, with one case more: JvmDerived/Free/Laws.lean (Back.of_free), Shelf42/LK1.lean (callV, callS), Shelf/KitTraced.lean (throwNew0V, throwNewS). -/
/-- where a method has thrown q: the class by its name, the cell, what was written, the world -/
def vx_T (XC : String → State → State → Prop) (st : State) (q : Addr) (t : State) (mc ms : Nat) (free : Addr → Prop) : Prop :=
  ∃ (E : String) (ce : Cell) (L : List Loc), XC E st t ∧ t.heap[q]? = some ce ∧ ce.vm = .none ∧ st.vm.findClass E = some ce.cls ∧ st.WarmedH t.vm ∧ st.sameButNew ({ t with vm := st.vm } : State) L mc ms ∧ ∀ z ∈ L, free z.base
def vx_Q (Qc : Array Value → State → Outcome → State → Prop) (XC : String → State → State → Prop) (mc ms : Nat) (free : Addr → Prop) : Array Value → State → Outcome → State → Prop := fun a st o t =>
  (Qc a st o t ∧ ∃ L, FrameEnd st o t L mc ms ∧ ∀ q ∈ L, free q.base) ∨ ∃ q, o = .threw q ∧ vx_T XC st q t mc ms free
/-- a callee that returns or throws -/
def vx_Met (l : Launch) (y : MethodName) (ws : List Cond) (rm : Room) (Pc : Array Value → State → Prop) (Qc : Array Value → State → Outcome → State → Prop) (XC : String → State → State → Prop) (mc ms : Nat) (free : Addr → Prop) : Prop :=
  MetFree l y (headSpec ws rm) Pc (fun _ _ _ _ _ => True) (vx_Q Qc XC mc ms free)
def vx_Post (XC : String → State → State → Prop) (mc ms : Nat) (free : Addr → Prop) : Pt → Array Value → Addr → Pt → Prop := fun A a q B =>
  ∃ (g : JFrame) (mk : MethodId) (t : State) (L : List Loc) (E : String) (ce : Cell), B.U.heap = t.heap ∧ B.U.vm = t.vm ∧ XC E (A.U.calling g mk a) t ∧ t.heap[q]? = some ce ∧ ce.vm = .none ∧ A.U.vm.findClass E = some ce.cls ∧ B.locs = A.locs ++ L ∧ (∀ z ∈ L, free z.base) ∧ B.cells = A.cells + mc ∧ B.slots = A.slots + ms
def vx_Back (l : Launch) (R : Room) (p : Program) (e : Env) (below : List Frame) (s : State) (sargs : Array Value) (y : MethodName) (len W9 : Nat)
    (Pre : Pt → Array Value → Prop) (Post : Pt → Array Value → Option Value → Pt → Prop) (PostX : Pt → Array Value → Addr → Pt → Prop) : Prop :=
  ∀ (m : MethodId) (meth : Method) (c : Code) (A : Pt) (g : JFrame) (ig : Instr) (mk : MethodId) (a : Array Value),
    Stand p l e R s m sargs below meth c A.U A.locs A.cells A.slots → g.method = m → g.locals.size = c.maxLocals → decode c.code g.pc = .ok (ig, len) →
    2 * g.monitorRoom + (g.stack.map fun v => v.category).sum ≤ W9 → A.U.methodNamed? y = some mk → Pre A a →
    (∃ (v : Option Value) (B : Pt), Stand p l e R s m sargs below meth c B.U B.locs B.cells B.slots ∧ Post A a v B ∧
      Steps p.tables e below (doInvoke e (A.U.setTop g) [] mk a).1 (B.U.setTop { g with pc := g.pc + len, stack := v.toList ++ g.stack })) ∨
    (∃ (q : Addr) (B : Pt), Stand p l e R s m sargs below meth c B.U B.locs B.cells B.slots ∧ PostX A a q B ∧
      Steps p.tables e below (doInvoke e (A.U.setTop g) [] mk a).1 ((B.U.setTop g).pushFrame (.throwing q)))
section Payer
variable {l : Launch} {R : Room} {p : Program} {e : Env} {below : List Frame} {s : State} {sargs : Array Value} {y : MethodName} {len W9 : Nat}
theorem vx_back {ws : List Cond} {rm : Room} {Pc : Array Value → State → Prop} {Qc : Array Value → State → Outcome → State → Prop} {XC : String → State → State → Prop} {mc ms : Nat} {free : Addr → Prop} {bytes : ByteArray} {maxL : Nat} {ret : Option FieldType}
    (hM : vx_Met l y ws rm Pc Qc XC mc ms free) (hblind : FrameBlind Pc) (hrc : rm.cells = mc) (hrs : rm.slots = ms)
    (hframes : rm.frames + 1 ≤ R.frames) (hlocals : W9 + (maxL + 11) + rm.locals ≤ R.locals)
    (hws : ∀ w ∈ ws, ∀ a' U, s.WarmedH U.vm → w.before a' U = true) (hcode : Cond.code y bytes maxL ret ∈ ws) (hinit : ∀ a' U, s.WarmedH U.vm → (Cond.initialized y.cls).before a' U = true) :
    vx_Back l R p e below s sargs y len W9 (PreOf R mc ms Pc) (PostOf Qc mc ms free) (vx_Post XC mc ms free) := by
  intro m meth c A g ig mk a X hg hsize hdg hW hn hp
  have h1 : (headSpec ws rm).pre.before a A.U = true := atoms_intro fun w hw => hws w hw _ _ X.warmed
  have h2 : (Cond.code y bytes maxL ret).before a A.U = true := hws _ hcode _ _ X.warmed
  have h3 : (Cond.initialized y.cls).before a A.U = true := hinit _ _ X.warmed
  have h4 : A.cells + (headSpec ws rm).room.cells ≤ R.cells := by rw [show (headSpec ws rm).room.cells = mc from hrc]; exact hp.1
  have h5 : A.slots + (headSpec ws rm).room.slots ≤ R.slots := by rw [show (headSpec ws rm).room.slots = ms from hrs]; exact hp.2.1
  have hPc : Pc a (A.U.calling g mk a) := hblind _ _ _ _ hp.2.2
  obtain ⟨U, Ls, c0, s0⟩ := A
  dsimp only [Pt.U, Pt.locs, Pt.cells, Pt.slots] at h1 h2 h3 h4 h5 X hn hPc ⊢
  obtain ⟨methY, cY, hmY, hcY, -, hlY, -, -, -, -⟩ := Cond.code_spec hn h2
  obtain ⟨kY, hkY, -⟩ := className_of_methodNamed hn
  have hinitY : kY.init = .initialized := Cond.initialized_spec (findClass_of_methodNamed hn) hkY h3
  have h : At U g.method c below := by rw [hg]; exact X.here
  have hlocals9 : W9 + (maxL + 11) + (headSpec ws rm).room.locals ≤ R.locals := hlocals
  have happ : (headSpec ws rm).appliesLoose y e.platform (U.calling g mk a) = true :=
    Spec.appliesLoose_calling (g := g) h hdg hn hkY hinitY
      (X.room_calling (g := g) (R' := (headSpec ws rm).room) hsize hmY hcY hframes (by rw [hlY]; omega) h4 h5) h1
  obtain ⟨mid, hmid⟩ := h.above
  have hfr : (U.setTop g).frames = (.java g :: mid) ++ below := by rw [State.frames_setTop' g h.top, hmid]; rfl
  obtain ⟨o, s₂, hsteps, -, hend, hq⟩ := Steps.callFree hM p X.admits X.cas X.clock (acts := []) hfr happ hPc trivial
  have hq' : vx_Q Qc XC mc ms free a (U.calling g mk a) o s₂ := hq
  rw [State.frames_setTop' g h.top] at hend
  obtain ⟨g₀, hg0⟩ := Option.isSome_iff_exists.mp h.top
  obtain ⟨r, hr⟩ := State.topJava?_eq_some.mp hg0
  have hr' : (({ U with heap := s₂.heap, slotsUsed := s₂.slotsUsed } : State).setVm s₂.vm).frames = .java g₀ :: r := hr
  rcases hq' with ⟨hqc, L, hfe, hL⟩ | ⟨q, rfl, E, ce, L, hx, hce, hcv, hcl, hW₂, hsm, hL⟩
  · obtain ⟨⟨v, rfl⟩, hW₂, e2, q2, q3, q4, q5, q6⟩ := id hfe
    have e3 : s₂ = ({ (U.calling g mk a).setFrames s₂.frames with heap := s₂.heap, slotsUsed := s₂.slotsUsed } : State).setVm s₂.vm := by
      have : s₂ = ({ s₂ with vm := (U.calling g mk a).vm } : State).setVm s₂.vm := rfl
      rw [e2] at this
      exact this
    obtain ⟨c₂, i₂, len₂, hc₂, hd₂, hf₂⟩ := hend
    have hW' : U.WarmedH s₂.vm := hW₂
    have hcc : c₂ = c := by
      have h1 : s₂.code? g.method = U.code? g.method := by
        rw [State.code?_eq, State.code?_eq, hW'.alike.method?]
      exact Option.some.inj (hc₂.symm.trans (h1.trans h.code))
    subst hcc
    have hlen : len₂ = len := by rw [hdg] at hd₂; cases hd₂; rfl
    subst hlen
    have hs₂ : s₂ = (({ U with heap := s₂.heap, slotsUsed := s₂.slotsUsed } : State).setVm s₂.vm).setTop { g with pc := g.pc + len₂, stack := v.toList ++ g.stack } := by
      refine e3.trans ?_
      rw [hf₂, State.calling_eq h.top, State.setFrames_setFrames, State.setTop_of_frames _ hr', hr]
      rfl
    have hsame : U.sameButNew ({ U with heap := s₂.heap, slotsUsed := s₂.slotsUsed } : State) L mc ms := by
      refine ⟨?_, q2, q3, q4, q5, q6⟩
      obtain ⟨t, ht, -⟩ := State.frames_cons hr
      show ({ U with heap := s₂.heap, slotsUsed := s₂.slotsUsed } : State) = { U.setFrames U.frames with heap := s₂.heap, slotsUsed := s₂.slotsUsed }
      rw [State.setFrames_self ht]
    subst hg
    refine Or.inl ⟨v, ⟨(({ U with heap := s₂.heap, slotsUsed := s₂.slotsUsed } : State).setVm s₂.vm), Ls ++ L, c0 + mc, s0 + ms⟩,
      ⟨X.admits, X.cas, X.clock, X.frames, X.room, X.hears, X.method, X.code, (X.here.setHeapUsed s₂.heap s₂.slotsUsed).setVm hW'.alike, X.tail, State.WarmedH.trans X.warmed hW', X.limits, X.bytes, X.same.trans (hsame.setVm s.vm)⟩,
      ⟨g, mk, s₂, L, rfl, rfl, hqc, rfl, hL, rfl, rfl⟩, ?_⟩
    show Steps p.tables e below _ ((({ U with heap := s₂.heap, slotsUsed := s₂.slotsUsed } : State).setVm s₂.vm).setTop { g with pc := g.pc + len₂, stack := v.toList ++ g.stack })
    rw [← hs₂]
    exact hsteps
  · obtain ⟨e2, q2, q3, q4, q5, q6⟩ := id hsm
    have e3 : s₂ = ({ (U.calling g mk a).setFrames s₂.frames with heap := s₂.heap, slotsUsed := s₂.slotsUsed } : State).setVm s₂.vm := by
      have : s₂ = ({ s₂ with vm := (U.calling g mk a).vm } : State).setVm s₂.vm := rfl
      rw [e2] at this
      exact this
    have hf₂ : s₂.frames = .throwing q :: .java g :: U.frames.tail := hend
    have hW' : U.WarmedH s₂.vm := hW₂
    have hs₂ : s₂ = ((({ U with heap := s₂.heap, slotsUsed := s₂.slotsUsed } : State).setVm s₂.vm).setTop g).pushFrame (.throwing q) := by
      refine e3.trans ?_
      rw [hf₂, State.calling_eq h.top, State.setFrames_setFrames, State.pushFrame, State.frames_setTop _ hr', State.setTop_of_frames _ hr', State.setFrames_setFrames, hr]
      rfl
    have hsame : U.sameButNew ({ U with heap := s₂.heap, slotsUsed := s₂.slotsUsed } : State) L mc ms := by
      refine ⟨?_, q2, q3, q4, q5, q6⟩
      obtain ⟨t, ht, -⟩ := State.frames_cons hr
      show ({ U with heap := s₂.heap, slotsUsed := s₂.slotsUsed } : State) = { U.setFrames U.frames with heap := s₂.heap, slotsUsed := s₂.slotsUsed }
      rw [State.setFrames_self ht]
    subst hg
    refine Or.inr ⟨q, ⟨(({ U with heap := s₂.heap, slotsUsed := s₂.slotsUsed } : State).setVm s₂.vm), Ls ++ L, c0 + mc, s0 + ms⟩,
      ⟨X.admits, X.cas, X.clock, X.frames, X.room, X.hears, X.method, X.code, (X.here.setHeapUsed s₂.heap s₂.slotsUsed).setVm hW'.alike, X.tail, State.WarmedH.trans X.warmed hW', X.limits, X.bytes, X.same.trans (hsame.setVm s.vm)⟩,
      ⟨g, mk, s₂, L, E, ce, rfl, rfl, hx, hce, hcv, hcl, rfl, hL, rfl, rfl⟩, ?_⟩
    show Steps p.tables e below _ (((({ U with heap := s₂.heap, slotsUsed := s₂.slotsUsed } : State).setVm s₂.vm).setTop g).pushFrame (.throwing q))
    rw [← hs₂]
    exact hsteps
end Payer
section Calls
variable {p : Program} {l : Launch} {e : Env} {R : Room} {s : State} {m : MethodId} {args : Array Value} {below : List Frame} {meth : Method} {c : Code} {T : State} {locs : List Loc} {cells slots : Nat}
theorem vx_callV (X : Stand p l e R s m args below meth c T locs cells slots) (hexec : p.tables.exec = Jvm.exec) {own C : String} {index : Nat} {y : MethodName} {bytes : ByteArray} {maxL : Nat} {ret : Option FieldType}
    (hown : s.vm.findClass own = some m.cls) (hlink : (Cond.methodLink own index y).before args s = true) (hinst : (Cond.instanceMethod y).before args s = true) (hsel : (Cond.selects C y y).before args s = true)
    (hcode : (Cond.code y bytes maxL ret).before args s = true) (hy : y.cls ≠ "java/lang/invoke/MethodHandle" ∧ y.cls ≠ "java/lang/invoke/VarHandle")
    {W9 : Nat} {Pre : Pt → Array Value → Prop} {Post : Pt → Array Value → Option Value → Pt → Prop} {PostX : Pt → Array Value → Addr → Pt → Prop} (hK : vx_Back l R p e below s args y 3 W9 Pre Post PostX)
    {b : Addr} {cellB : Cell} (hcell : T.heap[b]? = some cellB) (hobj : cellB.vm.isStatics = false) (hcls : s.vm.findClass C = some cellB.cls)
    {g : JFrame} (hg : g.method = m) (hsize : g.locals.size = c.maxLocals) {argsL rest : List Value} (hlen : ∀ sig, parseMethodDescriptor y.desc = some sig → argsL.length = sig.parameters.length)
    (hstack : g.stack = argsL.reverse ++ .ref b :: rest) (hW : 2 * g.monitorRoom + (rest.map fun v => v.category).sum ≤ W9) (hdg : decode c.code g.pc = .ok (.invokevirtual index, 3))
    (hpre : ∀ vm₁, s.WarmedH vm₁ → Pre ⟨T.setVm vm₁, locs, cells, slots⟩ (Value.ref b :: argsL).toArray) :
    (∃ (v : Option Value) (vm₁ : Vm) (B : Pt), s.WarmedH vm₁ ∧ Stand p l e R s m args below meth c B.U B.locs B.cells B.slots ∧ Post ⟨T.setVm vm₁, locs, cells, slots⟩ (Value.ref b :: argsL).toArray v B ∧
      ∀ target, Steps p.tables e below (B.U.setTop { g with pc := g.pc + 3, stack := v.toList ++ rest }) target → Steps p.tables e below (T.setTop g) target) ∨
    (∃ (q : Addr) (vm₁ : Vm) (B : Pt), s.WarmedH vm₁ ∧ Stand p l e R s m args below meth c B.U B.locs B.cells B.slots ∧ PostX ⟨T.setVm vm₁, locs, cells, slots⟩ (Value.ref b :: argsL).toArray q B ∧
      Steps p.tables e below (T.setTop g) ((B.U.setTop { g with stack := rest }).pushFrame (.throwing q))) := by
  obtain ⟨mk, methM, hnamed, hmethM, hstM, habM⟩ := Cond.instanceMethod_spec hinst
  obtain ⟨methM', cM, hmethM', -, -, -, -, -, -, hsigM⟩ := Cond.code_spec hnamed hcode
  cases hmethM.symm.trans hmethM'
  obtain ⟨c2, r2, m2, q1, q2, q3, q4, kP, hkP, hkPi⟩ := Cond.selects_spec hsel
  cases hcls.symm.trans q1
  cases (State.methodFound?_of_named hnamed hy).symm.trans q2
  cases hnamed.symm.trans q3
  have hselP : selectMethod e.platform s.vm cellB.cls mk = .method mk := by rw [Launch.admits_selectMethod X.admits]; exact q4
  obtain ⟨vm₁, X₁, hstep₁⟩ := X.invokevirtual hexec hown hlink hnamed hmethM hstM hkP hkPi hy (a := b) (cell := cellB) hcell
    (fun z h => by rw [h] at hobj; cases hobj) hselP hmethM habM hkP hkPi (g := g) hg (argsL := argsL) (rest := rest) (hlen _ hsigM) hstack hdg
  rcases hK m meth c ⟨T.setVm vm₁, locs, cells, slots⟩ { g with stack := rest } (.invokevirtual index) mk (Value.ref b :: argsL).toArray X₁ hg hsize hdg hW (X₁.named hnamed) (hpre vm₁ X₁.warmed) with ⟨v, B, X', hpost, hsteps⟩ | ⟨q, B, X', hpost, hsteps⟩
  · exact Or.inl ⟨v, vm₁, B, X₁.warmed, X', hpost, fun target h => hstep₁ _ fun acts => by rw [doInvoke_state]; exact hsteps.trans h⟩
  · exact Or.inr ⟨q, vm₁, B, X₁.warmed, X', hpost, hstep₁ _ fun acts => by rw [doInvoke_state]; exact hsteps⟩
theorem vx_callS (X : Stand p l e R s m args below meth c T locs cells slots) (hexec : p.tables.exec = Jvm.exec) {own : String} {index : Nat} {y : MethodName} {bytes : ByteArray} {maxL : Nat} {ret : Option FieldType}
    (hown : s.vm.findClass own = some m.cls) (hlink : (Cond.methodLink own index y).before args s = true) (hstat : (Cond.static y).before args s = true) (hinit : (Cond.initialized y.cls).before args s = true)
    (hcode : (Cond.code y bytes maxL ret).before args s = true) (hy : y.cls ≠ "java/lang/invoke/MethodHandle" ∧ y.cls ≠ "java/lang/invoke/VarHandle")
    {W9 : Nat} {Pre : Pt → Array Value → Prop} {Post : Pt → Array Value → Option Value → Pt → Prop} {PostX : Pt → Array Value → Addr → Pt → Prop} (hK : vx_Back l R p e below s args y 3 W9 Pre Post PostX)
    {g : JFrame} (hg : g.method = m) (hsize : g.locals.size = c.maxLocals) {argsL rest : List Value} (hlen : ∀ sig, parseMethodDescriptor y.desc = some sig → argsL.length = sig.parameters.length)
    (hstack : g.stack = argsL.reverse ++ rest) (hW : 2 * g.monitorRoom + (rest.map fun v => v.category).sum ≤ W9) (hdg : decode c.code g.pc = .ok (.invokestatic index, 3))
    (hpre : ∀ vm₁, s.WarmedH vm₁ → Pre ⟨T.setVm vm₁, locs, cells, slots⟩ argsL.toArray) :
    (∃ (v : Option Value) (vm₁ : Vm) (B : Pt), s.WarmedH vm₁ ∧ Stand p l e R s m args below meth c B.U B.locs B.cells B.slots ∧ Post ⟨T.setVm vm₁, locs, cells, slots⟩ argsL.toArray v B ∧
      ∀ target, Steps p.tables e below (B.U.setTop { g with pc := g.pc + 3, stack := v.toList ++ rest }) target → Steps p.tables e below (T.setTop g) target) ∨
    (∃ (q : Addr) (vm₁ : Vm) (B : Pt), s.WarmedH vm₁ ∧ Stand p l e R s m args below meth c B.U B.locs B.cells B.slots ∧ PostX ⟨T.setVm vm₁, locs, cells, slots⟩ argsL.toArray q B ∧
      Steps p.tables e below (T.setTop g) ((B.U.setTop { g with stack := rest }).pushFrame (.throwing q))) := by
  obtain ⟨mk, hnamed⟩ := Cond.code_named hcode
  obtain ⟨methM, cM, hmethM, -, -, -, -, -, -, hsigM⟩ := Cond.code_spec hnamed hcode
  have hstatic : methM.isStatic = true := Cond.static_spec hnamed hmethM hstat
  obtain ⟨kP, hkP, -⟩ := className_of_methodNamed hnamed
  have hinitP : kP.init = .initialized := Cond.initialized_spec (findClass_of_methodNamed hnamed) hkP hinit
  obtain ⟨vm₁, X₁, hstep₁⟩ := X.invokestatic hexec hown hlink hnamed hmethM hstatic hkP hinitP hy (g := g) hg (argsL := argsL) (rest := rest) (hlen _ hsigM) hstack hdg
  rcases hK m meth c ⟨T.setVm vm₁, locs, cells, slots⟩ { g with stack := rest } (.invokestatic index) mk argsL.toArray X₁ hg hsize hdg hW (X₁.named hnamed) (hpre vm₁ X₁.warmed) with ⟨v, B, X', hpost, hsteps⟩ | ⟨q, B, X', hpost, hsteps⟩
  · exact Or.inl ⟨v, vm₁, B, X₁.warmed, X', hpost, fun target h => hstep₁ _ fun acts => by rw [doInvoke_state]; exact hsteps.trans h⟩
  · exact Or.inr ⟨q, vm₁, B, X₁.warmed, X', hpost, hstep₁ _ fun acts => by rw [doInvoke_state]; exact hsteps⟩
end Calls
theorem vx_cls {s : State} {T : State} {vm₁ : Vm} {E : String} {k : ClassId} (hW : s.WarmedH vm₁) (h : (T.setVm vm₁).vm.findClass E = some k) : s.vm.findClass E = some k := by
  have h1 : vm₁.findClass E = some k := h
  rw [hW.alike.findClass] at h1
  exact h1
/-- the method's frame g, with q thrown over it -/
def vx_W (p : Program) (l : Launch) (e : Env) (R : Room) (s : State) (m : MethodId) (args : Array Value) (below : List Frame) (meth : Method) (c : Code) (H : Heap) (locs : List Loc) (cells slots : Nat) (Q : State → Prop) (g : JFrame) (q : Addr) : Prop :=
  ∀ T : State, T.heap = H → Stand p l e R s m args below meth c T locs cells slots → ∃ t, Steps p.tables e below ((T.setTop g).pushFrame (.throwing q)) t ∧ Q t
def vx_Run (p : Program) (l : Launch) (e : Env) (R : Room) (s : State) (m : MethodId) (args : Array Value) (below : List Frame) (meth : Method) (c : Code) (H : Heap) (locs : List Loc) (cells slots mc ms : Nat) (g : JFrame) (rest : List Value) (Qa : State → Outcome → State → Prop) (XC : String → State → State → Prop) (free : Addr → Prop) : Prop :=
  ∀ T : State, T.heap = H → Stand p l e R s m args below meth c T locs cells slots →
    (∃ (v : Option Value) (st₀ t T' : State) (L : List Loc), st₀.heap = H ∧ Stand p l e R s m args below meth c T' (locs ++ L) (cells + mc) (slots + ms) ∧ (∀ q ∈ L, free q.base) ∧ T'.heap = t.heap ∧ T'.vm = t.vm ∧ Qa st₀ (.returned v) t ∧
      Goes p e below T g T' { g with pc := g.pc + 3, stack := v.toList ++ rest }) ∨
    (∃ (q : Addr) (st₀ t T' : State) (L : List Loc) (E : String) (ce : Cell), st₀.heap = H ∧ Stand p l e R s m args below meth c T' (locs ++ L) (cells + mc) (slots + ms) ∧ (∀ z ∈ L, free z.base) ∧ T'.heap = t.heap ∧ T'.vm = t.vm ∧ XC E st₀ t ∧ t.heap[q]? = some ce ∧ ce.vm = .none ∧ s.vm.findClass E = some ce.cls ∧
      Steps p.tables e below (T.setTop g) ((T'.setTop { g with stack := rest }).pushFrame (.throwing q)))
def vx_X {S : Type} (px : S → Prop) (B : String → S → State → Prop) (A : Nat → Prop) : String → State → State → Prop := fun E st t => ∃ u : S, px u ∧ B E u t ∧ va_F A st t
section Runs
variable {p : Program} {l : Launch} {e : Env} {R : Room} {s : State} {m : MethodId} {args : Array Value} {below : List Frame} {meth : Method} {c : Code} {H : Heap} {locs : List Loc} {cells slots : Nat}
variable {y : MethodName} {bytes cc : ByteArray} {maxL nL mc ms n index : Nat} {ret : Option FieldType} {ws : List Cond} {rm : Room} {Pc : Array Value → State → Prop} {Qc : Array Value → State → Outcome → State → Prop} {XC : String → State → State → Prop} {free : Addr → Prop} {Ts : List Cond} {own C : String} {b : Addr} {As rest : List Value} {g : JFrame}
theorem vx_callBack (cb : CallB R s args own index y bytes maxL ret ws rm mc ms n) (hM : vx_Met l y ws rm Pc Qc XC mc ms free) (hbl : FrameBlind Pc) : vx_Back l R p e below s args y 3 8 (PreOf R mc ms Pc) (PostOf Qc mc ms free) (vx_Post XC mc ms free) := by
  obtain ⟨hrc, hrs, hfr, hlo, hws, hcw, -, hini, -⟩ := cb
  exact vx_back (bytes := bytes) (maxL := maxL) (ret := ret) hM hbl hrc hrs hfr hlo hws hcw (fun a' U hW => word_at hW (Or.inl (by first | rfl | simp [Cond.onTables, Cond.keeps, Cond.steady])) hini)
theorem vx_runV (S : CallFix p m c cc nL s args Ts own) (hM : vx_Met l y ws rm Pc Qc XC mc ms free) (cw : CallW R s args own C index y bytes maxL ret ws rm mc ms n) (hp : PreV s H C b Pc As)
    (hg : g.method = m) (hn : As.length = n) (hsize : g.locals.size = nL) (hstack : g.stack = As.reverse ++ .ref b :: rest) (hW : 2 * g.monitorRoom + (rest.map fun v => v.category).sum ≤ 8) (hdg : decode cc g.pc = .ok (.invokevirtual index, 3)) (hf : cells + mc ≤ R.cells ∧ slots + ms ≤ R.slots) :
    vx_Run p l e R s m args below meth c H locs cells slots mc ms g rest (Qc (Value.ref b :: As).toArray) XC free := by
  have hK : vx_Back l R p e below s args y 3 8 (PreOf R mc ms Pc) (PostOf Qc mc ms free) (vx_Post XC mc ms free) := vx_callBack cw.1 hM hp.1
  obtain ⟨⟨-, -, -, -, -, -, hcode, -, hy, hlen, hl⟩, hin, hse⟩ := cw
  obtain ⟨hx, hb, hml, ho, -⟩ := S
  obtain ⟨-, ⟨cellB, hcB, hoB, hclB⟩, hPc⟩ := hp
  intro T hT X
  rcases vx_callV X hx (C := C) (bytes := bytes) (maxL := maxL) (ret := ret) ho hl hin hse hcode hy hK (by rw [hT]; exact hcB) hoB hclB hg (hsize.trans hml.symm) (argsL := As) (rest := rest) (fun sig h => hn.trans (hlen sig h)) hstack hW (by rw [hb]; exact hdg)
    (fun vm₁ hW₁ => ⟨hf.1, hf.2, hPc (T.setVm vm₁) hT hW₁⟩) with ⟨v, vm₁, ⟨U', l2, c2, s2⟩, hW₁, X', ⟨g', mk, t, L, e1, e2, hq, h1, hL, h2, h3⟩, st⟩ | ⟨q, vm₁, ⟨U', l2, c2, s2⟩, hW₁, X', ⟨g', mk, t, L, E, ce, e1, e2, hq, hce, hcv, hcl, h1, hL, h2, h3⟩, st⟩
  · dsimp only [Pt.U, Pt.locs, Pt.cells, Pt.slots] at X' e1 e2 h1 h2 h3 st
    subst h1; subst h2; subst h3
    exact Or.inl ⟨v, (T.setVm vm₁).calling g' mk (Value.ref b :: As).toArray, t, U', L, hT, X', hL, e1, e2, hq, st⟩
  · dsimp only [Pt.U, Pt.locs, Pt.cells, Pt.slots] at X' e1 e2 h1 h2 h3 st hcl
    subst h1; subst h2; subst h3
    exact Or.inr ⟨q, (T.setVm vm₁).calling g' mk (Value.ref b :: As).toArray, t, U', L, E, ce, hT, X', hL, e1, e2, hq, hce, hcv, vx_cls hW₁ hcl, st⟩
theorem vx_runS (S : CallFix p m c cc nL s args Ts own) (hM : vx_Met l y ws rm Pc Qc XC mc ms free) (cw : CallB R s args own index y bytes maxL ret ws rm mc ms n ∧ (Cond.static y).before args s = true) (hp : PreS s H Pc As)
    (hg : g.method = m) (hn : As.length = n) (hsize : g.locals.size = nL) (hstack : g.stack = As.reverse ++ rest) (hW : 2 * g.monitorRoom + (rest.map fun v => v.category).sum ≤ 8) (hdg : decode cc g.pc = .ok (.invokestatic index, 3)) (hf : cells + mc ≤ R.cells ∧ slots + ms ≤ R.slots) :
    vx_Run p l e R s m args below meth c H locs cells slots mc ms g rest (Qc As.toArray) XC free := by
  have hK : vx_Back l R p e below s args y 3 8 (PreOf R mc ms Pc) (PostOf Qc mc ms free) (vx_Post XC mc ms free) := vx_callBack cw.1 hM hp.1
  obtain ⟨⟨-, -, -, -, -, -, hcode, hini, hy, hlen, hl⟩, hstt⟩ := cw
  obtain ⟨hx, hb, hml, ho, -⟩ := S
  intro T hT X
  rcases vx_callS X hx (bytes := bytes) (maxL := maxL) (ret := ret) ho hl hstt hini hcode hy hK hg (hsize.trans hml.symm) (argsL := As) (rest := rest) (fun sig h => hn.trans (hlen sig h)) hstack hW (by rw [hb]; exact hdg)
    (fun vm₁ hW₁ => ⟨hf.1, hf.2, hp.2 (T.setVm vm₁) hT hW₁⟩) with ⟨v, vm₁, ⟨U', l2, c2, s2⟩, hW₁, X', ⟨g', mk, t, L, e1, e2, hq, h1, hL, h2, h3⟩, st⟩ | ⟨q, vm₁, ⟨U', l2, c2, s2⟩, hW₁, X', ⟨g', mk, t, L, E, ce, e1, e2, hq, hce, hcv, hcl, h1, hL, h2, h3⟩, st⟩
  · dsimp only [Pt.U, Pt.locs, Pt.cells, Pt.slots] at X' e1 e2 h1 h2 h3 st
    subst h1; subst h2; subst h3
    exact Or.inl ⟨v, (T.setVm vm₁).calling g' mk As.toArray, t, U', L, hT, X', hL, e1, e2, hq, st⟩
  · dsimp only [Pt.U, Pt.locs, Pt.cells, Pt.slots] at X' e1 e2 h1 h2 h3 st hcl
    subst h1; subst h2; subst h3
    exact Or.inr ⟨q, (T.setVm vm₁).calling g' mk As.toArray, t, U', L, E, ce, hT, X', hL, e1, e2, hq, hce, hcv, vx_cls hW₁ hcl, st⟩
end Runs
section Rows
variable {p : Program} {l : Launch} {e : Env} {R : Room} {s : State} {m : MethodId} {args : Array Value} {below : List Frame} {meth : Method} {c : Code} {H : Heap} {locs : List Loc} {cells slots : Nat} {Q : State → Prop}
variable {mc ms : Nat} {free : Addr → Prop} {A0 A1 : Nat → Prop} {H0 : Heap} {a : Array Value} {pc : Nat} {ls : Array Slot} {st0 rest : List Value}
theorem vx_keep {st₀ t T' : State} {L : List Loc} (h0 : st₀.heap = H) (e1 : T'.heap = t.heap) (hS : va_S A0 H0 H locs) (hA : ∀ q, q < H.size → A1 q → A0 q) (hf : ∀ q, free q → A0 q) (hL : ∀ q ∈ L, free q.base) (hF : va_F A1 st₀ t) :
    H.size ≤ T'.heap.size ∧ (∀ q : Nat, q < H.size → ¬ A1 q → T'.heap[q]? = H[q]?) ∧ va_S A0 H0 T'.heap (locs ++ L) := by
  obtain ⟨hz, hk⟩ := hF
  rw [h0] at hz hk
  exact ⟨by rw [e1]; exact hz, fun q h1 h2 => by rw [e1]; exact hk q h1 h2,
    ⟨Nat.le_trans hS.1 (by rw [e1]; exact hz), fun q h1 h2 => by rw [e1, hk q (Nat.lt_of_lt_of_le h1 hS.1) (fun z => h2 (hA q (Nat.lt_of_lt_of_le h1 hS.1) z))]; exact hS.2.1 q h1 h2, fun q hq => by
      rcases List.mem_append.mp hq with h | h
      · exact hS.2.2 q h
      · exact hf _ (hL q h)⟩⟩
theorem vx_calli {S SX : Type} {post : Int32 → S → Prop} {px : SX → Prop} {B : S → State → Prop} {BX : String → SX → State → Prop} {AX : Nat → Prop} (hr : vx_Run p l e R s m args below meth c H locs cells slots mc ms (F0 m pc ls st0) rest (va_Qi post B A1 a) (vx_X px BX AX) free) (hS : va_S A0 H0 H locs) (hA : ∀ q, q < H.size → A1 q → A0 q) (hf : ∀ q, free q → A0 q) (hAX : ∀ q, q < H.size → AX q → A0 q)
    (kx : ∀ (E : String) (ce : Cell) (q9 : Addr) (u : SX) (t : State) (H1 : Heap) (locs1 : List Loc), t.heap = H1 → s.vm.Alike t.vm → px u → BX E u t → H.size ≤ H1.size → (∀ q : Nat, q < H.size → ¬ AX q → H1[q]? = H[q]?) → va_S A0 H0 H1 locs1 → H1[q9]? = some ce → ce.vm = .none → s.vm.findClass E = some ce.cls → vx_W p l e R s m args below meth c H1 locs1 (cells + mc) (slots + ms) Q (F0 m pc ls rest) q9)
    (kk : ∀ (r : Int32) (u : S) (t : State) (H1 : Heap) (locs1 : List Loc), t.heap = H1 → s.vm.Alike t.vm → post r u → B u t → H.size ≤ H1.size → (∀ q : Nat, q < H.size → ¬ A1 q → H1[q]? = H[q]?) → va_S A0 H0 H1 locs1 → W p l e R s m args below meth c H1 locs1 (cells + mc) (slots + ms) Q (F0 m (pc + 3) ls (.int r :: rest))) : W p l e R s m args below meth c H locs cells slots Q (F0 m pc ls st0) := by
  intro T hT X
  rcases hr T hT X with ⟨v, st₀, t, T', L, h0, X', hL, e1, e2, ⟨⟨r, u, hv, hp, hb⟩, hF⟩, st⟩ | ⟨q, st₀, t, T', L, E, ce, h0, X', hL, e1, e2, ⟨u, hp, hb, hF⟩, hce, hcv, hcl, st⟩
  · cases hv
    obtain ⟨k1, k2, k3⟩ := vx_keep h0 e1 hS hA hf hL hF
    obtain ⟨t2, a1, b1⟩ := kk r u t T'.heap (locs ++ L) e1.symm (by rw [← e2]; exact X'.warmed.alike) hp hb k1 k2 k3 T' rfl X'
    exact ⟨t2, st t2 a1, b1⟩
  · obtain ⟨k1, k2, k3⟩ := vx_keep h0 e1 hS hAX hf hL hF
    obtain ⟨t2, a1, b1⟩ := kx E ce q u t T'.heap (locs ++ L) e1.symm (by rw [← e2]; exact X'.warmed.alike) hp hb k1 k2 k3 (by rw [e1]; exact hce) hcv hcl T' rfl X'
    exact ⟨t2, st.trans a1, b1⟩
theorem vx_calll {S SX : Type} {post : Int64 → S → Prop} {px : SX → Prop} {B : S → State → Prop} {BX : String → SX → State → Prop} {AX : Nat → Prop} (hr : vx_Run p l e R s m args below meth c H locs cells slots mc ms (F0 m pc ls st0) rest (va_Ql post B A1 a) (vx_X px BX AX) free) (hS : va_S A0 H0 H locs) (hA : ∀ q, q < H.size → A1 q → A0 q) (hf : ∀ q, free q → A0 q) (hAX : ∀ q, q < H.size → AX q → A0 q)
    (kx : ∀ (E : String) (ce : Cell) (q9 : Addr) (u : SX) (t : State) (H1 : Heap) (locs1 : List Loc), t.heap = H1 → s.vm.Alike t.vm → px u → BX E u t → H.size ≤ H1.size → (∀ q : Nat, q < H.size → ¬ AX q → H1[q]? = H[q]?) → va_S A0 H0 H1 locs1 → H1[q9]? = some ce → ce.vm = .none → s.vm.findClass E = some ce.cls → vx_W p l e R s m args below meth c H1 locs1 (cells + mc) (slots + ms) Q (F0 m pc ls rest) q9)
    (kk : ∀ (r : Int64) (u : S) (t : State) (H1 : Heap) (locs1 : List Loc), t.heap = H1 → s.vm.Alike t.vm → post r u → B u t → H.size ≤ H1.size → (∀ q : Nat, q < H.size → ¬ A1 q → H1[q]? = H[q]?) → va_S A0 H0 H1 locs1 → W p l e R s m args below meth c H1 locs1 (cells + mc) (slots + ms) Q (F0 m (pc + 3) ls (.long r :: rest))) : W p l e R s m args below meth c H locs cells slots Q (F0 m pc ls st0) := by
  intro T hT X
  rcases hr T hT X with ⟨v, st₀, t, T', L, h0, X', hL, e1, e2, ⟨⟨r, u, hv, hp, hb⟩, hF⟩, st⟩ | ⟨q, st₀, t, T', L, E, ce, h0, X', hL, e1, e2, ⟨u, hp, hb, hF⟩, hce, hcv, hcl, st⟩
  · cases hv
    obtain ⟨k1, k2, k3⟩ := vx_keep h0 e1 hS hA hf hL hF
    obtain ⟨t2, a1, b1⟩ := kk r u t T'.heap (locs ++ L) e1.symm (by rw [← e2]; exact X'.warmed.alike) hp hb k1 k2 k3 T' rfl X'
    exact ⟨t2, st t2 a1, b1⟩
  · obtain ⟨k1, k2, k3⟩ := vx_keep h0 e1 hS hAX hf hL hF
    obtain ⟨t2, a1, b1⟩ := kx E ce q u t T'.heap (locs ++ L) e1.symm (by rw [← e2]; exact X'.warmed.alike) hp hb k1 k2 k3 (by rw [e1]; exact hce) hcv hcl T' rfl X'
    exact ⟨t2, st.trans a1, b1⟩
theorem vx_callf {S SX : Type} {post : UInt32 → S → Prop} {px : SX → Prop} {B : S → State → Prop} {BX : String → SX → State → Prop} {AX : Nat → Prop} (hr : vx_Run p l e R s m args below meth c H locs cells slots mc ms (F0 m pc ls st0) rest (va_Qf post B A1 a) (vx_X px BX AX) free) (hS : va_S A0 H0 H locs) (hA : ∀ q, q < H.size → A1 q → A0 q) (hf : ∀ q, free q → A0 q) (hAX : ∀ q, q < H.size → AX q → A0 q)
    (kx : ∀ (E : String) (ce : Cell) (q9 : Addr) (u : SX) (t : State) (H1 : Heap) (locs1 : List Loc), t.heap = H1 → s.vm.Alike t.vm → px u → BX E u t → H.size ≤ H1.size → (∀ q : Nat, q < H.size → ¬ AX q → H1[q]? = H[q]?) → va_S A0 H0 H1 locs1 → H1[q9]? = some ce → ce.vm = .none → s.vm.findClass E = some ce.cls → vx_W p l e R s m args below meth c H1 locs1 (cells + mc) (slots + ms) Q (F0 m pc ls rest) q9)
    (kk : ∀ (r : UInt32) (u : S) (t : State) (H1 : Heap) (locs1 : List Loc), t.heap = H1 → s.vm.Alike t.vm → post r u → B u t → H.size ≤ H1.size → (∀ q : Nat, q < H.size → ¬ A1 q → H1[q]? = H[q]?) → va_S A0 H0 H1 locs1 → W p l e R s m args below meth c H1 locs1 (cells + mc) (slots + ms) Q (F0 m (pc + 3) ls (.float r :: rest))) : W p l e R s m args below meth c H locs cells slots Q (F0 m pc ls st0) := by
  intro T hT X
  rcases hr T hT X with ⟨v, st₀, t, T', L, h0, X', hL, e1, e2, ⟨⟨r, u, hv, hp, hb⟩, hF⟩, st⟩ | ⟨q, st₀, t, T', L, E, ce, h0, X', hL, e1, e2, ⟨u, hp, hb, hF⟩, hce, hcv, hcl, st⟩
  · cases hv
    obtain ⟨k1, k2, k3⟩ := vx_keep h0 e1 hS hA hf hL hF
    obtain ⟨t2, a1, b1⟩ := kk r u t T'.heap (locs ++ L) e1.symm (by rw [← e2]; exact X'.warmed.alike) hp hb k1 k2 k3 T' rfl X'
    exact ⟨t2, st t2 a1, b1⟩
  · obtain ⟨k1, k2, k3⟩ := vx_keep h0 e1 hS hAX hf hL hF
    obtain ⟨t2, a1, b1⟩ := kx E ce q u t T'.heap (locs ++ L) e1.symm (by rw [← e2]; exact X'.warmed.alike) hp hb k1 k2 k3 (by rw [e1]; exact hce) hcv hcl T' rfl X'
    exact ⟨t2, st.trans a1, b1⟩
theorem vx_calld {S SX : Type} {post : UInt64 → S → Prop} {px : SX → Prop} {B : S → State → Prop} {BX : String → SX → State → Prop} {AX : Nat → Prop} (hr : vx_Run p l e R s m args below meth c H locs cells slots mc ms (F0 m pc ls st0) rest (va_Qd post B A1 a) (vx_X px BX AX) free) (hS : va_S A0 H0 H locs) (hA : ∀ q, q < H.size → A1 q → A0 q) (hf : ∀ q, free q → A0 q) (hAX : ∀ q, q < H.size → AX q → A0 q)
    (kx : ∀ (E : String) (ce : Cell) (q9 : Addr) (u : SX) (t : State) (H1 : Heap) (locs1 : List Loc), t.heap = H1 → s.vm.Alike t.vm → px u → BX E u t → H.size ≤ H1.size → (∀ q : Nat, q < H.size → ¬ AX q → H1[q]? = H[q]?) → va_S A0 H0 H1 locs1 → H1[q9]? = some ce → ce.vm = .none → s.vm.findClass E = some ce.cls → vx_W p l e R s m args below meth c H1 locs1 (cells + mc) (slots + ms) Q (F0 m pc ls rest) q9)
    (kk : ∀ (r : UInt64) (u : S) (t : State) (H1 : Heap) (locs1 : List Loc), t.heap = H1 → s.vm.Alike t.vm → post r u → B u t → H.size ≤ H1.size → (∀ q : Nat, q < H.size → ¬ A1 q → H1[q]? = H[q]?) → va_S A0 H0 H1 locs1 → W p l e R s m args below meth c H1 locs1 (cells + mc) (slots + ms) Q (F0 m (pc + 3) ls (.double r :: rest))) : W p l e R s m args below meth c H locs cells slots Q (F0 m pc ls st0) := by
  intro T hT X
  rcases hr T hT X with ⟨v, st₀, t, T', L, h0, X', hL, e1, e2, ⟨⟨r, u, hv, hp, hb⟩, hF⟩, st⟩ | ⟨q, st₀, t, T', L, E, ce, h0, X', hL, e1, e2, ⟨u, hp, hb, hF⟩, hce, hcv, hcl, st⟩
  · cases hv
    obtain ⟨k1, k2, k3⟩ := vx_keep h0 e1 hS hA hf hL hF
    obtain ⟨t2, a1, b1⟩ := kk r u t T'.heap (locs ++ L) e1.symm (by rw [← e2]; exact X'.warmed.alike) hp hb k1 k2 k3 T' rfl X'
    exact ⟨t2, st t2 a1, b1⟩
  · obtain ⟨k1, k2, k3⟩ := vx_keep h0 e1 hS hAX hf hL hF
    obtain ⟨t2, a1, b1⟩ := kx E ce q u t T'.heap (locs ++ L) e1.symm (by rw [← e2]; exact X'.warmed.alike) hp hb k1 k2 k3 (by rw [e1]; exact hce) hcv hcl T' rfl X'
    exact ⟨t2, st.trans a1, b1⟩
theorem vx_callv {S SX : Type} {post : S → Prop} {px : SX → Prop} {B : S → State → Prop} {BX : String → SX → State → Prop} {AX : Nat → Prop} (hr : vx_Run p l e R s m args below meth c H locs cells slots mc ms (F0 m pc ls st0) rest (va_Qv post B A1 a) (vx_X px BX AX) free) (hS : va_S A0 H0 H locs) (hA : ∀ q, q < H.size → A1 q → A0 q) (hf : ∀ q, free q → A0 q) (hAX : ∀ q, q < H.size → AX q → A0 q)
    (kx : ∀ (E : String) (ce : Cell) (q9 : Addr) (u : SX) (t : State) (H1 : Heap) (locs1 : List Loc), t.heap = H1 → s.vm.Alike t.vm → px u → BX E u t → H.size ≤ H1.size → (∀ q : Nat, q < H.size → ¬ AX q → H1[q]? = H[q]?) → va_S A0 H0 H1 locs1 → H1[q9]? = some ce → ce.vm = .none → s.vm.findClass E = some ce.cls → vx_W p l e R s m args below meth c H1 locs1 (cells + mc) (slots + ms) Q (F0 m pc ls rest) q9)
    (kk : ∀ (u : S) (t : State) (H1 : Heap) (locs1 : List Loc), t.heap = H1 → s.vm.Alike t.vm → post u → B u t → H.size ≤ H1.size → (∀ q : Nat, q < H.size → ¬ A1 q → H1[q]? = H[q]?) → va_S A0 H0 H1 locs1 → W p l e R s m args below meth c H1 locs1 (cells + mc) (slots + ms) Q (F0 m (pc + 3) ls (rest))) : W p l e R s m args below meth c H locs cells slots Q (F0 m pc ls st0) := by
  intro T hT X
  rcases hr T hT X with ⟨v, st₀, t, T', L, h0, X', hL, e1, e2, ⟨⟨u, hv, hp, hb⟩, hF⟩, st⟩ | ⟨q, st₀, t, T', L, E, ce, h0, X', hL, e1, e2, ⟨u, hp, hb, hF⟩, hce, hcv, hcl, st⟩
  · cases hv
    obtain ⟨k1, k2, k3⟩ := vx_keep h0 e1 hS hA hf hL hF
    obtain ⟨t2, a1, b1⟩ := kk u t T'.heap (locs ++ L) e1.symm (by rw [← e2]; exact X'.warmed.alike) hp hb k1 k2 k3 T' rfl X'
    exact ⟨t2, st t2 a1, b1⟩
  · obtain ⟨k1, k2, k3⟩ := vx_keep h0 e1 hS hAX hf hL hF
    obtain ⟨t2, a1, b1⟩ := kx E ce q u t T'.heap (locs ++ L) e1.symm (by rw [← e2]; exact X'.warmed.alike) hp hb k1 k2 k3 (by rw [e1]; exact hce) hcv hcl T' rfl X'
    exact ⟨t2, st.trans a1, b1⟩
/-- caught by the row x of this method's table; the rows ahead don't take it -/
theorem vx_catch {own name : String} {E : String} {ce : Cell} {q : Addr} (hown : s.vm.findClass own = some m.cls) (pre : List ExceptionTableEntry) (x : ExceptionTableEntry) (suf : List ExceptionTableEntry) (hsplit : c.exceptionTable.toList = pre ++ x :: suf)
    (hpass : ∀ z ∈ pre, covers z pc = false ∨ (z.catchType ≠ 0 ∧ ∃ nm : String, (Cond.classLink own z.catchType nm).before args s = true ∧ va_Nc E nm s)) (hx : covers x pc = true) (h0 : x.catchType ≠ 0)
    (hlink : (Cond.classLink own x.catchType name).before args s = true) (hcast : (Cond.castable E name).before args s = true) (hcell : H[q]? = some ce) (hv : ce.vm = .none) (hcl : s.vm.findClass E = some ce.cls)
    (kk : W p l e R s m args below meth c H locs cells slots Q (F0 m x.handlerPc ls [.ref q])) : vx_W p l e R s m args below meth c H locs cells slots Q (F0 m pc ls rest) q := by
  intro T hT X
  have hpl : e.platform.magicAccessors = ({} : Platform).magicAccessors := by rw [X.admits.platform]
  obtain ⟨c3, c4, hc3, hc4, hasg⟩ := Cond.castable_spec hcast
  cases Option.some.inj (hc3.symm.trans hcl)
  obtain ⟨c5, hc5, hcl5⟩ := Cond.classLink_spec hown hlink e.platform hpl
  cases Option.some.inj (hc4.symm.trans hc5)
  obtain ⟨vm', X', st⟩ := X.thenCaughtThrough q (g := F0 m pc ls rest) rfl (Steps.refl _) (by rw [hT]; exact hcell) (by rw [hv]; rfl) (by obtain ⟨k9, h9, -⟩ := Vm.findClass_spec hcl; exact ⟨k9, h9⟩) pre x suf hsplit
    (fun z hz => by
      rcases hpass z hz with h | ⟨hz0, nm, hl1, hn1⟩
      · exact Or.inl h
      · obtain ⟨c6, hc6, hcl6⟩ := Cond.classLink_spec hown hl1 e.platform hpl
        obtain ⟨a8, b8, h1, h2, h3⟩ := hn1
        cases Option.some.inj (h1.symm.trans hcl)
        cases Option.some.inj (h2.symm.trans hc6)
        exact Or.inr ⟨hz0, _, hcl6, h3⟩) hx (Or.inr ⟨h0, c4, hcl5, hasg⟩)
  obtain ⟨t, a1, b1⟩ := kk (T.setVm vm') hT X'
  exact ⟨t, st.trans a1, b1⟩
end Rows
section Ends
variable {p : Program} {l : Launch} {e : Env} {R : Room} {s : State} {m : MethodId} {args : Array Value} {below : List Frame} {meth : Method} {c : Code} {H : Heap} {locs : List Loc} {cells slots : Nat} {Q : State → Prop}
variable {mc ms : Nat} {free : Addr → Prop} {A0 A1 : Nat → Prop} {H0 : Heap} {a : Array Value} {ls : Array Slot} {st0 rest : List Value}
variable {Qc : Array Value → State → Outcome → State → Prop} {XC : String → State → State → Prop}
/-- what a body that may throw owes at its end -/
def vx_MQ (below : List Frame) (Qc : Array Value → State → Outcome → State → Prop) (XC : String → State → State → Prop) (a : Array Value) (s : State) (mc ms : Nat) (free : Addr → Prop) : State → Prop := fun t =>
  ∃ o, t.status = .running ∧ Ended t below o ∧ vx_Q Qc XC mc ms free a s o t
theorem vx_ret {g : JFrame} {mc ms : Nat} (k : W p l e R s m args below meth c H locs cells slots (MQ below Qc args s mc ms free) g) : W p l e R s m args below meth c H locs cells slots (vx_MQ below Qc XC args s mc ms free) g := by
  intro T hT X
  obtain ⟨t, a1, o, b1, b2, b3, b4⟩ := k T hT X
  exact ⟨t, a1, o, b1, b2, Or.inl ⟨b3, b4⟩⟩
/-- not caught here: it goes on to the caller -/
theorem vx_widen {g : JFrame} {q : Addr} {k n : Nat} (h1 : cells ≤ k) (h2 : slots ≤ n) (kk : vx_W p l e R s m args below meth c H locs k n Q g q) : vx_W p l e R s m args below meth c H locs cells slots Q g q := fun T hT X => kk T hT (stand_widen X h1 h2)
theorem vx_out {pc : Nat} {E : String} {ce : Cell} {q : Addr} {mc ms : Nat} (hout : ∀ x ∈ c.exceptionTable.toList, covers x pc = false) (hlocks : meth.locks = false) (hcell : H[q]? = some ce) (hv : ce.vm = .none) (hcl : s.vm.findClass E = some ce.cls)
    (hx : ∀ t : State, t.heap = H → s.vm.Alike t.vm → XC E s t) (hf : ∀ z ∈ locs, free z.base) (hc : cells ≤ mc) (hs : slots ≤ ms) :
    vx_W p l e R s m args below meth c H locs cells slots (vx_MQ below Qc XC args s mc ms free) (F0 m pc ls rest) q := by
  intro T hT X
  obtain ⟨st1, hrun, hend, hW, hsm⟩ := X.leaveThrown q (g := F0 m pc ls rest) rfl rfl rfl hout hlocks
  have hcell9 : (T.setFrames (.throwing q :: below)).heap[q]? = some ce := by
    show T.heap[q]? = some ce
    rw [hT]; exact hcell
  exact ⟨_, st1, .threw q, hrun, hend, Or.inr ⟨q, rfl, E, ce, locs, hx _ hT hW.alike, hcell9, hv, hcl, hW, hsm.mono hc hs, hf⟩⟩
theorem vx_frame {U : State} {k n : Nat} (h : s.sameButNew ({ U with vm := s.vm } : State) locs k n) : s.heap.size ≤ U.heap.size ∧ ∀ q : Nat, q < s.heap.size → (∀ z ∈ locs, z.base ≠ q) → U.heap[q]? = s.heap[q]? := by
  obtain ⟨-, h2, -, -, -, h6⟩ := h
  refine ⟨h2, fun q hq hz => ?_⟩
  obtain ⟨c9, e1, e2, e3, e4⟩ := h6 q _ (Array.getElem?_eq_getElem hq)
  have hs : c9.slots = (s.heap[q]).slots := Array.ext_getElem? fun i => e4 i fun hm => hz _ hm rfl
  have h9 : c9 = s.heap[q] := by
    rw [hs] at e2
    exact e2
  have e5 : U.heap[q]? = some c9 := e1
  rw [e5, h9, Array.getElem?_eq_getElem hq]
/-- the words of a throw but the four that speak of the heap -/
def vx_no (w : Cond) : Bool := decide (w ≠ .isRef (.static Bundle.tN "UNASSIGNED_STACK" Bundle.steD)) && decide (w ≠ .isRef (.static Bundle.tN "SUPPRESSED_SENTINEL" Bundle.listD)) && decide (w ≠ .laysStatic Bundle.tN "UNASSIGNED_STACK" Bundle.steD) && decide (w ≠ .laysStatic Bundle.tN "SUPPRESSED_SENTINEL" Bundle.listD)
def vx_at0 (own : String) (ic : Nat) (X : String) (names : List String) : List Cond := (Bundle.ownAtoms0 own ic X names).filter vx_no
def vx_atS (own : String) (ic : Nat) (X : String) (names : List String) : List Cond := (Bundle.ownAtoms own ic X names).filter vx_no
/-- a word that the tables alone decide, or a good one -/
def vx_ot (w : Cond) : Bool := w.onTables || goodWord w
theorem vx_ot_at {args a' : Array Value} {s U : State} {w : Cond} (hW : s.WarmedH U.vm) (hvm : s.vm = U.vm) (hg : vx_ot w = true) (h : w.before args s = true) : w.before a' U = true := by
  simp only [vx_ot, Bool.or_eq_true] at hg
  rcases hg with hg | hg
  · exact va_tabs hg hvm h
  · exact word_at hW (good_of_word hg) h
/-- a list's words: the good ones out of the method's own list, the others by premises of their own -/
theorem vx_hat {args : Array Value} {s : State} {L B : List Cond} (h1 : ∀ w ∈ L.filter goodWord, w.before args s = true) (h2 : ∀ w ∈ L.filter (fun w => !goodWord w), w ∈ B) (h3 : ∀ w ∈ B, w.before args s = true) : ∀ w ∈ L, w.before args s = true := by
  intro w hw
  by_cases g : goodWord w = true
  · exact h1 w (List.mem_filter.mpr ⟨hw, g⟩)
  · refine h3 w (h2 w (List.mem_filter.mpr ⟨hw, ?_⟩))
    show (!goodWord w) = true
    cases hgw : goodWord w
    · rfl
    · exact absurd hgw g
theorem vx_c {args : Array Value} {s : State} {w : Cond} {B : List Cond} (h : w.before args s = true) (t : ∀ w ∈ B, w.before args s = true) : ∀ w' ∈ w :: B, w'.before args s = true := fun w' h' => (List.mem_cons.mp h').elim (fun e => by rw [e]; exact h) (t w')
theorem vx_n {args : Array Value} {s : State} : ∀ w ∈ ([] : List Cond), w.before args s = true := fun _ h => nomatch h
theorem vx_own {args : Array Value} {s : State} {L : List Cond} (h1 : ∀ w ∈ L.filter vx_no, w.before args s = true)
    (hU : (Cond.isRef (.static Bundle.tN "UNASSIGNED_STACK" Bundle.steD)).before args s = true) (hN : (Cond.isRef (.static Bundle.tN "SUPPRESSED_SENTINEL" Bundle.listD)).before args s = true)
    (lU : (Cond.laysStatic Bundle.tN "UNASSIGNED_STACK" Bundle.steD).before args s = true) (lN : (Cond.laysStatic Bundle.tN "SUPPRESSED_SENTINEL" Bundle.listD).before args s = true) : ∀ w ∈ L, w.before args s = true := by
  intro w hw
  by_cases e1 : w = .isRef (.static Bundle.tN "UNASSIGNED_STACK" Bundle.steD)
  · rw [e1]; exact hU
  · by_cases e2 : w = .isRef (.static Bundle.tN "SUPPRESSED_SENTINEL" Bundle.listD)
    · rw [e2]; exact hN
    · by_cases e3 : w = .laysStatic Bundle.tN "UNASSIGNED_STACK" Bundle.steD
      · rw [e3]; exact lU
      · by_cases e4 : w = .laysStatic Bundle.tN "SUPPRESSED_SENTINEL" Bundle.listD
        · rw [e4]; exact lN
        · exact h1 w (List.mem_filter.mpr ⟨hw, by unfold vx_no; rw [decide_eq_true e1, decide_eq_true e2, decide_eq_true e3, decide_eq_true e4]; rfl⟩)
/-- where a static field lies, its class's statics cell in H -/
def vx_L (C n d : String) (A : Nat → Prop) (U : State) (H : Heap) : Prop := ∃ (c : ClassId) (k : Class) (i : Nat) (f : Field) (a : Nat) (cell : Cell), U.vm.findClass C = some c ∧ U.fieldFound? C n d = some (c, k, i, f) ∧ f.isStatic = true ∧ k.statics = some a ∧ H[a]? = some cell ∧ cell.vm.isStatics = true ∧ cell.cls = c ∧ f.slot < cell.slots.size ∧ k.staticTypes[f.slot]? = some f.type ∧ ¬ A a
theorem vx_L.moved {C n d : String} {A : Nat → Prop} {u U : State} {H : Heap} (hvm : u.vm.Alike U.vm) (h : vx_L C n d A u H) : vx_L C n d A U H := by
  obtain ⟨c, k, i, f, a, cell, h1, h2, h3, h4, h5, h6, h7, h8, h9, h10⟩ := h
  obtain ⟨k', hi', he⟩ := State.fieldFound?_setVm hvm h2
  exact ⟨c, k', i, f, a, cell, by rw [hvm.findClass]; exact h1, hi', h3, by rw [he]; exact h4, h5, h6, h7, h8, by rw [he]; exact h9, h10⟩
theorem vx_L.kept {C n d : String} {A : Nat → Prop} {U : State} {H H1 : Heap} (h : vx_L C n d A U H) (hq : ∀ a : Nat, a < H.size → ¬ A a → H1[a]? = H[a]?) : vx_L C n d A U H1 := by
  obtain ⟨c, k, i, f, a, cell, h1, h2, h3, h4, h5, h6, h7, h8, h9, h10⟩ := h
  exact ⟨c, k, i, f, a, cell, h1, h2, h3, h4, by rw [hq a (Array.getElem?_eq_some_iff.mp h5).1 h10]; exact h5, h6, h7, h8, h9, h10⟩
theorem vx_L.narrow {C n d : String} {A B : Nat → Prop} {U : State} {H : Heap} (h : vx_L C n d A U H) (hAB : ∀ q, B q → A q) : vx_L C n d B U H := by
  obtain ⟨c, k, i, f, a, cell, h1, h2, h3, h4, h5, h6, h7, h8, h9, h10⟩ := h
  exact ⟨c, k, i, f, a, cell, h1, h2, h3, h4, h5, h6, h7, h8, h9, fun z => h10 (hAB _ z)⟩
theorem vx_L.word {C n d : String} {A : Nat → Prop} {s : State} {args : Array Value} (h : vx_L C n d A s s.heap) : (Cond.laysStatic C n d).before args s = true := by
  obtain ⟨c, k, i, f, a, cell, h1, h2, h3, h4, h5, h6, h7, h8, h9, -⟩ := h
  show (Cond.laysStatic C n d).holds args s none s [] = true
  exact Cond.laysStatic_of h1 h2 h3 h4 h5 h6 h7 h8 h9
/-- .. and what it holds: null or some reference -/
def vx_Zq (C n d : String) (A : Nat → Prop) (U : State) (H : Heap) : Prop := va_Zq C n d A U H ∧ vx_L C n d A U H
theorem vx_Zq.moved {C n d : String} {A : Nat → Prop} {u U : State} {H : Heap} (hvm : u.vm.Alike U.vm) (h : vx_Zq C n d A u H) : vx_Zq C n d A U H := ⟨va_Zq.moved hvm h.1, vx_L.moved hvm h.2⟩
theorem vx_Zq.kept {C n d : String} {A : Nat → Prop} {U : State} {H H1 : Heap} (h : vx_Zq C n d A U H) (hq : ∀ a : Nat, a < H.size → ¬ A a → H1[a]? = H[a]?) : vx_Zq C n d A U H1 := ⟨va_Zq.kept h.1 hq, vx_L.kept h.2 hq⟩
theorem vx_Zq.narrow {C n d : String} {A B : Nat → Prop} {U : State} {H : Heap} (h : vx_Zq C n d A U H) (hAB : ∀ q, B q → A q) : vx_Zq C n d B U H := ⟨va_Zq.narrow h.1 hAB, vx_L.narrow h.2 hAB⟩
theorem vx_Zqof {args : Array Value} {s : State} {C n d : String} {A : Nat → Prop} (hl : (Cond.laysStatic C n d).before args s = true) (hini : (Cond.initialized C).before args s = true) (h : (Cond.isRef (.static C n d)).before args s = true) (hA : ∀ a : Nat, a < s.heap.size → ¬ A a) : vx_Zq C n d A s s.heap := by
  refine ⟨va_Zqof hl hini h hA, ?_⟩
  obtain ⟨c, k, i, f, a, cell, h1, h2, h3, h4, h5, h6, h7, h8, h9⟩ := Cond.laysStatic_spec hl
  exact ⟨c, k, i, f, a, cell, h1, h2, h3, h4, h5, h6, h7, h8, h9, hA a (Array.getElem?_eq_some_iff.mp h5).1⟩
theorem vx_isRef {C n d : String} {v : Value} {A : Nat → Prop} {s : State} {args : Array Value} (h : va_Z C n d v A s s.heap) (hv : v.isRef = true) : (Cond.isRef (.static C n d)).before args s = true := by
  obtain ⟨cf, kf, fi, f, a, cell, h1, h2, h3, h4, h5, h6, h7, -⟩ := h
  have he : (Term.static C n d).eval args s none [] s = some v := by
    simp [Term.eval, State.fieldNamed?, h1, h2, h4, h5, h6, h7]
  simp only [Cond.before, Cond.holds, Cond.value, he]
  cases v <;> simp_all [Value.isRef]
theorem vx_isRefq {C n d : String} {A : Nat → Prop} {s : State} {args : Array Value} (h : va_Zq C n d A s s.heap) : (Cond.isRef (.static C n d)).before args s = true := by
  rcases h with h | ⟨t, h⟩
  · exact vx_isRef h rfl
  · exact vx_isRef h rfl
/-- the same frame, seen from here: as if the method were called anew in this heap -/
theorem vx_rebase {T : State} (X : Stand p l e R s m args below meth c T locs cells slots) {R' : Room} (hf : R'.frames ≤ R.frames) (hl : R'.locals ≤ R.locals) (hc : cells + R'.cells ≤ R.cells) (hs : slots + R'.slots ≤ R.slots) :
    Stand p l e R' ((T.setVm s.vm).setFrames (.invoking m args :: below)) m args below meth c T [] 0 0 := by
  have htop : (T.setVm s.vm).topJava?.isSome := X.here.top
  have hF : ((T.setVm s.vm).setFrames (.invoking m args :: below)).frames = .invoking m args :: below := State.frames_setFrames _ (State.cur_lt_of_top htop)
  obtain ⟨g₀, hg0⟩ := Option.isSome_iff_exists.mp htop
  obtain ⟨r, hr⟩ := State.topJava?_eq_some.mp hg0
  have hl9 : e.platform.stackLimits (T.setVm s.vm).me = e.platform.stackLimits s.me := X.limits
  have hb9 : (T.setVm s.vm).me.stackBytes = s.me.stackBytes := X.bytes
  refine ⟨X.admits, X.cas, X.clock, hF, ?_, X.hears, X.method, X.code, X.here, X.tail, X.warmed, ?_, ?_, ?_⟩
  · have h := X.room
    have hU : ((T.setVm s.vm).setFrames (.invoking m args :: below)).localsInUse = s.localsInUse := by
      rw [State.localsInUse_invoking hF (meth := meth) (c := c) X.method X.code, State.localsInUse_invoking X.frames X.method X.code]
    simp only [State.hasRoom, Bool.and_eq_true, decide_eq_true_eq] at h ⊢
    obtain ⟨⟨⟨⟨h1, h2, h3, h4, h5, h6⟩, h7⟩, h8⟩, h9⟩ := h
    rw [X.frames, List.length_cons] at h2 h3
    have q1 := X.heapSize
    have q2 := X.used
    simp only [hF, hU, List.length_cons, State.stackLimits_setFrames, State.stackBytes_setFrames, hl9, hb9]
    refine ⟨⟨⟨⟨by omega, by omega, by omega, by omega, by omega, h6⟩, ?_⟩, ?_⟩, X.book⟩
    · show T.heap.size + R'.cells ≤ e.platform.maxCells
      omega
    · show T.slotsUsed + R'.slots ≤ e.platform.maxSlots
      omega
  · rw [State.stackLimits_setFrames]; rfl
  · rw [State.stackBytes_setFrames]; rfl
  · refine ⟨?_, Nat.le_refl _, Nat.le_refl _, ?_, ?_, fun a c9 h9 => ⟨c9, h9, rfl, rfl, fun _ _ => rfl⟩⟩
    · obtain ⟨t, ht, -⟩ := State.frames_cons hr
      show T.setVm s.vm = { ((T.setVm s.vm).setFrames (.invoking m args :: below)).setFrames (T.setVm s.vm).frames with heap := T.heap, slotsUsed := T.slotsUsed }
      rw [State.setFrames_setFrames, State.setFrames_self ht]
      rfl
    · show T.slotsUsed = T.slotsUsed + ((T.heap.toList.drop T.heap.size).map (·.slots.size)).sum
      rw [List.drop_eq_nil_of_le (Nat.le_of_eq Array.length_toList)]
      rfl
    · show ((T.heap.toList.drop T.heap.size).map (·.slots.size)).sum ≤ 0
      rw [List.drop_eq_nil_of_le (Nat.le_of_eq Array.length_toList)]
      exact Nat.le_refl _
/-- 'throw new E()': new; dup; invokespecial; athrow -/
theorem vx_throw0 {cc : ByteArray} {pc : Nat} (hexec : p.tables.exec = Jvm.exec) (hb : c.code = cc) (hl : l.stackTraces = false) {own cls : String} {names : List String} {ik ic mc ms : Nat} {A : Nat → Prop}
    (hown : s.vm.findClass own = some m.cls) (hcls : Bundle.fit cls = true) (hnames : ∀ n ∈ names, Bundle.fit n = true)
    (hk : (Cond.classLink own ik cls).before args s = true) (hini : (Cond.initialized cls).before args s = true) (hat : ∀ w ∈ vx_at0 own ic cls names, w.before args s = true)
    (hgood : ∀ w ∈ Cond.classLink own ik cls :: Cond.initialized cls :: vx_at0 own ic cls names, vx_ot w = true)
    (hU : vx_Zq Bundle.tN "UNASSIGNED_STACK" Bundle.steD A s s.heap) (hN : vx_Zq Bundle.tN "SUPPRESSED_SENTINEL" Bundle.listD A s s.heap) (hS : va_S A s.heap H locs) (hsize : ls.size = c.maxLocals)
    (d0 : decode cc pc = .ok (.new ik, 3)) (d3 : decode cc (pc + 3) = .ok (.dup, 1)) (d4 : decode cc (pc + 4) = .ok (.invokespecial ic, 3)) (d7 : decode cc (pc + 7) = .ok (.athrow, 1))
    (hout : ∀ x ∈ c.exceptionTable.toList, covers x (pc + 7) = false)
    (hRframes : names.length + 3 < R.frames) (hRlocals : (rest.map fun v => v.category).sum + (13 * (names.length + 1) + 42) ≤ R.locals) (hRcells : cells + 1 ≤ R.cells) (hRslots : slots + 6 ≤ R.slots) (hlocks : meth.locks = false)
    (hx : ∀ t : State, s.vm.Alike t.vm → H.size ≤ t.heap.size → (∀ q : Nat, q < H.size → t.heap[q]? = H[q]?) → XC cls s t)
    (hf : ∀ z ∈ locs, free z.base) (hc : cells + 1 ≤ mc) (hs : slots + 6 ≤ ms) :
    W p l e R s m args below meth c H locs cells slots (vx_MQ below Qc XC args s mc ms free) (F0 m pc ls rest) := by
  intro T hT X
  have htr : e.platform.stackTraces = false := (show e.platform.stackTraces = l.stackTraces by rw [X.admits.platform]).trans hl
  have Y := vx_rebase X (R' := { frames := R.frames, locals := R.locals, cells := 1, slots := 6 }) (Nat.le_refl _) (Nat.le_refl _) hRcells hRslots
  obtain ⟨s', hA⟩ : ∃ z, z = (T.setVm s.vm).setFrames (.invoking m args :: below) := ⟨_, rfl⟩
  rw [← hA] at Y
  have hvm : s'.vm = s.vm := by rw [hA]; rfl
  have hhp : s'.heap = H := by rw [hA]; exact hT
  have hW0 : s.WarmedH s'.vm := by rw [hvm]; exact State.WarmedH.refl s
  have hat' : ∀ w ∈ vx_at0 own ic cls names, w.before args s' = true := fun w hw => vx_ot_at hW0 hvm.symm (hgood w (List.mem_cons_of_mem _ (List.mem_cons_of_mem _ hw))) (hat w hw)
  have hk' : (Cond.classLink own ik cls).before args s' = true := vx_ot_at hW0 hvm.symm (hgood _ List.mem_cons_self) hk
  have hini' : (Cond.initialized cls).before args s' = true := vx_ot_at hW0 hvm.symm (hgood _ (List.mem_cons_of_mem _ List.mem_cons_self)) hini
  have hU' : vx_Zq Bundle.tN "UNASSIGNED_STACK" Bundle.steD A s' s'.heap := by rw [hhp]; exact vx_Zq.moved hW0.alike (hU.kept hS.2.1)
  have hN' : vx_Zq Bundle.tN "SUPPRESSED_SENTINEL" Bundle.listD A s' s'.heap := by rw [hhp]; exact vx_Zq.moved hW0.alike (hN.kept hS.2.1)
  have h : ∀ w ∈ Bundle.ownAtoms0 own ic cls names, w.before args s' = true := vx_own hat' (vx_isRefq hU'.1) (vx_isRefq hN'.1) hU'.2.word hN'.2.word
  have hown' : s'.vm.findClass own = some m.cls := by rw [hvm]; exact hown
  have hins : (Cond.instantiable cls 6).before args s' = true := h _ (by simp [Bundle.ownAtoms0])
  obtain ⟨vm₁, cX, kX, hfX, hkX, -, -, X₁, st1⟩ := Y.newCold hexec (own := own) (C := cls) (index := ik) (n := 6) hown' hk' hins hini'
    (g := F0 m pc ls rest) rfl (by rw [hb]; exact d0) (Nat.le_refl _) (Nat.le_refl _)
  generalize hT1 : (T.setVm vm₁).pushCell { cls := cX, slots := kX.instanceTypes.map defaultValue, vm := .none } = T1 at X₁ st1
  have hcat : (Value.ref T.heap.size).category = 1 := rfl
  have hcellA : T1.heap[T.heap.size]? = some (freshCell cX kX) := by rw [← hT1]; exact State.heap_pushCell_size _ _
  have d3' : decode c.code (pc + 3) = .ok (.dup, 1) := by rw [hb]; exact d3
  obtain ⟨U, hsteps, hrun, hend, hW, hsame, ce, hce, hO⟩ := X₁.ctorThrow0 hexec htr (own := own) (cls := cls) (names := names) (ic := ic) hown' hcls hnames h (fun x hx => nomatch hx) hfX hkX hcellA (by rw [hhp, hT]; exact Nat.le_refl _)
    (g := { method := m, pc := pc + 4, locals := ls, stack := .ref T.heap.size :: .ref T.heap.size :: rest, locked := none }) rfl hsize rfl rfl (rest := rest) rfl
    (by rw [hb]; exact d4) (by rw [hb]; exact d7) hout hRframes (by simp only [List.map_cons, List.sum_cons, hcat]; omega) hlocks
  obtain ⟨f1, f2⟩ := vx_frame hsame
  rw [hhp] at f1 f2
  have hWs : s.WarmedH U.vm := State.WarmedH.trans hW0 hW
  have hcl : s.vm.findClass cls = some ce.cls := by
    have h9 := hO.cls
    rw [hvm] at h9
    exact h9
  have hall : s.sameButNew ({ U with vm := s.vm } : State) locs mc ms := by
    subst hA
    obtain ⟨e1, e2⟩ := hsame
    rw [State.setFrames_setFrames] at e1
    have h2 : (T.setVm s.vm).sameButNew ({ U with vm := s.vm } : State) [] (0 + 1) (0 + 6) := ⟨e1, e2⟩
    have h3 := X.same.trans h2
    rw [List.append_nil] at h3
    exact h3.mono hc hs
  refine ⟨U, ?_, .threw T.heap.size, hrun, hend, Or.inr ⟨T.heap.size, rfl, cls, ce, locs, hx U hWs.alike f1 (fun q hq => f2 q hq (fun z hz => nomatch hz)), hce, hO.vm, hcl, hWs, hall, hf⟩⟩
  refine st1 _ ?_
  show Steps p.tables e below (T1.setTop { method := m, pc := pc + 3, locals := ls, stack := .ref T.heap.size :: rest, locked := none }) _
  jvm_step X₁.here [X₁.here.top, hexec, d3', Value.category]
  exact hsteps
/-- 'throw new E("text")': new; dup; ldc; invokespecial; athrow -/
theorem vx_throwS {cc : ByteArray} {pc : Nat} (hexec : p.tables.exec = Jvm.exec) (hb : c.code = cc) (hl : l.stackTraces = false) {own cls text : String} {names : List String} {ik is ic mc ms sa : Nat} {A : Nat → Prop}
    (hown : s.vm.findClass own = some m.cls) (hcls : Bundle.fit cls = true) (hnames : ∀ n ∈ names, Bundle.fit n = true)
    (hk : (Cond.classLink own ik cls).before args s = true) (hini : (Cond.initialized cls).before args s = true) (hstr : vk_R own is text sa s) (hat : ∀ w ∈ vx_atS own ic cls names, w.before args s = true)
    (hgood : ∀ w ∈ Cond.classLink own ik cls :: Cond.initialized cls :: vx_atS own ic cls names, vx_ot w = true)
    (hU : vx_Zq Bundle.tN "UNASSIGNED_STACK" Bundle.steD A s s.heap) (hN : vx_Zq Bundle.tN "SUPPRESSED_SENTINEL" Bundle.listD A s s.heap) (hS : va_S A s.heap H locs) (hsize : ls.size = c.maxLocals)
    (d0 : decode cc pc = .ok (.new ik, 3)) (d3 : decode cc (pc + 3) = .ok (.dup, 1)) (d4 : decode cc (pc + 4) = .ok (.ldc is, 2)) (d6 : decode cc (pc + 6) = .ok (.invokespecial ic, 3)) (d9 : decode cc (pc + 9) = .ok (.athrow, 1))
    (hout : ∀ x ∈ c.exceptionTable.toList, covers x (pc + 9) = false)
    (hRframes : names.length + 3 < R.frames) (hRlocals : (rest.map fun v => v.category).sum + (13 * (names.length + 1) + 43) ≤ R.locals) (hRcells : cells + 1 ≤ R.cells) (hRslots : slots + 6 ≤ R.slots) (hlocks : meth.locks = false)
    (hx : ∀ t : State, s.vm.Alike t.vm → H.size ≤ t.heap.size → (∀ q : Nat, q < H.size → t.heap[q]? = H[q]?) → XC cls s t)
    (hf : ∀ z ∈ locs, free z.base) (hc : cells + 1 ≤ mc) (hs : slots + 6 ≤ ms) :
    W p l e R s m args below meth c H locs cells slots (vx_MQ below Qc XC args s mc ms free) (F0 m pc ls rest) := by
  intro T hT X
  have htr : e.platform.stackTraces = false := (show e.platform.stackTraces = l.stackTraces by rw [X.admits.platform]).trans hl
  have Y := vx_rebase X (R' := { frames := R.frames, locals := R.locals, cells := 1, slots := 6 }) (Nat.le_refl _) (Nat.le_refl _) hRcells hRslots
  obtain ⟨s', hA⟩ : ∃ z, z = (T.setVm s.vm).setFrames (.invoking m args :: below) := ⟨_, rfl⟩
  rw [← hA] at Y
  have hvm : s'.vm = s.vm := by rw [hA]; rfl
  have hhp : s'.heap = H := by rw [hA]; exact hT
  have hW0 : s.WarmedH s'.vm := by rw [hvm]; exact State.WarmedH.refl s
  have hat' : ∀ w ∈ vx_atS own ic cls names, w.before args s' = true := fun w hw => vx_ot_at hW0 hvm.symm (hgood w (List.mem_cons_of_mem _ (List.mem_cons_of_mem _ hw))) (hat w hw)
  have hk' : (Cond.classLink own ik cls).before args s' = true := vx_ot_at hW0 hvm.symm (hgood _ List.mem_cons_self) hk
  have hini' : (Cond.initialized cls).before args s' = true := vx_ot_at hW0 hvm.symm (hgood _ (List.mem_cons_of_mem _ List.mem_cons_self)) hini
  have hU' : vx_Zq Bundle.tN "UNASSIGNED_STACK" Bundle.steD A s' s'.heap := by rw [hhp]; exact vx_Zq.moved hW0.alike (hU.kept hS.2.1)
  have hN' : vx_Zq Bundle.tN "SUPPRESSED_SENTINEL" Bundle.listD A s' s'.heap := by rw [hhp]; exact vx_Zq.moved hW0.alike (hN.kept hS.2.1)
  have h : ∀ w ∈ Bundle.ownAtoms own ic cls names, w.before args s' = true := vx_own hat' (vx_isRefq hU'.1) (vx_isRefq hN'.1) hU'.2.word hN'.2.word
  have hown' : s'.vm.findClass own = some m.cls := by rw [hvm]; exact hown
  have hins : (Cond.instantiable cls 6).before args s' = true := h _ (by simp [Bundle.ownAtoms])
  obtain ⟨vm₁, cX, kX, hfX, hkX, -, -, X₁, st1⟩ := Y.newCold hexec (own := own) (C := cls) (index := ik) (n := 6) hown' hk' hins hini'
    (g := F0 m pc ls rest) rfl (by rw [hb]; exact d0) (Nat.le_refl _) (Nat.le_refl _)
  generalize hT1 : (T.setVm vm₁).pushCell { cls := cX, slots := kX.instanceTypes.map defaultValue, vm := .none } = T1 at X₁ st1
  have hcat : (Value.ref T.heap.size).category = 1 := rfl
  have hcellA : T1.heap[T.heap.size]? = some (freshCell cX kX) := by rw [← hT1]; exact State.heap_pushCell_size _ _
  have d3' : decode c.code (pc + 3) = .ok (.dup, 1) := by rw [hb]; exact d3
  have d4' : decode c.code (pc + 4) = .ok (.ldc is, 2) := by rw [hb]; exact d4
  have hstr' : vk_R own is text sa s' := vk_R.warm hW0 hstr
  obtain ⟨U, hsteps, hrun, hend, hW, hsame, ce, hce, hO⟩ := X₁.ctorThrowS hexec htr (own := own) (cls := cls) (names := names) (ic := ic) hown' hcls hnames h (fun x hx => nomatch hx) hfX hkX hcellA (by rw [hhp, hT]; exact Nat.le_refl _) (msg := .ref sa) rfl
    (g := { method := m, pc := pc + 6, locals := ls, stack := .ref sa :: .ref T.heap.size :: .ref T.heap.size :: rest, locked := none }) rfl hsize rfl rfl (rest := rest) rfl
    (by rw [hb]; exact d6) (by rw [hb]; exact d9) hout hRframes (by simp only [List.map_cons, List.sum_cons, hcat]; omega) hlocks
  obtain ⟨f1, f2⟩ := vx_frame hsame
  rw [hhp] at f1 f2
  have hWs : s.WarmedH U.vm := State.WarmedH.trans hW0 hW
  have hcl : s.vm.findClass cls = some ce.cls := by
    have h9 := hO.cls
    rw [hvm] at h9
    exact h9
  have hall : s.sameButNew ({ U with vm := s.vm } : State) locs mc ms := by
    subst hA
    obtain ⟨e1, e2⟩ := hsame
    rw [State.setFrames_setFrames] at e1
    have h2 : (T.setVm s.vm).sameButNew ({ U with vm := s.vm } : State) [] (0 + 1) (0 + 6) := ⟨e1, e2⟩
    have h3 := X.same.trans h2
    rw [List.append_nil] at h3
    exact h3.mono hc hs
  refine ⟨U, ?_, .threw T.heap.size, hrun, hend, Or.inr ⟨T.heap.size, rfl, cls, ce, locs, hx U hWs.alike f1 (fun q hq => f2 q hq (fun z hz => nomatch hz)), hce, hO.vm, hcl, hWs, hall, hf⟩⟩
  refine st1 _ ?_
  show Steps p.tables e below (T1.setTop { method := m, pc := pc + 3, locals := ls, stack := .ref T.heap.size :: rest, locked := none }) _
  jvm_step X₁.here [X₁.here.top, hexec, d3', Value.category]
  exact X₁.ldcString hexec (own := own) (text := text) (index := is) (a := sa) hown' hstr'.1 hstr'.2
    (g := { method := m, pc := pc + 4, locals := ls, stack := .ref T.heap.size :: .ref T.heap.size :: rest, locked := none }) rfl d4' _ hsteps
/-- 'throw new E("text")', the text by a wide index -/
theorem vx_throwSW {cc : ByteArray} {pc : Nat} (hexec : p.tables.exec = Jvm.exec) (hb : c.code = cc) (hl : l.stackTraces = false) {own cls text : String} {names : List String} {ik is ic mc ms sa : Nat} {A : Nat → Prop}
    (hown : s.vm.findClass own = some m.cls) (hcls : Bundle.fit cls = true) (hnames : ∀ n ∈ names, Bundle.fit n = true)
    (hk : (Cond.classLink own ik cls).before args s = true) (hini : (Cond.initialized cls).before args s = true) (hstr : vk_R own is text sa s) (hat : ∀ w ∈ vx_atS own ic cls names, w.before args s = true)
    (hgood : ∀ w ∈ Cond.classLink own ik cls :: Cond.initialized cls :: vx_atS own ic cls names, vx_ot w = true)
    (hU : vx_Zq Bundle.tN "UNASSIGNED_STACK" Bundle.steD A s s.heap) (hN : vx_Zq Bundle.tN "SUPPRESSED_SENTINEL" Bundle.listD A s s.heap) (hS : va_S A s.heap H locs) (hsize : ls.size = c.maxLocals)
    (d0 : decode cc pc = .ok (.new ik, 3)) (d3 : decode cc (pc + 3) = .ok (.dup, 1)) (d4 : decode cc (pc + 4) = .ok (.ldc_w is, 3)) (d7 : decode cc (pc + 7) = .ok (.invokespecial ic, 3)) (d10 : decode cc (pc + 10) = .ok (.athrow, 1))
    (hout : ∀ x ∈ c.exceptionTable.toList, covers x (pc + 10) = false)
    (hRframes : names.length + 3 < R.frames) (hRlocals : (rest.map fun v => v.category).sum + (13 * (names.length + 1) + 43) ≤ R.locals) (hRcells : cells + 1 ≤ R.cells) (hRslots : slots + 6 ≤ R.slots) (hlocks : meth.locks = false)
    (hx : ∀ t : State, s.vm.Alike t.vm → H.size ≤ t.heap.size → (∀ q : Nat, q < H.size → t.heap[q]? = H[q]?) → XC cls s t)
    (hf : ∀ z ∈ locs, free z.base) (hc : cells + 1 ≤ mc) (hs : slots + 6 ≤ ms) :
    W p l e R s m args below meth c H locs cells slots (vx_MQ below Qc XC args s mc ms free) (F0 m pc ls rest) := by
  intro T hT X
  have htr : e.platform.stackTraces = false := (show e.platform.stackTraces = l.stackTraces by rw [X.admits.platform]).trans hl
  have Y := vx_rebase X (R' := { frames := R.frames, locals := R.locals, cells := 1, slots := 6 }) (Nat.le_refl _) (Nat.le_refl _) hRcells hRslots
  obtain ⟨s', hA⟩ : ∃ z, z = (T.setVm s.vm).setFrames (.invoking m args :: below) := ⟨_, rfl⟩
  rw [← hA] at Y
  have hvm : s'.vm = s.vm := by rw [hA]; rfl
  have hhp : s'.heap = H := by rw [hA]; exact hT
  have hW0 : s.WarmedH s'.vm := by rw [hvm]; exact State.WarmedH.refl s
  have hat' : ∀ w ∈ vx_atS own ic cls names, w.before args s' = true := fun w hw => vx_ot_at hW0 hvm.symm (hgood w (List.mem_cons_of_mem _ (List.mem_cons_of_mem _ hw))) (hat w hw)
  have hk' : (Cond.classLink own ik cls).before args s' = true := vx_ot_at hW0 hvm.symm (hgood _ List.mem_cons_self) hk
  have hini' : (Cond.initialized cls).before args s' = true := vx_ot_at hW0 hvm.symm (hgood _ (List.mem_cons_of_mem _ List.mem_cons_self)) hini
  have hU' : vx_Zq Bundle.tN "UNASSIGNED_STACK" Bundle.steD A s' s'.heap := by rw [hhp]; exact vx_Zq.moved hW0.alike (hU.kept hS.2.1)
  have hN' : vx_Zq Bundle.tN "SUPPRESSED_SENTINEL" Bundle.listD A s' s'.heap := by rw [hhp]; exact vx_Zq.moved hW0.alike (hN.kept hS.2.1)
  have h : ∀ w ∈ Bundle.ownAtoms own ic cls names, w.before args s' = true := vx_own hat' (vx_isRefq hU'.1) (vx_isRefq hN'.1) hU'.2.word hN'.2.word
  have hown' : s'.vm.findClass own = some m.cls := by rw [hvm]; exact hown
  have hins : (Cond.instantiable cls 6).before args s' = true := h _ (by simp [Bundle.ownAtoms])
  obtain ⟨vm₁, cX, kX, hfX, hkX, -, -, X₁, st1⟩ := Y.newCold hexec (own := own) (C := cls) (index := ik) (n := 6) hown' hk' hins hini'
    (g := F0 m pc ls rest) rfl (by rw [hb]; exact d0) (Nat.le_refl _) (Nat.le_refl _)
  generalize hT1 : (T.setVm vm₁).pushCell { cls := cX, slots := kX.instanceTypes.map defaultValue, vm := .none } = T1 at X₁ st1
  have hcat : (Value.ref T.heap.size).category = 1 := rfl
  have hcellA : T1.heap[T.heap.size]? = some (freshCell cX kX) := by rw [← hT1]; exact State.heap_pushCell_size _ _
  have d3' : decode c.code (pc + 3) = .ok (.dup, 1) := by rw [hb]; exact d3
  have d4' : decode c.code (pc + 4) = .ok (.ldc_w is, 3) := by rw [hb]; exact d4
  have hstr' : vk_R own is text sa s' := vk_R.warm hW0 hstr
  obtain ⟨U, hsteps, hrun, hend, hW, hsame, ce, hce, hO⟩ := X₁.ctorThrowS hexec htr (own := own) (cls := cls) (names := names) (ic := ic) hown' hcls hnames h (fun x hx => nomatch hx) hfX hkX hcellA (by rw [hhp, hT]; exact Nat.le_refl _) (msg := .ref sa) rfl
    (g := { method := m, pc := pc + 7, locals := ls, stack := .ref sa :: .ref T.heap.size :: .ref T.heap.size :: rest, locked := none }) rfl hsize rfl rfl (rest := rest) rfl
    (by rw [hb]; exact d7) (by rw [hb]; exact d10) hout hRframes (by simp only [List.map_cons, List.sum_cons, hcat]; omega) hlocks
  obtain ⟨f1, f2⟩ := vx_frame hsame
  rw [hhp] at f1 f2
  have hWs : s.WarmedH U.vm := State.WarmedH.trans hW0 hW
  have hcl : s.vm.findClass cls = some ce.cls := by
    have h9 := hO.cls
    rw [hvm] at h9
    exact h9
  have hall : s.sameButNew ({ U with vm := s.vm } : State) locs mc ms := by
    subst hA
    obtain ⟨e1, e2⟩ := hsame
    rw [State.setFrames_setFrames] at e1
    have h2 : (T.setVm s.vm).sameButNew ({ U with vm := s.vm } : State) [] (0 + 1) (0 + 6) := ⟨e1, e2⟩
    have h3 := X.same.trans h2
    rw [List.append_nil] at h3
    exact h3.mono hc hs
  refine ⟨U, ?_, .threw T.heap.size, hrun, hend, Or.inr ⟨T.heap.size, rfl, cls, ce, locs, hx U hWs.alike f1 (fun q hq => f2 q hq (fun z hz => nomatch hz)), hce, hO.vm, hcl, hWs, hall, hf⟩⟩
  refine st1 _ ?_
  show Steps p.tables e below (T1.setTop { method := m, pc := pc + 3, locals := ls, stack := .ref T.heap.size :: rest, locked := none }) _
  jvm_step X₁.here [X₁.here.top, hexec, d3', Value.category]
  exact X₁.ldcStringW hexec (own := own) (text := text) (index := is) (a := sa) hown' hstr'.1 hstr'.2
    (g := { method := m, pc := pc + 4, locals := ls, stack := .ref T.heap.size :: .ref T.heap.size :: rest, locked := none }) rfl d4' _ hsteps
end Ends
section Bodies
variable {l : Launch}
theorem vx_ofW {y : MethodName} {ws ws' : List Cond} {rm : Room} {Pc : Array Value → State → Prop} {Qc : Array Value → State → Outcome → State → Prop} {XC : String → State → State → Prop} {mc ms : Nat} {free : Addr → Prop} {cc : ByteArray} {maxL : Nat} {ret : Option FieldType}
    (hy : plainName y.cls = true) (hw : ws = Cond.code y cc maxL ret :: ws')
    (body : ∀ p e s m args below meth c s₁, BodyLoose p l y (headSpec ws rm) cc maxL ret e s m args below meth c s₁ → c.maxLocals = maxL → (∀ x ∈ c.exceptionTable.toList, False) → Pc args s →
      W p l e (headSpec ws rm).room s m args below meth c s.heap [] 0 0 (vx_MQ below Qc XC args s mc ms free) (entryFrame m args maxL)) : vx_Met l y ws rm Pc Qc XC mc ms free := by
  refine MetFree.of_bodyS (code := cc) (maxLocals := maxL) (ret := ret) hy ?_ ?_
  · intro args s m h hn
    obtain ⟨meth, c, h1, h2, h3, h4, h5, h6, -, -⟩ := Cond.code_spec hn (atoms_spec (ws := ws) h _ (by rw [hw]; exact List.mem_cons_self))
    exact ⟨meth, c, h1, h2, h3, h4, h5, h6⟩
  · intro p e s m args below meth c s₁ B hml hP _
    have hh0 : s₁.heap = s.heap := by rw [B.state]; rfl
    have ht : ∀ x ∈ c.exceptionTable.toList, False := by
      obtain ⟨meth9, c9, h1, h2, -, -, -, -, h7, -⟩ := Cond.code_spec B.named (atoms_spec (ws := ws) B.pre _ (by rw [hw]; exact List.mem_cons_self))
      cases Option.some.inj (h1.symm.trans B.method)
      cases Option.some.inj (h2.symm.trans (Stand.of_body B).code)
      intro x hx
      rw [Array.isEmpty_iff.mp h7] at hx
      cases hx
    obtain ⟨t, a1, o, b1, b2, b3⟩ := body p e s m args below meth c s₁ B hml ht hP s₁ hh0 (Stand.of_body B)
    exact ⟨t, o, a1, b1, b2, b3⟩
/-- the table of a body with handlers -/
theorem vx_table {p : Program} {x y : MethodName} {S : Spec} {cc bytes : ByteArray} {maxL maxL' : Nat} {ret ret' : Option FieldType} {e : Env} {s s₁ : State} {m : MethodId} {args : Array Value} {below : List Frame} {meth : Method} {c : Code} {hh : List (Nat × Nat × Nat × Nat)}
    (B : BodyLoose p l y S cc maxL ret e s m args below meth c s₁) (h : (Cond.codeWith y bytes maxL' ret' hh).before args s = true) : c.exceptionTable.toList = tableOf hh := by
  obtain ⟨m9, meth9, c9, hn9, h1, h2, -, -, h6, -⟩ := Cond.codeWith_spec h
  cases Option.some.inj (hn9.symm.trans B.named)
  cases Option.some.inj (h1.symm.trans B.method)
  cases Option.some.inj (h2.symm.trans (Stand.of_body B).code)
  rw [← h6, table_eq]
end Bodies
end VXA
/-! ===== END ===== -/
/-! ===== BEGIN a static call of a method with an exception table ===== -/
section VXS
variable {p : Program} {l : Launch} {e : Env} {R : Room} {s : State} {m : MethodId} {args : Array Value} {below : List Frame} {meth : Method} {c : Code} {T : State} {H : Heap} {locs : List Loc} {cells slots : Nat}
abbrev vx_CSW (R : Room) (s : State) (args : Array Value) (own : String) (index : Nat) (y : MethodName) (bytes : ByteArray) (maxL : Nat) (ret : Option FieldType) (hh : List (Nat × Nat × Nat × Nat)) (ws : List Cond) (rm : Room) (mc ms n : Nat) : Prop :=
  (rm.cells = mc ∧ rm.slots = ms ∧ rm.frames + 1 ≤ R.frames ∧ 8 + (maxL + 11) + rm.locals ≤ R.locals ∧ (∀ w ∈ ws, ∀ (a' : Array Value) (U : State), s.WarmedH U.vm → w.before a' U = true) ∧ Cond.codeWith y bytes maxL ret hh ∈ ws) ∧
  (Cond.codeWith y bytes maxL ret hh).before args s = true ∧ (Cond.initialized y.cls).before args s = true ∧ (y.cls ≠ "java/lang/invoke/MethodHandle" ∧ y.cls ≠ "java/lang/invoke/VarHandle") ∧
  (∀ sig, parseMethodDescriptor y.desc = some sig → n = sig.parameters.length) ∧ (Cond.methodLink own index y).before args s = true ∧ (Cond.static y).before args s = true
theorem vx_cwSW {own : String} {index maxL mc ms : Nat} {y : MethodName} {bytes : ByteArray} {ret : Option FieldType} {hh : List (Nat × Nat × Nat × Nat)} {Ts ws ws' : List Cond} {rm : Room} (n : Nat) (ht : ∀ w ∈ Ts, w.before args s = true) (hT : GoodIn Ts (va_wsS own index y ws)) (hw : ws = Cond.codeWith y bytes maxL ret hh :: ws') (hrc : rm.cells = mc) (hrs : rm.slots = ms)
    (hd : y.cls ≠ "java/lang/invoke/MethodHandle" ∧ y.cls ≠ "java/lang/invoke/VarHandle" ∧ (parseMethodDescriptor y.desc).map (fun d => d.parameters.length) = some n) (hR : rm.frames + 1 ≤ R.frames ∧ 8 + (maxL + 11) + rm.locals ≤ R.locals) :
    vx_CSW R s args own index y bytes maxL ret hh ws rm mc ms n := by
  have ok : ∀ w ∈ va_wsS own index y ws, w.before args s = true := fun w h => ht w (hT w h).1
  have hG : GoodIn Ts ws := fun w h => hT w (by unfold va_wsS; exact List.mem_append_right _ h)
  have hc : Cond.codeWith y bytes maxL ret hh ∈ ws := by rw [hw]; exact List.mem_cons_self
  refine ⟨⟨hrc, hrs, hR.1, hR.2, pay_in ht hG, hc⟩, ht _ (hG _ hc).1, ok _ (by simp [va_wsS]), ⟨hd.1, hd.2.1⟩, fun sig h => ?_, ok _ (by simp [va_wsS]), ok _ (by simp [va_wsS])⟩
  have h2 := hd.2.2
  rw [h] at h2
  exact (Option.some.inj h2).symm
theorem vx_callSW (X : Stand p l e R s m args below meth c T locs cells slots) (hexec : p.tables.exec = Jvm.exec) {own : String} {index : Nat} {y : MethodName} {bytes : ByteArray} {maxL : Nat} {ret : Option FieldType} {hh : List (Nat × Nat × Nat × Nat)}
    (hown : s.vm.findClass own = some m.cls) (hlink : (Cond.methodLink own index y).before args s = true) (hstat : (Cond.static y).before args s = true) (hinit : (Cond.initialized y.cls).before args s = true)
    (hcode : (Cond.codeWith y bytes maxL ret hh).before args s = true) (hy : y.cls ≠ "java/lang/invoke/MethodHandle" ∧ y.cls ≠ "java/lang/invoke/VarHandle")
    {W9 : Nat} {Pre : Pt → Array Value → Prop} {Post : Pt → Array Value → Option Value → Pt → Prop} (hK : Back l R p e below s args y 3 W9 Pre Post)
    {g : JFrame} (hg : g.method = m) (hsize : g.locals.size = c.maxLocals) {argsL rest : List Value} (hlen : ∀ sig, parseMethodDescriptor y.desc = some sig → argsL.length = sig.parameters.length)
    (hstack : g.stack = argsL.reverse ++ rest) (hW : 2 * g.monitorRoom + (rest.map fun v => v.category).sum ≤ W9) (hdg : decode c.code g.pc = .ok (.invokestatic index, 3))
    (hpre : ∀ vm₁, s.WarmedH vm₁ → Pre ⟨T.setVm vm₁, locs, cells, slots⟩ argsL.toArray) :
    ∃ (v : Option Value) (vm₁ : Vm) (B : Pt), s.WarmedH vm₁ ∧ Stand p l e R s m args below meth c B.U B.locs B.cells B.slots ∧ Post ⟨T.setVm vm₁, locs, cells, slots⟩ argsL.toArray v B ∧
      ∀ target, Steps p.tables e below (B.U.setTop { g with pc := g.pc + 3, stack := v.toList ++ rest }) target → Steps p.tables e below (T.setTop g) target := by
  obtain ⟨mk, methM, cM, hnamed, hmethM, -, -, -, -, -, -, hsigM⟩ := Cond.codeWith_spec hcode
  have hstatic : methM.isStatic = true := Cond.static_spec hnamed hmethM hstat
  obtain ⟨kP, hkP, -⟩ := className_of_methodNamed hnamed
  have hinitP : kP.init = .initialized := Cond.initialized_spec (findClass_of_methodNamed hnamed) hkP hinit
  obtain ⟨vm₁, X₁, hstep₁⟩ := X.invokestatic hexec hown hlink hnamed hmethM hstatic hkP hinitP hy (g := g) hg (argsL := argsL) (rest := rest) (hlen _ hsigM) hstack hdg
  obtain ⟨v, B, X', hpost, hsteps⟩ := hK m meth c ⟨T.setVm vm₁, locs, cells, slots⟩ { g with stack := rest } (.invokestatic index) mk argsL.toArray X₁ hg hsize hdg hW (X₁.named hnamed) (hpre vm₁ X₁.warmed)
  exact ⟨v, vm₁, B, X₁.warmed, X', hpost, fun target h => hstep₁ _ fun acts => by rw [doInvoke_state]; exact hsteps.trans h⟩
theorem vx_runSW {y : MethodName} {bytes cc : ByteArray} {maxL nL mc ms n index : Nat} {ret : Option FieldType} {hh : List (Nat × Nat × Nat × Nat)} {ws : List Cond} {rm : Room} {Pc : Array Value → State → Prop} {Qc : Array Value → State → Outcome → State → Prop} {free : Addr → Prop} {Ts : List Cond} {own : String} {As rest : List Value} {g : JFrame}
    (S : CallFix p m c cc nL s args Ts own) (hM : Met l y ws rm Pc Qc mc ms free) (cw : vx_CSW R s args own index y bytes maxL ret hh ws rm mc ms n) (hp : PreS s H Pc As)
    (hg : g.method = m) (hn : As.length = n) (hsize : g.locals.size = nL) (hstack : g.stack = As.reverse ++ rest) (hW : 2 * g.monitorRoom + (rest.map fun v => v.category).sum ≤ 8) (hdg : decode cc g.pc = .ok (.invokestatic index, 3)) (hf : cells + mc ≤ R.cells ∧ slots + ms ≤ R.slots) :
    va_Run p l e R s m args below meth c H locs cells slots mc ms g rest (Qc As.toArray) (free) := by
  obtain ⟨⟨hrc, hrs, hfr, hlo, hws, hcw⟩, hcode, hini, hy, hlen, hl, hstt⟩ := cw
  have hK : Back l R p e below s args y 3 8 (PreOf R mc ms Pc) (PostOf Qc mc ms free) := va_backW (hh := hh) (bytes := bytes) (maxL := maxL) (ret := ret) hM hp.1 hrc hrs hfr hlo hws hcw (fun a' U hW => word_at hW (Or.inl (by first | rfl | simp [Cond.onTables, Cond.keeps, Cond.steady])) hini)
  obtain ⟨hx, hb, hml, ho, -⟩ := S
  intro T hT X
  obtain ⟨v, vm₁, ⟨U', l2, c2, s2⟩, hW₁, X', ⟨g', mk, t, L, e1, e2, hq, h1, hL, h2, h3⟩, st⟩ := vx_callSW X hx (hh := hh) (bytes := bytes) (maxL := maxL) (ret := ret) ho hl hstt hini hcode hy hK hg (hsize.trans hml.symm) (argsL := As) (rest := rest) (fun sig h => hn.trans (hlen sig h)) hstack hW (by rw [hb]; exact hdg)
    (fun vm₁ hW₁ => ⟨hf.1, hf.2, hp.2 (T.setVm vm₁) hT hW₁⟩)
  dsimp only [Pt.U, Pt.locs, Pt.cells, Pt.slots] at X' e1 e2 h1 h2 h3 st
  subst h1; subst h2; subst h3
  exact ⟨v, (T.setVm vm₁).calling g' mk As.toArray, t, U', L, hT, X', hL, e1, e2, hq, st⟩
/-- not caught here, past rows that name other classes: it goes on to the caller -/
theorem vx_outP {p : Program} {l : Launch} {e : Env} {R : Room} {s : State} {m : MethodId} {args : Array Value} {below : List Frame} {meth : Method} {c : Code} {H : Heap} {locs : List Loc} {cells slots : Nat} {free : Addr → Prop} {ls : Array Slot} {rest : List Value} {Qc : Array Value → State → Outcome → State → Prop} {XC : String → State → State → Prop}
    {pc : Nat} {own E : String} {ce : Cell} {q : Addr} {mc ms : Nat} (hown : s.vm.findClass own = some m.cls) (hlocks : meth.locks = false)
    (hpass : ∀ z ∈ c.exceptionTable.toList, covers z pc = false ∨ (z.catchType ≠ 0 ∧ ∃ nm : String, (Cond.classLink own z.catchType nm).before args s = true ∧ va_Nc E nm s)) (hcell : H[q]? = some ce) (hv : ce.vm = .none) (hcl : s.vm.findClass E = some ce.cls)
    (hx : ∀ t : State, t.heap = H → s.vm.Alike t.vm → XC E s t) (hf : ∀ z ∈ locs, free z.base) (hc : cells ≤ mc) (hs : slots ≤ ms) :
    vx_W p l e R s m args below meth c H locs cells slots (vx_MQ below Qc XC args s mc ms free) (F0 m pc ls rest) q := by
  intro T hT X
  have hpl : e.platform.magicAccessors = ({} : Platform).magicAccessors := by rw [X.admits.platform]
  obtain ⟨vm', hW', X', st⟩ := X.outThrough hlocks q (g := F0 m pc ls rest) rfl rfl rfl (cell := ce) (by rw [hT]; exact hcell) (by rw [hv]; rfl)
    (by obtain ⟨k9, h9, -⟩ := Vm.findClass_spec hcl; exact ⟨k9, h9⟩) (fun z hz => by
      rcases hpass z hz with h | ⟨hz0, nm, hl1, hn1⟩
      · exact Or.inl h
      · obtain ⟨c6, hc6, hcl6⟩ := Cond.classLink_spec hown hl1 e.platform hpl
        obtain ⟨a8, b8, h1, h2, h3⟩ := hn1
        cases Option.some.inj (h1.symm.trans hcl)
        cases Option.some.inj (h2.symm.trans hc6)
        exact Or.inr ⟨hz0, _, hcl6, h3⟩)
  obtain ⟨g₀, hfr⟩ := X'.frames_eq
  have hcell9 : ((T.setVm vm').setFrames (.throwing q :: below)).heap[q]? = some ce := by
    show T.heap[q]? = some ce
    rw [hT]; exact hcell
  have hend : Ended ((T.setVm vm').setFrames (.throwing q :: below)) below (.threw q) := State.frames_setFrames _ (State.cur_lt_of_frames hfr)
  refine ⟨(T.setVm vm').setFrames (.throwing q :: below), ?_, .threw q, X'.here.running, hend, Or.inr ⟨q, rfl, E, ce, locs, hx _ hT (X'.ends _).1.alike, hcell9, hv, hcl, (X'.ends _).1, (X'.ends _).2.mono hc hs, hf⟩⟩
  rw [X.pushThrowing_eq]
  exact st
/-- a thing of a world lies in the heap -/
theorem vx_lt {D : va_G} {cl : List vw_C} {ws : va_W} {H1 : Heap} (h : va_P D cl ws H1) {k : Nat} {q : Nat × va_E} (hk : ws[k]? = some q) : q.1 < H1.size := (h k q hk).lt
end VXS
/-! ===== END ===== -/
/-! ===== BEGIN methods with a table of their own: called by a name, returning or throwing ===== -/
section VXH
/-! vx_backW, vx_callVX, vx_callSX, vx_callVW, vx_runVW, vx_runVX, vx_runSX, vx_ofWH follow the same proofs as their sisters above (Free/Laws.lean, Shelf42/LK1.lean); vx_outP calls Shelf42/NT130.lean (outThrough). -/
section
variable {l : Launch} {R : Room} {p : Program} {e : Env} {below : List Frame} {s : State} {sargs : Array Value} {y : MethodName} {len W9 : Nat}
theorem vx_backW {ws : List Cond} {rm : Room} {Pc : Array Value → State → Prop} {Qc : Array Value → State → Outcome → State → Prop} {XC : String → State → State → Prop} {mc ms : Nat} {free : Addr → Prop} {bytes : ByteArray} {maxL : Nat} {ret : Option FieldType} {hh : List (Nat × Nat × Nat × Nat)}
    (hM : vx_Met l y ws rm Pc Qc XC mc ms free) (hblind : FrameBlind Pc) (hrc : rm.cells = mc) (hrs : rm.slots = ms)
    (hframes : rm.frames + 1 ≤ R.frames) (hlocals : W9 + (maxL + 11) + rm.locals ≤ R.locals)
    (hws : ∀ w ∈ ws, ∀ a' U, s.WarmedH U.vm → w.before a' U = true) (hcode : Cond.codeWith y bytes maxL ret hh ∈ ws) (hinit : ∀ a' U, s.WarmedH U.vm → (Cond.initialized y.cls).before a' U = true) :
    vx_Back l R p e below s sargs y len W9 (PreOf R mc ms Pc) (PostOf Qc mc ms free) (vx_Post XC mc ms free) := by
  intro m meth c A g ig mk a X hg hsize hdg hW hn hp
  have h1 : (headSpec ws rm).pre.before a A.U = true := atoms_intro fun w hw => hws w hw _ _ X.warmed
  have h2 : (Cond.codeWith y bytes maxL ret hh).before a A.U = true := hws _ hcode _ _ X.warmed
  have h3 : (Cond.initialized y.cls).before a A.U = true := hinit _ _ X.warmed
  have h4 : A.cells + (headSpec ws rm).room.cells ≤ R.cells := by rw [show (headSpec ws rm).room.cells = mc from hrc]; exact hp.1
  have h5 : A.slots + (headSpec ws rm).room.slots ≤ R.slots := by rw [show (headSpec ws rm).room.slots = ms from hrs]; exact hp.2.1
  have hPc : Pc a (A.U.calling g mk a) := hblind _ _ _ _ hp.2.2
  obtain ⟨U, Ls, c0, s0⟩ := A
  dsimp only [Pt.U, Pt.locs, Pt.cells, Pt.slots] at h1 h2 h3 h4 h5 X hn hPc ⊢
  obtain ⟨m9, methY, cY, hn9, hmY, hcY, -, hlY, -⟩ := Cond.codeWith_spec h2
  cases Option.some.inj (hn9.symm.trans hn)
  obtain ⟨kY, hkY, -⟩ := className_of_methodNamed hn
  have hinitY : kY.init = .initialized := Cond.initialized_spec (findClass_of_methodNamed hn) hkY h3
  have h : At U g.method c below := by rw [hg]; exact X.here
  have hlocals9 : W9 + (maxL + 11) + (headSpec ws rm).room.locals ≤ R.locals := hlocals
  have happ : (headSpec ws rm).appliesLoose y e.platform (U.calling g mk a) = true :=
    Spec.appliesLoose_calling (g := g) h hdg hn hkY hinitY
      (X.room_calling (g := g) (R' := (headSpec ws rm).room) hsize hmY hcY hframes (by rw [hlY]; omega) h4 h5) h1
  obtain ⟨mid, hmid⟩ := h.above
  have hfr : (U.setTop g).frames = (.java g :: mid) ++ below := by rw [State.frames_setTop' g h.top, hmid]; rfl
  obtain ⟨o, s₂, hsteps, -, hend, hq⟩ := Steps.callFree hM p X.admits X.cas X.clock (acts := []) hfr happ hPc trivial
  have hq' : vx_Q Qc XC mc ms free a (U.calling g mk a) o s₂ := hq
  rw [State.frames_setTop' g h.top] at hend
  obtain ⟨g₀, hg0⟩ := Option.isSome_iff_exists.mp h.top
  obtain ⟨r, hr⟩ := State.topJava?_eq_some.mp hg0
  have hr' : (({ U with heap := s₂.heap, slotsUsed := s₂.slotsUsed } : State).setVm s₂.vm).frames = .java g₀ :: r := hr
  rcases hq' with ⟨hqc, L, hfe, hL⟩ | ⟨q, rfl, E, ce, L, hx, hce, hcv, hcl, hW₂, hsm, hL⟩
  · obtain ⟨⟨v, rfl⟩, hW₂, e2, q2, q3, q4, q5, q6⟩ := id hfe
    have e3 : s₂ = ({ (U.calling g mk a).setFrames s₂.frames with heap := s₂.heap, slotsUsed := s₂.slotsUsed } : State).setVm s₂.vm := by
      have : s₂ = ({ s₂ with vm := (U.calling g mk a).vm } : State).setVm s₂.vm := rfl
      rw [e2] at this
      exact this
    obtain ⟨c₂, i₂, len₂, hc₂, hd₂, hf₂⟩ := hend
    have hW' : U.WarmedH s₂.vm := hW₂
    have hcc : c₂ = c := by
      have h1 : s₂.code? g.method = U.code? g.method := by
        rw [State.code?_eq, State.code?_eq, hW'.alike.method?]
      exact Option.some.inj (hc₂.symm.trans (h1.trans h.code))
    subst hcc
    have hlen : len₂ = len := by rw [hdg] at hd₂; cases hd₂; rfl
    subst hlen
    have hs₂ : s₂ = (({ U with heap := s₂.heap, slotsUsed := s₂.slotsUsed } : State).setVm s₂.vm).setTop { g with pc := g.pc + len₂, stack := v.toList ++ g.stack } := by
      refine e3.trans ?_
      rw [hf₂, State.calling_eq h.top, State.setFrames_setFrames, State.setTop_of_frames _ hr', hr]
      rfl
    have hsame : U.sameButNew ({ U with heap := s₂.heap, slotsUsed := s₂.slotsUsed } : State) L mc ms := by
      refine ⟨?_, q2, q3, q4, q5, q6⟩
      obtain ⟨t, ht, -⟩ := State.frames_cons hr
      show ({ U with heap := s₂.heap, slotsUsed := s₂.slotsUsed } : State) = { U.setFrames U.frames with heap := s₂.heap, slotsUsed := s₂.slotsUsed }
      rw [State.setFrames_self ht]
    subst hg
    refine Or.inl ⟨v, ⟨(({ U with heap := s₂.heap, slotsUsed := s₂.slotsUsed } : State).setVm s₂.vm), Ls ++ L, c0 + mc, s0 + ms⟩,
      ⟨X.admits, X.cas, X.clock, X.frames, X.room, X.hears, X.method, X.code, (X.here.setHeapUsed s₂.heap s₂.slotsUsed).setVm hW'.alike, X.tail, State.WarmedH.trans X.warmed hW', X.limits, X.bytes, X.same.trans (hsame.setVm s.vm)⟩,
      ⟨g, mk, s₂, L, rfl, rfl, hqc, rfl, hL, rfl, rfl⟩, ?_⟩
    show Steps p.tables e below _ ((({ U with heap := s₂.heap, slotsUsed := s₂.slotsUsed } : State).setVm s₂.vm).setTop { g with pc := g.pc + len₂, stack := v.toList ++ g.stack })
    rw [← hs₂]
    exact hsteps
  · obtain ⟨e2, q2, q3, q4, q5, q6⟩ := id hsm
    have e3 : s₂ = ({ (U.calling g mk a).setFrames s₂.frames with heap := s₂.heap, slotsUsed := s₂.slotsUsed } : State).setVm s₂.vm := by
      have : s₂ = ({ s₂ with vm := (U.calling g mk a).vm } : State).setVm s₂.vm := rfl
      rw [e2] at this
      exact this
    have hf₂ : s₂.frames = .throwing q :: .java g :: U.frames.tail := hend
    have hW' : U.WarmedH s₂.vm := hW₂
    have hs₂ : s₂ = ((({ U with heap := s₂.heap, slotsUsed := s₂.slotsUsed } : State).setVm s₂.vm).setTop g).pushFrame (.throwing q) := by
      refine e3.trans ?_
      rw [hf₂, State.calling_eq h.top, State.setFrames_setFrames, State.pushFrame, State.frames_setTop _ hr', State.setTop_of_frames _ hr', State.setFrames_setFrames, hr]
      rfl
    have hsame : U.sameButNew ({ U with heap := s₂.heap, slotsUsed := s₂.slotsUsed } : State) L mc ms := by
      refine ⟨?_, q2, q3, q4, q5, q6⟩
      obtain ⟨t, ht, -⟩ := State.frames_cons hr
      show ({ U with heap := s₂.heap, slotsUsed := s₂.slotsUsed } : State) = { U.setFrames U.frames with heap := s₂.heap, slotsUsed := s₂.slotsUsed }
      rw [State.setFrames_self ht]
    subst hg
    refine Or.inr ⟨q, ⟨(({ U with heap := s₂.heap, slotsUsed := s₂.slotsUsed } : State).setVm s₂.vm), Ls ++ L, c0 + mc, s0 + ms⟩,
      ⟨X.admits, X.cas, X.clock, X.frames, X.room, X.hears, X.method, X.code, (X.here.setHeapUsed s₂.heap s₂.slotsUsed).setVm hW'.alike, X.tail, State.WarmedH.trans X.warmed hW', X.limits, X.bytes, X.same.trans (hsame.setVm s.vm)⟩,
      ⟨g, mk, s₂, L, E, ce, rfl, rfl, hx, hce, hcv, hcl, rfl, hL, rfl, rfl⟩, ?_⟩
    show Steps p.tables e below _ (((({ U with heap := s₂.heap, slotsUsed := s₂.slotsUsed } : State).setVm s₂.vm).setTop g).pushFrame (.throwing q))
    rw [← hs₂]
    exact hsteps
end
variable {p : Program} {l : Launch} {e : Env} {R : Room} {s : State} {m : MethodId} {args : Array Value} {below : List Frame} {meth : Method} {c : Code} {T : State} {H : Heap} {locs : List Loc} {cells slots : Nat}
theorem vx_callVX (X : Stand p l e R s m args below meth c T locs cells slots) (hexec : p.tables.exec = Jvm.exec) {own C : String} {index : Nat} {y : MethodName} {bytes : ByteArray} {maxL : Nat} {ret : Option FieldType} {hh : List (Nat × Nat × Nat × Nat)}
    (hown : s.vm.findClass own = some m.cls) (hlink : (Cond.methodLink own index y).before args s = true) (hinst : (Cond.instanceMethod y).before args s = true) (hsel : (Cond.selects C y y).before args s = true)
    (hcode : (Cond.codeWith y bytes maxL ret hh).before args s = true) (hy : y.cls ≠ "java/lang/invoke/MethodHandle" ∧ y.cls ≠ "java/lang/invoke/VarHandle")
    {W9 : Nat} {Pre : Pt → Array Value → Prop} {Post : Pt → Array Value → Option Value → Pt → Prop} {PostX : Pt → Array Value → Addr → Pt → Prop} (hK : vx_Back l R p e below s args y 3 W9 Pre Post PostX)
    {b : Addr} {cellB : Cell} (hcell : T.heap[b]? = some cellB) (hobj : cellB.vm.isStatics = false) (hcls : s.vm.findClass C = some cellB.cls)
    {g : JFrame} (hg : g.method = m) (hsize : g.locals.size = c.maxLocals) {argsL rest : List Value} (hlen : ∀ sig, parseMethodDescriptor y.desc = some sig → argsL.length = sig.parameters.length)
    (hstack : g.stack = argsL.reverse ++ .ref b :: rest) (hW : 2 * g.monitorRoom + (rest.map fun v => v.category).sum ≤ W9) (hdg : decode c.code g.pc = .ok (.invokevirtual index, 3))
    (hpre : ∀ vm₁, s.WarmedH vm₁ → Pre ⟨T.setVm vm₁, locs, cells, slots⟩ (Value.ref b :: argsL).toArray) :
    (∃ (v : Option Value) (vm₁ : Vm) (B : Pt), s.WarmedH vm₁ ∧ Stand p l e R s m args below meth c B.U B.locs B.cells B.slots ∧ Post ⟨T.setVm vm₁, locs, cells, slots⟩ (Value.ref b :: argsL).toArray v B ∧
      ∀ target, Steps p.tables e below (B.U.setTop { g with pc := g.pc + 3, stack := v.toList ++ rest }) target → Steps p.tables e below (T.setTop g) target) ∨
    (∃ (q : Addr) (vm₁ : Vm) (B : Pt), s.WarmedH vm₁ ∧ Stand p l e R s m args below meth c B.U B.locs B.cells B.slots ∧ PostX ⟨T.setVm vm₁, locs, cells, slots⟩ (Value.ref b :: argsL).toArray q B ∧
      Steps p.tables e below (T.setTop g) ((B.U.setTop { g with stack := rest }).pushFrame (.throwing q))) := by
  obtain ⟨mk, methM, hnamed, hmethM, hstM, habM⟩ := Cond.instanceMethod_spec hinst
  obtain ⟨m8, methM', cM, hn8, hmethM', -, -, -, -, -, -, hsigM⟩ := Cond.codeWith_spec hcode
  cases Option.some.inj (hn8.symm.trans hnamed)
  cases hmethM.symm.trans hmethM'
  obtain ⟨c2, r2, m2, q1, q2, q3, q4, kP, hkP, hkPi⟩ := Cond.selects_spec hsel
  cases hcls.symm.trans q1
  cases (State.methodFound?_of_named hnamed hy).symm.trans q2
  cases hnamed.symm.trans q3
  have hselP : selectMethod e.platform s.vm cellB.cls mk = .method mk := by rw [Launch.admits_selectMethod X.admits]; exact q4
  obtain ⟨vm₁, X₁, hstep₁⟩ := X.invokevirtual hexec hown hlink hnamed hmethM hstM hkP hkPi hy (a := b) (cell := cellB) hcell
    (fun z h => by rw [h] at hobj; cases hobj) hselP hmethM habM hkP hkPi (g := g) hg (argsL := argsL) (rest := rest) (hlen _ hsigM) hstack hdg
  rcases hK m meth c ⟨T.setVm vm₁, locs, cells, slots⟩ { g with stack := rest } (.invokevirtual index) mk (Value.ref b :: argsL).toArray X₁ hg hsize hdg hW (X₁.named hnamed) (hpre vm₁ X₁.warmed) with ⟨v, B, X', hpost, hsteps⟩ | ⟨q, B, X', hpost, hsteps⟩
  · exact Or.inl ⟨v, vm₁, B, X₁.warmed, X', hpost, fun target h => hstep₁ _ fun acts => by rw [doInvoke_state]; exact hsteps.trans h⟩
  · exact Or.inr ⟨q, vm₁, B, X₁.warmed, X', hpost, hstep₁ _ fun acts => by rw [doInvoke_state]; exact hsteps⟩
theorem vx_callSX (X : Stand p l e R s m args below meth c T locs cells slots) (hexec : p.tables.exec = Jvm.exec) {own : String} {index : Nat} {y : MethodName} {bytes : ByteArray} {maxL : Nat} {ret : Option FieldType} {hh : List (Nat × Nat × Nat × Nat)}
    (hown : s.vm.findClass own = some m.cls) (hlink : (Cond.methodLink own index y).before args s = true) (hstat : (Cond.static y).before args s = true) (hinit : (Cond.initialized y.cls).before args s = true)
    (hcode : (Cond.codeWith y bytes maxL ret hh).before args s = true) (hy : y.cls ≠ "java/lang/invoke/MethodHandle" ∧ y.cls ≠ "java/lang/invoke/VarHandle")
    {W9 : Nat} {Pre : Pt → Array Value → Prop} {Post : Pt → Array Value → Option Value → Pt → Prop} {PostX : Pt → Array Value → Addr → Pt → Prop} (hK : vx_Back l R p e below s args y 3 W9 Pre Post PostX)
    {g : JFrame} (hg : g.method = m) (hsize : g.locals.size = c.maxLocals) {argsL rest : List Value} (hlen : ∀ sig, parseMethodDescriptor y.desc = some sig → argsL.length = sig.parameters.length)
    (hstack : g.stack = argsL.reverse ++ rest) (hW : 2 * g.monitorRoom + (rest.map fun v => v.category).sum ≤ W9) (hdg : decode c.code g.pc = .ok (.invokestatic index, 3))
    (hpre : ∀ vm₁, s.WarmedH vm₁ → Pre ⟨T.setVm vm₁, locs, cells, slots⟩ argsL.toArray) :
    (∃ (v : Option Value) (vm₁ : Vm) (B : Pt), s.WarmedH vm₁ ∧ Stand p l e R s m args below meth c B.U B.locs B.cells B.slots ∧ Post ⟨T.setVm vm₁, locs, cells, slots⟩ argsL.toArray v B ∧
      ∀ target, Steps p.tables e below (B.U.setTop { g with pc := g.pc + 3, stack := v.toList ++ rest }) target → Steps p.tables e below (T.setTop g) target) ∨
    (∃ (q : Addr) (vm₁ : Vm) (B : Pt), s.WarmedH vm₁ ∧ Stand p l e R s m args below meth c B.U B.locs B.cells B.slots ∧ PostX ⟨T.setVm vm₁, locs, cells, slots⟩ argsL.toArray q B ∧
      Steps p.tables e below (T.setTop g) ((B.U.setTop { g with stack := rest }).pushFrame (.throwing q))) := by
  obtain ⟨mk, methM, cM, hnamed, hmethM, -, -, -, -, -, -, hsigM⟩ := Cond.codeWith_spec hcode
  have hstatic : methM.isStatic = true := Cond.static_spec hnamed hmethM hstat
  obtain ⟨kP, hkP, -⟩ := className_of_methodNamed hnamed
  have hinitP : kP.init = .initialized := Cond.initialized_spec (findClass_of_methodNamed hnamed) hkP hinit
  obtain ⟨vm₁, X₁, hstep₁⟩ := X.invokestatic hexec hown hlink hnamed hmethM hstatic hkP hinitP hy (g := g) hg (argsL := argsL) (rest := rest) (hlen _ hsigM) hstack hdg
  rcases hK m meth c ⟨T.setVm vm₁, locs, cells, slots⟩ { g with stack := rest } (.invokestatic index) mk argsL.toArray X₁ hg hsize hdg hW (X₁.named hnamed) (hpre vm₁ X₁.warmed) with ⟨v, B, X', hpost, hsteps⟩ | ⟨q, B, X', hpost, hsteps⟩
  · exact Or.inl ⟨v, vm₁, B, X₁.warmed, X', hpost, fun target h => hstep₁ _ fun acts => by rw [doInvoke_state]; exact hsteps.trans h⟩
  · exact Or.inr ⟨q, vm₁, B, X₁.warmed, X', hpost, hstep₁ _ fun acts => by rw [doInvoke_state]; exact hsteps⟩
theorem vx_callVW (X : Stand p l e R s m args below meth c T locs cells slots) (hexec : p.tables.exec = Jvm.exec) {own C : String} {index : Nat} {y : MethodName} {bytes : ByteArray} {maxL : Nat} {ret : Option FieldType} {hh : List (Nat × Nat × Nat × Nat)}
    (hown : s.vm.findClass own = some m.cls) (hlink : (Cond.methodLink own index y).before args s = true) (hinst : (Cond.instanceMethod y).before args s = true) (hsel : (Cond.selects C y y).before args s = true)
    (hcode : (Cond.codeWith y bytes maxL ret hh).before args s = true) (hy : y.cls ≠ "java/lang/invoke/MethodHandle" ∧ y.cls ≠ "java/lang/invoke/VarHandle")
    {W9 : Nat} {Pre : Pt → Array Value → Prop} {Post : Pt → Array Value → Option Value → Pt → Prop} (hK : Back l R p e below s args y 3 W9 Pre Post)
    {b : Addr} {cellB : Cell} (hcell : T.heap[b]? = some cellB) (hobj : cellB.vm.isStatics = false) (hcls : s.vm.findClass C = some cellB.cls)
    {g : JFrame} (hg : g.method = m) (hsize : g.locals.size = c.maxLocals) {argsL rest : List Value} (hlen : ∀ sig, parseMethodDescriptor y.desc = some sig → argsL.length = sig.parameters.length)
    (hstack : g.stack = argsL.reverse ++ .ref b :: rest) (hW : 2 * g.monitorRoom + (rest.map fun v => v.category).sum ≤ W9) (hdg : decode c.code g.pc = .ok (.invokevirtual index, 3))
    (hpre : ∀ vm₁, s.WarmedH vm₁ → Pre ⟨T.setVm vm₁, locs, cells, slots⟩ (Value.ref b :: argsL).toArray) :
    ∃ (v : Option Value) (vm₁ : Vm) (B : Pt), s.WarmedH vm₁ ∧ Stand p l e R s m args below meth c B.U B.locs B.cells B.slots ∧ Post ⟨T.setVm vm₁, locs, cells, slots⟩ (Value.ref b :: argsL).toArray v B ∧
      ∀ target, Steps p.tables e below (B.U.setTop { g with pc := g.pc + 3, stack := v.toList ++ rest }) target → Steps p.tables e below (T.setTop g) target := by
  obtain ⟨mk, methM, hnamed, hmethM, hstM, habM⟩ := Cond.instanceMethod_spec hinst
  obtain ⟨m8, methM', cM, hn8, hmethM', -, -, -, -, -, -, hsigM⟩ := Cond.codeWith_spec hcode
  cases Option.some.inj (hn8.symm.trans hnamed)
  cases hmethM.symm.trans hmethM'
  obtain ⟨c2, r2, m2, q1, q2, q3, q4, kP, hkP, hkPi⟩ := Cond.selects_spec hsel
  cases hcls.symm.trans q1
  cases (State.methodFound?_of_named hnamed hy).symm.trans q2
  cases hnamed.symm.trans q3
  have hselP : selectMethod e.platform s.vm cellB.cls mk = .method mk := by rw [Launch.admits_selectMethod X.admits]; exact q4
  obtain ⟨vm₁, X₁, hstep₁⟩ := X.invokevirtual hexec hown hlink hnamed hmethM hstM hkP hkPi hy (a := b) (cell := cellB) hcell
    (fun z h => by rw [h] at hobj; cases hobj) hselP hmethM habM hkP hkPi (g := g) hg (argsL := argsL) (rest := rest) (hlen _ hsigM) hstack hdg
  obtain ⟨v, B, X', hpost, hsteps⟩ := hK m meth c ⟨T.setVm vm₁, locs, cells, slots⟩ { g with stack := rest } (.invokevirtual index) mk (Value.ref b :: argsL).toArray X₁ hg hsize hdg hW (X₁.named hnamed) (hpre vm₁ X₁.warmed)
  exact ⟨v, vm₁, B, X₁.warmed, X', hpost, fun target h => hstep₁ _ fun acts => by rw [doInvoke_state]; exact hsteps.trans h⟩
abbrev vx_CVW (R : Room) (s : State) (args : Array Value) (own C : String) (index : Nat) (y : MethodName) (bytes : ByteArray) (maxL : Nat) (ret : Option FieldType) (hh : List (Nat × Nat × Nat × Nat)) (ws : List Cond) (rm : Room) (mc ms n : Nat) : Prop :=
  (rm.cells = mc ∧ rm.slots = ms ∧ rm.frames + 1 ≤ R.frames ∧ 8 + (maxL + 11) + rm.locals ≤ R.locals ∧ (∀ w ∈ ws, ∀ (a' : Array Value) (U : State), s.WarmedH U.vm → w.before a' U = true) ∧ Cond.codeWith y bytes maxL ret hh ∈ ws) ∧
  (Cond.codeWith y bytes maxL ret hh).before args s = true ∧ (Cond.initialized y.cls).before args s = true ∧ (y.cls ≠ "java/lang/invoke/MethodHandle" ∧ y.cls ≠ "java/lang/invoke/VarHandle") ∧
  (∀ sig, parseMethodDescriptor y.desc = some sig → n = sig.parameters.length) ∧ (Cond.methodLink own index y).before args s = true ∧ (Cond.instanceMethod y).before args s = true ∧ (Cond.selects C y y).before args s = true
theorem vx_cwVW {own C : String} {index maxL mc ms : Nat} {y : MethodName} {bytes : ByteArray} {ret : Option FieldType} {hh : List (Nat × Nat × Nat × Nat)} {Ts ws ws' : List Cond} {rm : Room} (n : Nat) (ht : ∀ w ∈ Ts, w.before args s = true) (hT : GoodIn Ts (wsV own index C y ws)) (hw : ws = Cond.codeWith y bytes maxL ret hh :: ws') (hrc : rm.cells = mc) (hrs : rm.slots = ms)
    (hd : y.cls = C ∧ y.cls ≠ "java/lang/invoke/MethodHandle" ∧ y.cls ≠ "java/lang/invoke/VarHandle" ∧ (parseMethodDescriptor y.desc).map (fun d => d.parameters.length) = some n) (hR : rm.frames + 1 ≤ R.frames ∧ 8 + (maxL + 11) + rm.locals ≤ R.locals) :
    vx_CVW R s args own C index y bytes maxL ret hh ws rm mc ms n := by
  obtain ⟨hC, hd⟩ := hd
  subst hC
  have ok : ∀ w ∈ wsV own index y.cls y ws, w.before args s = true := fun w h => ht w (hT w h).1
  have hG : GoodIn Ts ws := fun w h => hT w (by unfold wsV; exact List.mem_append_right _ h)
  have hc : Cond.codeWith y bytes maxL ret hh ∈ ws := by rw [hw]; exact List.mem_cons_self
  refine ⟨⟨hrc, hrs, hR.1, hR.2, pay_in ht hG, hc⟩, ht _ (hG _ hc).1, ok _ (by simp [wsV]), ⟨hd.1, hd.2.1⟩, fun sig h => ?_, ok _ (by simp [wsV]), ok _ (by simp [wsV]), ok _ (by simp [wsV])⟩
  have h2 := hd.2.2
  rw [h] at h2
  exact (Option.some.inj h2).symm
theorem vx_runVW {y : MethodName} {bytes cc : ByteArray} {maxL nL mc ms n index : Nat} {ret : Option FieldType} {hh : List (Nat × Nat × Nat × Nat)} {ws : List Cond} {rm : Room} {Pc : Array Value → State → Prop} {Qc : Array Value → State → Outcome → State → Prop} {free : Addr → Prop} {Ts : List Cond} {own C : String} {b : Addr} {As rest : List Value} {g : JFrame}
    (S : CallFix p m c cc nL s args Ts own) (hM : Met l y ws rm Pc Qc mc ms free) (cw : vx_CVW R s args own C index y bytes maxL ret hh ws rm mc ms n) (hp : PreV s H C b Pc As)
    (hg : g.method = m) (hn : As.length = n) (hsize : g.locals.size = nL) (hstack : g.stack = As.reverse ++ .ref b :: rest) (hW : 2 * g.monitorRoom + (rest.map fun v => v.category).sum ≤ 8) (hdg : decode cc g.pc = .ok (.invokevirtual index, 3)) (hf : cells + mc ≤ R.cells ∧ slots + ms ≤ R.slots) :
    va_Run p l e R s m args below meth c H locs cells slots mc ms g rest (Qc (Value.ref b :: As).toArray) free := by
  obtain ⟨⟨hrc, hrs, hfr, hlo, hws, hcw⟩, hcode, hini, hy, hlen, hl, hin, hse⟩ := cw
  have hK : Back l R p e below s args y 3 8 (PreOf R mc ms Pc) (PostOf Qc mc ms free) := va_backW (hh := hh) (bytes := bytes) (maxL := maxL) (ret := ret) hM hp.1 hrc hrs hfr hlo hws hcw (fun a' U hW => word_at hW (Or.inl (by first | rfl | simp [Cond.onTables, Cond.keeps, Cond.steady])) hini)
  obtain ⟨hx, hb, hml, ho, -⟩ := S
  obtain ⟨-, ⟨cellB, hcB, hoB, hclB⟩, hPc⟩ := hp
  intro T hT X
  obtain ⟨v, vm₁, ⟨U', l2, c2, s2⟩, hW₁, X', ⟨g', mk, t, L, e1, e2, hq, h1, hL, h2, h3⟩, st⟩ := vx_callVW X hx (C := C) (hh := hh) (bytes := bytes) (maxL := maxL) (ret := ret) ho hl hin hse hcode hy hK (by rw [hT]; exact hcB) hoB hclB hg (hsize.trans hml.symm) (argsL := As) (rest := rest) (fun sig h => hn.trans (hlen sig h)) hstack hW (by rw [hb]; exact hdg)
    (fun vm₁ hW₁ => ⟨hf.1, hf.2, hPc (T.setVm vm₁) hT hW₁⟩)
  dsimp only [Pt.U, Pt.locs, Pt.cells, Pt.slots] at X' e1 e2 h1 h2 h3 st
  subst h1; subst h2; subst h3
  exact ⟨v, (T.setVm vm₁).calling g' mk (Value.ref b :: As).toArray, t, U', L, hT, X', hL, e1, e2, hq, st⟩
section
variable {y : MethodName} {bytes cc : ByteArray} {maxL nL mc ms n index : Nat} {ret : Option FieldType} {ws : List Cond} {rm : Room} {Pc : Array Value → State → Prop} {Qc : Array Value → State → Outcome → State → Prop} {XC : String → State → State → Prop} {free : Addr → Prop} {Ts : List Cond} {own C : String} {b : Addr} {As rest : List Value} {g : JFrame}
theorem vx_runVX {hh : List (Nat × Nat × Nat × Nat)} (S : CallFix p m c cc nL s args Ts own) (hM : vx_Met l y ws rm Pc Qc XC mc ms free) (cw : vx_CVW R s args own C index y bytes maxL ret hh ws rm mc ms n) (hp : PreV s H C b Pc As)
    (hg : g.method = m) (hn : As.length = n) (hsize : g.locals.size = nL) (hstack : g.stack = As.reverse ++ .ref b :: rest) (hW : 2 * g.monitorRoom + (rest.map fun v => v.category).sum ≤ 8) (hdg : decode cc g.pc = .ok (.invokevirtual index, 3)) (hf : cells + mc ≤ R.cells ∧ slots + ms ≤ R.slots) :
    vx_Run p l e R s m args below meth c H locs cells slots mc ms g rest (Qc (Value.ref b :: As).toArray) XC free := by
  obtain ⟨⟨hrc, hrs, hfr, hlo, hws, hcw⟩, hcode, hini, hy, hlen, hl, hin, hse⟩ := cw
  have hK : vx_Back l R p e below s args y 3 8 (PreOf R mc ms Pc) (PostOf Qc mc ms free) (vx_Post XC mc ms free) := vx_backW (hh := hh) (bytes := bytes) (maxL := maxL) (ret := ret) hM hp.1 hrc hrs hfr hlo hws hcw (fun a' U hW => word_at hW (Or.inl (by first | rfl | simp [Cond.onTables, Cond.keeps, Cond.steady])) hini)
  obtain ⟨hx, hb, hml, ho, -⟩ := S
  obtain ⟨-, ⟨cellB, hcB, hoB, hclB⟩, hPc⟩ := hp
  intro T hT X
  rcases vx_callVX X hx (C := C) (hh := hh) (bytes := bytes) (maxL := maxL) (ret := ret) ho hl hin hse hcode hy hK (by rw [hT]; exact hcB) hoB hclB hg (hsize.trans hml.symm) (argsL := As) (rest := rest) (fun sig h => hn.trans (hlen sig h)) hstack hW (by rw [hb]; exact hdg)
    (fun vm₁ hW₁ => ⟨hf.1, hf.2, hPc (T.setVm vm₁) hT hW₁⟩) with ⟨v, vm₁, ⟨U', l2, c2, s2⟩, hW₁, X', ⟨g', mk, t, L, e1, e2, hq, h1, hL, h2, h3⟩, st⟩ | ⟨q, vm₁, ⟨U', l2, c2, s2⟩, hW₁, X', ⟨g', mk, t, L, E, ce, e1, e2, hq, hce, hcv, hcl, h1, hL, h2, h3⟩, st⟩
  · dsimp only [Pt.U, Pt.locs, Pt.cells, Pt.slots] at X' e1 e2 h1 h2 h3 st
    subst h1; subst h2; subst h3
    exact Or.inl ⟨v, (T.setVm vm₁).calling g' mk (Value.ref b :: As).toArray, t, U', L, hT, X', hL, e1, e2, hq, st⟩
  · dsimp only [Pt.U, Pt.locs, Pt.cells, Pt.slots] at X' e1 e2 h1 h2 h3 st hcl
    subst h1; subst h2; subst h3
    exact Or.inr ⟨q, (T.setVm vm₁).calling g' mk (Value.ref b :: As).toArray, t, U', L, E, ce, hT, X', hL, e1, e2, hq, hce, hcv, vx_cls hW₁ hcl, st⟩
theorem vx_runSX {hh : List (Nat × Nat × Nat × Nat)} (S : CallFix p m c cc nL s args Ts own) (hM : vx_Met l y ws rm Pc Qc XC mc ms free) (cw : vx_CSW R s args own index y bytes maxL ret hh ws rm mc ms n) (hp : PreS s H Pc As)
    (hg : g.method = m) (hn : As.length = n) (hsize : g.locals.size = nL) (hstack : g.stack = As.reverse ++ rest) (hW : 2 * g.monitorRoom + (rest.map fun v => v.category).sum ≤ 8) (hdg : decode cc g.pc = .ok (.invokestatic index, 3)) (hf : cells + mc ≤ R.cells ∧ slots + ms ≤ R.slots) :
    vx_Run p l e R s m args below meth c H locs cells slots mc ms g rest (Qc As.toArray) XC free := by
  obtain ⟨⟨hrc, hrs, hfr, hlo, hws, hcw⟩, hcode, hini, hy, hlen, hl, hstt⟩ := cw
  have hK : vx_Back l R p e below s args y 3 8 (PreOf R mc ms Pc) (PostOf Qc mc ms free) (vx_Post XC mc ms free) := vx_backW (hh := hh) (bytes := bytes) (maxL := maxL) (ret := ret) hM hp.1 hrc hrs hfr hlo hws hcw (fun a' U hW => word_at hW (Or.inl (by first | rfl | simp [Cond.onTables, Cond.keeps, Cond.steady])) hini)
  obtain ⟨hx, hb, hml, ho, -⟩ := S
  intro T hT X
  rcases vx_callSX X hx (hh := hh) (bytes := bytes) (maxL := maxL) (ret := ret) ho hl hstt hini hcode hy hK hg (hsize.trans hml.symm) (argsL := As) (rest := rest) (fun sig h => hn.trans (hlen sig h)) hstack hW (by rw [hb]; exact hdg)
    (fun vm₁ hW₁ => ⟨hf.1, hf.2, hp.2 (T.setVm vm₁) hT hW₁⟩) with ⟨v, vm₁, ⟨U', l2, c2, s2⟩, hW₁, X', ⟨g', mk, t, L, e1, e2, hq, h1, hL, h2, h3⟩, st⟩ | ⟨q, vm₁, ⟨U', l2, c2, s2⟩, hW₁, X', ⟨g', mk, t, L, E, ce, e1, e2, hq, hce, hcv, hcl, h1, hL, h2, h3⟩, st⟩
  · dsimp only [Pt.U, Pt.locs, Pt.cells, Pt.slots] at X' e1 e2 h1 h2 h3 st
    subst h1; subst h2; subst h3
    exact Or.inl ⟨v, (T.setVm vm₁).calling g' mk As.toArray, t, U', L, hT, X', hL, e1, e2, hq, st⟩
  · dsimp only [Pt.U, Pt.locs, Pt.cells, Pt.slots] at X' e1 e2 h1 h2 h3 st hcl
    subst h1; subst h2; subst h3
    exact Or.inr ⟨q, (T.setVm vm₁).calling g' mk As.toArray, t, U', L, E, ce, hT, X', hL, e1, e2, hq, hce, hcv, vx_cls hW₁ hcl, st⟩
end
end VXH
theorem vx_ofWH {l : Launch} {y : MethodName} {ws ws' : List Cond} {rm : Room} {Pc : Array Value → State → Prop} {Qc : Array Value → State → Outcome → State → Prop} {XC : String → State → State → Prop} {mc ms : Nat} {free : Addr → Prop} {cc : ByteArray} {maxL : Nat} {ret : Option FieldType} {hh : List (Nat × Nat × Nat × Nat)}
    (hy : plainName y.cls = true) (hw : ws = Cond.codeWith y cc maxL ret hh :: ws')
    (body : ∀ p e s m args below meth c s₁, BodyLoose p l y (headSpec ws rm) cc maxL ret e s m args below meth c s₁ → c.maxLocals = maxL → Pc args s →
      W p l e (headSpec ws rm).room s m args below meth c s.heap [] 0 0 (vx_MQ below Qc XC args s mc ms free) (entryFrame m args maxL)) : vx_Met l y ws rm Pc Qc XC mc ms free := by
  refine MetFree.of_bodyS (code := cc) (maxLocals := maxL) (ret := ret) hy ?_ ?_
  · intro args s m h hn
    obtain ⟨m9, meth, c, hn9, h1, h2, h3, h4, -, h5, h6, -⟩ := Cond.codeWith_spec (atoms_spec (ws := ws) h _ (by rw [hw]; exact List.mem_cons_self))
    cases hn.symm.trans hn9
    exact ⟨meth, c, h1, h2, h3, h4, h5, h6⟩
  · intro p e s m args below meth c s₁ B hml hP _
    have hh0 : s₁.heap = s.heap := by rw [B.state]; rfl
    obtain ⟨t, a1, o, b1, b2, b3⟩ := body p e s m args below meth c s₁ B hml hP s₁ hh0 (Stand.of_body B)
    exact ⟨t, o, a1, b1, b2, b3⟩
/-! ===== END ===== -/
end
section
def RX0 : String := "FrameBroker$Task"
def TX0 : u_T := fun k => match k with
  | 0 => ("FrameBroker$Task", "period", "I", true)
  | 1 => ("FrameBroker$Task", "cost", "I", true)
  | 2 => ("FrameBroker$Task", "slowness", "I", false)
  | 3 => ("FrameBroker$Task", "missed", "I", false)
  | 4 => ("FrameBroker$Task", "inTime", "I", false)
  | 5 => ("FrameBroker$Task", "nextDue", "I", false)
  | 6 => ("FrameBroker$Task", "isUnderWay", "Z", false)
  | 7 => ("FrameBroker$Task", "slices", "I", false)
  | _ => ("FrameBroker$Task", "lastTick", "I", false)
def tyX0 : Nat → FieldType := fun k => match k with
  | 0 => .int
  | 1 => .int
  | 2 => .int
  | 3 => .int
  | 4 => .int
  | 5 => .int
  | 6 => .boolean
  | 7 => .int
  | _ => .int
abbrev wsX00 : List Cond := u_ws RX0 TX0 9
theorem nmX0 : ∀ a, a < 9 → ∀ b, b < 9 → a ≠ b → (TX0 a).2.1 ≠ (TX0 b).2.1 := by decide +kernel
theorem tyX0_ok : ∀ k, k < 9 → parseFieldDescriptor (TX0 k).2.2.1 = some (tyX0 k) := by decide +kernel
abbrev cX0_init : ByteArray := prog_2_method_1_code
def yX0_init : MethodName := ⟨RX0, "<init>", "(III)V"⟩
abbrev cX0_begin : ByteArray := prog_2_method_2_code
def yX0_begin : MethodName := ⟨RX0, "begin", "(I)V"⟩
abbrev cX0_beginIfDue : ByteArray := prog_2_method_3_code
def yX0_beginIfDue : MethodName := ⟨RX0, "beginIfDue", "(I)V"⟩
abbrev cX0_drop : ByteArray := prog_2_method_4_code
def yX0_drop : MethodName := ⟨RX0, "drop", "(I)V"⟩
abbrev cX0_hurry : ByteArray := prog_2_method_5_code
def yX0_hurry : MethodName := ⟨RX0, "hurry", "(I)V"⟩
abbrev cX0_finish : ByteArray := prog_2_method_6_code
def yX0_finish : MethodName := ⟨RX0, "finish", "()V"⟩
abbrev cX0_miss : ByteArray := prog_2_method_7_code
def yX0_miss : MethodName := ⟨RX0, "miss", "()V"⟩
def RX1 : String := "FrameBroker$Window"
def TX1 : u_T := fun k => match k with
  | 0 => ("FrameBroker$Window", "number", "I", true)
  | 1 => ("FrameBroker$Window", "column", "I", false)
  | 2 => ("FrameBroker$Window", "row", "I", false)
  | 3 => ("FrameBroker$Window", "width", "I", true)
  | 4 => ("FrameBroker$Window", "height", "I", true)
  | 5 => ("FrameBroker$Window", "isClear", "Z", true)
  | 6 => ("FrameBroker$Window", "task", "LFrameBroker$Task;", true)
  | 7 => ("FrameBroker$Window", "isOnScreen", "Z", false)
  | 8 => ("FrameBroker$Window", "hasSurface", "Z", false)
  | _ => ("FrameBroker$Window", "framesShown", "I", false)
def tyX1 : Nat → FieldType := fun k => match k with
  | 0 => .int
  | 1 => .int
  | 2 => .int
  | 3 => .int
  | 4 => .int
  | 5 => .boolean
  | 6 => .object "FrameBroker$Task"
  | 7 => .boolean
  | 8 => .boolean
  | _ => .int
abbrev wsX10 : List Cond := u_ws RX1 TX1 10
theorem nmX1 : ∀ a, a < 10 → ∀ b, b < 10 → a ≠ b → (TX1 a).2.1 ≠ (TX1 b).2.1 := by decide +kernel
theorem tyX1_ok : ∀ k, k < 10 → parseFieldDescriptor (TX1 k).2.2.1 = some (tyX1 k) := by decide +kernel
abbrev cX1_init : ByteArray := prog_3_method_1_code
def yX1_init : MethodName := ⟨RX1, "<init>", "(IIIIIZLFrameBroker$Task;)V"⟩
abbrev cX1_covers : ByteArray := prog_3_method_2_code
def yX1_covers : MethodName := ⟨RX1, "covers", "(II)Z"⟩
abbrev cX1_pagesNeeded : ByteArray := prog_3_method_3_code
def yX1_pagesNeeded : MethodName := ⟨RX1, "pagesNeeded", "()I"⟩
abbrev cX1_pagesHeld : ByteArray := prog_3_method_4_code
def yX1_pagesHeld : MethodName := ⟨RX1, "pagesHeld", "()I"⟩
abbrev cX1_loseSurface : ByteArray := prog_3_method_5_code
def yX1_loseSurface : MethodName := ⟨RX1, "loseSurface", "(I)V"⟩
def RX2 : String := "FrameBroker$WindowList"
def TX2 : u_T := fun k => match k with
  | 0 => ("FrameBroker$WindowList", "items", "[LFrameBroker$Window;", true)
  | _ => ("FrameBroker$WindowList", "size", "I", false)
def tyX2 : Nat → FieldType := fun k => match k with
  | 0 => .array (.object "FrameBroker$Window")
  | _ => .int
abbrev wsX20 : List Cond := u_ws RX2 TX2 2
theorem nmX2 : ∀ a, a < 2 → ∀ b, b < 2 → a ≠ b → (TX2 a).2.1 ≠ (TX2 b).2.1 := by decide +kernel
theorem tyX2_ok : ∀ k, k < 2 → parseFieldDescriptor (TX2 k).2.2.1 = some (tyX2 k) := by decide +kernel
abbrev cX2_init : ByteArray := prog_4_method_1_code
def yX2_init : MethodName := ⟨RX2, "<init>", "()V"⟩
abbrev cX2_count : ByteArray := prog_4_method_2_code
def yX2_count : MethodName := ⟨RX2, "count", "()I"⟩
abbrev cX2_get : ByteArray := prog_4_method_3_code
def yX2_get : MethodName := ⟨RX2, "get", "(I)LFrameBroker$Window;"⟩
abbrev cX2_indexOf : ByteArray := prog_4_method_4_code
def yX2_indexOf : MethodName := ⟨RX2, "indexOf", "(I)I"⟩
abbrev cX2_topmostOver : ByteArray := prog_4_method_5_code
def yX2_topmostOver : MethodName := ⟨RX2, "topmostOver", "(II)LFrameBroker$Window;"⟩
abbrev cX2_addLast : ByteArray := prog_4_method_6_code
def yX2_addLast : MethodName := ⟨RX2, "addLast", "(LFrameBroker$Window;)V"⟩
abbrev cX2_addFirst : ByteArray := prog_4_method_7_code
def yX2_addFirst : MethodName := ⟨RX2, "addFirst", "(LFrameBroker$Window;)V"⟩
abbrev cX2_remove : ByteArray := prog_4_method_8_code
def yX2_remove : MethodName := ⟨RX2, "remove", "(I)V"⟩
def RX3 : String := "FrameBroker"
def TX3 : u_T := fun k => match k with
  | 0 => ("FrameBroker", "byNumber", "LFrameBroker$WindowList;", true)
  | 1 => ("FrameBroker", "stack", "LFrameBroker$WindowList;", true)
  | 2 => ("FrameBroker", "topmost", "[LFrameBroker$Window;", true)
  | 3 => ("FrameBroker", "lastWindows", "[I", true)
  | 4 => ("FrameBroker", "lastPictures", "[I", true)
  | 5 => ("FrameBroker", "opened", "I", false)
  | 6 => ("FrameBroker", "freePages", "I", false)
  | _ => ("FrameBroker", "now", "I", false)
def tyX3 : Nat → FieldType := fun k => match k with
  | 0 => .object "FrameBroker$WindowList"
  | 1 => .object "FrameBroker$WindowList"
  | 2 => .array (.object "FrameBroker$Window")
  | 3 => .array .int
  | 4 => .array .int
  | 5 => .int
  | 6 => .int
  | _ => .int
abbrev wsX30 : List Cond := u_ws RX3 TX3 8
theorem nmX3 : ∀ a, a < 8 → ∀ b, b < 8 → a ≠ b → (TX3 a).2.1 ≠ (TX3 b).2.1 := by decide +kernel
theorem tyX3_ok : ∀ k, k < 8 → parseFieldDescriptor (TX3 k).2.2.1 = some (tyX3 k) := by decide +kernel
abbrev cX3_init : ByteArray := prog_1_method_1_code
def yX3_init : MethodName := ⟨RX3, "<init>", "()V"⟩
abbrev cX3_open : ByteArray := prog_1_method_2_code
def yX3_open : MethodName := ⟨RX3, "open", "(IIIIZII)I"⟩
abbrev cX3_close : ByteArray := prog_1_method_3_code
def yX3_close : MethodName := ⟨RX3, "close", "(I)I"⟩
abbrev cX3_move : ByteArray := prog_1_method_4_code
def yX3_move : MethodName := ⟨RX3, "move", "(III)V"⟩
abbrev cX3_lay : ByteArray := prog_1_method_5_code
def yX3_lay : MethodName := ⟨RX3, "lay", "(IZ)I"⟩
abbrev cX3_advance : ByteArray := prog_1_method_6_code
def yX3_advance : MethodName := ⟨RX3, "advance", "(I)I"⟩
abbrev cX3_input : ByteArray := prog_1_method_7_code
def yX3_input : MethodName := ⟨RX3, "input", "(II)I"⟩
abbrev cX3_show : ByteArray := prog_1_method_8_code
def yX3_show : MethodName := ⟨RX3, "show", "()I"⟩
abbrev cX3_tick : ByteArray := prog_1_method_9_code
def yX3_tick : MethodName := ⟨RX3, "tick", "()I"⟩
abbrev cX3_windows : ByteArray := prog_1_method_10_code
def yX3_windows : MethodName := ⟨RX3, "windows", "()I"⟩
abbrev cX3_free : ByteArray := prog_1_method_11_code
def yX3_free : MethodName := ⟨RX3, "free", "()I"⟩
abbrev cX3_damage : ByteArray := prog_1_method_12_code
def yX3_damage : MethodName := ⟨RX3, "damage", "()I"⟩
abbrev cX3_at : ByteArray := prog_1_method_13_code
def yX3_at : MethodName := ⟨RX3, "at", "(II)I"⟩
abbrev cX3_placeOf : ByteArray := prog_1_method_14_code
def yX3_placeOf : MethodName := ⟨RX3, "placeOf", "(I)I"⟩
abbrev cX3_isSeen : ByteArray := prog_1_method_15_code
def yX3_isSeen : MethodName := ⟨RX3, "isSeen", "(I)Z"⟩
abbrev cX3_pagesOf : ByteArray := prog_1_method_16_code
def yX3_pagesOf : MethodName := ⟨RX3, "pagesOf", "(I)I"⟩
abbrev cX3_picture : ByteArray := prog_1_method_17_code
def yX3_picture : MethodName := ⟨RX3, "picture", "(I)I"⟩
abbrev cX3_pace : ByteArray := prog_1_method_18_code
def yX3_pace : MethodName := ⟨RX3, "pace", "(I)I"⟩
abbrev cX3_misses : ByteArray := prog_1_method_19_code
def yX3_misses : MethodName := ⟨RX3, "misses", "(I)I"⟩
abbrev cX3_deadline : ByteArray := prog_1_method_20_code
def yX3_deadline : MethodName := ⟨RX3, "deadline", "(I)I"⟩
abbrev cX3_find : ByteArray := prog_1_method_21_code
def yX3_find : MethodName := ⟨RX3, "find", "(I)LFrameBroker$Window;"⟩
abbrev cX3_findTopmost : ByteArray := prog_1_method_22_code
def yX3_findTopmost : MethodName := ⟨RX3, "findTopmost", "(II)LFrameBroker$Window;"⟩
abbrev cX3_numberOf : ByteArray := prog_1_method_23_code
def yX3_numberOf : MethodName := ⟨RX3, "numberOf", "(LFrameBroker$Window;)I"⟩
abbrev cX3_pictureOf : ByteArray := prog_1_method_24_code
def yX3_pictureOf : MethodName := ⟨RX3, "pictureOf", "(LFrameBroker$Window;)I"⟩
abbrev cX3_isCell : ByteArray := prog_1_method_25_code
def yX3_isCell : MethodName := ⟨RX3, "isCell", "(II)Z"⟩
abbrev cX3_fits : ByteArray := prog_1_method_26_code
def yX3_fits : MethodName := ⟨RX3, "fits", "(IIII)Z"⟩
abbrev cX3_rearrange : ByteArray := prog_1_method_27_code
def yX3_rearrange : MethodName := ⟨RX3, "rearrange", "()V"⟩
abbrev cX3_lookAtScreen : ByteArray := prog_1_method_28_code
def yX3_lookAtScreen : MethodName := ⟨RX3, "lookAtScreen", "()V"⟩
abbrev cX3_countDamage : ByteArray := prog_1_method_29_code
def yX3_countDamage : MethodName := ⟨RX3, "countDamage", "()I"⟩
abbrev cX3_rememberScreen : ByteArray := prog_1_method_30_code
def yX3_rememberScreen : MethodName := ⟨RX3, "rememberScreen", "()V"⟩
abbrev cX3_putOnTop : ByteArray := prog_1_method_31_code
def yX3_putOnTop : MethodName := ⟨RX3, "putOnTop", "(LFrameBroker$Window;)Z"⟩
abbrev cX3_lendToSeen : ByteArray := prog_1_method_32_code
def yX3_lendToSeen : MethodName := ⟨RX3, "lendToSeen", "()V"⟩
abbrev cX3_lend : ByteArray := prog_1_method_33_code
def yX3_lend : MethodName := ⟨RX3, "lend", "(LFrameBroker$Window;)Z"⟩
abbrev cX3_pagesOfUnseen : ByteArray := prog_1_method_34_code
def yX3_pagesOfUnseen : MethodName := ⟨RX3, "pagesOfUnseen", "()I"⟩
abbrev cX3_takeBackUntilFree : ByteArray := prog_1_method_35_code
def yX3_takeBackUntilFree : MethodName := ⟨RX3, "takeBackUntilFree", "(I)V"⟩
abbrev cX3_passTick : ByteArray := prog_1_method_36_code
def yX3_passTick : MethodName := ⟨RX3, "passTick", "()V"⟩
abbrev cX3_beginFrames : ByteArray := prog_1_method_37_code
def yX3_beginFrames : MethodName := ⟨RX3, "beginFrames", "()V"⟩
abbrev cX3_mostUrgent : ByteArray := prog_1_method_38_code
def yX3_mostUrgent : MethodName := ⟨RX3, "mostUrgent", "()LFrameBroker$Window;"⟩
abbrev cX3_countMisses : ByteArray := prog_1_method_39_code
def yX3_countMisses : MethodName := ⟨RX3, "countMisses", "()V"⟩
def RX4 : String := "FrameBrokerModel"
def TX4 : u_T := fun k => match k with
  | 0 => ("FrameBrokerModel", "refusal", "I", false)
  | 1 => ("FrameBrokerModel", "tick", "I", false)
  | 2 => ("FrameBrokerModel", "opened", "I", false)
  | 3 => ("FrameBrokerModel", "many", "I", false)
  | 4 => ("FrameBrokerModel", "stack", "[I", true)
  | 5 => ("FrameBrokerModel", "columns", "[I", true)
  | 6 => ("FrameBrokerModel", "rows", "[I", true)
  | 7 => ("FrameBrokerModel", "widths", "[I", true)
  | 8 => ("FrameBrokerModel", "heights", "[I", true)
  | 9 => ("FrameBrokerModel", "isClear", "[Z", true)
  | 10 => ("FrameBrokerModel", "periods", "[I", true)
  | 11 => ("FrameBrokerModel", "costs", "[I", true)
  | 12 => ("FrameBrokerModel", "hasSurface", "[Z", true)
  | 13 => ("FrameBrokerModel", "pictures", "[I", true)
  | 14 => ("FrameBrokerModel", "paces", "[I", true)
  | 15 => ("FrameBrokerModel", "misses", "[I", true)
  | 16 => ("FrameBrokerModel", "inTime", "[I", true)
  | 17 => ("FrameBrokerModel", "dues", "[I", true)
  | 18 => ("FrameBrokerModel", "deadlines", "[I", true)
  | 19 => ("FrameBrokerModel", "slices", "[I", true)
  | 20 => ("FrameBrokerModel", "shownWindows", "[I", true)
  | _ => ("FrameBrokerModel", "shownPictures", "[I", true)
def tyX4 : Nat → FieldType := fun k => match k with
  | 0 => .int
  | 1 => .int
  | 2 => .int
  | 3 => .int
  | 4 => .array .int
  | 5 => .array .int
  | 6 => .array .int
  | 7 => .array .int
  | 8 => .array .int
  | 9 => .array .boolean
  | 10 => .array .int
  | 11 => .array .int
  | 12 => .array .boolean
  | 13 => .array .int
  | 14 => .array .int
  | 15 => .array .int
  | 16 => .array .int
  | 17 => .array .int
  | 18 => .array .int
  | 19 => .array .int
  | 20 => .array .int
  | _ => .array .int
abbrev wsX40 : List Cond := u_ws RX4 TX4 22
theorem nmX4 : ∀ a, a < 22 → ∀ b, b < 22 → a ≠ b → (TX4 a).2.1 ≠ (TX4 b).2.1 := by decide +kernel
theorem tyX4_ok : ∀ k, k < 22 → parseFieldDescriptor (TX4 k).2.2.1 = some (tyX4 k) := by decide +kernel
abbrev cX4_init : ByteArray := prog_6_method_1_code
def yX4_init : MethodName := ⟨RX4, "<init>", "()V"⟩
abbrev cX4_thrown : ByteArray := prog_6_method_2_code
def yX4_thrown : MethodName := ⟨RX4, "thrown", "()I"⟩
abbrev cX4_refused : ByteArray := prog_6_method_3_code
def yX4_refused : MethodName := ⟨RX4, "refused", "(I)Z"⟩
abbrev cX4_fine : ByteArray := prog_6_method_4_code
def yX4_fine : MethodName := ⟨RX4, "fine", "(I)I"⟩
abbrev cX4_in : ByteArray := prog_6_method_5_code
def yX4_in : MethodName := ⟨RX4, "in", "(III)Z"⟩
abbrev cX4_placeIn : ByteArray := prog_6_method_6_code
def yX4_placeIn : MethodName := ⟨RX4, "placeIn", "(I)I"⟩
abbrev cX4_noWindow : ByteArray := prog_6_method_7_code
def yX4_noWindow : MethodName := ⟨RX4, "noWindow", "(I)Z"⟩
abbrev cX4_covers : ByteArray := prog_6_method_8_code
def yX4_covers : MethodName := ⟨RX4, "covers", "(III)Z"⟩
abbrev cX4_shownAt : ByteArray := prog_6_method_9_code
def yX4_shownAt : MethodName := ⟨RX4, "shownAt", "(II)I"⟩
abbrev cX4_isShown : ByteArray := prog_6_method_10_code
def yX4_isShown : MethodName := ⟨RX4, "isShown", "(I)Z"⟩
abbrev cX4_need : ByteArray := prog_6_method_11_code
def yX4_need : MethodName := ⟨RX4, "need", "(I)I"⟩
abbrev cX4_freePages : ByteArray := prog_6_method_12_code
def yX4_freePages : MethodName := ⟨RX4, "freePages", "()I"⟩
abbrev cX4_drop : ByteArray := prog_6_method_13_code
def yX4_drop : MethodName := ⟨RX4, "drop", "(I)V"⟩
abbrev cX4_lose : ByteArray := prog_6_method_14_code
def yX4_lose : MethodName := ⟨RX4, "lose", "(I)V"⟩
abbrev cX4_canLose : ByteArray := prog_6_method_15_code
def yX4_canLose : MethodName := ⟨RX4, "canLose", "(II)Z"⟩
abbrev cX4_lend : ByteArray := prog_6_method_16_code
def yX4_lend : MethodName := ⟨RX4, "lend", "(I)Z"⟩
abbrev cX4_lendAll : ByteArray := prog_6_method_17_code
def yX4_lendAll : MethodName := ⟨RX4, "lendAll", "()V"⟩
abbrev cX4_open : ByteArray := prog_6_method_18_code
def yX4_open : MethodName := ⟨RX4, "open", "(IIIIZII)I"⟩
abbrev cX4_frame : ByteArray := prog_6_method_19_code
def yX4_frame : MethodName := ⟨RX4, "frame", "(IIII)V"⟩
abbrev cX4_close : ByteArray := prog_6_method_20_code
def yX4_close : MethodName := ⟨RX4, "close", "(I)I"⟩
abbrev cX4_move : ByteArray := prog_6_method_21_code
def yX4_move : MethodName := ⟨RX4, "move", "(III)V"⟩
abbrev cX4_lay : ByteArray := prog_6_method_22_code
def yX4_lay : MethodName := ⟨RX4, "lay", "(IZ)I"⟩
abbrev cX4_begin : ByteArray := prog_6_method_23_code
def yX4_begin : MethodName := ⟨RX4, "begin", "(II)V"⟩
abbrev cX4_start : ByteArray := prog_6_method_24_code
def yX4_start : MethodName := ⟨RX4, "start", "()V"⟩
abbrev cX4_earliest : ByteArray := prog_6_method_25_code
def yX4_earliest : MethodName := ⟨RX4, "earliest", "()I"⟩
abbrev cX4_finish : ByteArray := prog_6_method_26_code
def yX4_finish : MethodName := ⟨RX4, "finish", "(I)V"⟩
abbrev cX4_miss : ByteArray := prog_6_method_27_code
def yX4_miss : MethodName := ⟨RX4, "miss", "(I)V"⟩
abbrev cX4_pass : ByteArray := prog_6_method_28_code
def yX4_pass : MethodName := ⟨RX4, "pass", "()V"⟩
abbrev cX4_advance : ByteArray := prog_6_method_29_code
def yX4_advance : MethodName := ⟨RX4, "advance", "(I)I"⟩
abbrev cX4_noCell : ByteArray := prog_6_method_30_code
def yX4_noCell : MethodName := ⟨RX4, "noCell", "(II)Z"⟩
abbrev cX4_input : ByteArray := prog_6_method_31_code
def yX4_input : MethodName := ⟨RX4, "input", "(II)I"⟩
abbrev cX4_countDamage : ByteArray := prog_6_method_32_code
def yX4_countDamage : MethodName := ⟨RX4, "countDamage", "()I"⟩
abbrev cX4_show : ByteArray := prog_6_method_33_code
def yX4_show : MethodName := ⟨RX4, "show", "()I"⟩
abbrev cX4_tick : ByteArray := prog_6_method_34_code
def yX4_tick : MethodName := ⟨RX4, "tick", "()I"⟩
abbrev cX4_windows : ByteArray := prog_6_method_35_code
def yX4_windows : MethodName := ⟨RX4, "windows", "()I"⟩
abbrev cX4_free : ByteArray := prog_6_method_36_code
def yX4_free : MethodName := ⟨RX4, "free", "()I"⟩
abbrev cX4_damage : ByteArray := prog_6_method_37_code
def yX4_damage : MethodName := ⟨RX4, "damage", "()I"⟩
abbrev cX4_at : ByteArray := prog_6_method_38_code
def yX4_at : MethodName := ⟨RX4, "at", "(II)I"⟩
abbrev cX4_placeOf : ByteArray := prog_6_method_39_code
def yX4_placeOf : MethodName := ⟨RX4, "placeOf", "(I)I"⟩
abbrev cX4_isSeen : ByteArray := prog_6_method_40_code
def yX4_isSeen : MethodName := ⟨RX4, "isSeen", "(I)Z"⟩
abbrev cX4_pagesOf : ByteArray := prog_6_method_41_code
def yX4_pagesOf : MethodName := ⟨RX4, "pagesOf", "(I)I"⟩
abbrev cX4_picture : ByteArray := prog_6_method_42_code
def yX4_picture : MethodName := ⟨RX4, "picture", "(I)I"⟩
abbrev cX4_pace : ByteArray := prog_6_method_43_code
def yX4_pace : MethodName := ⟨RX4, "pace", "(I)I"⟩
abbrev cX4_misses : ByteArray := prog_6_method_44_code
def yX4_misses : MethodName := ⟨RX4, "misses", "(I)I"⟩
abbrev cX4_deadline : ByteArray := prog_6_method_45_code
def yX4_deadline : MethodName := ⟨RX4, "deadline", "(I)I"⟩
def RJ0 : String := "java/lang/String"
def TJ0 : u_T := fun k => match k with
  | _ => ("", "", "", false)
def tyJ0 : Nat → FieldType := fun k => match k with
  | _ => .int
theorem nmJ0 : ∀ a, a < 0 → ∀ b, b < 0 → a ≠ b → (TJ0 a).2.1 ≠ (TJ0 b).2.1 := by decide +kernel
theorem tyJ0_ok : ∀ k, k < 0 → parseFieldDescriptor (TJ0 k).2.2.1 = some (tyJ0 k) := by decide +kernel
def RL : String := "FrameBrokerLaw"
abbrev cL_open : ByteArray := method_3_code
def yL_open : MethodName := ⟨RL, "open", "(LFrameBroker;IIIIZII[J)I"⟩
abbrev cL_close : ByteArray := method_4_code
def yL_close : MethodName := ⟨RL, "close", "(LFrameBroker;I[J)I"⟩
abbrev cL_move : ByteArray := method_5_code
def yL_move : MethodName := ⟨RL, "move", "(LFrameBroker;III)I"⟩
abbrev cL_lay : ByteArray := method_6_code
def yL_lay : MethodName := ⟨RL, "lay", "(LFrameBroker;IZ[J)I"⟩
abbrev cL_advance : ByteArray := method_7_code
def yL_advance : MethodName := ⟨RL, "advance", "(LFrameBroker;I[J)I"⟩
abbrev cL_input : ByteArray := method_8_code
def yL_input : MethodName := ⟨RL, "input", "(LFrameBroker;II[J)I"⟩
abbrev cL_at : ByteArray := method_9_code
def yL_at : MethodName := ⟨RL, "at", "(LFrameBroker;II[J)I"⟩
abbrev cL_placeOf : ByteArray := method_10_code
def yL_placeOf : MethodName := ⟨RL, "placeOf", "(LFrameBroker;I[J)I"⟩
abbrev cL_isSeen : ByteArray := method_11_code
def yL_isSeen : MethodName := ⟨RL, "isSeen", "(LFrameBroker;I[J)I"⟩
abbrev cL_pagesOf : ByteArray := method_12_code
def yL_pagesOf : MethodName := ⟨RL, "pagesOf", "(LFrameBroker;I[J)I"⟩
abbrev cL_picture : ByteArray := method_13_code
def yL_picture : MethodName := ⟨RL, "picture", "(LFrameBroker;I[J)I"⟩
abbrev cL_pace : ByteArray := method_14_code
def yL_pace : MethodName := ⟨RL, "pace", "(LFrameBroker;I[J)I"⟩
abbrev cL_misses : ByteArray := method_15_code
def yL_misses : MethodName := ⟨RL, "misses", "(LFrameBroker;I[J)I"⟩
abbrev cL_deadline : ByteArray := method_16_code
def yL_deadline : MethodName := ⟨RL, "deadline", "(LFrameBroker;I[J)I"⟩
abbrev cL_law : ByteArray := code
def yL_law : MethodName := ⟨RL, "law", "([I)Z"⟩
def wsX0_init : List Cond := .code yX0_init cX0_init 4 none :: ([.methodLink RX0 3 objectInit, .instanceMethod objectInit, .code objectInit ⟨#[0xb1]⟩ 1 none, .fieldLink RX0 9 "FrameBroker$Task" "period" "I", .fieldLink RX0 15 "FrameBroker$Task" "cost" "I", .fieldLink RX0 18 "FrameBroker$Task" "slowness" "I", .fieldLink RX0 21 "FrameBroker$Task" "missed" "I", .fieldLink RX0 24 "FrameBroker$Task" "inTime" "I", .fieldLink RX0 27 "FrameBroker$Task" "nextDue" "I", .fieldLink RX0 30 "FrameBroker$Task" "isUnderWay" "Z", .fieldLink RX0 34 "FrameBroker$Task" "slices" "I", .fieldLink RX0 37 "FrameBroker$Task" "lastTick" "I"] ++ wsX00)
def wsX0_begin : List Cond := .code yX0_begin cX0_begin 2 none :: ([.fieldLink RX0 30 "FrameBroker$Task" "isUnderWay" "Z", .fieldLink RX0 34 "FrameBroker$Task" "slices" "I", .fieldLink RX0 37 "FrameBroker$Task" "lastTick" "I"] ++ wsX00)
def wsX0_beginIfDue : List Cond := .code yX0_beginIfDue cX0_beginIfDue 2 none :: ([.fieldLink RX0 30 "FrameBroker$Task" "isUnderWay" "Z", .fieldLink RX0 27 "FrameBroker$Task" "nextDue" "I", .fieldLink RX0 9 "FrameBroker$Task" "period" "I", .fieldLink RX0 18 "FrameBroker$Task" "slowness" "I", .methodLink RX0 40 yX0_begin, .instanceMethod yX0_begin, .selects RX0 yX0_begin yX0_begin, .initialized RX0, .code yX0_begin cX0_begin 2 none, .fieldLink RX0 34 "FrameBroker$Task" "slices" "I", .fieldLink RX0 37 "FrameBroker$Task" "lastTick" "I"] ++ wsX00)
def wsX0_drop : List Cond := .code yX0_drop cX0_drop 2 none :: ([.fieldLink RX0 30 "FrameBroker$Task" "isUnderWay" "Z", .fieldLink RX0 27 "FrameBroker$Task" "nextDue" "I"] ++ wsX00)
def wsX0_hurry : List Cond := .code yX0_hurry cX0_hurry 3 none :: ([.fieldLink RX0 9 "FrameBroker$Task" "period" "I", .fieldLink RX0 30 "FrameBroker$Task" "isUnderWay" "Z", .fieldLink RX0 37 "FrameBroker$Task" "lastTick" "I", .methodLink RX0 40 yX0_begin, .instanceMethod yX0_begin, .selects RX0 yX0_begin yX0_begin, .initialized RX0, .code yX0_begin cX0_begin 2 none, .fieldLink RX0 34 "FrameBroker$Task" "slices" "I"] ++ wsX00)
def wsX0_finish : List Cond := .code yX0_finish cX0_finish 1 none :: ([.fieldLink RX0 30 "FrameBroker$Task" "isUnderWay" "Z", .fieldLink RX0 37 "FrameBroker$Task" "lastTick" "I", .fieldLink RX0 27 "FrameBroker$Task" "nextDue" "I", .fieldLink RX0 24 "FrameBroker$Task" "inTime" "I", .fieldLink RX0 18 "FrameBroker$Task" "slowness" "I"] ++ wsX00)
def wsX0_miss : List Cond := .code yX0_miss cX0_miss 1 none :: ([.fieldLink RX0 21 "FrameBroker$Task" "missed" "I", .fieldLink RX0 24 "FrameBroker$Task" "inTime" "I", .fieldLink RX0 37 "FrameBroker$Task" "lastTick" "I", .fieldLink RX0 9 "FrameBroker$Task" "period" "I", .fieldLink RX0 18 "FrameBroker$Task" "slowness" "I"] ++ wsX00)
def wsX1_init : List Cond := .code yX1_init cX1_init 8 none :: ([.methodLink RX1 3 objectInit, .instanceMethod objectInit, .code objectInit ⟨#[0xb1]⟩ 1 none, .fieldLink RX1 9 "FrameBroker$Window" "number" "I", .fieldLink RX1 15 "FrameBroker$Window" "column" "I", .fieldLink RX1 18 "FrameBroker$Window" "row" "I", .fieldLink RX1 21 "FrameBroker$Window" "width" "I", .fieldLink RX1 24 "FrameBroker$Window" "height" "I", .fieldLink RX1 27 "FrameBroker$Window" "isClear" "Z", .fieldLink RX1 31 "FrameBroker$Window" "task" "LFrameBroker$Task;", .fieldLink RX1 35 "FrameBroker$Window" "isOnScreen" "Z", .fieldLink RX1 38 "FrameBroker$Window" "hasSurface" "Z", .fieldLink RX1 41 "FrameBroker$Window" "framesShown" "I"] ++ wsX10)
def wsX1_covers : List Cond := .code yX1_covers cX1_covers 3 (some .boolean) :: ([.fieldLink RX1 15 "FrameBroker$Window" "column" "I", .fieldLink RX1 21 "FrameBroker$Window" "width" "I", .fieldLink RX1 18 "FrameBroker$Window" "row" "I", .fieldLink RX1 24 "FrameBroker$Window" "height" "I", .fieldLink RX1 27 "FrameBroker$Window" "isClear" "Z"] ++ wsX10)
def wsX1_pagesNeeded : List Cond := .code yX1_pagesNeeded cX1_pagesNeeded 1 (some .int) :: ([.fieldLink RX1 21 "FrameBroker$Window" "width" "I", .fieldLink RX1 24 "FrameBroker$Window" "height" "I"] ++ wsX10)
def wsX1_pagesHeld : List Cond := .code yX1_pagesHeld cX1_pagesHeld 1 (some .int) :: ([.fieldLink RX1 38 "FrameBroker$Window" "hasSurface" "Z", .methodLink RX1 44 yX1_pagesNeeded, .instanceMethod yX1_pagesNeeded, .selects RX1 yX1_pagesNeeded yX1_pagesNeeded, .initialized RX1, .code yX1_pagesNeeded cX1_pagesNeeded 1 (some .int), .fieldLink RX1 21 "FrameBroker$Window" "width" "I", .fieldLink RX1 24 "FrameBroker$Window" "height" "I"] ++ wsX10)
def wsX1_loseSurface : List Cond := .code yX1_loseSurface cX1_loseSurface 2 none :: ([.fieldLink RX1 38 "FrameBroker$Window" "hasSurface" "Z", .fieldLink RX1 41 "FrameBroker$Window" "framesShown" "I", .fieldLink RX1 31 "FrameBroker$Window" "task" "LFrameBroker$Task;", .methodLink RX1 48 yX0_drop, .instanceMethod yX0_drop, .selects RX0 yX0_drop yX0_drop, .initialized RX0, .code yX0_drop cX0_drop 2 none, .fieldLink RX0 30 "FrameBroker$Task" "isUnderWay" "Z", .fieldLink RX0 27 "FrameBroker$Task" "nextDue" "I"] ++ wsX10 ++ wsX00)
def wsX2_init : List Cond := .code yX2_init cX2_init 1 none :: ([.methodLink RX2 3 objectInit, .instanceMethod objectInit, .code objectInit ⟨#[0xb1]⟩ 1 none, .classLink RX2 9 RX1, .fieldLink RX2 11 "FrameBroker$WindowList" "items" "[LFrameBroker$Window;", .fieldLink RX2 17 "FrameBroker$WindowList" "size" "I"] ++ wsX20)
def wsX2_count : List Cond := .code yX2_count cX2_count 1 (some .int) :: ([.fieldLink RX2 17 "FrameBroker$WindowList" "size" "I"] ++ wsX20)
def wsX2_get : List Cond := .code yX2_get cX2_get 2 (some (.object "FrameBroker$Window")) :: ([.fieldLink RX2 11 "FrameBroker$WindowList" "items" "[LFrameBroker$Window;"] ++ wsX20)
def wsX2_indexOf : List Cond := .code yX2_indexOf cX2_indexOf 4 (some .int) :: ([.fieldLink RX2 11 "FrameBroker$WindowList" "items" "[LFrameBroker$Window;", .fieldLink RX2 21 "FrameBroker$Window" "number" "I"] ++ wsX20 ++ wsX10)
def wsX2_topmostOver : List Cond := .code yX2_topmostOver cX2_topmostOver 5 (some (.object "FrameBroker$Window")) :: ([.fieldLink RX2 17 "FrameBroker$WindowList" "size" "I", .methodLink RX2 24 yX2_get, .instanceMethod yX2_get, .selects RX2 yX2_get yX2_get, .initialized RX2, .code yX2_get cX2_get 2 (some (.object "FrameBroker$Window")), .fieldLink RX2 11 "FrameBroker$WindowList" "items" "[LFrameBroker$Window;", .methodLink RX2 28 yX1_covers, .instanceMethod yX1_covers, .selects RX1 yX1_covers yX1_covers, .initialized RX1, .code yX1_covers cX1_covers 3 (some .boolean), .fieldLink RX1 15 "FrameBroker$Window" "column" "I", .fieldLink RX1 21 "FrameBroker$Window" "width" "I", .fieldLink RX1 18 "FrameBroker$Window" "row" "I", .fieldLink RX1 24 "FrameBroker$Window" "height" "I", .fieldLink RX1 27 "FrameBroker$Window" "isClear" "Z"] ++ wsX20 ++ wsX10)
def wsX2_addLast : List Cond := .code yX2_addLast cX2_addLast 2 none :: ([.fieldLink RX2 17 "FrameBroker$WindowList" "size" "I", .fieldLink RX2 11 "FrameBroker$WindowList" "items" "[LFrameBroker$Window;"] ++ wsX20)
def wsX2_addFirst : List Cond := .code yX2_addFirst cX2_addFirst 3 none :: ([.fieldLink RX2 17 "FrameBroker$WindowList" "size" "I", .fieldLink RX2 11 "FrameBroker$WindowList" "items" "[LFrameBroker$Window;"] ++ wsX20)
def wsX2_remove : List Cond := .code yX2_remove cX2_remove 4 none :: ([.fieldLink RX2 11 "FrameBroker$WindowList" "items" "[LFrameBroker$Window;", .fieldLink RX2 17 "FrameBroker$WindowList" "size" "I", .methodLink RX2 32 yX2_indexOf, .instanceMethod yX2_indexOf, .selects RX2 yX2_indexOf yX2_indexOf, .initialized RX2, .code yX2_indexOf cX2_indexOf 4 (some .int), .fieldLink RX2 21 "FrameBroker$Window" "number" "I"] ++ wsX20 ++ wsX10)
def wsX3_init : List Cond := .code yX3_init cX3_init 2 none :: ([.methodLink RX3 1 objectInit, .instanceMethod objectInit, .code objectInit ⟨#[0xb1]⟩ 1 none, .classLink RX3 7 RX2, .instantiable RX2 2, .initialized RX2, .fieldLink RX3 10 "FrameBroker" "byNumber" "LFrameBroker$WindowList;", .fieldLink RX3 16 "FrameBroker" "stack" "LFrameBroker$WindowList;", .classLink RX3 19 RX1, .fieldLink RX3 21 "FrameBroker" "topmost" "[LFrameBroker$Window;", .arrayClass .int, .fieldLink RX3 25 "FrameBroker" "lastWindows" "[I", .fieldLink RX3 29 "FrameBroker" "lastPictures" "[I", .fieldLink RX3 32 "FrameBroker" "opened" "I", .fieldLink RX3 36 "FrameBroker" "freePages" "I", .fieldLink RX3 39 "FrameBroker" "now" "I", .methodLink RX3 9 yX2_init, .instanceMethod yX2_init, .code yX2_init cX2_init 1 none, .methodLink RX2 3 objectInit, .classLink RX2 9 RX1, .fieldLink RX2 11 "FrameBroker$WindowList" "items" "[LFrameBroker$Window;", .fieldLink RX2 17 "FrameBroker$WindowList" "size" "I"] ++ wsX20 ++ wsX30)
def wsX3_isCell : List Cond := .code yX3_isCell cX3_isCell 2 (some .boolean) :: ([])
def wsX3_fits : List Cond := .code yX3_fits cX3_fits 4 (some .boolean) :: ([])
def wsX3_lookAtScreen_r1 : List Cond := [Cond.fieldLink RX3 16 "FrameBroker" "stack" "LFrameBroker$WindowList;", Cond.fieldLink RX3 158 "FrameBroker$Window" "isOnScreen" "Z", Cond.fieldLink RX3 21 "FrameBroker" "topmost" "[LFrameBroker$Window;", Cond.methodLink RX3 59 yX2_count, Cond.instanceMethod yX2_count, Cond.selects RX2 yX2_count yX2_count, Cond.initialized RX2, Cond.code yX2_count cX2_count 1 (some .int), Cond.fieldLink RX2 17 "FrameBroker$WindowList" "size" "I", Cond.methodLink RX3 176 yX2_get, Cond.instanceMethod yX2_get, Cond.selects RX2 yX2_get yX2_get, Cond.code yX2_get cX2_get 2 (some (.object "FrameBroker$Window")), Cond.fieldLink RX2 11 "FrameBroker$WindowList" "items" "[LFrameBroker$Window;", Cond.methodLink RX3 189 yX2_topmostOver, Cond.instanceMethod yX2_topmostOver, Cond.selects RX2 yX2_topmostOver yX2_topmostOver, Cond.code yX2_topmostOver cX2_topmostOver 5 (some (.object "FrameBroker$Window")), Cond.methodLink RX2 24 yX2_get, Cond.methodLink RX2 28 yX1_covers, Cond.instanceMethod yX1_covers, Cond.selects RX1 yX1_covers yX1_covers, Cond.initialized RX1, Cond.code yX1_covers cX1_covers 3 (some .boolean)]
def wsX3_lookAtScreen_r2 : List Cond := [Cond.fieldLink RX1 15 "FrameBroker$Window" "column" "I", Cond.fieldLink RX1 21 "FrameBroker$Window" "width" "I", Cond.fieldLink RX1 18 "FrameBroker$Window" "row" "I", Cond.fieldLink RX1 24 "FrameBroker$Window" "height" "I", Cond.fieldLink RX1 27 "FrameBroker$Window" "isClear" "Z"]
def wsX3_lookAtScreen : List Cond := .code yX3_lookAtScreen cX3_lookAtScreen 3 none :: ((wsX3_lookAtScreen_r1 ++ wsX3_lookAtScreen_r2) ++ wsX30 ++ wsX10 ++ wsX20)
def wsX3_pagesOfUnseen : List Cond := .code yX3_pagesOfUnseen cX3_pagesOfUnseen 4 (some .int) :: ([.fieldLink RX3 16 "FrameBroker" "stack" "LFrameBroker$WindowList;", .fieldLink RX3 137 "FrameBroker$Window" "hasSurface" "Z", .fieldLink RX3 158 "FrameBroker$Window" "isOnScreen" "Z", .methodLink RX3 59 yX2_count, .instanceMethod yX2_count, .selects RX2 yX2_count yX2_count, .initialized RX2, .code yX2_count cX2_count 1 (some .int), .fieldLink RX2 17 "FrameBroker$WindowList" "size" "I", .methodLink RX3 176 yX2_get, .instanceMethod yX2_get, .selects RX2 yX2_get yX2_get, .code yX2_get cX2_get 2 (some (.object "FrameBroker$Window")), .fieldLink RX2 11 "FrameBroker$WindowList" "items" "[LFrameBroker$Window;", .methodLink RX3 198 yX1_pagesNeeded, .instanceMethod yX1_pagesNeeded, .selects RX1 yX1_pagesNeeded yX1_pagesNeeded, .initialized RX1, .code yX1_pagesNeeded cX1_pagesNeeded 1 (some .int), .fieldLink RX1 21 "FrameBroker$Window" "width" "I", .fieldLink RX1 24 "FrameBroker$Window" "height" "I"] ++ wsX30 ++ wsX10 ++ wsX20)
def wsX3_takeBackUntilFree_r1 : List Cond := [Cond.fieldLink RX3 16 "FrameBroker" "stack" "LFrameBroker$WindowList;", Cond.fieldLink RX3 36 "FrameBroker" "freePages" "I", Cond.fieldLink RX3 137 "FrameBroker$Window" "hasSurface" "Z", Cond.fieldLink RX3 158 "FrameBroker$Window" "isOnScreen" "Z", Cond.fieldLink RX3 39 "FrameBroker" "now" "I", Cond.methodLink RX3 59 yX2_count, Cond.instanceMethod yX2_count, Cond.selects RX2 yX2_count yX2_count, Cond.initialized RX2, Cond.code yX2_count cX2_count 1 (some .int), Cond.fieldLink RX2 17 "FrameBroker$WindowList" "size" "I", Cond.methodLink RX3 176 yX2_get, Cond.instanceMethod yX2_get, Cond.selects RX2 yX2_get yX2_get, Cond.code yX2_get cX2_get 2 (some (.object "FrameBroker$Window")), Cond.fieldLink RX2 11 "FrameBroker$WindowList" "items" "[LFrameBroker$Window;", Cond.methodLink RX3 198 yX1_pagesNeeded, Cond.instanceMethod yX1_pagesNeeded, Cond.selects RX1 yX1_pagesNeeded yX1_pagesNeeded, Cond.initialized RX1, Cond.code yX1_pagesNeeded cX1_pagesNeeded 1 (some .int), Cond.fieldLink RX1 21 "FrameBroker$Window" "width" "I", Cond.fieldLink RX1 24 "FrameBroker$Window" "height" "I", Cond.methodLink RX3 207 yX1_loseSurface]
def wsX3_takeBackUntilFree_r2 : List Cond := [Cond.instanceMethod yX1_loseSurface, Cond.selects RX1 yX1_loseSurface yX1_loseSurface, Cond.code yX1_loseSurface cX1_loseSurface 2 none, Cond.fieldLink RX1 38 "FrameBroker$Window" "hasSurface" "Z", Cond.fieldLink RX1 41 "FrameBroker$Window" "framesShown" "I", Cond.fieldLink RX1 31 "FrameBroker$Window" "task" "LFrameBroker$Task;", Cond.methodLink RX1 48 yX0_drop, Cond.instanceMethod yX0_drop, Cond.selects RX0 yX0_drop yX0_drop, Cond.initialized RX0, Cond.code yX0_drop cX0_drop 2 none, Cond.fieldLink RX0 30 "FrameBroker$Task" "isUnderWay" "Z", Cond.fieldLink RX0 27 "FrameBroker$Task" "nextDue" "I"]
def wsX3_takeBackUntilFree : List Cond := .code yX3_takeBackUntilFree cX3_takeBackUntilFree 4 none :: ((wsX3_takeBackUntilFree_r1 ++ wsX3_takeBackUntilFree_r2) ++ wsX30 ++ wsX10 ++ wsX20 ++ wsX00)
def wsX3_lend_r1 : List Cond := [Cond.fieldLink RX3 36 "FrameBroker" "freePages" "I", Cond.fieldLink RX3 137 "FrameBroker$Window" "hasSurface" "Z", Cond.methodLink RX3 198 yX1_pagesNeeded, Cond.instanceMethod yX1_pagesNeeded, Cond.selects RX1 yX1_pagesNeeded yX1_pagesNeeded, Cond.initialized RX1, Cond.code yX1_pagesNeeded cX1_pagesNeeded 1 (some .int), Cond.fieldLink RX1 21 "FrameBroker$Window" "width" "I", Cond.fieldLink RX1 24 "FrameBroker$Window" "height" "I", Cond.methodLink RX3 201 yX3_pagesOfUnseen, Cond.instanceMethod yX3_pagesOfUnseen, Cond.selects RX3 yX3_pagesOfUnseen yX3_pagesOfUnseen, Cond.initialized RX3, Cond.code yX3_pagesOfUnseen cX3_pagesOfUnseen 4 (some .int), Cond.fieldLink RX3 16 "FrameBroker" "stack" "LFrameBroker$WindowList;", Cond.fieldLink RX3 158 "FrameBroker$Window" "isOnScreen" "Z", Cond.methodLink RX3 59 yX2_count, Cond.instanceMethod yX2_count, Cond.selects RX2 yX2_count yX2_count, Cond.initialized RX2, Cond.code yX2_count cX2_count 1 (some .int), Cond.fieldLink RX2 17 "FrameBroker$WindowList" "size" "I", Cond.methodLink RX3 176 yX2_get, Cond.instanceMethod yX2_get]
def wsX3_lend_r2 : List Cond := [Cond.selects RX2 yX2_get yX2_get, Cond.code yX2_get cX2_get 2 (some (.object "FrameBroker$Window")), Cond.fieldLink RX2 11 "FrameBroker$WindowList" "items" "[LFrameBroker$Window;", Cond.methodLink RX3 204 yX3_takeBackUntilFree, Cond.instanceMethod yX3_takeBackUntilFree, Cond.selects RX3 yX3_takeBackUntilFree yX3_takeBackUntilFree, Cond.code yX3_takeBackUntilFree cX3_takeBackUntilFree 4 none, Cond.fieldLink RX3 39 "FrameBroker" "now" "I", Cond.methodLink RX3 207 yX1_loseSurface, Cond.instanceMethod yX1_loseSurface, Cond.selects RX1 yX1_loseSurface yX1_loseSurface, Cond.code yX1_loseSurface cX1_loseSurface 2 none, Cond.fieldLink RX1 38 "FrameBroker$Window" "hasSurface" "Z", Cond.fieldLink RX1 41 "FrameBroker$Window" "framesShown" "I", Cond.fieldLink RX1 31 "FrameBroker$Window" "task" "LFrameBroker$Task;", Cond.methodLink RX1 48 yX0_drop, Cond.instanceMethod yX0_drop, Cond.selects RX0 yX0_drop yX0_drop, Cond.initialized RX0, Cond.code yX0_drop cX0_drop 2 none, Cond.fieldLink RX0 30 "FrameBroker$Task" "isUnderWay" "Z", Cond.fieldLink RX0 27 "FrameBroker$Task" "nextDue" "I"]
def wsX3_lend : List Cond := .code yX3_lend cX3_lend 3 (some .boolean) :: ((wsX3_lend_r1 ++ wsX3_lend_r2) ++ wsX30 ++ wsX10 ++ wsX20 ++ wsX00)
def wsX3_putOnTop_r1 : List Cond := [Cond.fieldLink RX3 16 "FrameBroker" "stack" "LFrameBroker$WindowList;", Cond.fieldLink RX3 89 "FrameBroker$Window" "number" "I", Cond.methodLink RX3 82 yX2_addLast, Cond.instanceMethod yX2_addLast, Cond.selects RX2 yX2_addLast yX2_addLast, Cond.initialized RX2, Cond.code yX2_addLast cX2_addLast 2 none, Cond.fieldLink RX2 17 "FrameBroker$WindowList" "size" "I", Cond.fieldLink RX2 11 "FrameBroker$WindowList" "items" "[LFrameBroker$Window;", Cond.methodLink RX3 186 yX3_lookAtScreen, Cond.instanceMethod yX3_lookAtScreen, Cond.selects RX3 yX3_lookAtScreen yX3_lookAtScreen, Cond.initialized RX3, Cond.code yX3_lookAtScreen cX3_lookAtScreen 3 none, Cond.fieldLink RX3 158 "FrameBroker$Window" "isOnScreen" "Z", Cond.fieldLink RX3 21 "FrameBroker" "topmost" "[LFrameBroker$Window;", Cond.methodLink RX3 59 yX2_count, Cond.instanceMethod yX2_count, Cond.selects RX2 yX2_count yX2_count, Cond.code yX2_count cX2_count 1 (some .int), Cond.methodLink RX3 176 yX2_get, Cond.instanceMethod yX2_get, Cond.selects RX2 yX2_get yX2_get, Cond.code yX2_get cX2_get 2 (some (.object "FrameBroker$Window"))]
def wsX3_putOnTop_r2 : List Cond := [Cond.methodLink RX3 189 yX2_topmostOver, Cond.instanceMethod yX2_topmostOver, Cond.selects RX2 yX2_topmostOver yX2_topmostOver, Cond.code yX2_topmostOver cX2_topmostOver 5 (some (.object "FrameBroker$Window")), Cond.methodLink RX2 24 yX2_get, Cond.methodLink RX2 28 yX1_covers, Cond.instanceMethod yX1_covers, Cond.selects RX1 yX1_covers yX1_covers, Cond.initialized RX1, Cond.code yX1_covers cX1_covers 3 (some .boolean), Cond.fieldLink RX1 15 "FrameBroker$Window" "column" "I", Cond.fieldLink RX1 21 "FrameBroker$Window" "width" "I", Cond.fieldLink RX1 18 "FrameBroker$Window" "row" "I", Cond.fieldLink RX1 24 "FrameBroker$Window" "height" "I", Cond.fieldLink RX1 27 "FrameBroker$Window" "isClear" "Z", Cond.methodLink RX3 195 yX3_lend, Cond.instanceMethod yX3_lend, Cond.selects RX3 yX3_lend yX3_lend, Cond.code yX3_lend cX3_lend 3 (some .boolean), Cond.fieldLink RX3 36 "FrameBroker" "freePages" "I", Cond.fieldLink RX3 137 "FrameBroker$Window" "hasSurface" "Z", Cond.methodLink RX3 198 yX1_pagesNeeded, Cond.instanceMethod yX1_pagesNeeded, Cond.selects RX1 yX1_pagesNeeded yX1_pagesNeeded]
def wsX3_putOnTop_r3 : List Cond := [Cond.code yX1_pagesNeeded cX1_pagesNeeded 1 (some .int), Cond.methodLink RX3 201 yX3_pagesOfUnseen, Cond.instanceMethod yX3_pagesOfUnseen, Cond.selects RX3 yX3_pagesOfUnseen yX3_pagesOfUnseen, Cond.code yX3_pagesOfUnseen cX3_pagesOfUnseen 4 (some .int), Cond.methodLink RX3 204 yX3_takeBackUntilFree, Cond.instanceMethod yX3_takeBackUntilFree, Cond.selects RX3 yX3_takeBackUntilFree yX3_takeBackUntilFree, Cond.code yX3_takeBackUntilFree cX3_takeBackUntilFree 4 none, Cond.fieldLink RX3 39 "FrameBroker" "now" "I", Cond.methodLink RX3 207 yX1_loseSurface, Cond.instanceMethod yX1_loseSurface, Cond.selects RX1 yX1_loseSurface yX1_loseSurface, Cond.code yX1_loseSurface cX1_loseSurface 2 none, Cond.fieldLink RX1 38 "FrameBroker$Window" "hasSurface" "Z", Cond.fieldLink RX1 41 "FrameBroker$Window" "framesShown" "I", Cond.fieldLink RX1 31 "FrameBroker$Window" "task" "LFrameBroker$Task;", Cond.methodLink RX1 48 yX0_drop, Cond.instanceMethod yX0_drop, Cond.selects RX0 yX0_drop yX0_drop, Cond.initialized RX0, Cond.code yX0_drop cX0_drop 2 none, Cond.fieldLink RX0 30 "FrameBroker$Task" "isUnderWay" "Z", Cond.fieldLink RX0 27 "FrameBroker$Task" "nextDue" "I"]
def wsX3_putOnTop_r4 : List Cond := [Cond.methodLink RX3 96 yX2_remove, Cond.instanceMethod yX2_remove, Cond.selects RX2 yX2_remove yX2_remove, Cond.code yX2_remove cX2_remove 4 none, Cond.methodLink RX2 32 yX2_indexOf, Cond.instanceMethod yX2_indexOf, Cond.selects RX2 yX2_indexOf yX2_indexOf, Cond.code yX2_indexOf cX2_indexOf 4 (some .int), Cond.fieldLink RX2 21 "FrameBroker$Window" "number" "I"]
def wsX3_putOnTop : List Cond := .code yX3_putOnTop cX3_putOnTop 2 (some .boolean) :: ((wsX3_putOnTop_r1 ++ (wsX3_putOnTop_r2 ++ (wsX3_putOnTop_r3 ++ wsX3_putOnTop_r4))) ++ wsX30 ++ wsX10 ++ wsX20 ++ wsX00)
def wsX3_lendToSeen_r1 : List Cond := [Cond.fieldLink RX3 16 "FrameBroker" "stack" "LFrameBroker$WindowList;", Cond.fieldLink RX3 158 "FrameBroker$Window" "isOnScreen" "Z", Cond.fieldLink RX3 137 "FrameBroker$Window" "hasSurface" "Z", Cond.methodLink RX3 59 yX2_count, Cond.instanceMethod yX2_count, Cond.selects RX2 yX2_count yX2_count, Cond.initialized RX2, Cond.code yX2_count cX2_count 1 (some .int), Cond.fieldLink RX2 17 "FrameBroker$WindowList" "size" "I", Cond.methodLink RX3 176 yX2_get, Cond.instanceMethod yX2_get, Cond.selects RX2 yX2_get yX2_get, Cond.code yX2_get cX2_get 2 (some (.object "FrameBroker$Window")), Cond.fieldLink RX2 11 "FrameBroker$WindowList" "items" "[LFrameBroker$Window;", Cond.methodLink RX3 195 yX3_lend, Cond.instanceMethod yX3_lend, Cond.selects RX3 yX3_lend yX3_lend, Cond.initialized RX3, Cond.code yX3_lend cX3_lend 3 (some .boolean), Cond.fieldLink RX3 36 "FrameBroker" "freePages" "I", Cond.methodLink RX3 198 yX1_pagesNeeded, Cond.instanceMethod yX1_pagesNeeded, Cond.selects RX1 yX1_pagesNeeded yX1_pagesNeeded, Cond.initialized RX1]
def wsX3_lendToSeen_r2 : List Cond := [Cond.code yX1_pagesNeeded cX1_pagesNeeded 1 (some .int), Cond.fieldLink RX1 21 "FrameBroker$Window" "width" "I", Cond.fieldLink RX1 24 "FrameBroker$Window" "height" "I", Cond.methodLink RX3 201 yX3_pagesOfUnseen, Cond.instanceMethod yX3_pagesOfUnseen, Cond.selects RX3 yX3_pagesOfUnseen yX3_pagesOfUnseen, Cond.code yX3_pagesOfUnseen cX3_pagesOfUnseen 4 (some .int), Cond.methodLink RX3 204 yX3_takeBackUntilFree, Cond.instanceMethod yX3_takeBackUntilFree, Cond.selects RX3 yX3_takeBackUntilFree yX3_takeBackUntilFree, Cond.code yX3_takeBackUntilFree cX3_takeBackUntilFree 4 none, Cond.fieldLink RX3 39 "FrameBroker" "now" "I", Cond.methodLink RX3 207 yX1_loseSurface, Cond.instanceMethod yX1_loseSurface, Cond.selects RX1 yX1_loseSurface yX1_loseSurface, Cond.code yX1_loseSurface cX1_loseSurface 2 none, Cond.fieldLink RX1 38 "FrameBroker$Window" "hasSurface" "Z", Cond.fieldLink RX1 41 "FrameBroker$Window" "framesShown" "I", Cond.fieldLink RX1 31 "FrameBroker$Window" "task" "LFrameBroker$Task;", Cond.methodLink RX1 48 yX0_drop, Cond.instanceMethod yX0_drop, Cond.selects RX0 yX0_drop yX0_drop, Cond.initialized RX0, Cond.code yX0_drop cX0_drop 2 none]
def wsX3_lendToSeen_r3 : List Cond := [Cond.fieldLink RX0 30 "FrameBroker$Task" "isUnderWay" "Z", Cond.fieldLink RX0 27 "FrameBroker$Task" "nextDue" "I"]
def wsX3_lendToSeen : List Cond := .code yX3_lendToSeen cX3_lendToSeen 3 none :: ((wsX3_lendToSeen_r1 ++ (wsX3_lendToSeen_r2 ++ wsX3_lendToSeen_r3)) ++ wsX30 ++ wsX10 ++ wsX20 ++ wsX00)
def wsX3_open_r1 : List Cond := [Cond.classLink RX3 50 "java/lang/IllegalArgumentException", Cond.initialized "java/lang/IllegalArgumentException", Cond.classLink RX3 63 "java/lang/IllegalStateException", Cond.initialized "java/lang/IllegalStateException", Cond.fieldLink RX3 16 "FrameBroker" "stack" "LFrameBroker$WindowList;", Cond.fieldLink RX3 32 "FrameBroker" "opened" "I", Cond.classLink RX3 19 RX1, Cond.instantiable RX1 10, Cond.initialized RX1, Cond.classLink RX3 68 RX0, Cond.instantiable RX0 9, Cond.initialized RX0, Cond.fieldLink RX3 39 "FrameBroker" "now" "I", Cond.fieldLink RX3 10 "FrameBroker" "byNumber" "LFrameBroker$WindowList;", Cond.fieldLink RX3 89 "FrameBroker$Window" "number" "I", Cond.methodLink RX3 42 yX3_isCell, Cond.static yX3_isCell, Cond.initialized RX3, Cond.code yX3_isCell cX3_isCell 2 (some .boolean), Cond.methodLink RX3 46 yX3_fits, Cond.static yX3_fits, Cond.code yX3_fits cX3_fits 4 (some .boolean), Cond.methodLink RX3 59 yX2_count, Cond.instanceMethod yX2_count]
def wsX3_open_r2 : List Cond := [Cond.selects RX2 yX2_count yX2_count, Cond.initialized RX2, Cond.code yX2_count cX2_count 1 (some .int), Cond.fieldLink RX2 17 "FrameBroker$WindowList" "size" "I", Cond.methodLink RX3 70 yX0_init, Cond.instanceMethod yX0_init, Cond.code yX0_init cX0_init 4 none, Cond.methodLink RX0 3 objectInit, Cond.instanceMethod objectInit, Cond.code objectInit ⟨#[0xb1]⟩ 1 none, Cond.fieldLink RX0 9 "FrameBroker$Task" "period" "I", Cond.fieldLink RX0 15 "FrameBroker$Task" "cost" "I", Cond.fieldLink RX0 18 "FrameBroker$Task" "slowness" "I", Cond.fieldLink RX0 21 "FrameBroker$Task" "missed" "I", Cond.fieldLink RX0 24 "FrameBroker$Task" "inTime" "I", Cond.fieldLink RX0 27 "FrameBroker$Task" "nextDue" "I", Cond.fieldLink RX0 30 "FrameBroker$Task" "isUnderWay" "Z", Cond.fieldLink RX0 34 "FrameBroker$Task" "slices" "I", Cond.fieldLink RX0 37 "FrameBroker$Task" "lastTick" "I", Cond.methodLink RX3 73 yX1_init, Cond.instanceMethod yX1_init, Cond.code yX1_init cX1_init 8 none, Cond.methodLink RX1 3 objectInit, Cond.fieldLink RX1 9 "FrameBroker$Window" "number" "I"]
def wsX3_open_r3 : List Cond := [Cond.fieldLink RX1 15 "FrameBroker$Window" "column" "I", Cond.fieldLink RX1 18 "FrameBroker$Window" "row" "I", Cond.fieldLink RX1 21 "FrameBroker$Window" "width" "I", Cond.fieldLink RX1 24 "FrameBroker$Window" "height" "I", Cond.fieldLink RX1 27 "FrameBroker$Window" "isClear" "Z", Cond.fieldLink RX1 31 "FrameBroker$Window" "task" "LFrameBroker$Task;", Cond.fieldLink RX1 35 "FrameBroker$Window" "isOnScreen" "Z", Cond.fieldLink RX1 38 "FrameBroker$Window" "hasSurface" "Z", Cond.fieldLink RX1 41 "FrameBroker$Window" "framesShown" "I", Cond.methodLink RX3 76 yX3_putOnTop, Cond.instanceMethod yX3_putOnTop, Cond.selects RX3 yX3_putOnTop yX3_putOnTop, Cond.code yX3_putOnTop cX3_putOnTop 2 (some .boolean), Cond.methodLink RX3 82 yX2_addLast, Cond.instanceMethod yX2_addLast, Cond.selects RX2 yX2_addLast yX2_addLast, Cond.code yX2_addLast cX2_addLast 2 none, Cond.fieldLink RX2 11 "FrameBroker$WindowList" "items" "[LFrameBroker$Window;", Cond.methodLink RX3 186 yX3_lookAtScreen, Cond.instanceMethod yX3_lookAtScreen, Cond.selects RX3 yX3_lookAtScreen yX3_lookAtScreen, Cond.code yX3_lookAtScreen cX3_lookAtScreen 3 none, Cond.fieldLink RX3 158 "FrameBroker$Window" "isOnScreen" "Z", Cond.fieldLink RX3 21 "FrameBroker" "topmost" "[LFrameBroker$Window;"]
def wsX3_open_r4 : List Cond := [Cond.methodLink RX3 176 yX2_get, Cond.instanceMethod yX2_get, Cond.selects RX2 yX2_get yX2_get, Cond.code yX2_get cX2_get 2 (some (.object "FrameBroker$Window")), Cond.methodLink RX3 189 yX2_topmostOver, Cond.instanceMethod yX2_topmostOver, Cond.selects RX2 yX2_topmostOver yX2_topmostOver, Cond.code yX2_topmostOver cX2_topmostOver 5 (some (.object "FrameBroker$Window")), Cond.methodLink RX2 24 yX2_get, Cond.methodLink RX2 28 yX1_covers, Cond.instanceMethod yX1_covers, Cond.selects RX1 yX1_covers yX1_covers, Cond.code yX1_covers cX1_covers 3 (some .boolean), Cond.methodLink RX3 195 yX3_lend, Cond.instanceMethod yX3_lend, Cond.selects RX3 yX3_lend yX3_lend, Cond.code yX3_lend cX3_lend 3 (some .boolean), Cond.fieldLink RX3 36 "FrameBroker" "freePages" "I", Cond.fieldLink RX3 137 "FrameBroker$Window" "hasSurface" "Z", Cond.methodLink RX3 198 yX1_pagesNeeded, Cond.instanceMethod yX1_pagesNeeded, Cond.selects RX1 yX1_pagesNeeded yX1_pagesNeeded, Cond.code yX1_pagesNeeded cX1_pagesNeeded 1 (some .int), Cond.methodLink RX3 201 yX3_pagesOfUnseen]
def wsX3_open_r5 : List Cond := [Cond.instanceMethod yX3_pagesOfUnseen, Cond.selects RX3 yX3_pagesOfUnseen yX3_pagesOfUnseen, Cond.code yX3_pagesOfUnseen cX3_pagesOfUnseen 4 (some .int), Cond.methodLink RX3 204 yX3_takeBackUntilFree, Cond.instanceMethod yX3_takeBackUntilFree, Cond.selects RX3 yX3_takeBackUntilFree yX3_takeBackUntilFree, Cond.code yX3_takeBackUntilFree cX3_takeBackUntilFree 4 none, Cond.methodLink RX3 207 yX1_loseSurface, Cond.instanceMethod yX1_loseSurface, Cond.selects RX1 yX1_loseSurface yX1_loseSurface, Cond.code yX1_loseSurface cX1_loseSurface 2 none, Cond.methodLink RX1 48 yX0_drop, Cond.instanceMethod yX0_drop, Cond.selects RX0 yX0_drop yX0_drop, Cond.code yX0_drop cX0_drop 2 none, Cond.methodLink RX3 96 yX2_remove, Cond.instanceMethod yX2_remove, Cond.selects RX2 yX2_remove yX2_remove, Cond.code yX2_remove cX2_remove 4 none, Cond.methodLink RX2 32 yX2_indexOf, Cond.instanceMethod yX2_indexOf, Cond.selects RX2 yX2_indexOf yX2_indexOf, Cond.code yX2_indexOf cX2_indexOf 4 (some .int), Cond.fieldLink RX2 21 "FrameBroker$Window" "number" "I"]
def wsX3_open_r6 : List Cond := [Cond.methodLink RX3 86 yX3_lendToSeen, Cond.instanceMethod yX3_lendToSeen, Cond.selects RX3 yX3_lendToSeen yX3_lendToSeen, Cond.code yX3_lendToSeen cX3_lendToSeen 3 none]
def wsX3_open : List Cond := .code yX3_open cX3_open 9 (some .int) :: ((wsX3_open_r1 ++ (wsX3_open_r2 ++ (wsX3_open_r3 ++ (wsX3_open_r4 ++ (wsX3_open_r5 ++ wsX3_open_r6))))) ++ wsX30 ++ wsX10 ++ wsX00 ++ wsX20 ++ (vx_atS RX3 54 "java/lang/IllegalArgumentException" ["java/lang/RuntimeException", "java/lang/Exception"]).filter goodWord ++ (vx_atS RX3 67 "java/lang/IllegalStateException" ["java/lang/RuntimeException", "java/lang/Exception"]).filter goodWord)
def wsX3_find : List Cond := .code yX3_find cX3_find 3 (some (.object "FrameBroker$Window")) :: ([.classLink RX3 179 "java/lang/IndexOutOfBoundsException", .initialized "java/lang/IndexOutOfBoundsException", .fieldLink RX3 10 "FrameBroker" "byNumber" "LFrameBroker$WindowList;", .methodLink RX3 118 yX2_indexOf, .instanceMethod yX2_indexOf, .selects RX2 yX2_indexOf yX2_indexOf, .initialized RX2, .code yX2_indexOf cX2_indexOf 4 (some .int), .fieldLink RX2 11 "FrameBroker$WindowList" "items" "[LFrameBroker$Window;", .fieldLink RX2 21 "FrameBroker$Window" "number" "I", .methodLink RX3 176 yX2_get, .instanceMethod yX2_get, .selects RX2 yX2_get yX2_get, .code yX2_get cX2_get 2 (some (.object "FrameBroker$Window"))] ++ wsX30 ++ wsX20 ++ wsX10 ++ (vx_atS RX3 183 "java/lang/IndexOutOfBoundsException" ["java/lang/RuntimeException", "java/lang/Exception"]).filter goodWord)
def wsX3_rearrange_r1 : List Cond := [Cond.methodLink RX3 186 yX3_lookAtScreen, Cond.instanceMethod yX3_lookAtScreen, Cond.selects RX3 yX3_lookAtScreen yX3_lookAtScreen, Cond.initialized RX3, Cond.code yX3_lookAtScreen cX3_lookAtScreen 3 none, Cond.fieldLink RX3 16 "FrameBroker" "stack" "LFrameBroker$WindowList;", Cond.fieldLink RX3 158 "FrameBroker$Window" "isOnScreen" "Z", Cond.fieldLink RX3 21 "FrameBroker" "topmost" "[LFrameBroker$Window;", Cond.methodLink RX3 59 yX2_count, Cond.instanceMethod yX2_count, Cond.selects RX2 yX2_count yX2_count, Cond.initialized RX2, Cond.code yX2_count cX2_count 1 (some .int), Cond.fieldLink RX2 17 "FrameBroker$WindowList" "size" "I", Cond.methodLink RX3 176 yX2_get, Cond.instanceMethod yX2_get, Cond.selects RX2 yX2_get yX2_get, Cond.code yX2_get cX2_get 2 (some (.object "FrameBroker$Window")), Cond.fieldLink RX2 11 "FrameBroker$WindowList" "items" "[LFrameBroker$Window;", Cond.methodLink RX3 189 yX2_topmostOver, Cond.instanceMethod yX2_topmostOver, Cond.selects RX2 yX2_topmostOver yX2_topmostOver, Cond.code yX2_topmostOver cX2_topmostOver 5 (some (.object "FrameBroker$Window")), Cond.methodLink RX2 24 yX2_get]
def wsX3_rearrange_r2 : List Cond := [Cond.methodLink RX2 28 yX1_covers, Cond.instanceMethod yX1_covers, Cond.selects RX1 yX1_covers yX1_covers, Cond.initialized RX1, Cond.code yX1_covers cX1_covers 3 (some .boolean), Cond.fieldLink RX1 15 "FrameBroker$Window" "column" "I", Cond.fieldLink RX1 21 "FrameBroker$Window" "width" "I", Cond.fieldLink RX1 18 "FrameBroker$Window" "row" "I", Cond.fieldLink RX1 24 "FrameBroker$Window" "height" "I", Cond.fieldLink RX1 27 "FrameBroker$Window" "isClear" "Z", Cond.methodLink RX3 86 yX3_lendToSeen, Cond.instanceMethod yX3_lendToSeen, Cond.selects RX3 yX3_lendToSeen yX3_lendToSeen, Cond.code yX3_lendToSeen cX3_lendToSeen 3 none, Cond.fieldLink RX3 137 "FrameBroker$Window" "hasSurface" "Z", Cond.methodLink RX3 195 yX3_lend, Cond.instanceMethod yX3_lend, Cond.selects RX3 yX3_lend yX3_lend, Cond.code yX3_lend cX3_lend 3 (some .boolean), Cond.fieldLink RX3 36 "FrameBroker" "freePages" "I", Cond.methodLink RX3 198 yX1_pagesNeeded, Cond.instanceMethod yX1_pagesNeeded, Cond.selects RX1 yX1_pagesNeeded yX1_pagesNeeded, Cond.code yX1_pagesNeeded cX1_pagesNeeded 1 (some .int)]
def wsX3_rearrange_r3 : List Cond := [Cond.methodLink RX3 201 yX3_pagesOfUnseen, Cond.instanceMethod yX3_pagesOfUnseen, Cond.selects RX3 yX3_pagesOfUnseen yX3_pagesOfUnseen, Cond.code yX3_pagesOfUnseen cX3_pagesOfUnseen 4 (some .int), Cond.methodLink RX3 204 yX3_takeBackUntilFree, Cond.instanceMethod yX3_takeBackUntilFree, Cond.selects RX3 yX3_takeBackUntilFree yX3_takeBackUntilFree, Cond.code yX3_takeBackUntilFree cX3_takeBackUntilFree 4 none, Cond.fieldLink RX3 39 "FrameBroker" "now" "I", Cond.methodLink RX3 207 yX1_loseSurface, Cond.instanceMethod yX1_loseSurface, Cond.selects RX1 yX1_loseSurface yX1_loseSurface, Cond.code yX1_loseSurface cX1_loseSurface 2 none, Cond.fieldLink RX1 38 "FrameBroker$Window" "hasSurface" "Z", Cond.fieldLink RX1 41 "FrameBroker$Window" "framesShown" "I", Cond.fieldLink RX1 31 "FrameBroker$Window" "task" "LFrameBroker$Task;", Cond.methodLink RX1 48 yX0_drop, Cond.instanceMethod yX0_drop, Cond.selects RX0 yX0_drop yX0_drop, Cond.initialized RX0, Cond.code yX0_drop cX0_drop 2 none, Cond.fieldLink RX0 30 "FrameBroker$Task" "isUnderWay" "Z", Cond.fieldLink RX0 27 "FrameBroker$Task" "nextDue" "I"]
def wsX3_rearrange : List Cond := .code yX3_rearrange cX3_rearrange 1 none :: ((wsX3_rearrange_r1 ++ (wsX3_rearrange_r2 ++ wsX3_rearrange_r3)) ++ wsX30 ++ wsX10 ++ wsX20 ++ wsX00)
def wsX3_close_r1 : List Cond := [Cond.fieldLink RX3 16 "FrameBroker" "stack" "LFrameBroker$WindowList;", Cond.fieldLink RX3 10 "FrameBroker" "byNumber" "LFrameBroker$WindowList;", Cond.fieldLink RX3 36 "FrameBroker" "freePages" "I", Cond.methodLink RX3 92 yX3_find, Cond.instanceMethod yX3_find, Cond.selects RX3 yX3_find yX3_find, Cond.initialized RX3, Cond.code yX3_find cX3_find 3 (some (.object "FrameBroker$Window")), Cond.classLink RX3 179 "java/lang/IndexOutOfBoundsException", Cond.initialized "java/lang/IndexOutOfBoundsException", Cond.methodLink RX3 118 yX2_indexOf, Cond.instanceMethod yX2_indexOf, Cond.selects RX2 yX2_indexOf yX2_indexOf, Cond.initialized RX2, Cond.code yX2_indexOf cX2_indexOf 4 (some .int), Cond.fieldLink RX2 11 "FrameBroker$WindowList" "items" "[LFrameBroker$Window;", Cond.fieldLink RX2 21 "FrameBroker$Window" "number" "I", Cond.methodLink RX3 176 yX2_get, Cond.instanceMethod yX2_get, Cond.selects RX2 yX2_get yX2_get, Cond.code yX2_get cX2_get 2 (some (.object "FrameBroker$Window")), Cond.methodLink RX3 96 yX2_remove, Cond.instanceMethod yX2_remove, Cond.selects RX2 yX2_remove yX2_remove]
def wsX3_close_r2 : List Cond := [Cond.code yX2_remove cX2_remove 4 none, Cond.fieldLink RX2 17 "FrameBroker$WindowList" "size" "I", Cond.methodLink RX2 32 yX2_indexOf, Cond.methodLink RX3 100 yX1_pagesHeld, Cond.instanceMethod yX1_pagesHeld, Cond.selects RX1 yX1_pagesHeld yX1_pagesHeld, Cond.initialized RX1, Cond.code yX1_pagesHeld cX1_pagesHeld 1 (some .int), Cond.fieldLink RX1 38 "FrameBroker$Window" "hasSurface" "Z", Cond.methodLink RX1 44 yX1_pagesNeeded, Cond.instanceMethod yX1_pagesNeeded, Cond.selects RX1 yX1_pagesNeeded yX1_pagesNeeded, Cond.code yX1_pagesNeeded cX1_pagesNeeded 1 (some .int), Cond.fieldLink RX1 21 "FrameBroker$Window" "width" "I", Cond.fieldLink RX1 24 "FrameBroker$Window" "height" "I", Cond.methodLink RX3 103 yX3_rearrange, Cond.instanceMethod yX3_rearrange, Cond.selects RX3 yX3_rearrange yX3_rearrange, Cond.code yX3_rearrange cX3_rearrange 1 none, Cond.methodLink RX3 186 yX3_lookAtScreen, Cond.instanceMethod yX3_lookAtScreen, Cond.selects RX3 yX3_lookAtScreen yX3_lookAtScreen, Cond.code yX3_lookAtScreen cX3_lookAtScreen 3 none, Cond.fieldLink RX3 158 "FrameBroker$Window" "isOnScreen" "Z"]
def wsX3_close_r3 : List Cond := [Cond.fieldLink RX3 21 "FrameBroker" "topmost" "[LFrameBroker$Window;", Cond.methodLink RX3 59 yX2_count, Cond.instanceMethod yX2_count, Cond.selects RX2 yX2_count yX2_count, Cond.code yX2_count cX2_count 1 (some .int), Cond.methodLink RX3 189 yX2_topmostOver, Cond.instanceMethod yX2_topmostOver, Cond.selects RX2 yX2_topmostOver yX2_topmostOver, Cond.code yX2_topmostOver cX2_topmostOver 5 (some (.object "FrameBroker$Window")), Cond.methodLink RX2 24 yX2_get, Cond.methodLink RX2 28 yX1_covers, Cond.instanceMethod yX1_covers, Cond.selects RX1 yX1_covers yX1_covers, Cond.code yX1_covers cX1_covers 3 (some .boolean), Cond.fieldLink RX1 15 "FrameBroker$Window" "column" "I", Cond.fieldLink RX1 18 "FrameBroker$Window" "row" "I", Cond.fieldLink RX1 27 "FrameBroker$Window" "isClear" "Z", Cond.methodLink RX3 86 yX3_lendToSeen, Cond.instanceMethod yX3_lendToSeen, Cond.selects RX3 yX3_lendToSeen yX3_lendToSeen, Cond.code yX3_lendToSeen cX3_lendToSeen 3 none, Cond.fieldLink RX3 137 "FrameBroker$Window" "hasSurface" "Z", Cond.methodLink RX3 195 yX3_lend, Cond.instanceMethod yX3_lend]
def wsX3_close_r4 : List Cond := [Cond.selects RX3 yX3_lend yX3_lend, Cond.code yX3_lend cX3_lend 3 (some .boolean), Cond.methodLink RX3 198 yX1_pagesNeeded, Cond.methodLink RX3 201 yX3_pagesOfUnseen, Cond.instanceMethod yX3_pagesOfUnseen, Cond.selects RX3 yX3_pagesOfUnseen yX3_pagesOfUnseen, Cond.code yX3_pagesOfUnseen cX3_pagesOfUnseen 4 (some .int), Cond.methodLink RX3 204 yX3_takeBackUntilFree, Cond.instanceMethod yX3_takeBackUntilFree, Cond.selects RX3 yX3_takeBackUntilFree yX3_takeBackUntilFree, Cond.code yX3_takeBackUntilFree cX3_takeBackUntilFree 4 none, Cond.fieldLink RX3 39 "FrameBroker" "now" "I", Cond.methodLink RX3 207 yX1_loseSurface, Cond.instanceMethod yX1_loseSurface, Cond.selects RX1 yX1_loseSurface yX1_loseSurface, Cond.code yX1_loseSurface cX1_loseSurface 2 none, Cond.fieldLink RX1 41 "FrameBroker$Window" "framesShown" "I", Cond.fieldLink RX1 31 "FrameBroker$Window" "task" "LFrameBroker$Task;", Cond.methodLink RX1 48 yX0_drop, Cond.instanceMethod yX0_drop, Cond.selects RX0 yX0_drop yX0_drop, Cond.initialized RX0, Cond.code yX0_drop cX0_drop 2 none, Cond.fieldLink RX0 30 "FrameBroker$Task" "isUnderWay" "Z"]
def wsX3_close_r5 : List Cond := [Cond.fieldLink RX0 27 "FrameBroker$Task" "nextDue" "I"]
def wsX3_close : List Cond := .code yX3_close cX3_close 3 (some .int) :: ((wsX3_close_r1 ++ (wsX3_close_r2 ++ (wsX3_close_r3 ++ (wsX3_close_r4 ++ wsX3_close_r5)))) ++ wsX30 ++ wsX20 ++ wsX10 ++ wsX00 ++ (vx_atS RX3 183 "java/lang/IndexOutOfBoundsException" ["java/lang/RuntimeException", "java/lang/Exception"]).filter goodWord)
def wsX3_move_r1 : List Cond := [Cond.classLink RX3 50 "java/lang/IllegalArgumentException", Cond.initialized "java/lang/IllegalArgumentException", Cond.fieldLink RX3 106 "FrameBroker$Window" "width" "I", Cond.fieldLink RX3 109 "FrameBroker$Window" "height" "I", Cond.fieldLink RX3 112 "FrameBroker$Window" "column" "I", Cond.fieldLink RX3 115 "FrameBroker$Window" "row" "I", Cond.methodLink RX3 92 yX3_find, Cond.instanceMethod yX3_find, Cond.selects RX3 yX3_find yX3_find, Cond.initialized RX3, Cond.code yX3_find cX3_find 3 (some (.object "FrameBroker$Window")), Cond.classLink RX3 179 "java/lang/IndexOutOfBoundsException", Cond.initialized "java/lang/IndexOutOfBoundsException", Cond.fieldLink RX3 10 "FrameBroker" "byNumber" "LFrameBroker$WindowList;", Cond.methodLink RX3 118 yX2_indexOf, Cond.instanceMethod yX2_indexOf, Cond.selects RX2 yX2_indexOf yX2_indexOf, Cond.initialized RX2, Cond.code yX2_indexOf cX2_indexOf 4 (some .int), Cond.fieldLink RX2 11 "FrameBroker$WindowList" "items" "[LFrameBroker$Window;", Cond.fieldLink RX2 21 "FrameBroker$Window" "number" "I", Cond.methodLink RX3 176 yX2_get, Cond.instanceMethod yX2_get, Cond.selects RX2 yX2_get yX2_get]
def wsX3_move_r2 : List Cond := [Cond.code yX2_get cX2_get 2 (some (.object "FrameBroker$Window")), Cond.methodLink RX3 42 yX3_isCell, Cond.static yX3_isCell, Cond.code yX3_isCell cX3_isCell 2 (some .boolean), Cond.methodLink RX3 46 yX3_fits, Cond.static yX3_fits, Cond.code yX3_fits cX3_fits 4 (some .boolean), Cond.methodLink RX3 103 yX3_rearrange, Cond.instanceMethod yX3_rearrange, Cond.selects RX3 yX3_rearrange yX3_rearrange, Cond.code yX3_rearrange cX3_rearrange 1 none, Cond.methodLink RX3 186 yX3_lookAtScreen, Cond.instanceMethod yX3_lookAtScreen, Cond.selects RX3 yX3_lookAtScreen yX3_lookAtScreen, Cond.code yX3_lookAtScreen cX3_lookAtScreen 3 none, Cond.fieldLink RX3 16 "FrameBroker" "stack" "LFrameBroker$WindowList;", Cond.fieldLink RX3 158 "FrameBroker$Window" "isOnScreen" "Z", Cond.fieldLink RX3 21 "FrameBroker" "topmost" "[LFrameBroker$Window;", Cond.methodLink RX3 59 yX2_count, Cond.instanceMethod yX2_count, Cond.selects RX2 yX2_count yX2_count, Cond.code yX2_count cX2_count 1 (some .int), Cond.fieldLink RX2 17 "FrameBroker$WindowList" "size" "I", Cond.methodLink RX3 189 yX2_topmostOver]
def wsX3_move_r3 : List Cond := [Cond.instanceMethod yX2_topmostOver, Cond.selects RX2 yX2_topmostOver yX2_topmostOver, Cond.code yX2_topmostOver cX2_topmostOver 5 (some (.object "FrameBroker$Window")), Cond.methodLink RX2 24 yX2_get, Cond.methodLink RX2 28 yX1_covers, Cond.instanceMethod yX1_covers, Cond.selects RX1 yX1_covers yX1_covers, Cond.initialized RX1, Cond.code yX1_covers cX1_covers 3 (some .boolean), Cond.fieldLink RX1 15 "FrameBroker$Window" "column" "I", Cond.fieldLink RX1 21 "FrameBroker$Window" "width" "I", Cond.fieldLink RX1 18 "FrameBroker$Window" "row" "I", Cond.fieldLink RX1 24 "FrameBroker$Window" "height" "I", Cond.fieldLink RX1 27 "FrameBroker$Window" "isClear" "Z", Cond.methodLink RX3 86 yX3_lendToSeen, Cond.instanceMethod yX3_lendToSeen, Cond.selects RX3 yX3_lendToSeen yX3_lendToSeen, Cond.code yX3_lendToSeen cX3_lendToSeen 3 none, Cond.fieldLink RX3 137 "FrameBroker$Window" "hasSurface" "Z", Cond.methodLink RX3 195 yX3_lend, Cond.instanceMethod yX3_lend, Cond.selects RX3 yX3_lend yX3_lend, Cond.code yX3_lend cX3_lend 3 (some .boolean), Cond.fieldLink RX3 36 "FrameBroker" "freePages" "I"]
def wsX3_move_r4 : List Cond := [Cond.methodLink RX3 198 yX1_pagesNeeded, Cond.instanceMethod yX1_pagesNeeded, Cond.selects RX1 yX1_pagesNeeded yX1_pagesNeeded, Cond.code yX1_pagesNeeded cX1_pagesNeeded 1 (some .int), Cond.methodLink RX3 201 yX3_pagesOfUnseen, Cond.instanceMethod yX3_pagesOfUnseen, Cond.selects RX3 yX3_pagesOfUnseen yX3_pagesOfUnseen, Cond.code yX3_pagesOfUnseen cX3_pagesOfUnseen 4 (some .int), Cond.methodLink RX3 204 yX3_takeBackUntilFree, Cond.instanceMethod yX3_takeBackUntilFree, Cond.selects RX3 yX3_takeBackUntilFree yX3_takeBackUntilFree, Cond.code yX3_takeBackUntilFree cX3_takeBackUntilFree 4 none, Cond.fieldLink RX3 39 "FrameBroker" "now" "I", Cond.methodLink RX3 207 yX1_loseSurface, Cond.instanceMethod yX1_loseSurface, Cond.selects RX1 yX1_loseSurface yX1_loseSurface, Cond.code yX1_loseSurface cX1_loseSurface 2 none, Cond.fieldLink RX1 38 "FrameBroker$Window" "hasSurface" "Z", Cond.fieldLink RX1 41 "FrameBroker$Window" "framesShown" "I", Cond.fieldLink RX1 31 "FrameBroker$Window" "task" "LFrameBroker$Task;", Cond.methodLink RX1 48 yX0_drop, Cond.instanceMethod yX0_drop, Cond.selects RX0 yX0_drop yX0_drop, Cond.initialized RX0]
def wsX3_move_r5 : List Cond := [Cond.code yX0_drop cX0_drop 2 none, Cond.fieldLink RX0 30 "FrameBroker$Task" "isUnderWay" "Z", Cond.fieldLink RX0 27 "FrameBroker$Task" "nextDue" "I"]
def wsX3_move : List Cond := .code yX3_move cX3_move 5 none :: ((wsX3_move_r1 ++ (wsX3_move_r2 ++ (wsX3_move_r3 ++ (wsX3_move_r4 ++ wsX3_move_r5)))) ++ wsX10 ++ wsX30 ++ wsX20 ++ wsX00 ++ (vx_atS RX3 54 "java/lang/IllegalArgumentException" ["java/lang/RuntimeException", "java/lang/Exception"]).filter goodWord ++ (vx_atS RX3 183 "java/lang/IndexOutOfBoundsException" ["java/lang/RuntimeException", "java/lang/Exception"]).filter goodWord)
def wsX3_lay_r1 : List Cond := [Cond.fieldLink RX3 16 "FrameBroker" "stack" "LFrameBroker$WindowList;", Cond.methodLink RX3 92 yX3_find, Cond.instanceMethod yX3_find, Cond.selects RX3 yX3_find yX3_find, Cond.initialized RX3, Cond.code yX3_find cX3_find 3 (some (.object "FrameBroker$Window")), Cond.classLink RX3 179 "java/lang/IndexOutOfBoundsException", Cond.initialized "java/lang/IndexOutOfBoundsException", Cond.fieldLink RX3 10 "FrameBroker" "byNumber" "LFrameBroker$WindowList;", Cond.methodLink RX3 118 yX2_indexOf, Cond.instanceMethod yX2_indexOf, Cond.selects RX2 yX2_indexOf yX2_indexOf, Cond.initialized RX2, Cond.code yX2_indexOf cX2_indexOf 4 (some .int), Cond.fieldLink RX2 11 "FrameBroker$WindowList" "items" "[LFrameBroker$Window;", Cond.fieldLink RX2 21 "FrameBroker$Window" "number" "I", Cond.methodLink RX3 176 yX2_get, Cond.instanceMethod yX2_get, Cond.selects RX2 yX2_get yX2_get, Cond.code yX2_get cX2_get 2 (some (.object "FrameBroker$Window")), Cond.methodLink RX3 96 yX2_remove, Cond.instanceMethod yX2_remove, Cond.selects RX2 yX2_remove yX2_remove, Cond.code yX2_remove cX2_remove 4 none]
def wsX3_lay_r2 : List Cond := [Cond.fieldLink RX2 17 "FrameBroker$WindowList" "size" "I", Cond.methodLink RX2 32 yX2_indexOf, Cond.methodLink RX3 82 yX2_addLast, Cond.instanceMethod yX2_addLast, Cond.selects RX2 yX2_addLast yX2_addLast, Cond.code yX2_addLast cX2_addLast 2 none, Cond.methodLink RX3 122 yX2_addFirst, Cond.instanceMethod yX2_addFirst, Cond.selects RX2 yX2_addFirst yX2_addFirst, Cond.code yX2_addFirst cX2_addFirst 3 none, Cond.methodLink RX3 103 yX3_rearrange, Cond.instanceMethod yX3_rearrange, Cond.selects RX3 yX3_rearrange yX3_rearrange, Cond.code yX3_rearrange cX3_rearrange 1 none, Cond.methodLink RX3 186 yX3_lookAtScreen, Cond.instanceMethod yX3_lookAtScreen, Cond.selects RX3 yX3_lookAtScreen yX3_lookAtScreen, Cond.code yX3_lookAtScreen cX3_lookAtScreen 3 none, Cond.fieldLink RX3 158 "FrameBroker$Window" "isOnScreen" "Z", Cond.fieldLink RX3 21 "FrameBroker" "topmost" "[LFrameBroker$Window;", Cond.methodLink RX3 59 yX2_count, Cond.instanceMethod yX2_count, Cond.selects RX2 yX2_count yX2_count, Cond.code yX2_count cX2_count 1 (some .int)]
def wsX3_lay_r3 : List Cond := [Cond.methodLink RX3 189 yX2_topmostOver, Cond.instanceMethod yX2_topmostOver, Cond.selects RX2 yX2_topmostOver yX2_topmostOver, Cond.code yX2_topmostOver cX2_topmostOver 5 (some (.object "FrameBroker$Window")), Cond.methodLink RX2 24 yX2_get, Cond.methodLink RX2 28 yX1_covers, Cond.instanceMethod yX1_covers, Cond.selects RX1 yX1_covers yX1_covers, Cond.initialized RX1, Cond.code yX1_covers cX1_covers 3 (some .boolean), Cond.fieldLink RX1 15 "FrameBroker$Window" "column" "I", Cond.fieldLink RX1 21 "FrameBroker$Window" "width" "I", Cond.fieldLink RX1 18 "FrameBroker$Window" "row" "I", Cond.fieldLink RX1 24 "FrameBroker$Window" "height" "I", Cond.fieldLink RX1 27 "FrameBroker$Window" "isClear" "Z", Cond.methodLink RX3 86 yX3_lendToSeen, Cond.instanceMethod yX3_lendToSeen, Cond.selects RX3 yX3_lendToSeen yX3_lendToSeen, Cond.code yX3_lendToSeen cX3_lendToSeen 3 none, Cond.fieldLink RX3 137 "FrameBroker$Window" "hasSurface" "Z", Cond.methodLink RX3 195 yX3_lend, Cond.instanceMethod yX3_lend, Cond.selects RX3 yX3_lend yX3_lend, Cond.code yX3_lend cX3_lend 3 (some .boolean)]
def wsX3_lay_r4 : List Cond := [Cond.fieldLink RX3 36 "FrameBroker" "freePages" "I", Cond.methodLink RX3 198 yX1_pagesNeeded, Cond.instanceMethod yX1_pagesNeeded, Cond.selects RX1 yX1_pagesNeeded yX1_pagesNeeded, Cond.code yX1_pagesNeeded cX1_pagesNeeded 1 (some .int), Cond.methodLink RX3 201 yX3_pagesOfUnseen, Cond.instanceMethod yX3_pagesOfUnseen, Cond.selects RX3 yX3_pagesOfUnseen yX3_pagesOfUnseen, Cond.code yX3_pagesOfUnseen cX3_pagesOfUnseen 4 (some .int), Cond.methodLink RX3 204 yX3_takeBackUntilFree, Cond.instanceMethod yX3_takeBackUntilFree, Cond.selects RX3 yX3_takeBackUntilFree yX3_takeBackUntilFree, Cond.code yX3_takeBackUntilFree cX3_takeBackUntilFree 4 none, Cond.fieldLink RX3 39 "FrameBroker" "now" "I", Cond.methodLink RX3 207 yX1_loseSurface, Cond.instanceMethod yX1_loseSurface, Cond.selects RX1 yX1_loseSurface yX1_loseSurface, Cond.code yX1_loseSurface cX1_loseSurface 2 none, Cond.fieldLink RX1 38 "FrameBroker$Window" "hasSurface" "Z", Cond.fieldLink RX1 41 "FrameBroker$Window" "framesShown" "I", Cond.fieldLink RX1 31 "FrameBroker$Window" "task" "LFrameBroker$Task;", Cond.methodLink RX1 48 yX0_drop, Cond.instanceMethod yX0_drop, Cond.selects RX0 yX0_drop yX0_drop]
def wsX3_lay_r5 : List Cond := [Cond.initialized RX0, Cond.code yX0_drop cX0_drop 2 none, Cond.fieldLink RX0 30 "FrameBroker$Task" "isUnderWay" "Z", Cond.fieldLink RX0 27 "FrameBroker$Task" "nextDue" "I"]
def wsX3_lay : List Cond := .code yX3_lay cX3_lay 5 (some .int) :: ((wsX3_lay_r1 ++ (wsX3_lay_r2 ++ (wsX3_lay_r3 ++ (wsX3_lay_r4 ++ wsX3_lay_r5)))) ++ wsX30 ++ wsX20 ++ wsX10 ++ wsX00 ++ (vx_atS RX3 183 "java/lang/IndexOutOfBoundsException" ["java/lang/RuntimeException", "java/lang/Exception"]).filter goodWord)
def wsX3_beginFrames_r1 : List Cond := [Cond.fieldLink RX3 10 "FrameBroker" "byNumber" "LFrameBroker$WindowList;", Cond.fieldLink RX3 158 "FrameBroker$Window" "isOnScreen" "Z", Cond.fieldLink RX3 137 "FrameBroker$Window" "hasSurface" "Z", Cond.fieldLink RX3 141 "FrameBroker$Window" "task" "LFrameBroker$Task;", Cond.fieldLink RX3 39 "FrameBroker" "now" "I", Cond.methodLink RX3 59 yX2_count, Cond.instanceMethod yX2_count, Cond.selects RX2 yX2_count yX2_count, Cond.initialized RX2, Cond.code yX2_count cX2_count 1 (some .int), Cond.fieldLink RX2 17 "FrameBroker$WindowList" "size" "I", Cond.methodLink RX3 176 yX2_get, Cond.instanceMethod yX2_get, Cond.selects RX2 yX2_get yX2_get, Cond.code yX2_get cX2_get 2 (some (.object "FrameBroker$Window")), Cond.fieldLink RX2 11 "FrameBroker$WindowList" "items" "[LFrameBroker$Window;", Cond.methodLink RX3 229 yX0_beginIfDue, Cond.instanceMethod yX0_beginIfDue, Cond.selects RX0 yX0_beginIfDue yX0_beginIfDue, Cond.initialized RX0, Cond.code yX0_beginIfDue cX0_beginIfDue 2 none, Cond.fieldLink RX0 30 "FrameBroker$Task" "isUnderWay" "Z", Cond.fieldLink RX0 27 "FrameBroker$Task" "nextDue" "I", Cond.fieldLink RX0 9 "FrameBroker$Task" "period" "I"]
def wsX3_beginFrames_r2 : List Cond := [Cond.fieldLink RX0 18 "FrameBroker$Task" "slowness" "I", Cond.methodLink RX0 40 yX0_begin, Cond.instanceMethod yX0_begin, Cond.selects RX0 yX0_begin yX0_begin, Cond.code yX0_begin cX0_begin 2 none, Cond.fieldLink RX0 34 "FrameBroker$Task" "slices" "I", Cond.fieldLink RX0 37 "FrameBroker$Task" "lastTick" "I", Cond.methodLink RX3 232 yX0_drop, Cond.instanceMethod yX0_drop, Cond.selects RX0 yX0_drop yX0_drop, Cond.code yX0_drop cX0_drop 2 none]
def wsX3_beginFrames : List Cond := .code yX3_beginFrames cX3_beginFrames 3 none :: ((wsX3_beginFrames_r1 ++ wsX3_beginFrames_r2) ++ wsX30 ++ wsX10 ++ wsX20 ++ wsX00)
def wsX3_mostUrgent : List Cond := .code yX3_mostUrgent cX3_mostUrgent 4 (some (.object "FrameBroker$Window")) :: ([.fieldLink RX3 10 "FrameBroker" "byNumber" "LFrameBroker$WindowList;", .fieldLink RX3 141 "FrameBroker$Window" "task" "LFrameBroker$Task;", .fieldLink RX3 170 "FrameBroker$Task" "isUnderWay" "Z", .fieldLink RX3 173 "FrameBroker$Task" "lastTick" "I", .methodLink RX3 59 yX2_count, .instanceMethod yX2_count, .selects RX2 yX2_count yX2_count, .initialized RX2, .code yX2_count cX2_count 1 (some .int), .fieldLink RX2 17 "FrameBroker$WindowList" "size" "I", .methodLink RX3 176 yX2_get, .instanceMethod yX2_get, .selects RX2 yX2_get yX2_get, .code yX2_get cX2_get 2 (some (.object "FrameBroker$Window")), .fieldLink RX2 11 "FrameBroker$WindowList" "items" "[LFrameBroker$Window;"] ++ wsX30 ++ wsX10 ++ wsX00 ++ wsX20)
def wsX3_countMisses_r1 : List Cond := [Cond.fieldLink RX3 10 "FrameBroker" "byNumber" "LFrameBroker$WindowList;", Cond.fieldLink RX3 141 "FrameBroker$Window" "task" "LFrameBroker$Task;", Cond.fieldLink RX3 170 "FrameBroker$Task" "isUnderWay" "Z", Cond.fieldLink RX3 173 "FrameBroker$Task" "lastTick" "I", Cond.fieldLink RX3 39 "FrameBroker" "now" "I", Cond.methodLink RX3 59 yX2_count, Cond.instanceMethod yX2_count, Cond.selects RX2 yX2_count yX2_count, Cond.initialized RX2, Cond.code yX2_count cX2_count 1 (some .int), Cond.fieldLink RX2 17 "FrameBroker$WindowList" "size" "I", Cond.methodLink RX3 176 yX2_get, Cond.instanceMethod yX2_get, Cond.selects RX2 yX2_get yX2_get, Cond.code yX2_get cX2_get 2 (some (.object "FrameBroker$Window")), Cond.fieldLink RX2 11 "FrameBroker$WindowList" "items" "[LFrameBroker$Window;", Cond.methodLink RX3 235 yX0_miss, Cond.instanceMethod yX0_miss, Cond.selects RX0 yX0_miss yX0_miss, Cond.initialized RX0, Cond.code yX0_miss cX0_miss 1 none, Cond.fieldLink RX0 21 "FrameBroker$Task" "missed" "I", Cond.fieldLink RX0 24 "FrameBroker$Task" "inTime" "I", Cond.fieldLink RX0 37 "FrameBroker$Task" "lastTick" "I"]
def wsX3_countMisses_r2 : List Cond := [Cond.fieldLink RX0 9 "FrameBroker$Task" "period" "I", Cond.fieldLink RX0 18 "FrameBroker$Task" "slowness" "I"]
def wsX3_countMisses : List Cond := .code yX3_countMisses cX3_countMisses 3 none :: ((wsX3_countMisses_r1 ++ wsX3_countMisses_r2) ++ wsX30 ++ wsX10 ++ wsX00 ++ wsX20)
def wsX3_passTick_r1 : List Cond := [Cond.fieldLink RX3 141 "FrameBroker$Window" "task" "LFrameBroker$Task;", Cond.fieldLink RX3 217 "FrameBroker$Task" "slices" "I", Cond.fieldLink RX3 39 "FrameBroker" "now" "I", Cond.fieldLink RX3 220 "FrameBroker$Task" "cost" "I", Cond.fieldLink RX3 161 "FrameBroker$Window" "framesShown" "I", Cond.methodLink RX3 210 yX3_beginFrames, Cond.instanceMethod yX3_beginFrames, Cond.selects RX3 yX3_beginFrames yX3_beginFrames, Cond.initialized RX3, Cond.code yX3_beginFrames cX3_beginFrames 3 none, Cond.fieldLink RX3 10 "FrameBroker" "byNumber" "LFrameBroker$WindowList;", Cond.fieldLink RX3 158 "FrameBroker$Window" "isOnScreen" "Z", Cond.fieldLink RX3 137 "FrameBroker$Window" "hasSurface" "Z", Cond.methodLink RX3 59 yX2_count, Cond.instanceMethod yX2_count, Cond.selects RX2 yX2_count yX2_count, Cond.initialized RX2, Cond.code yX2_count cX2_count 1 (some .int), Cond.fieldLink RX2 17 "FrameBroker$WindowList" "size" "I", Cond.methodLink RX3 176 yX2_get, Cond.instanceMethod yX2_get, Cond.selects RX2 yX2_get yX2_get, Cond.code yX2_get cX2_get 2 (some (.object "FrameBroker$Window")), Cond.fieldLink RX2 11 "FrameBroker$WindowList" "items" "[LFrameBroker$Window;"]
def wsX3_passTick_r2 : List Cond := [Cond.methodLink RX3 229 yX0_beginIfDue, Cond.instanceMethod yX0_beginIfDue, Cond.selects RX0 yX0_beginIfDue yX0_beginIfDue, Cond.initialized RX0, Cond.code yX0_beginIfDue cX0_beginIfDue 2 none, Cond.fieldLink RX0 30 "FrameBroker$Task" "isUnderWay" "Z", Cond.fieldLink RX0 27 "FrameBroker$Task" "nextDue" "I", Cond.fieldLink RX0 9 "FrameBroker$Task" "period" "I", Cond.fieldLink RX0 18 "FrameBroker$Task" "slowness" "I", Cond.methodLink RX0 40 yX0_begin, Cond.instanceMethod yX0_begin, Cond.selects RX0 yX0_begin yX0_begin, Cond.code yX0_begin cX0_begin 2 none, Cond.fieldLink RX0 34 "FrameBroker$Task" "slices" "I", Cond.fieldLink RX0 37 "FrameBroker$Task" "lastTick" "I", Cond.methodLink RX3 232 yX0_drop, Cond.instanceMethod yX0_drop, Cond.selects RX0 yX0_drop yX0_drop, Cond.code yX0_drop cX0_drop 2 none, Cond.methodLink RX3 213 yX3_mostUrgent, Cond.instanceMethod yX3_mostUrgent, Cond.selects RX3 yX3_mostUrgent yX3_mostUrgent, Cond.code yX3_mostUrgent cX3_mostUrgent 4 (some (.object "FrameBroker$Window")), Cond.fieldLink RX3 170 "FrameBroker$Task" "isUnderWay" "Z"]
def wsX3_passTick_r3 : List Cond := [Cond.fieldLink RX3 173 "FrameBroker$Task" "lastTick" "I", Cond.methodLink RX3 223 yX0_finish, Cond.instanceMethod yX0_finish, Cond.selects RX0 yX0_finish yX0_finish, Cond.code yX0_finish cX0_finish 1 none, Cond.fieldLink RX0 24 "FrameBroker$Task" "inTime" "I", Cond.methodLink RX3 226 yX3_countMisses, Cond.instanceMethod yX3_countMisses, Cond.selects RX3 yX3_countMisses yX3_countMisses, Cond.code yX3_countMisses cX3_countMisses 3 none, Cond.methodLink RX3 235 yX0_miss, Cond.instanceMethod yX0_miss, Cond.selects RX0 yX0_miss yX0_miss, Cond.code yX0_miss cX0_miss 1 none, Cond.fieldLink RX0 21 "FrameBroker$Task" "missed" "I"]
def wsX3_passTick : List Cond := .code yX3_passTick cX3_passTick 2 none :: ((wsX3_passTick_r1 ++ (wsX3_passTick_r2 ++ wsX3_passTick_r3)) ++ wsX10 ++ wsX00 ++ wsX30 ++ wsX20)
def wsX3_advance_r1 : List Cond := [Cond.classLink RX3 50 "java/lang/IllegalArgumentException", Cond.initialized "java/lang/IllegalArgumentException", Cond.classLink RX3 63 "java/lang/IllegalStateException", Cond.initialized "java/lang/IllegalStateException", Cond.fieldLink RX3 39 "FrameBroker" "now" "I", Cond.constant RX3 127 (100000), Cond.methodLink RX3 130 yX3_passTick, Cond.instanceMethod yX3_passTick, Cond.selects RX3 yX3_passTick yX3_passTick, Cond.initialized RX3, Cond.code yX3_passTick cX3_passTick 2 none, Cond.fieldLink RX3 141 "FrameBroker$Window" "task" "LFrameBroker$Task;", Cond.fieldLink RX3 217 "FrameBroker$Task" "slices" "I", Cond.fieldLink RX3 220 "FrameBroker$Task" "cost" "I", Cond.fieldLink RX3 161 "FrameBroker$Window" "framesShown" "I", Cond.methodLink RX3 210 yX3_beginFrames, Cond.instanceMethod yX3_beginFrames, Cond.selects RX3 yX3_beginFrames yX3_beginFrames, Cond.code yX3_beginFrames cX3_beginFrames 3 none, Cond.fieldLink RX3 10 "FrameBroker" "byNumber" "LFrameBroker$WindowList;", Cond.fieldLink RX3 158 "FrameBroker$Window" "isOnScreen" "Z", Cond.fieldLink RX3 137 "FrameBroker$Window" "hasSurface" "Z", Cond.methodLink RX3 59 yX2_count, Cond.instanceMethod yX2_count]
def wsX3_advance_r2 : List Cond := [Cond.selects RX2 yX2_count yX2_count, Cond.initialized RX2, Cond.code yX2_count cX2_count 1 (some .int), Cond.fieldLink RX2 17 "FrameBroker$WindowList" "size" "I", Cond.methodLink RX3 176 yX2_get, Cond.instanceMethod yX2_get, Cond.selects RX2 yX2_get yX2_get, Cond.code yX2_get cX2_get 2 (some (.object "FrameBroker$Window")), Cond.fieldLink RX2 11 "FrameBroker$WindowList" "items" "[LFrameBroker$Window;", Cond.methodLink RX3 229 yX0_beginIfDue, Cond.instanceMethod yX0_beginIfDue, Cond.selects RX0 yX0_beginIfDue yX0_beginIfDue, Cond.initialized RX0, Cond.code yX0_beginIfDue cX0_beginIfDue 2 none, Cond.fieldLink RX0 30 "FrameBroker$Task" "isUnderWay" "Z", Cond.fieldLink RX0 27 "FrameBroker$Task" "nextDue" "I", Cond.fieldLink RX0 9 "FrameBroker$Task" "period" "I", Cond.fieldLink RX0 18 "FrameBroker$Task" "slowness" "I", Cond.methodLink RX0 40 yX0_begin, Cond.instanceMethod yX0_begin, Cond.selects RX0 yX0_begin yX0_begin, Cond.code yX0_begin cX0_begin 2 none, Cond.fieldLink RX0 34 "FrameBroker$Task" "slices" "I", Cond.fieldLink RX0 37 "FrameBroker$Task" "lastTick" "I"]
def wsX3_advance_r3 : List Cond := [Cond.methodLink RX3 232 yX0_drop, Cond.instanceMethod yX0_drop, Cond.selects RX0 yX0_drop yX0_drop, Cond.code yX0_drop cX0_drop 2 none, Cond.methodLink RX3 213 yX3_mostUrgent, Cond.instanceMethod yX3_mostUrgent, Cond.selects RX3 yX3_mostUrgent yX3_mostUrgent, Cond.code yX3_mostUrgent cX3_mostUrgent 4 (some (.object "FrameBroker$Window")), Cond.fieldLink RX3 170 "FrameBroker$Task" "isUnderWay" "Z", Cond.fieldLink RX3 173 "FrameBroker$Task" "lastTick" "I", Cond.methodLink RX3 223 yX0_finish, Cond.instanceMethod yX0_finish, Cond.selects RX0 yX0_finish yX0_finish, Cond.code yX0_finish cX0_finish 1 none, Cond.fieldLink RX0 24 "FrameBroker$Task" "inTime" "I", Cond.methodLink RX3 226 yX3_countMisses, Cond.instanceMethod yX3_countMisses, Cond.selects RX3 yX3_countMisses yX3_countMisses, Cond.code yX3_countMisses cX3_countMisses 3 none, Cond.methodLink RX3 235 yX0_miss, Cond.instanceMethod yX0_miss, Cond.selects RX0 yX0_miss yX0_miss, Cond.code yX0_miss cX0_miss 1 none, Cond.fieldLink RX0 21 "FrameBroker$Task" "missed" "I"]
def wsX3_advance : List Cond := .code yX3_advance cX3_advance 3 (some .int) :: ((wsX3_advance_r1 ++ (wsX3_advance_r2 ++ wsX3_advance_r3)) ++ wsX30 ++ wsX10 ++ wsX00 ++ wsX20 ++ (vx_atS RX3 54 "java/lang/IllegalArgumentException" ["java/lang/RuntimeException", "java/lang/Exception"]).filter goodWord ++ (vx_atS RX3 67 "java/lang/IllegalStateException" ["java/lang/RuntimeException", "java/lang/Exception"]).filter goodWord)
def wsX3_findTopmost : List Cond := .code yX3_findTopmost cX3_findTopmost 3 (some (.object "FrameBroker$Window")) :: ([.classLink RX3 179 "java/lang/IndexOutOfBoundsException", .initialized "java/lang/IndexOutOfBoundsException", .fieldLink RX3 21 "FrameBroker" "topmost" "[LFrameBroker$Window;", .methodLink RX3 42 yX3_isCell, .static yX3_isCell, .initialized RX3, .code yX3_isCell cX3_isCell 2 (some .boolean)] ++ wsX30 ++ (vx_atS RX3 183 "java/lang/IndexOutOfBoundsException" ["java/lang/RuntimeException", "java/lang/Exception"]).filter goodWord)
def wsX3_numberOf : List Cond := .code yX3_numberOf cX3_numberOf 1 (some .int) :: ([.fieldLink RX3 89 "FrameBroker$Window" "number" "I"] ++ wsX10)
def wsX3_input_r1 : List Cond := [Cond.fieldLink RX3 137 "FrameBroker$Window" "hasSurface" "Z", Cond.fieldLink RX3 141 "FrameBroker$Window" "task" "LFrameBroker$Task;", Cond.fieldLink RX3 39 "FrameBroker" "now" "I", Cond.methodLink RX3 133 yX3_findTopmost, Cond.instanceMethod yX3_findTopmost, Cond.selects RX3 yX3_findTopmost yX3_findTopmost, Cond.initialized RX3, Cond.code yX3_findTopmost cX3_findTopmost 3 (some (.object "FrameBroker$Window")), Cond.classLink RX3 179 "java/lang/IndexOutOfBoundsException", Cond.initialized "java/lang/IndexOutOfBoundsException", Cond.fieldLink RX3 21 "FrameBroker" "topmost" "[LFrameBroker$Window;", Cond.methodLink RX3 42 yX3_isCell, Cond.static yX3_isCell, Cond.code yX3_isCell cX3_isCell 2 (some .boolean), Cond.methodLink RX3 145 yX0_hurry, Cond.instanceMethod yX0_hurry, Cond.selects RX0 yX0_hurry yX0_hurry, Cond.initialized RX0, Cond.code yX0_hurry cX0_hurry 3 none, Cond.fieldLink RX0 9 "FrameBroker$Task" "period" "I", Cond.fieldLink RX0 30 "FrameBroker$Task" "isUnderWay" "Z", Cond.fieldLink RX0 37 "FrameBroker$Task" "lastTick" "I", Cond.methodLink RX0 40 yX0_begin, Cond.instanceMethod yX0_begin]
def wsX3_input_r2 : List Cond := [Cond.selects RX0 yX0_begin yX0_begin, Cond.code yX0_begin cX0_begin 2 none, Cond.fieldLink RX0 34 "FrameBroker$Task" "slices" "I", Cond.methodLink RX3 148 yX3_numberOf, Cond.static yX3_numberOf, Cond.code yX3_numberOf cX3_numberOf 1 (some .int), Cond.fieldLink RX3 89 "FrameBroker$Window" "number" "I"]
def wsX3_input : List Cond := .code yX3_input cX3_input 4 (some .int) :: ((wsX3_input_r1 ++ wsX3_input_r2) ++ wsX10 ++ wsX30 ++ wsX00 ++ (vx_atS RX3 183 "java/lang/IndexOutOfBoundsException" ["java/lang/RuntimeException", "java/lang/Exception"]).filter goodWord)
def wsX3_pictureOf : List Cond := .code yX3_pictureOf cX3_pictureOf 1 (some .int) :: ([.fieldLink RX3 161 "FrameBroker$Window" "framesShown" "I"] ++ wsX10)
def wsX3_countDamage : List Cond := .code yX3_countDamage cX3_countDamage 4 (some .int) :: ([.fieldLink RX3 21 "FrameBroker" "topmost" "[LFrameBroker$Window;", .fieldLink RX3 25 "FrameBroker" "lastWindows" "[I", .fieldLink RX3 29 "FrameBroker" "lastPictures" "[I", .methodLink RX3 148 yX3_numberOf, .static yX3_numberOf, .initialized RX3, .code yX3_numberOf cX3_numberOf 1 (some .int), .fieldLink RX3 89 "FrameBroker$Window" "number" "I", .methodLink RX3 192 yX3_pictureOf, .static yX3_pictureOf, .code yX3_pictureOf cX3_pictureOf 1 (some .int), .fieldLink RX3 161 "FrameBroker$Window" "framesShown" "I"] ++ wsX30 ++ wsX10)
def wsX3_rememberScreen : List Cond := .code yX3_rememberScreen cX3_rememberScreen 3 none :: ([.fieldLink RX3 21 "FrameBroker" "topmost" "[LFrameBroker$Window;", .fieldLink RX3 25 "FrameBroker" "lastWindows" "[I", .fieldLink RX3 29 "FrameBroker" "lastPictures" "[I", .methodLink RX3 148 yX3_numberOf, .static yX3_numberOf, .initialized RX3, .code yX3_numberOf cX3_numberOf 1 (some .int), .fieldLink RX3 89 "FrameBroker$Window" "number" "I", .methodLink RX3 192 yX3_pictureOf, .static yX3_pictureOf, .code yX3_pictureOf cX3_pictureOf 1 (some .int), .fieldLink RX3 161 "FrameBroker$Window" "framesShown" "I"] ++ wsX30 ++ wsX10)
def wsX3_show : List Cond := .code yX3_show cX3_show 2 (some .int) :: ([.methodLink RX3 152 yX3_countDamage, .instanceMethod yX3_countDamage, .selects RX3 yX3_countDamage yX3_countDamage, .initialized RX3, .code yX3_countDamage cX3_countDamage 4 (some .int), .fieldLink RX3 21 "FrameBroker" "topmost" "[LFrameBroker$Window;", .fieldLink RX3 25 "FrameBroker" "lastWindows" "[I", .fieldLink RX3 29 "FrameBroker" "lastPictures" "[I", .methodLink RX3 148 yX3_numberOf, .static yX3_numberOf, .code yX3_numberOf cX3_numberOf 1 (some .int), .fieldLink RX3 89 "FrameBroker$Window" "number" "I", .methodLink RX3 192 yX3_pictureOf, .static yX3_pictureOf, .code yX3_pictureOf cX3_pictureOf 1 (some .int), .fieldLink RX3 161 "FrameBroker$Window" "framesShown" "I", .methodLink RX3 155 yX3_rememberScreen, .instanceMethod yX3_rememberScreen, .selects RX3 yX3_rememberScreen yX3_rememberScreen, .code yX3_rememberScreen cX3_rememberScreen 3 none] ++ wsX30 ++ wsX10)
def wsX3_tick : List Cond := .code yX3_tick cX3_tick 1 (some .int) :: ([.fieldLink RX3 39 "FrameBroker" "now" "I"] ++ wsX30)
def wsX3_windows : List Cond := .code yX3_windows cX3_windows 1 (some .int) :: ([.fieldLink RX3 16 "FrameBroker" "stack" "LFrameBroker$WindowList;", .methodLink RX3 59 yX2_count, .instanceMethod yX2_count, .selects RX2 yX2_count yX2_count, .initialized RX2, .code yX2_count cX2_count 1 (some .int), .fieldLink RX2 17 "FrameBroker$WindowList" "size" "I"] ++ wsX30 ++ wsX20)
def wsX3_free : List Cond := .code yX3_free cX3_free 1 (some .int) :: ([.fieldLink RX3 36 "FrameBroker" "freePages" "I"] ++ wsX30)
def wsX3_damage : List Cond := .code yX3_damage cX3_damage 1 (some .int) :: ([.methodLink RX3 152 yX3_countDamage, .instanceMethod yX3_countDamage, .selects RX3 yX3_countDamage yX3_countDamage, .initialized RX3, .code yX3_countDamage cX3_countDamage 4 (some .int), .fieldLink RX3 21 "FrameBroker" "topmost" "[LFrameBroker$Window;", .fieldLink RX3 25 "FrameBroker" "lastWindows" "[I", .fieldLink RX3 29 "FrameBroker" "lastPictures" "[I", .methodLink RX3 148 yX3_numberOf, .static yX3_numberOf, .code yX3_numberOf cX3_numberOf 1 (some .int), .fieldLink RX3 89 "FrameBroker$Window" "number" "I", .methodLink RX3 192 yX3_pictureOf, .static yX3_pictureOf, .code yX3_pictureOf cX3_pictureOf 1 (some .int), .fieldLink RX3 161 "FrameBroker$Window" "framesShown" "I"] ++ wsX30 ++ wsX10)
def wsX3_at : List Cond := .code yX3_at cX3_at 3 (some .int) :: ([.methodLink RX3 133 yX3_findTopmost, .instanceMethod yX3_findTopmost, .selects RX3 yX3_findTopmost yX3_findTopmost, .initialized RX3, .code yX3_findTopmost cX3_findTopmost 3 (some (.object "FrameBroker$Window")), .classLink RX3 179 "java/lang/IndexOutOfBoundsException", .initialized "java/lang/IndexOutOfBoundsException", .fieldLink RX3 21 "FrameBroker" "topmost" "[LFrameBroker$Window;", .methodLink RX3 42 yX3_isCell, .static yX3_isCell, .code yX3_isCell cX3_isCell 2 (some .boolean), .methodLink RX3 148 yX3_numberOf, .static yX3_numberOf, .code yX3_numberOf cX3_numberOf 1 (some .int), .fieldLink RX3 89 "FrameBroker$Window" "number" "I"] ++ wsX30 ++ wsX10 ++ (vx_atS RX3 183 "java/lang/IndexOutOfBoundsException" ["java/lang/RuntimeException", "java/lang/Exception"]).filter goodWord)
def wsX3_placeOf : List Cond := .code yX3_placeOf cX3_placeOf 2 (some .int) :: ([.fieldLink RX3 16 "FrameBroker" "stack" "LFrameBroker$WindowList;", .fieldLink RX3 89 "FrameBroker$Window" "number" "I", .methodLink RX3 92 yX3_find, .instanceMethod yX3_find, .selects RX3 yX3_find yX3_find, .initialized RX3, .code yX3_find cX3_find 3 (some (.object "FrameBroker$Window")), .classLink RX3 179 "java/lang/IndexOutOfBoundsException", .initialized "java/lang/IndexOutOfBoundsException", .fieldLink RX3 10 "FrameBroker" "byNumber" "LFrameBroker$WindowList;", .methodLink RX3 118 yX2_indexOf, .instanceMethod yX2_indexOf, .selects RX2 yX2_indexOf yX2_indexOf, .initialized RX2, .code yX2_indexOf cX2_indexOf 4 (some .int), .fieldLink RX2 11 "FrameBroker$WindowList" "items" "[LFrameBroker$Window;", .fieldLink RX2 21 "FrameBroker$Window" "number" "I", .methodLink RX3 176 yX2_get, .instanceMethod yX2_get, .selects RX2 yX2_get yX2_get, .code yX2_get cX2_get 2 (some (.object "FrameBroker$Window"))] ++ wsX30 ++ wsX10 ++ wsX20 ++ (vx_atS RX3 183 "java/lang/IndexOutOfBoundsException" ["java/lang/RuntimeException", "java/lang/Exception"]).filter goodWord)
def wsX3_isSeen : List Cond := .code yX3_isSeen cX3_isSeen 2 (some .boolean) :: ([.fieldLink RX3 158 "FrameBroker$Window" "isOnScreen" "Z", .methodLink RX3 92 yX3_find, .instanceMethod yX3_find, .selects RX3 yX3_find yX3_find, .initialized RX3, .code yX3_find cX3_find 3 (some (.object "FrameBroker$Window")), .classLink RX3 179 "java/lang/IndexOutOfBoundsException", .initialized "java/lang/IndexOutOfBoundsException", .fieldLink RX3 10 "FrameBroker" "byNumber" "LFrameBroker$WindowList;", .methodLink RX3 118 yX2_indexOf, .instanceMethod yX2_indexOf, .selects RX2 yX2_indexOf yX2_indexOf, .initialized RX2, .code yX2_indexOf cX2_indexOf 4 (some .int), .fieldLink RX2 11 "FrameBroker$WindowList" "items" "[LFrameBroker$Window;", .fieldLink RX2 21 "FrameBroker$Window" "number" "I", .methodLink RX3 176 yX2_get, .instanceMethod yX2_get, .selects RX2 yX2_get yX2_get, .code yX2_get cX2_get 2 (some (.object "FrameBroker$Window"))] ++ wsX10 ++ wsX30 ++ wsX20 ++ (vx_atS RX3 183 "java/lang/IndexOutOfBoundsException" ["java/lang/RuntimeException", "java/lang/Exception"]).filter goodWord)
def wsX3_pagesOf_r1 : List Cond := [Cond.methodLink RX3 92 yX3_find, Cond.instanceMethod yX3_find, Cond.selects RX3 yX3_find yX3_find, Cond.initialized RX3, Cond.code yX3_find cX3_find 3 (some (.object "FrameBroker$Window")), Cond.classLink RX3 179 "java/lang/IndexOutOfBoundsException", Cond.initialized "java/lang/IndexOutOfBoundsException", Cond.fieldLink RX3 10 "FrameBroker" "byNumber" "LFrameBroker$WindowList;", Cond.methodLink RX3 118 yX2_indexOf, Cond.instanceMethod yX2_indexOf, Cond.selects RX2 yX2_indexOf yX2_indexOf, Cond.initialized RX2, Cond.code yX2_indexOf cX2_indexOf 4 (some .int), Cond.fieldLink RX2 11 "FrameBroker$WindowList" "items" "[LFrameBroker$Window;", Cond.fieldLink RX2 21 "FrameBroker$Window" "number" "I", Cond.methodLink RX3 176 yX2_get, Cond.instanceMethod yX2_get, Cond.selects RX2 yX2_get yX2_get, Cond.code yX2_get cX2_get 2 (some (.object "FrameBroker$Window")), Cond.methodLink RX3 100 yX1_pagesHeld, Cond.instanceMethod yX1_pagesHeld, Cond.selects RX1 yX1_pagesHeld yX1_pagesHeld, Cond.initialized RX1, Cond.code yX1_pagesHeld cX1_pagesHeld 1 (some .int)]
def wsX3_pagesOf_r2 : List Cond := [Cond.fieldLink RX1 38 "FrameBroker$Window" "hasSurface" "Z", Cond.methodLink RX1 44 yX1_pagesNeeded, Cond.instanceMethod yX1_pagesNeeded, Cond.selects RX1 yX1_pagesNeeded yX1_pagesNeeded, Cond.code yX1_pagesNeeded cX1_pagesNeeded 1 (some .int), Cond.fieldLink RX1 21 "FrameBroker$Window" "width" "I", Cond.fieldLink RX1 24 "FrameBroker$Window" "height" "I"]
def wsX3_pagesOf : List Cond := .code yX3_pagesOf cX3_pagesOf 2 (some .int) :: ((wsX3_pagesOf_r1 ++ wsX3_pagesOf_r2) ++ wsX30 ++ wsX20 ++ wsX10 ++ (vx_atS RX3 183 "java/lang/IndexOutOfBoundsException" ["java/lang/RuntimeException", "java/lang/Exception"]).filter goodWord)
def wsX3_picture : List Cond := .code yX3_picture cX3_picture 2 (some .int) :: ([.fieldLink RX3 161 "FrameBroker$Window" "framesShown" "I", .methodLink RX3 92 yX3_find, .instanceMethod yX3_find, .selects RX3 yX3_find yX3_find, .initialized RX3, .code yX3_find cX3_find 3 (some (.object "FrameBroker$Window")), .classLink RX3 179 "java/lang/IndexOutOfBoundsException", .initialized "java/lang/IndexOutOfBoundsException", .fieldLink RX3 10 "FrameBroker" "byNumber" "LFrameBroker$WindowList;", .methodLink RX3 118 yX2_indexOf, .instanceMethod yX2_indexOf, .selects RX2 yX2_indexOf yX2_indexOf, .initialized RX2, .code yX2_indexOf cX2_indexOf 4 (some .int), .fieldLink RX2 11 "FrameBroker$WindowList" "items" "[LFrameBroker$Window;", .fieldLink RX2 21 "FrameBroker$Window" "number" "I", .methodLink RX3 176 yX2_get, .instanceMethod yX2_get, .selects RX2 yX2_get yX2_get, .code yX2_get cX2_get 2 (some (.object "FrameBroker$Window"))] ++ wsX10 ++ wsX30 ++ wsX20 ++ (vx_atS RX3 183 "java/lang/IndexOutOfBoundsException" ["java/lang/RuntimeException", "java/lang/Exception"]).filter goodWord)
def wsX3_pace : List Cond := .code yX3_pace cX3_pace 2 (some .int) :: ([.fieldLink RX3 141 "FrameBroker$Window" "task" "LFrameBroker$Task;", .fieldLink RX3 164 "FrameBroker$Task" "slowness" "I", .methodLink RX3 92 yX3_find, .instanceMethod yX3_find, .selects RX3 yX3_find yX3_find, .initialized RX3, .code yX3_find cX3_find 3 (some (.object "FrameBroker$Window")), .classLink RX3 179 "java/lang/IndexOutOfBoundsException", .initialized "java/lang/IndexOutOfBoundsException", .fieldLink RX3 10 "FrameBroker" "byNumber" "LFrameBroker$WindowList;", .methodLink RX3 118 yX2_indexOf, .instanceMethod yX2_indexOf, .selects RX2 yX2_indexOf yX2_indexOf, .initialized RX2, .code yX2_indexOf cX2_indexOf 4 (some .int), .fieldLink RX2 11 "FrameBroker$WindowList" "items" "[LFrameBroker$Window;", .fieldLink RX2 21 "FrameBroker$Window" "number" "I", .methodLink RX3 176 yX2_get, .instanceMethod yX2_get, .selects RX2 yX2_get yX2_get, .code yX2_get cX2_get 2 (some (.object "FrameBroker$Window"))] ++ wsX10 ++ wsX00 ++ wsX30 ++ wsX20 ++ (vx_atS RX3 183 "java/lang/IndexOutOfBoundsException" ["java/lang/RuntimeException", "java/lang/Exception"]).filter goodWord)
def wsX3_misses : List Cond := .code yX3_misses cX3_misses 2 (some .int) :: ([.fieldLink RX3 141 "FrameBroker$Window" "task" "LFrameBroker$Task;", .fieldLink RX3 167 "FrameBroker$Task" "missed" "I", .methodLink RX3 92 yX3_find, .instanceMethod yX3_find, .selects RX3 yX3_find yX3_find, .initialized RX3, .code yX3_find cX3_find 3 (some (.object "FrameBroker$Window")), .classLink RX3 179 "java/lang/IndexOutOfBoundsException", .initialized "java/lang/IndexOutOfBoundsException", .fieldLink RX3 10 "FrameBroker" "byNumber" "LFrameBroker$WindowList;", .methodLink RX3 118 yX2_indexOf, .instanceMethod yX2_indexOf, .selects RX2 yX2_indexOf yX2_indexOf, .initialized RX2, .code yX2_indexOf cX2_indexOf 4 (some .int), .fieldLink RX2 11 "FrameBroker$WindowList" "items" "[LFrameBroker$Window;", .fieldLink RX2 21 "FrameBroker$Window" "number" "I", .methodLink RX3 176 yX2_get, .instanceMethod yX2_get, .selects RX2 yX2_get yX2_get, .code yX2_get cX2_get 2 (some (.object "FrameBroker$Window"))] ++ wsX10 ++ wsX00 ++ wsX30 ++ wsX20 ++ (vx_atS RX3 183 "java/lang/IndexOutOfBoundsException" ["java/lang/RuntimeException", "java/lang/Exception"]).filter goodWord)
def wsX3_deadline : List Cond := .code yX3_deadline cX3_deadline 3 (some .int) :: ([.fieldLink RX3 141 "FrameBroker$Window" "task" "LFrameBroker$Task;", .fieldLink RX3 170 "FrameBroker$Task" "isUnderWay" "Z", .fieldLink RX3 173 "FrameBroker$Task" "lastTick" "I", .methodLink RX3 92 yX3_find, .instanceMethod yX3_find, .selects RX3 yX3_find yX3_find, .initialized RX3, .code yX3_find cX3_find 3 (some (.object "FrameBroker$Window")), .classLink RX3 179 "java/lang/IndexOutOfBoundsException", .initialized "java/lang/IndexOutOfBoundsException", .fieldLink RX3 10 "FrameBroker" "byNumber" "LFrameBroker$WindowList;", .methodLink RX3 118 yX2_indexOf, .instanceMethod yX2_indexOf, .selects RX2 yX2_indexOf yX2_indexOf, .initialized RX2, .code yX2_indexOf cX2_indexOf 4 (some .int), .fieldLink RX2 11 "FrameBroker$WindowList" "items" "[LFrameBroker$Window;", .fieldLink RX2 21 "FrameBroker$Window" "number" "I", .methodLink RX3 176 yX2_get, .instanceMethod yX2_get, .selects RX2 yX2_get yX2_get, .code yX2_get cX2_get 2 (some (.object "FrameBroker$Window"))] ++ wsX10 ++ wsX00 ++ wsX30 ++ wsX20 ++ (vx_atS RX3 183 "java/lang/IndexOutOfBoundsException" ["java/lang/RuntimeException", "java/lang/Exception"]).filter goodWord)
def wsX4_init : List Cond := .code yX4_init cX4_init 2 none :: ([.methodLink RX4 1 objectInit, .instanceMethod objectInit, .code objectInit ⟨#[0xb1]⟩ 1 none, .arrayClass .int, .fieldLink RX4 7 "FrameBrokerModel" "stack" "[I", .fieldLink RX4 13 "FrameBrokerModel" "columns" "[I", .fieldLink RX4 16 "FrameBrokerModel" "rows" "[I", .fieldLink RX4 19 "FrameBrokerModel" "widths" "[I", .fieldLink RX4 22 "FrameBrokerModel" "heights" "[I", .arrayClass .boolean, .fieldLink RX4 25 "FrameBrokerModel" "isClear" "[Z", .fieldLink RX4 29 "FrameBrokerModel" "periods" "[I", .fieldLink RX4 32 "FrameBrokerModel" "costs" "[I", .fieldLink RX4 35 "FrameBrokerModel" "hasSurface" "[Z", .fieldLink RX4 38 "FrameBrokerModel" "pictures" "[I", .fieldLink RX4 41 "FrameBrokerModel" "paces" "[I", .fieldLink RX4 44 "FrameBrokerModel" "misses" "[I", .fieldLink RX4 47 "FrameBrokerModel" "inTime" "[I", .fieldLink RX4 50 "FrameBrokerModel" "dues" "[I", .fieldLink RX4 53 "FrameBrokerModel" "deadlines" "[I", .fieldLink RX4 56 "FrameBrokerModel" "slices" "[I", .fieldLink RX4 59 "FrameBrokerModel" "shownWindows" "[I", .fieldLink RX4 62 "FrameBrokerModel" "shownPictures" "[I"] ++ wsX40)
def wsX4_thrown : List Cond := .code yX4_thrown cX4_thrown 1 (some .int) :: ([.fieldLink RX4 65 "FrameBrokerModel" "refusal" "I"] ++ wsX40)
def wsX4_refused : List Cond := .code yX4_refused cX4_refused 2 (some .boolean) :: ([.fieldLink RX4 65 "FrameBrokerModel" "refusal" "I"] ++ wsX40)
def wsX4_fine : List Cond := .code yX4_fine cX4_fine 2 (some .int) :: ([.fieldLink RX4 65 "FrameBrokerModel" "refusal" "I"] ++ wsX40)
def wsX4_in : List Cond := .code yX4_in cX4_in 3 (some .boolean) :: ([])
def wsX4_placeIn : List Cond := .code yX4_placeIn cX4_placeIn 3 (some .int) :: ([.fieldLink RX4 69 "FrameBrokerModel" "many" "I", .fieldLink RX4 7 "FrameBrokerModel" "stack" "[I"] ++ wsX40)
def wsX4_noWindow : List Cond := .code yX4_noWindow cX4_noWindow 2 (some .boolean) :: ([.methodLink RX4 72 yX4_placeIn, .instanceMethod yX4_placeIn, .selects RX4 yX4_placeIn yX4_placeIn, .initialized RX4, .code yX4_placeIn cX4_placeIn 3 (some .int), .fieldLink RX4 69 "FrameBrokerModel" "many" "I", .fieldLink RX4 7 "FrameBrokerModel" "stack" "[I", .methodLink RX4 76 yX4_refused, .instanceMethod yX4_refused, .selects RX4 yX4_refused yX4_refused, .code yX4_refused cX4_refused 2 (some .boolean), .fieldLink RX4 65 "FrameBrokerModel" "refusal" "I"] ++ wsX40)
def wsX4_covers : List Cond := .code yX4_covers cX4_covers 5 (some .boolean) :: ([.fieldLink RX4 13 "FrameBrokerModel" "columns" "[I", .fieldLink RX4 19 "FrameBrokerModel" "widths" "[I", .fieldLink RX4 16 "FrameBrokerModel" "rows" "[I", .fieldLink RX4 22 "FrameBrokerModel" "heights" "[I", .fieldLink RX4 25 "FrameBrokerModel" "isClear" "[Z", .methodLink RX4 80 yX4_in, .static yX4_in, .initialized RX4, .code yX4_in cX4_in 3 (some .boolean)] ++ wsX40)
def wsX4_shownAt : List Cond := .code yX4_shownAt cX4_shownAt 4 (some .int) :: ([.fieldLink RX4 69 "FrameBrokerModel" "many" "I", .fieldLink RX4 7 "FrameBrokerModel" "stack" "[I", .methodLink RX4 84 yX4_covers, .instanceMethod yX4_covers, .selects RX4 yX4_covers yX4_covers, .initialized RX4, .code yX4_covers cX4_covers 5 (some .boolean), .fieldLink RX4 13 "FrameBrokerModel" "columns" "[I", .fieldLink RX4 19 "FrameBrokerModel" "widths" "[I", .fieldLink RX4 16 "FrameBrokerModel" "rows" "[I", .fieldLink RX4 22 "FrameBrokerModel" "heights" "[I", .fieldLink RX4 25 "FrameBrokerModel" "isClear" "[Z", .methodLink RX4 80 yX4_in, .static yX4_in, .code yX4_in cX4_in 3 (some .boolean)] ++ wsX40)
def wsX4_isShown : List Cond := .code yX4_isShown cX4_isShown 4 (some .boolean) :: ([.methodLink RX4 87 yX4_shownAt, .instanceMethod yX4_shownAt, .selects RX4 yX4_shownAt yX4_shownAt, .initialized RX4, .code yX4_shownAt cX4_shownAt 4 (some .int), .fieldLink RX4 69 "FrameBrokerModel" "many" "I", .fieldLink RX4 7 "FrameBrokerModel" "stack" "[I", .methodLink RX4 84 yX4_covers, .instanceMethod yX4_covers, .selects RX4 yX4_covers yX4_covers, .code yX4_covers cX4_covers 5 (some .boolean), .fieldLink RX4 13 "FrameBrokerModel" "columns" "[I", .fieldLink RX4 19 "FrameBrokerModel" "widths" "[I", .fieldLink RX4 16 "FrameBrokerModel" "rows" "[I", .fieldLink RX4 22 "FrameBrokerModel" "heights" "[I", .fieldLink RX4 25 "FrameBrokerModel" "isClear" "[Z", .methodLink RX4 80 yX4_in, .static yX4_in, .code yX4_in cX4_in 3 (some .boolean)] ++ wsX40)
def wsX4_need : List Cond := .code yX4_need cX4_need 2 (some .int) :: ([.fieldLink RX4 19 "FrameBrokerModel" "widths" "[I", .fieldLink RX4 22 "FrameBrokerModel" "heights" "[I"] ++ wsX40)
def wsX4_freePages : List Cond := .code yX4_freePages cX4_freePages 3 (some .int) :: ([.fieldLink RX4 69 "FrameBrokerModel" "many" "I", .fieldLink RX4 35 "FrameBrokerModel" "hasSurface" "[Z", .fieldLink RX4 7 "FrameBrokerModel" "stack" "[I", .methodLink RX4 91 yX4_need, .instanceMethod yX4_need, .selects RX4 yX4_need yX4_need, .initialized RX4, .code yX4_need cX4_need 2 (some .int), .fieldLink RX4 19 "FrameBrokerModel" "widths" "[I", .fieldLink RX4 22 "FrameBrokerModel" "heights" "[I"] ++ wsX40)
def wsX4_drop : List Cond := .code yX4_drop cX4_drop 2 none :: ([.fieldLink RX4 53 "FrameBrokerModel" "deadlines" "[I", .fieldLink RX4 50 "FrameBrokerModel" "dues" "[I", .fieldLink RX4 94 "FrameBrokerModel" "tick" "I"] ++ wsX40)
def wsX4_lose : List Cond := .code yX4_lose cX4_lose 2 none :: ([.fieldLink RX4 35 "FrameBrokerModel" "hasSurface" "[Z", .fieldLink RX4 38 "FrameBrokerModel" "pictures" "[I", .methodLink RX4 97 yX4_drop, .instanceMethod yX4_drop, .selects RX4 yX4_drop yX4_drop, .initialized RX4, .code yX4_drop cX4_drop 2 none, .fieldLink RX4 53 "FrameBrokerModel" "deadlines" "[I", .fieldLink RX4 50 "FrameBrokerModel" "dues" "[I", .fieldLink RX4 94 "FrameBrokerModel" "tick" "I"] ++ wsX40)
def wsX4_canLose : List Cond := .code yX4_canLose cX4_canLose 3 (some .boolean) :: ([.fieldLink RX4 35 "FrameBrokerModel" "hasSurface" "[Z", .methodLink RX4 101 yX4_isShown, .instanceMethod yX4_isShown, .selects RX4 yX4_isShown yX4_isShown, .initialized RX4, .code yX4_isShown cX4_isShown 4 (some .boolean), .methodLink RX4 87 yX4_shownAt, .instanceMethod yX4_shownAt, .selects RX4 yX4_shownAt yX4_shownAt, .code yX4_shownAt cX4_shownAt 4 (some .int), .fieldLink RX4 69 "FrameBrokerModel" "many" "I", .fieldLink RX4 7 "FrameBrokerModel" "stack" "[I", .methodLink RX4 84 yX4_covers, .instanceMethod yX4_covers, .selects RX4 yX4_covers yX4_covers, .code yX4_covers cX4_covers 5 (some .boolean), .fieldLink RX4 13 "FrameBrokerModel" "columns" "[I", .fieldLink RX4 19 "FrameBrokerModel" "widths" "[I", .fieldLink RX4 16 "FrameBrokerModel" "rows" "[I", .fieldLink RX4 22 "FrameBrokerModel" "heights" "[I", .fieldLink RX4 25 "FrameBrokerModel" "isClear" "[Z", .methodLink RX4 80 yX4_in, .static yX4_in, .code yX4_in cX4_in 3 (some .boolean)] ++ wsX40)
def wsX4_lend_r1 : List Cond := [Cond.fieldLink RX4 69 "FrameBrokerModel" "many" "I", Cond.fieldLink RX4 7 "FrameBrokerModel" "stack" "[I", Cond.fieldLink RX4 35 "FrameBrokerModel" "hasSurface" "[Z", Cond.methodLink RX4 104 yX4_freePages, Cond.instanceMethod yX4_freePages, Cond.selects RX4 yX4_freePages yX4_freePages, Cond.initialized RX4, Cond.code yX4_freePages cX4_freePages 3 (some .int), Cond.methodLink RX4 91 yX4_need, Cond.instanceMethod yX4_need, Cond.selects RX4 yX4_need yX4_need, Cond.code yX4_need cX4_need 2 (some .int), Cond.fieldLink RX4 19 "FrameBrokerModel" "widths" "[I", Cond.fieldLink RX4 22 "FrameBrokerModel" "heights" "[I", Cond.methodLink RX4 108 yX4_canLose, Cond.instanceMethod yX4_canLose, Cond.selects RX4 yX4_canLose yX4_canLose, Cond.code yX4_canLose cX4_canLose 3 (some .boolean), Cond.methodLink RX4 101 yX4_isShown, Cond.instanceMethod yX4_isShown, Cond.selects RX4 yX4_isShown yX4_isShown, Cond.code yX4_isShown cX4_isShown 4 (some .boolean), Cond.methodLink RX4 87 yX4_shownAt, Cond.instanceMethod yX4_shownAt]
def wsX4_lend_r2 : List Cond := [Cond.selects RX4 yX4_shownAt yX4_shownAt, Cond.code yX4_shownAt cX4_shownAt 4 (some .int), Cond.methodLink RX4 84 yX4_covers, Cond.instanceMethod yX4_covers, Cond.selects RX4 yX4_covers yX4_covers, Cond.code yX4_covers cX4_covers 5 (some .boolean), Cond.fieldLink RX4 13 "FrameBrokerModel" "columns" "[I", Cond.fieldLink RX4 16 "FrameBrokerModel" "rows" "[I", Cond.fieldLink RX4 25 "FrameBrokerModel" "isClear" "[Z", Cond.methodLink RX4 80 yX4_in, Cond.static yX4_in, Cond.code yX4_in cX4_in 3 (some .boolean), Cond.methodLink RX4 112 yX4_lose, Cond.instanceMethod yX4_lose, Cond.selects RX4 yX4_lose yX4_lose, Cond.code yX4_lose cX4_lose 2 none, Cond.fieldLink RX4 38 "FrameBrokerModel" "pictures" "[I", Cond.methodLink RX4 97 yX4_drop, Cond.instanceMethod yX4_drop, Cond.selects RX4 yX4_drop yX4_drop, Cond.code yX4_drop cX4_drop 2 none, Cond.fieldLink RX4 53 "FrameBrokerModel" "deadlines" "[I", Cond.fieldLink RX4 50 "FrameBrokerModel" "dues" "[I", Cond.fieldLink RX4 94 "FrameBrokerModel" "tick" "I"]
def wsX4_lend : List Cond := .code yX4_lend cX4_lend 4 (some .boolean) :: ((wsX4_lend_r1 ++ wsX4_lend_r2) ++ wsX40)
def wsX4_lendAll_r1 : List Cond := [Cond.fieldLink RX4 69 "FrameBrokerModel" "many" "I", Cond.fieldLink RX4 35 "FrameBrokerModel" "hasSurface" "[Z", Cond.fieldLink RX4 7 "FrameBrokerModel" "stack" "[I", Cond.methodLink RX4 101 yX4_isShown, Cond.instanceMethod yX4_isShown, Cond.selects RX4 yX4_isShown yX4_isShown, Cond.initialized RX4, Cond.code yX4_isShown cX4_isShown 4 (some .boolean), Cond.methodLink RX4 87 yX4_shownAt, Cond.instanceMethod yX4_shownAt, Cond.selects RX4 yX4_shownAt yX4_shownAt, Cond.code yX4_shownAt cX4_shownAt 4 (some .int), Cond.methodLink RX4 84 yX4_covers, Cond.instanceMethod yX4_covers, Cond.selects RX4 yX4_covers yX4_covers, Cond.code yX4_covers cX4_covers 5 (some .boolean), Cond.fieldLink RX4 13 "FrameBrokerModel" "columns" "[I", Cond.fieldLink RX4 19 "FrameBrokerModel" "widths" "[I", Cond.fieldLink RX4 16 "FrameBrokerModel" "rows" "[I", Cond.fieldLink RX4 22 "FrameBrokerModel" "heights" "[I", Cond.fieldLink RX4 25 "FrameBrokerModel" "isClear" "[Z", Cond.methodLink RX4 80 yX4_in, Cond.static yX4_in, Cond.code yX4_in cX4_in 3 (some .boolean)]
def wsX4_lendAll_r2 : List Cond := [Cond.methodLink RX4 115 yX4_lend, Cond.instanceMethod yX4_lend, Cond.selects RX4 yX4_lend yX4_lend, Cond.code yX4_lend cX4_lend 4 (some .boolean), Cond.methodLink RX4 104 yX4_freePages, Cond.instanceMethod yX4_freePages, Cond.selects RX4 yX4_freePages yX4_freePages, Cond.code yX4_freePages cX4_freePages 3 (some .int), Cond.methodLink RX4 91 yX4_need, Cond.instanceMethod yX4_need, Cond.selects RX4 yX4_need yX4_need, Cond.code yX4_need cX4_need 2 (some .int), Cond.methodLink RX4 108 yX4_canLose, Cond.instanceMethod yX4_canLose, Cond.selects RX4 yX4_canLose yX4_canLose, Cond.code yX4_canLose cX4_canLose 3 (some .boolean), Cond.methodLink RX4 112 yX4_lose, Cond.instanceMethod yX4_lose, Cond.selects RX4 yX4_lose yX4_lose, Cond.code yX4_lose cX4_lose 2 none, Cond.fieldLink RX4 38 "FrameBrokerModel" "pictures" "[I", Cond.methodLink RX4 97 yX4_drop, Cond.instanceMethod yX4_drop, Cond.selects RX4 yX4_drop yX4_drop]
def wsX4_lendAll_r3 : List Cond := [Cond.code yX4_drop cX4_drop 2 none, Cond.fieldLink RX4 53 "FrameBrokerModel" "deadlines" "[I", Cond.fieldLink RX4 50 "FrameBrokerModel" "dues" "[I", Cond.fieldLink RX4 94 "FrameBrokerModel" "tick" "I"]
def wsX4_lendAll : List Cond := .code yX4_lendAll cX4_lendAll 2 none :: ((wsX4_lendAll_r1 ++ (wsX4_lendAll_r2 ++ wsX4_lendAll_r3)) ++ wsX40)
def wsX4_frame : List Cond := .code yX4_frame cX4_frame 5 none :: ([.fieldLink RX4 13 "FrameBrokerModel" "columns" "[I", .fieldLink RX4 118 "FrameBrokerModel" "opened" "I", .fieldLink RX4 16 "FrameBrokerModel" "rows" "[I", .fieldLink RX4 19 "FrameBrokerModel" "widths" "[I", .fieldLink RX4 22 "FrameBrokerModel" "heights" "[I"] ++ wsX40)
def wsX4_open_r1 : List Cond := [Cond.fieldLink RX4 69 "FrameBrokerModel" "many" "I", Cond.fieldLink RX4 118 "FrameBrokerModel" "opened" "I", Cond.fieldLink RX4 25 "FrameBrokerModel" "isClear" "[Z", Cond.fieldLink RX4 7 "FrameBrokerModel" "stack" "[I", Cond.fieldLink RX4 29 "FrameBrokerModel" "periods" "[I", Cond.fieldLink RX4 32 "FrameBrokerModel" "costs" "[I", Cond.fieldLink RX4 41 "FrameBrokerModel" "paces" "[I", Cond.fieldLink RX4 50 "FrameBrokerModel" "dues" "[I", Cond.fieldLink RX4 94 "FrameBrokerModel" "tick" "I", Cond.fieldLink RX4 53 "FrameBrokerModel" "deadlines" "[I", Cond.methodLink RX4 80 yX4_in, Cond.static yX4_in, Cond.initialized RX4, Cond.code yX4_in cX4_in 3 (some .boolean), Cond.methodLink RX4 121 yX4_frame, Cond.instanceMethod yX4_frame, Cond.selects RX4 yX4_frame yX4_frame, Cond.code yX4_frame cX4_frame 5 none, Cond.fieldLink RX4 13 "FrameBrokerModel" "columns" "[I", Cond.fieldLink RX4 16 "FrameBrokerModel" "rows" "[I", Cond.fieldLink RX4 19 "FrameBrokerModel" "widths" "[I", Cond.fieldLink RX4 22 "FrameBrokerModel" "heights" "[I", Cond.methodLink RX4 115 yX4_lend, Cond.instanceMethod yX4_lend]
def wsX4_open_r2 : List Cond := [Cond.selects RX4 yX4_lend yX4_lend, Cond.code yX4_lend cX4_lend 4 (some .boolean), Cond.fieldLink RX4 35 "FrameBrokerModel" "hasSurface" "[Z", Cond.methodLink RX4 104 yX4_freePages, Cond.instanceMethod yX4_freePages, Cond.selects RX4 yX4_freePages yX4_freePages, Cond.code yX4_freePages cX4_freePages 3 (some .int), Cond.methodLink RX4 91 yX4_need, Cond.instanceMethod yX4_need, Cond.selects RX4 yX4_need yX4_need, Cond.code yX4_need cX4_need 2 (some .int), Cond.methodLink RX4 108 yX4_canLose, Cond.instanceMethod yX4_canLose, Cond.selects RX4 yX4_canLose yX4_canLose, Cond.code yX4_canLose cX4_canLose 3 (some .boolean), Cond.methodLink RX4 101 yX4_isShown, Cond.instanceMethod yX4_isShown, Cond.selects RX4 yX4_isShown yX4_isShown, Cond.code yX4_isShown cX4_isShown 4 (some .boolean), Cond.methodLink RX4 87 yX4_shownAt, Cond.instanceMethod yX4_shownAt, Cond.selects RX4 yX4_shownAt yX4_shownAt, Cond.code yX4_shownAt cX4_shownAt 4 (some .int), Cond.methodLink RX4 84 yX4_covers]
def wsX4_open_r3 : List Cond := [Cond.instanceMethod yX4_covers, Cond.selects RX4 yX4_covers yX4_covers, Cond.code yX4_covers cX4_covers 5 (some .boolean), Cond.methodLink RX4 112 yX4_lose, Cond.instanceMethod yX4_lose, Cond.selects RX4 yX4_lose yX4_lose, Cond.code yX4_lose cX4_lose 2 none, Cond.fieldLink RX4 38 "FrameBrokerModel" "pictures" "[I", Cond.methodLink RX4 97 yX4_drop, Cond.instanceMethod yX4_drop, Cond.selects RX4 yX4_drop yX4_drop, Cond.code yX4_drop cX4_drop 2 none, Cond.methodLink RX4 76 yX4_refused, Cond.instanceMethod yX4_refused, Cond.selects RX4 yX4_refused yX4_refused, Cond.code yX4_refused cX4_refused 2 (some .boolean), Cond.fieldLink RX4 65 "FrameBrokerModel" "refusal" "I", Cond.methodLink RX4 125 yX4_lendAll, Cond.instanceMethod yX4_lendAll, Cond.selects RX4 yX4_lendAll yX4_lendAll, Cond.code yX4_lendAll cX4_lendAll 2 none]
def wsX4_open : List Cond := .code yX4_open cX4_open 11 (some .int) :: ((wsX4_open_r1 ++ (wsX4_open_r2 ++ wsX4_open_r3)) ++ wsX40)
def wsX4_close_r1 : List Cond := [Cond.fieldLink RX4 69 "FrameBrokerModel" "many" "I", Cond.fieldLink RX4 7 "FrameBrokerModel" "stack" "[I", Cond.methodLink RX4 128 yX4_noWindow, Cond.instanceMethod yX4_noWindow, Cond.selects RX4 yX4_noWindow yX4_noWindow, Cond.initialized RX4, Cond.code yX4_noWindow cX4_noWindow 2 (some .boolean), Cond.methodLink RX4 72 yX4_placeIn, Cond.instanceMethod yX4_placeIn, Cond.selects RX4 yX4_placeIn yX4_placeIn, Cond.code yX4_placeIn cX4_placeIn 3 (some .int), Cond.methodLink RX4 76 yX4_refused, Cond.instanceMethod yX4_refused, Cond.selects RX4 yX4_refused yX4_refused, Cond.code yX4_refused cX4_refused 2 (some .boolean), Cond.fieldLink RX4 65 "FrameBrokerModel" "refusal" "I", Cond.methodLink RX4 125 yX4_lendAll, Cond.instanceMethod yX4_lendAll, Cond.selects RX4 yX4_lendAll yX4_lendAll, Cond.code yX4_lendAll cX4_lendAll 2 none, Cond.fieldLink RX4 35 "FrameBrokerModel" "hasSurface" "[Z", Cond.methodLink RX4 101 yX4_isShown, Cond.instanceMethod yX4_isShown, Cond.selects RX4 yX4_isShown yX4_isShown]
def wsX4_close_r2 : List Cond := [Cond.code yX4_isShown cX4_isShown 4 (some .boolean), Cond.methodLink RX4 87 yX4_shownAt, Cond.instanceMethod yX4_shownAt, Cond.selects RX4 yX4_shownAt yX4_shownAt, Cond.code yX4_shownAt cX4_shownAt 4 (some .int), Cond.methodLink RX4 84 yX4_covers, Cond.instanceMethod yX4_covers, Cond.selects RX4 yX4_covers yX4_covers, Cond.code yX4_covers cX4_covers 5 (some .boolean), Cond.fieldLink RX4 13 "FrameBrokerModel" "columns" "[I", Cond.fieldLink RX4 19 "FrameBrokerModel" "widths" "[I", Cond.fieldLink RX4 16 "FrameBrokerModel" "rows" "[I", Cond.fieldLink RX4 22 "FrameBrokerModel" "heights" "[I", Cond.fieldLink RX4 25 "FrameBrokerModel" "isClear" "[Z", Cond.methodLink RX4 80 yX4_in, Cond.static yX4_in, Cond.code yX4_in cX4_in 3 (some .boolean), Cond.methodLink RX4 115 yX4_lend, Cond.instanceMethod yX4_lend, Cond.selects RX4 yX4_lend yX4_lend, Cond.code yX4_lend cX4_lend 4 (some .boolean), Cond.methodLink RX4 104 yX4_freePages, Cond.instanceMethod yX4_freePages, Cond.selects RX4 yX4_freePages yX4_freePages]
def wsX4_close_r3 : List Cond := [Cond.code yX4_freePages cX4_freePages 3 (some .int), Cond.methodLink RX4 91 yX4_need, Cond.instanceMethod yX4_need, Cond.selects RX4 yX4_need yX4_need, Cond.code yX4_need cX4_need 2 (some .int), Cond.methodLink RX4 108 yX4_canLose, Cond.instanceMethod yX4_canLose, Cond.selects RX4 yX4_canLose yX4_canLose, Cond.code yX4_canLose cX4_canLose 3 (some .boolean), Cond.methodLink RX4 112 yX4_lose, Cond.instanceMethod yX4_lose, Cond.selects RX4 yX4_lose yX4_lose, Cond.code yX4_lose cX4_lose 2 none, Cond.fieldLink RX4 38 "FrameBrokerModel" "pictures" "[I", Cond.methodLink RX4 97 yX4_drop, Cond.instanceMethod yX4_drop, Cond.selects RX4 yX4_drop yX4_drop, Cond.code yX4_drop cX4_drop 2 none, Cond.fieldLink RX4 53 "FrameBrokerModel" "deadlines" "[I", Cond.fieldLink RX4 50 "FrameBrokerModel" "dues" "[I", Cond.fieldLink RX4 94 "FrameBrokerModel" "tick" "I"]
def wsX4_close : List Cond := .code yX4_close cX4_close 3 (some .int) :: ((wsX4_close_r1 ++ (wsX4_close_r2 ++ wsX4_close_r3)) ++ wsX40)
def wsX4_move_r1 : List Cond := [Cond.fieldLink RX4 19 "FrameBrokerModel" "widths" "[I", Cond.fieldLink RX4 22 "FrameBrokerModel" "heights" "[I", Cond.fieldLink RX4 13 "FrameBrokerModel" "columns" "[I", Cond.fieldLink RX4 16 "FrameBrokerModel" "rows" "[I", Cond.methodLink RX4 72 yX4_placeIn, Cond.instanceMethod yX4_placeIn, Cond.selects RX4 yX4_placeIn yX4_placeIn, Cond.initialized RX4, Cond.code yX4_placeIn cX4_placeIn 3 (some .int), Cond.fieldLink RX4 69 "FrameBrokerModel" "many" "I", Cond.fieldLink RX4 7 "FrameBrokerModel" "stack" "[I", Cond.methodLink RX4 80 yX4_in, Cond.static yX4_in, Cond.code yX4_in cX4_in 3 (some .boolean), Cond.methodLink RX4 76 yX4_refused, Cond.instanceMethod yX4_refused, Cond.selects RX4 yX4_refused yX4_refused, Cond.code yX4_refused cX4_refused 2 (some .boolean), Cond.fieldLink RX4 65 "FrameBrokerModel" "refusal" "I", Cond.methodLink RX4 125 yX4_lendAll, Cond.instanceMethod yX4_lendAll, Cond.selects RX4 yX4_lendAll yX4_lendAll, Cond.code yX4_lendAll cX4_lendAll 2 none, Cond.fieldLink RX4 35 "FrameBrokerModel" "hasSurface" "[Z"]
def wsX4_move_r2 : List Cond := [Cond.methodLink RX4 101 yX4_isShown, Cond.instanceMethod yX4_isShown, Cond.selects RX4 yX4_isShown yX4_isShown, Cond.code yX4_isShown cX4_isShown 4 (some .boolean), Cond.methodLink RX4 87 yX4_shownAt, Cond.instanceMethod yX4_shownAt, Cond.selects RX4 yX4_shownAt yX4_shownAt, Cond.code yX4_shownAt cX4_shownAt 4 (some .int), Cond.methodLink RX4 84 yX4_covers, Cond.instanceMethod yX4_covers, Cond.selects RX4 yX4_covers yX4_covers, Cond.code yX4_covers cX4_covers 5 (some .boolean), Cond.fieldLink RX4 25 "FrameBrokerModel" "isClear" "[Z", Cond.methodLink RX4 115 yX4_lend, Cond.instanceMethod yX4_lend, Cond.selects RX4 yX4_lend yX4_lend, Cond.code yX4_lend cX4_lend 4 (some .boolean), Cond.methodLink RX4 104 yX4_freePages, Cond.instanceMethod yX4_freePages, Cond.selects RX4 yX4_freePages yX4_freePages, Cond.code yX4_freePages cX4_freePages 3 (some .int), Cond.methodLink RX4 91 yX4_need, Cond.instanceMethod yX4_need, Cond.selects RX4 yX4_need yX4_need]
def wsX4_move_r3 : List Cond := [Cond.code yX4_need cX4_need 2 (some .int), Cond.methodLink RX4 108 yX4_canLose, Cond.instanceMethod yX4_canLose, Cond.selects RX4 yX4_canLose yX4_canLose, Cond.code yX4_canLose cX4_canLose 3 (some .boolean), Cond.methodLink RX4 112 yX4_lose, Cond.instanceMethod yX4_lose, Cond.selects RX4 yX4_lose yX4_lose, Cond.code yX4_lose cX4_lose 2 none, Cond.fieldLink RX4 38 "FrameBrokerModel" "pictures" "[I", Cond.methodLink RX4 97 yX4_drop, Cond.instanceMethod yX4_drop, Cond.selects RX4 yX4_drop yX4_drop, Cond.code yX4_drop cX4_drop 2 none, Cond.fieldLink RX4 53 "FrameBrokerModel" "deadlines" "[I", Cond.fieldLink RX4 50 "FrameBrokerModel" "dues" "[I", Cond.fieldLink RX4 94 "FrameBrokerModel" "tick" "I"]
def wsX4_move : List Cond := .code yX4_move cX4_move 6 none :: ((wsX4_move_r1 ++ (wsX4_move_r2 ++ wsX4_move_r3)) ++ wsX40)
def wsX4_lay_r1 : List Cond := [Cond.fieldLink RX4 69 "FrameBrokerModel" "many" "I", Cond.fieldLink RX4 7 "FrameBrokerModel" "stack" "[I", Cond.methodLink RX4 128 yX4_noWindow, Cond.instanceMethod yX4_noWindow, Cond.selects RX4 yX4_noWindow yX4_noWindow, Cond.initialized RX4, Cond.code yX4_noWindow cX4_noWindow 2 (some .boolean), Cond.methodLink RX4 72 yX4_placeIn, Cond.instanceMethod yX4_placeIn, Cond.selects RX4 yX4_placeIn yX4_placeIn, Cond.code yX4_placeIn cX4_placeIn 3 (some .int), Cond.methodLink RX4 76 yX4_refused, Cond.instanceMethod yX4_refused, Cond.selects RX4 yX4_refused yX4_refused, Cond.code yX4_refused cX4_refused 2 (some .boolean), Cond.fieldLink RX4 65 "FrameBrokerModel" "refusal" "I", Cond.methodLink RX4 125 yX4_lendAll, Cond.instanceMethod yX4_lendAll, Cond.selects RX4 yX4_lendAll yX4_lendAll, Cond.code yX4_lendAll cX4_lendAll 2 none, Cond.fieldLink RX4 35 "FrameBrokerModel" "hasSurface" "[Z", Cond.methodLink RX4 101 yX4_isShown, Cond.instanceMethod yX4_isShown, Cond.selects RX4 yX4_isShown yX4_isShown]
def wsX4_lay_r2 : List Cond := [Cond.code yX4_isShown cX4_isShown 4 (some .boolean), Cond.methodLink RX4 87 yX4_shownAt, Cond.instanceMethod yX4_shownAt, Cond.selects RX4 yX4_shownAt yX4_shownAt, Cond.code yX4_shownAt cX4_shownAt 4 (some .int), Cond.methodLink RX4 84 yX4_covers, Cond.instanceMethod yX4_covers, Cond.selects RX4 yX4_covers yX4_covers, Cond.code yX4_covers cX4_covers 5 (some .boolean), Cond.fieldLink RX4 13 "FrameBrokerModel" "columns" "[I", Cond.fieldLink RX4 19 "FrameBrokerModel" "widths" "[I", Cond.fieldLink RX4 16 "FrameBrokerModel" "rows" "[I", Cond.fieldLink RX4 22 "FrameBrokerModel" "heights" "[I", Cond.fieldLink RX4 25 "FrameBrokerModel" "isClear" "[Z", Cond.methodLink RX4 80 yX4_in, Cond.static yX4_in, Cond.code yX4_in cX4_in 3 (some .boolean), Cond.methodLink RX4 115 yX4_lend, Cond.instanceMethod yX4_lend, Cond.selects RX4 yX4_lend yX4_lend, Cond.code yX4_lend cX4_lend 4 (some .boolean), Cond.methodLink RX4 104 yX4_freePages, Cond.instanceMethod yX4_freePages, Cond.selects RX4 yX4_freePages yX4_freePages]
def wsX4_lay_r3 : List Cond := [Cond.code yX4_freePages cX4_freePages 3 (some .int), Cond.methodLink RX4 91 yX4_need, Cond.instanceMethod yX4_need, Cond.selects RX4 yX4_need yX4_need, Cond.code yX4_need cX4_need 2 (some .int), Cond.methodLink RX4 108 yX4_canLose, Cond.instanceMethod yX4_canLose, Cond.selects RX4 yX4_canLose yX4_canLose, Cond.code yX4_canLose cX4_canLose 3 (some .boolean), Cond.methodLink RX4 112 yX4_lose, Cond.instanceMethod yX4_lose, Cond.selects RX4 yX4_lose yX4_lose, Cond.code yX4_lose cX4_lose 2 none, Cond.fieldLink RX4 38 "FrameBrokerModel" "pictures" "[I", Cond.methodLink RX4 97 yX4_drop, Cond.instanceMethod yX4_drop, Cond.selects RX4 yX4_drop yX4_drop, Cond.code yX4_drop cX4_drop 2 none, Cond.fieldLink RX4 53 "FrameBrokerModel" "deadlines" "[I", Cond.fieldLink RX4 50 "FrameBrokerModel" "dues" "[I", Cond.fieldLink RX4 94 "FrameBrokerModel" "tick" "I"]
def wsX4_lay : List Cond := .code yX4_lay cX4_lay 7 (some .int) :: ((wsX4_lay_r1 ++ (wsX4_lay_r2 ++ wsX4_lay_r3)) ++ wsX40)
def wsX4_begin : List Cond := .code yX4_begin cX4_begin 3 none :: ([.fieldLink RX4 56 "FrameBrokerModel" "slices" "[I", .fieldLink RX4 53 "FrameBrokerModel" "deadlines" "[I"] ++ wsX40)
def wsX4_start_r1 : List Cond := [Cond.fieldLink RX4 118 "FrameBrokerModel" "opened" "I", Cond.fieldLink RX4 35 "FrameBrokerModel" "hasSurface" "[Z", Cond.fieldLink RX4 53 "FrameBrokerModel" "deadlines" "[I", Cond.fieldLink RX4 50 "FrameBrokerModel" "dues" "[I", Cond.fieldLink RX4 94 "FrameBrokerModel" "tick" "I", Cond.fieldLink RX4 29 "FrameBrokerModel" "periods" "[I", Cond.fieldLink RX4 41 "FrameBrokerModel" "paces" "[I", Cond.methodLink RX4 72 yX4_placeIn, Cond.instanceMethod yX4_placeIn, Cond.selects RX4 yX4_placeIn yX4_placeIn, Cond.initialized RX4, Cond.code yX4_placeIn cX4_placeIn 3 (some .int), Cond.fieldLink RX4 69 "FrameBrokerModel" "many" "I", Cond.fieldLink RX4 7 "FrameBrokerModel" "stack" "[I", Cond.methodLink RX4 101 yX4_isShown, Cond.instanceMethod yX4_isShown, Cond.selects RX4 yX4_isShown yX4_isShown, Cond.code yX4_isShown cX4_isShown 4 (some .boolean), Cond.methodLink RX4 87 yX4_shownAt, Cond.instanceMethod yX4_shownAt, Cond.selects RX4 yX4_shownAt yX4_shownAt, Cond.code yX4_shownAt cX4_shownAt 4 (some .int), Cond.methodLink RX4 84 yX4_covers, Cond.instanceMethod yX4_covers]
def wsX4_start_r2 : List Cond := [Cond.selects RX4 yX4_covers yX4_covers, Cond.code yX4_covers cX4_covers 5 (some .boolean), Cond.fieldLink RX4 13 "FrameBrokerModel" "columns" "[I", Cond.fieldLink RX4 19 "FrameBrokerModel" "widths" "[I", Cond.fieldLink RX4 16 "FrameBrokerModel" "rows" "[I", Cond.fieldLink RX4 22 "FrameBrokerModel" "heights" "[I", Cond.fieldLink RX4 25 "FrameBrokerModel" "isClear" "[Z", Cond.methodLink RX4 80 yX4_in, Cond.static yX4_in, Cond.code yX4_in cX4_in 3 (some .boolean), Cond.methodLink RX4 97 yX4_drop, Cond.instanceMethod yX4_drop, Cond.selects RX4 yX4_drop yX4_drop, Cond.code yX4_drop cX4_drop 2 none, Cond.methodLink RX4 131 yX4_begin, Cond.instanceMethod yX4_begin, Cond.selects RX4 yX4_begin yX4_begin, Cond.code yX4_begin cX4_begin 3 none, Cond.fieldLink RX4 56 "FrameBrokerModel" "slices" "[I"]
def wsX4_start : List Cond := .code yX4_start cX4_start 2 none :: ((wsX4_start_r1 ++ wsX4_start_r2) ++ wsX40)
def wsX4_earliest : List Cond := .code yX4_earliest cX4_earliest 4 (some .int) :: ([.fieldLink RX4 118 "FrameBrokerModel" "opened" "I", .fieldLink RX4 53 "FrameBrokerModel" "deadlines" "[I", .methodLink RX4 72 yX4_placeIn, .instanceMethod yX4_placeIn, .selects RX4 yX4_placeIn yX4_placeIn, .initialized RX4, .code yX4_placeIn cX4_placeIn 3 (some .int), .fieldLink RX4 69 "FrameBrokerModel" "many" "I", .fieldLink RX4 7 "FrameBrokerModel" "stack" "[I"] ++ wsX40)
def wsX4_finish : List Cond := .code yX4_finish cX4_finish 2 none :: ([.fieldLink RX4 38 "FrameBrokerModel" "pictures" "[I", .fieldLink RX4 50 "FrameBrokerModel" "dues" "[I", .fieldLink RX4 53 "FrameBrokerModel" "deadlines" "[I", .fieldLink RX4 47 "FrameBrokerModel" "inTime" "[I", .fieldLink RX4 94 "FrameBrokerModel" "tick" "I", .fieldLink RX4 41 "FrameBrokerModel" "paces" "[I"] ++ wsX40)
def wsX4_miss : List Cond := .code yX4_miss cX4_miss 2 none :: ([.fieldLink RX4 44 "FrameBrokerModel" "misses" "[I", .fieldLink RX4 47 "FrameBrokerModel" "inTime" "[I", .fieldLink RX4 53 "FrameBrokerModel" "deadlines" "[I", .fieldLink RX4 29 "FrameBrokerModel" "periods" "[I", .fieldLink RX4 41 "FrameBrokerModel" "paces" "[I"] ++ wsX40)
def wsX4_pass_r1 : List Cond := [Cond.fieldLink RX4 56 "FrameBrokerModel" "slices" "[I", Cond.fieldLink RX4 94 "FrameBrokerModel" "tick" "I", Cond.fieldLink RX4 32 "FrameBrokerModel" "costs" "[I", Cond.fieldLink RX4 69 "FrameBrokerModel" "many" "I", Cond.fieldLink RX4 53 "FrameBrokerModel" "deadlines" "[I", Cond.fieldLink RX4 7 "FrameBrokerModel" "stack" "[I", Cond.methodLink RX4 135 yX4_start, Cond.instanceMethod yX4_start, Cond.selects RX4 yX4_start yX4_start, Cond.initialized RX4, Cond.code yX4_start cX4_start 2 none, Cond.fieldLink RX4 118 "FrameBrokerModel" "opened" "I", Cond.fieldLink RX4 35 "FrameBrokerModel" "hasSurface" "[Z", Cond.fieldLink RX4 50 "FrameBrokerModel" "dues" "[I", Cond.fieldLink RX4 29 "FrameBrokerModel" "periods" "[I", Cond.fieldLink RX4 41 "FrameBrokerModel" "paces" "[I", Cond.methodLink RX4 72 yX4_placeIn, Cond.instanceMethod yX4_placeIn, Cond.selects RX4 yX4_placeIn yX4_placeIn, Cond.code yX4_placeIn cX4_placeIn 3 (some .int), Cond.methodLink RX4 101 yX4_isShown, Cond.instanceMethod yX4_isShown, Cond.selects RX4 yX4_isShown yX4_isShown, Cond.code yX4_isShown cX4_isShown 4 (some .boolean)]
def wsX4_pass_r2 : List Cond := [Cond.methodLink RX4 87 yX4_shownAt, Cond.instanceMethod yX4_shownAt, Cond.selects RX4 yX4_shownAt yX4_shownAt, Cond.code yX4_shownAt cX4_shownAt 4 (some .int), Cond.methodLink RX4 84 yX4_covers, Cond.instanceMethod yX4_covers, Cond.selects RX4 yX4_covers yX4_covers, Cond.code yX4_covers cX4_covers 5 (some .boolean), Cond.fieldLink RX4 13 "FrameBrokerModel" "columns" "[I", Cond.fieldLink RX4 19 "FrameBrokerModel" "widths" "[I", Cond.fieldLink RX4 16 "FrameBrokerModel" "rows" "[I", Cond.fieldLink RX4 22 "FrameBrokerModel" "heights" "[I", Cond.fieldLink RX4 25 "FrameBrokerModel" "isClear" "[Z", Cond.methodLink RX4 80 yX4_in, Cond.static yX4_in, Cond.code yX4_in cX4_in 3 (some .boolean), Cond.methodLink RX4 97 yX4_drop, Cond.instanceMethod yX4_drop, Cond.selects RX4 yX4_drop yX4_drop, Cond.code yX4_drop cX4_drop 2 none, Cond.methodLink RX4 131 yX4_begin, Cond.instanceMethod yX4_begin, Cond.selects RX4 yX4_begin yX4_begin, Cond.code yX4_begin cX4_begin 3 none]
def wsX4_pass_r3 : List Cond := [Cond.methodLink RX4 138 yX4_earliest, Cond.instanceMethod yX4_earliest, Cond.selects RX4 yX4_earliest yX4_earliest, Cond.code yX4_earliest cX4_earliest 4 (some .int), Cond.methodLink RX4 141 yX4_finish, Cond.instanceMethod yX4_finish, Cond.selects RX4 yX4_finish yX4_finish, Cond.code yX4_finish cX4_finish 2 none, Cond.fieldLink RX4 38 "FrameBrokerModel" "pictures" "[I", Cond.fieldLink RX4 47 "FrameBrokerModel" "inTime" "[I", Cond.methodLink RX4 144 yX4_miss, Cond.instanceMethod yX4_miss, Cond.selects RX4 yX4_miss yX4_miss, Cond.code yX4_miss cX4_miss 2 none, Cond.fieldLink RX4 44 "FrameBrokerModel" "misses" "[I"]
def wsX4_pass : List Cond := .code yX4_pass cX4_pass 3 none :: ((wsX4_pass_r1 ++ (wsX4_pass_r2 ++ wsX4_pass_r3)) ++ wsX40)
def wsX4_advance_r1 : List Cond := [Cond.fieldLink RX4 94 "FrameBrokerModel" "tick" "I", Cond.constant RX4 147 (100000), Cond.methodLink RX4 80 yX4_in, Cond.static yX4_in, Cond.initialized RX4, Cond.code yX4_in cX4_in 3 (some .boolean), Cond.methodLink RX4 76 yX4_refused, Cond.instanceMethod yX4_refused, Cond.selects RX4 yX4_refused yX4_refused, Cond.code yX4_refused cX4_refused 2 (some .boolean), Cond.fieldLink RX4 65 "FrameBrokerModel" "refusal" "I", Cond.methodLink RX4 148 yX4_pass, Cond.instanceMethod yX4_pass, Cond.selects RX4 yX4_pass yX4_pass, Cond.code yX4_pass cX4_pass 3 none, Cond.fieldLink RX4 56 "FrameBrokerModel" "slices" "[I", Cond.fieldLink RX4 32 "FrameBrokerModel" "costs" "[I", Cond.fieldLink RX4 69 "FrameBrokerModel" "many" "I", Cond.fieldLink RX4 53 "FrameBrokerModel" "deadlines" "[I", Cond.fieldLink RX4 7 "FrameBrokerModel" "stack" "[I", Cond.methodLink RX4 135 yX4_start, Cond.instanceMethod yX4_start, Cond.selects RX4 yX4_start yX4_start, Cond.code yX4_start cX4_start 2 none]
def wsX4_advance_r2 : List Cond := [Cond.fieldLink RX4 118 "FrameBrokerModel" "opened" "I", Cond.fieldLink RX4 35 "FrameBrokerModel" "hasSurface" "[Z", Cond.fieldLink RX4 50 "FrameBrokerModel" "dues" "[I", Cond.fieldLink RX4 29 "FrameBrokerModel" "periods" "[I", Cond.fieldLink RX4 41 "FrameBrokerModel" "paces" "[I", Cond.methodLink RX4 72 yX4_placeIn, Cond.instanceMethod yX4_placeIn, Cond.selects RX4 yX4_placeIn yX4_placeIn, Cond.code yX4_placeIn cX4_placeIn 3 (some .int), Cond.methodLink RX4 101 yX4_isShown, Cond.instanceMethod yX4_isShown, Cond.selects RX4 yX4_isShown yX4_isShown, Cond.code yX4_isShown cX4_isShown 4 (some .boolean), Cond.methodLink RX4 87 yX4_shownAt, Cond.instanceMethod yX4_shownAt, Cond.selects RX4 yX4_shownAt yX4_shownAt, Cond.code yX4_shownAt cX4_shownAt 4 (some .int), Cond.methodLink RX4 84 yX4_covers, Cond.instanceMethod yX4_covers, Cond.selects RX4 yX4_covers yX4_covers, Cond.code yX4_covers cX4_covers 5 (some .boolean), Cond.fieldLink RX4 13 "FrameBrokerModel" "columns" "[I", Cond.fieldLink RX4 19 "FrameBrokerModel" "widths" "[I", Cond.fieldLink RX4 16 "FrameBrokerModel" "rows" "[I"]
def wsX4_advance_r3 : List Cond := [Cond.fieldLink RX4 22 "FrameBrokerModel" "heights" "[I", Cond.fieldLink RX4 25 "FrameBrokerModel" "isClear" "[Z", Cond.methodLink RX4 97 yX4_drop, Cond.instanceMethod yX4_drop, Cond.selects RX4 yX4_drop yX4_drop, Cond.code yX4_drop cX4_drop 2 none, Cond.methodLink RX4 131 yX4_begin, Cond.instanceMethod yX4_begin, Cond.selects RX4 yX4_begin yX4_begin, Cond.code yX4_begin cX4_begin 3 none, Cond.methodLink RX4 138 yX4_earliest, Cond.instanceMethod yX4_earliest, Cond.selects RX4 yX4_earliest yX4_earliest, Cond.code yX4_earliest cX4_earliest 4 (some .int), Cond.methodLink RX4 141 yX4_finish, Cond.instanceMethod yX4_finish, Cond.selects RX4 yX4_finish yX4_finish, Cond.code yX4_finish cX4_finish 2 none, Cond.fieldLink RX4 38 "FrameBrokerModel" "pictures" "[I", Cond.fieldLink RX4 47 "FrameBrokerModel" "inTime" "[I", Cond.methodLink RX4 144 yX4_miss, Cond.instanceMethod yX4_miss, Cond.selects RX4 yX4_miss yX4_miss, Cond.code yX4_miss cX4_miss 2 none]
def wsX4_advance_r4 : List Cond := [Cond.fieldLink RX4 44 "FrameBrokerModel" "misses" "[I"]
def wsX4_advance : List Cond := .code yX4_advance cX4_advance 3 (some .int) :: ((wsX4_advance_r1 ++ (wsX4_advance_r2 ++ (wsX4_advance_r3 ++ wsX4_advance_r4))) ++ wsX40)
def wsX4_noCell : List Cond := .code yX4_noCell cX4_noCell 3 (some .boolean) :: ([.methodLink RX4 80 yX4_in, .static yX4_in, .initialized RX4, .code yX4_in cX4_in 3 (some .boolean), .methodLink RX4 76 yX4_refused, .instanceMethod yX4_refused, .selects RX4 yX4_refused yX4_refused, .code yX4_refused cX4_refused 2 (some .boolean), .fieldLink RX4 65 "FrameBrokerModel" "refusal" "I"] ++ wsX40)
def wsX4_input_r1 : List Cond := [Cond.fieldLink RX4 35 "FrameBrokerModel" "hasSurface" "[Z", Cond.fieldLink RX4 94 "FrameBrokerModel" "tick" "I", Cond.fieldLink RX4 29 "FrameBrokerModel" "periods" "[I", Cond.fieldLink RX4 53 "FrameBrokerModel" "deadlines" "[I", Cond.methodLink RX4 151 yX4_noCell, Cond.instanceMethod yX4_noCell, Cond.selects RX4 yX4_noCell yX4_noCell, Cond.initialized RX4, Cond.code yX4_noCell cX4_noCell 3 (some .boolean), Cond.methodLink RX4 80 yX4_in, Cond.static yX4_in, Cond.code yX4_in cX4_in 3 (some .boolean), Cond.methodLink RX4 76 yX4_refused, Cond.instanceMethod yX4_refused, Cond.selects RX4 yX4_refused yX4_refused, Cond.code yX4_refused cX4_refused 2 (some .boolean), Cond.fieldLink RX4 65 "FrameBrokerModel" "refusal" "I", Cond.methodLink RX4 87 yX4_shownAt, Cond.instanceMethod yX4_shownAt, Cond.selects RX4 yX4_shownAt yX4_shownAt, Cond.code yX4_shownAt cX4_shownAt 4 (some .int), Cond.fieldLink RX4 69 "FrameBrokerModel" "many" "I", Cond.fieldLink RX4 7 "FrameBrokerModel" "stack" "[I", Cond.methodLink RX4 84 yX4_covers]
def wsX4_input_r2 : List Cond := [Cond.instanceMethod yX4_covers, Cond.selects RX4 yX4_covers yX4_covers, Cond.code yX4_covers cX4_covers 5 (some .boolean), Cond.fieldLink RX4 13 "FrameBrokerModel" "columns" "[I", Cond.fieldLink RX4 19 "FrameBrokerModel" "widths" "[I", Cond.fieldLink RX4 16 "FrameBrokerModel" "rows" "[I", Cond.fieldLink RX4 22 "FrameBrokerModel" "heights" "[I", Cond.fieldLink RX4 25 "FrameBrokerModel" "isClear" "[Z", Cond.methodLink RX4 131 yX4_begin, Cond.instanceMethod yX4_begin, Cond.selects RX4 yX4_begin yX4_begin, Cond.code yX4_begin cX4_begin 3 none, Cond.fieldLink RX4 56 "FrameBrokerModel" "slices" "[I"]
def wsX4_input : List Cond := .code yX4_input cX4_input 5 (some .int) :: ((wsX4_input_r1 ++ wsX4_input_r2) ++ wsX40)
def wsX4_countDamage : List Cond := .code yX4_countDamage cX4_countDamage 5 (some .int) :: ([.fieldLink RX4 59 "FrameBrokerModel" "shownWindows" "[I", .fieldLink RX4 38 "FrameBrokerModel" "pictures" "[I", .fieldLink RX4 62 "FrameBrokerModel" "shownPictures" "[I", .methodLink RX4 87 yX4_shownAt, .instanceMethod yX4_shownAt, .selects RX4 yX4_shownAt yX4_shownAt, .initialized RX4, .code yX4_shownAt cX4_shownAt 4 (some .int), .fieldLink RX4 69 "FrameBrokerModel" "many" "I", .fieldLink RX4 7 "FrameBrokerModel" "stack" "[I", .methodLink RX4 84 yX4_covers, .instanceMethod yX4_covers, .selects RX4 yX4_covers yX4_covers, .code yX4_covers cX4_covers 5 (some .boolean), .fieldLink RX4 13 "FrameBrokerModel" "columns" "[I", .fieldLink RX4 19 "FrameBrokerModel" "widths" "[I", .fieldLink RX4 16 "FrameBrokerModel" "rows" "[I", .fieldLink RX4 22 "FrameBrokerModel" "heights" "[I", .fieldLink RX4 25 "FrameBrokerModel" "isClear" "[Z", .methodLink RX4 80 yX4_in, .static yX4_in, .code yX4_in cX4_in 3 (some .boolean)] ++ wsX40)
def wsX4_show_r1 : List Cond := [Cond.fieldLink RX4 59 "FrameBrokerModel" "shownWindows" "[I", Cond.fieldLink RX4 62 "FrameBrokerModel" "shownPictures" "[I", Cond.fieldLink RX4 38 "FrameBrokerModel" "pictures" "[I", Cond.methodLink RX4 154 yX4_countDamage, Cond.instanceMethod yX4_countDamage, Cond.selects RX4 yX4_countDamage yX4_countDamage, Cond.initialized RX4, Cond.code yX4_countDamage cX4_countDamage 5 (some .int), Cond.methodLink RX4 87 yX4_shownAt, Cond.instanceMethod yX4_shownAt, Cond.selects RX4 yX4_shownAt yX4_shownAt, Cond.code yX4_shownAt cX4_shownAt 4 (some .int), Cond.fieldLink RX4 69 "FrameBrokerModel" "many" "I", Cond.fieldLink RX4 7 "FrameBrokerModel" "stack" "[I", Cond.methodLink RX4 84 yX4_covers, Cond.instanceMethod yX4_covers, Cond.selects RX4 yX4_covers yX4_covers, Cond.code yX4_covers cX4_covers 5 (some .boolean), Cond.fieldLink RX4 13 "FrameBrokerModel" "columns" "[I", Cond.fieldLink RX4 19 "FrameBrokerModel" "widths" "[I", Cond.fieldLink RX4 16 "FrameBrokerModel" "rows" "[I", Cond.fieldLink RX4 22 "FrameBrokerModel" "heights" "[I", Cond.fieldLink RX4 25 "FrameBrokerModel" "isClear" "[Z", Cond.methodLink RX4 80 yX4_in]
def wsX4_show_r2 : List Cond := [Cond.static yX4_in, Cond.code yX4_in cX4_in 3 (some .boolean), Cond.methodLink RX4 157 yX4_fine, Cond.instanceMethod yX4_fine, Cond.selects RX4 yX4_fine yX4_fine, Cond.code yX4_fine cX4_fine 2 (some .int), Cond.fieldLink RX4 65 "FrameBrokerModel" "refusal" "I"]
def wsX4_show : List Cond := .code yX4_show cX4_show 4 (some .int) :: ((wsX4_show_r1 ++ wsX4_show_r2) ++ wsX40)
def wsX4_tick : List Cond := .code yX4_tick cX4_tick 1 (some .int) :: ([.fieldLink RX4 94 "FrameBrokerModel" "tick" "I", .methodLink RX4 157 yX4_fine, .instanceMethod yX4_fine, .selects RX4 yX4_fine yX4_fine, .initialized RX4, .code yX4_fine cX4_fine 2 (some .int), .fieldLink RX4 65 "FrameBrokerModel" "refusal" "I"] ++ wsX40)
def wsX4_windows : List Cond := .code yX4_windows cX4_windows 1 (some .int) :: ([.fieldLink RX4 69 "FrameBrokerModel" "many" "I", .methodLink RX4 157 yX4_fine, .instanceMethod yX4_fine, .selects RX4 yX4_fine yX4_fine, .initialized RX4, .code yX4_fine cX4_fine 2 (some .int), .fieldLink RX4 65 "FrameBrokerModel" "refusal" "I"] ++ wsX40)
def wsX4_free : List Cond := .code yX4_free cX4_free 1 (some .int) :: ([.methodLink RX4 104 yX4_freePages, .instanceMethod yX4_freePages, .selects RX4 yX4_freePages yX4_freePages, .initialized RX4, .code yX4_freePages cX4_freePages 3 (some .int), .fieldLink RX4 69 "FrameBrokerModel" "many" "I", .fieldLink RX4 35 "FrameBrokerModel" "hasSurface" "[Z", .fieldLink RX4 7 "FrameBrokerModel" "stack" "[I", .methodLink RX4 91 yX4_need, .instanceMethod yX4_need, .selects RX4 yX4_need yX4_need, .code yX4_need cX4_need 2 (some .int), .fieldLink RX4 19 "FrameBrokerModel" "widths" "[I", .fieldLink RX4 22 "FrameBrokerModel" "heights" "[I", .methodLink RX4 157 yX4_fine, .instanceMethod yX4_fine, .selects RX4 yX4_fine yX4_fine, .code yX4_fine cX4_fine 2 (some .int), .fieldLink RX4 65 "FrameBrokerModel" "refusal" "I"] ++ wsX40)
def wsX4_damage_r1 : List Cond := [Cond.methodLink RX4 154 yX4_countDamage, Cond.instanceMethod yX4_countDamage, Cond.selects RX4 yX4_countDamage yX4_countDamage, Cond.initialized RX4, Cond.code yX4_countDamage cX4_countDamage 5 (some .int), Cond.fieldLink RX4 59 "FrameBrokerModel" "shownWindows" "[I", Cond.fieldLink RX4 38 "FrameBrokerModel" "pictures" "[I", Cond.fieldLink RX4 62 "FrameBrokerModel" "shownPictures" "[I", Cond.methodLink RX4 87 yX4_shownAt, Cond.instanceMethod yX4_shownAt, Cond.selects RX4 yX4_shownAt yX4_shownAt, Cond.code yX4_shownAt cX4_shownAt 4 (some .int), Cond.fieldLink RX4 69 "FrameBrokerModel" "many" "I", Cond.fieldLink RX4 7 "FrameBrokerModel" "stack" "[I", Cond.methodLink RX4 84 yX4_covers, Cond.instanceMethod yX4_covers, Cond.selects RX4 yX4_covers yX4_covers, Cond.code yX4_covers cX4_covers 5 (some .boolean), Cond.fieldLink RX4 13 "FrameBrokerModel" "columns" "[I", Cond.fieldLink RX4 19 "FrameBrokerModel" "widths" "[I", Cond.fieldLink RX4 16 "FrameBrokerModel" "rows" "[I", Cond.fieldLink RX4 22 "FrameBrokerModel" "heights" "[I", Cond.fieldLink RX4 25 "FrameBrokerModel" "isClear" "[Z", Cond.methodLink RX4 80 yX4_in]
def wsX4_damage_r2 : List Cond := [Cond.static yX4_in, Cond.code yX4_in cX4_in 3 (some .boolean), Cond.methodLink RX4 157 yX4_fine, Cond.instanceMethod yX4_fine, Cond.selects RX4 yX4_fine yX4_fine, Cond.code yX4_fine cX4_fine 2 (some .int), Cond.fieldLink RX4 65 "FrameBrokerModel" "refusal" "I"]
def wsX4_damage : List Cond := .code yX4_damage cX4_damage 1 (some .int) :: ((wsX4_damage_r1 ++ wsX4_damage_r2) ++ wsX40)
def wsX4_at_r1 : List Cond := [Cond.methodLink RX4 151 yX4_noCell, Cond.instanceMethod yX4_noCell, Cond.selects RX4 yX4_noCell yX4_noCell, Cond.initialized RX4, Cond.code yX4_noCell cX4_noCell 3 (some .boolean), Cond.methodLink RX4 80 yX4_in, Cond.static yX4_in, Cond.code yX4_in cX4_in 3 (some .boolean), Cond.methodLink RX4 76 yX4_refused, Cond.instanceMethod yX4_refused, Cond.selects RX4 yX4_refused yX4_refused, Cond.code yX4_refused cX4_refused 2 (some .boolean), Cond.fieldLink RX4 65 "FrameBrokerModel" "refusal" "I", Cond.methodLink RX4 87 yX4_shownAt, Cond.instanceMethod yX4_shownAt, Cond.selects RX4 yX4_shownAt yX4_shownAt, Cond.code yX4_shownAt cX4_shownAt 4 (some .int), Cond.fieldLink RX4 69 "FrameBrokerModel" "many" "I", Cond.fieldLink RX4 7 "FrameBrokerModel" "stack" "[I", Cond.methodLink RX4 84 yX4_covers, Cond.instanceMethod yX4_covers, Cond.selects RX4 yX4_covers yX4_covers, Cond.code yX4_covers cX4_covers 5 (some .boolean), Cond.fieldLink RX4 13 "FrameBrokerModel" "columns" "[I"]
def wsX4_at_r2 : List Cond := [Cond.fieldLink RX4 19 "FrameBrokerModel" "widths" "[I", Cond.fieldLink RX4 16 "FrameBrokerModel" "rows" "[I", Cond.fieldLink RX4 22 "FrameBrokerModel" "heights" "[I", Cond.fieldLink RX4 25 "FrameBrokerModel" "isClear" "[Z"]
def wsX4_at : List Cond := .code yX4_at cX4_at 3 (some .int) :: ((wsX4_at_r1 ++ wsX4_at_r2) ++ wsX40)
def wsX4_placeOf : List Cond := .code yX4_placeOf cX4_placeOf 2 (some .int) :: ([.methodLink RX4 128 yX4_noWindow, .instanceMethod yX4_noWindow, .selects RX4 yX4_noWindow yX4_noWindow, .initialized RX4, .code yX4_noWindow cX4_noWindow 2 (some .boolean), .methodLink RX4 72 yX4_placeIn, .instanceMethod yX4_placeIn, .selects RX4 yX4_placeIn yX4_placeIn, .code yX4_placeIn cX4_placeIn 3 (some .int), .fieldLink RX4 69 "FrameBrokerModel" "many" "I", .fieldLink RX4 7 "FrameBrokerModel" "stack" "[I", .methodLink RX4 76 yX4_refused, .instanceMethod yX4_refused, .selects RX4 yX4_refused yX4_refused, .code yX4_refused cX4_refused 2 (some .boolean), .fieldLink RX4 65 "FrameBrokerModel" "refusal" "I"] ++ wsX40)
def wsX4_isSeen_r1 : List Cond := [Cond.methodLink RX4 128 yX4_noWindow, Cond.instanceMethod yX4_noWindow, Cond.selects RX4 yX4_noWindow yX4_noWindow, Cond.initialized RX4, Cond.code yX4_noWindow cX4_noWindow 2 (some .boolean), Cond.methodLink RX4 72 yX4_placeIn, Cond.instanceMethod yX4_placeIn, Cond.selects RX4 yX4_placeIn yX4_placeIn, Cond.code yX4_placeIn cX4_placeIn 3 (some .int), Cond.fieldLink RX4 69 "FrameBrokerModel" "many" "I", Cond.fieldLink RX4 7 "FrameBrokerModel" "stack" "[I", Cond.methodLink RX4 76 yX4_refused, Cond.instanceMethod yX4_refused, Cond.selects RX4 yX4_refused yX4_refused, Cond.code yX4_refused cX4_refused 2 (some .boolean), Cond.fieldLink RX4 65 "FrameBrokerModel" "refusal" "I", Cond.methodLink RX4 101 yX4_isShown, Cond.instanceMethod yX4_isShown, Cond.selects RX4 yX4_isShown yX4_isShown, Cond.code yX4_isShown cX4_isShown 4 (some .boolean), Cond.methodLink RX4 87 yX4_shownAt, Cond.instanceMethod yX4_shownAt, Cond.selects RX4 yX4_shownAt yX4_shownAt, Cond.code yX4_shownAt cX4_shownAt 4 (some .int)]
def wsX4_isSeen_r2 : List Cond := [Cond.methodLink RX4 84 yX4_covers, Cond.instanceMethod yX4_covers, Cond.selects RX4 yX4_covers yX4_covers, Cond.code yX4_covers cX4_covers 5 (some .boolean), Cond.fieldLink RX4 13 "FrameBrokerModel" "columns" "[I", Cond.fieldLink RX4 19 "FrameBrokerModel" "widths" "[I", Cond.fieldLink RX4 16 "FrameBrokerModel" "rows" "[I", Cond.fieldLink RX4 22 "FrameBrokerModel" "heights" "[I", Cond.fieldLink RX4 25 "FrameBrokerModel" "isClear" "[Z", Cond.methodLink RX4 80 yX4_in, Cond.static yX4_in, Cond.code yX4_in cX4_in 3 (some .boolean)]
def wsX4_isSeen : List Cond := .code yX4_isSeen cX4_isSeen 2 (some .boolean) :: ((wsX4_isSeen_r1 ++ wsX4_isSeen_r2) ++ wsX40)
def wsX4_pagesOf : List Cond := .code yX4_pagesOf cX4_pagesOf 2 (some .int) :: ([.fieldLink RX4 35 "FrameBrokerModel" "hasSurface" "[Z", .methodLink RX4 128 yX4_noWindow, .instanceMethod yX4_noWindow, .selects RX4 yX4_noWindow yX4_noWindow, .initialized RX4, .code yX4_noWindow cX4_noWindow 2 (some .boolean), .methodLink RX4 72 yX4_placeIn, .instanceMethod yX4_placeIn, .selects RX4 yX4_placeIn yX4_placeIn, .code yX4_placeIn cX4_placeIn 3 (some .int), .fieldLink RX4 69 "FrameBrokerModel" "many" "I", .fieldLink RX4 7 "FrameBrokerModel" "stack" "[I", .methodLink RX4 76 yX4_refused, .instanceMethod yX4_refused, .selects RX4 yX4_refused yX4_refused, .code yX4_refused cX4_refused 2 (some .boolean), .fieldLink RX4 65 "FrameBrokerModel" "refusal" "I", .methodLink RX4 91 yX4_need, .instanceMethod yX4_need, .selects RX4 yX4_need yX4_need, .code yX4_need cX4_need 2 (some .int), .fieldLink RX4 19 "FrameBrokerModel" "widths" "[I", .fieldLink RX4 22 "FrameBrokerModel" "heights" "[I"] ++ wsX40)
def wsX4_picture : List Cond := .code yX4_picture cX4_picture 2 (some .int) :: ([.fieldLink RX4 38 "FrameBrokerModel" "pictures" "[I", .methodLink RX4 128 yX4_noWindow, .instanceMethod yX4_noWindow, .selects RX4 yX4_noWindow yX4_noWindow, .initialized RX4, .code yX4_noWindow cX4_noWindow 2 (some .boolean), .methodLink RX4 72 yX4_placeIn, .instanceMethod yX4_placeIn, .selects RX4 yX4_placeIn yX4_placeIn, .code yX4_placeIn cX4_placeIn 3 (some .int), .fieldLink RX4 69 "FrameBrokerModel" "many" "I", .fieldLink RX4 7 "FrameBrokerModel" "stack" "[I", .methodLink RX4 76 yX4_refused, .instanceMethod yX4_refused, .selects RX4 yX4_refused yX4_refused, .code yX4_refused cX4_refused 2 (some .boolean), .fieldLink RX4 65 "FrameBrokerModel" "refusal" "I"] ++ wsX40)
def wsX4_pace : List Cond := .code yX4_pace cX4_pace 2 (some .int) :: ([.fieldLink RX4 41 "FrameBrokerModel" "paces" "[I", .methodLink RX4 128 yX4_noWindow, .instanceMethod yX4_noWindow, .selects RX4 yX4_noWindow yX4_noWindow, .initialized RX4, .code yX4_noWindow cX4_noWindow 2 (some .boolean), .methodLink RX4 72 yX4_placeIn, .instanceMethod yX4_placeIn, .selects RX4 yX4_placeIn yX4_placeIn, .code yX4_placeIn cX4_placeIn 3 (some .int), .fieldLink RX4 69 "FrameBrokerModel" "many" "I", .fieldLink RX4 7 "FrameBrokerModel" "stack" "[I", .methodLink RX4 76 yX4_refused, .instanceMethod yX4_refused, .selects RX4 yX4_refused yX4_refused, .code yX4_refused cX4_refused 2 (some .boolean), .fieldLink RX4 65 "FrameBrokerModel" "refusal" "I"] ++ wsX40)
def wsX4_misses : List Cond := .code yX4_misses cX4_misses 2 (some .int) :: ([.fieldLink RX4 44 "FrameBrokerModel" "misses" "[I", .methodLink RX4 128 yX4_noWindow, .instanceMethod yX4_noWindow, .selects RX4 yX4_noWindow yX4_noWindow, .initialized RX4, .code yX4_noWindow cX4_noWindow 2 (some .boolean), .methodLink RX4 72 yX4_placeIn, .instanceMethod yX4_placeIn, .selects RX4 yX4_placeIn yX4_placeIn, .code yX4_placeIn cX4_placeIn 3 (some .int), .fieldLink RX4 69 "FrameBrokerModel" "many" "I", .fieldLink RX4 7 "FrameBrokerModel" "stack" "[I", .methodLink RX4 76 yX4_refused, .instanceMethod yX4_refused, .selects RX4 yX4_refused yX4_refused, .code yX4_refused cX4_refused 2 (some .boolean), .fieldLink RX4 65 "FrameBrokerModel" "refusal" "I"] ++ wsX40)
def wsX4_deadline : List Cond := .code yX4_deadline cX4_deadline 2 (some .int) :: ([.fieldLink RX4 53 "FrameBrokerModel" "deadlines" "[I", .methodLink RX4 128 yX4_noWindow, .instanceMethod yX4_noWindow, .selects RX4 yX4_noWindow yX4_noWindow, .initialized RX4, .code yX4_noWindow cX4_noWindow 2 (some .boolean), .methodLink RX4 72 yX4_placeIn, .instanceMethod yX4_placeIn, .selects RX4 yX4_placeIn yX4_placeIn, .code yX4_placeIn cX4_placeIn 3 (some .int), .fieldLink RX4 69 "FrameBrokerModel" "many" "I", .fieldLink RX4 7 "FrameBrokerModel" "stack" "[I", .methodLink RX4 76 yX4_refused, .instanceMethod yX4_refused, .selects RX4 yX4_refused yX4_refused, .code yX4_refused cX4_refused 2 (some .boolean), .fieldLink RX4 65 "FrameBrokerModel" "refusal" "I"] ++ wsX40)
abbrev vwCl : List vw_C := [(RX0, TX0, 9), (RX1, TX1, 10), (RX2, TX2, 2), (RX3, TX3, 8), (RX4, TX4, 22)]
end
section
/-! PURE HEAPS. A cell by its number; where it lies in the machine says ad. What a method does is a plain function of pure heaps; here: one instruction, one row. -/
abbrev PE : Type := (Nat × vp_A) ⊕ (Nat × List Value)
abbrev PH : Type := Nat → Option PE
def p_up (h : PH) (a : Nat) (e : PE) : PH := fun q => if q = a then some e else h q
def p_v (ad : Nat → Nat) (v : Value) : Value := match v with
  | .ref a => .ref (ad a)
  | w => w
def p_k (k : Nat) : FieldType := match k with
  | 0 => .int
  | 1 => .boolean
  | 2 => .object RX1
  | _ => .long
def p_x (ad : Nat → Nat) (x : vp_A) : vp_A := match x with
  | (n, .inr (.inr (.inr (.inr f)))) => (n, .inr (.inr (.inr (.inr fun j => (f j).map ad))))
  | y => y
def p_at (D : va_G) (ad : Nat → Nat) (s : State) (H : Heap) (q : Nat) (e : PE) : Prop := match e with
  | .inl x => ∃ cA : ClassId, (ArrOfT s cA (p_k x.1) ∧ va_RA s cA (p_k x.1)) ∧ H[ad q]? = some (vp_cell cA (p_x ad x.2))
  | .inr o => va_at D vwCl (ad q, .inr (o.1, o.2.map (p_v ad))) H
def p_Q (D : va_G) (ad : Nat → Nat) (B : Nat → Prop) (s : State) (h : PH) (H : Heap) : Prop :=
  (∀ q e, h q = some e → p_at D ad s H q e ∧ B (ad q)) ∧ ∀ q r e f, h q = some e → h r = some f → ad q = ad r → q = r
def p_A (ad : Nat → Nat) (h : PH) : Nat → Prop := fun x => ∃ q e, h q = some e ∧ ad q = x
def p_no : Nat → Prop := fun _ => False
def p_tt : Nat → Prop := fun _ => True
theorem p_at.moved {D : va_G} {ad : Nat → Nat} {u U : State} {H : Heap} {q : Nat} {e : PE} (hvm : u.vm.Alike U.vm) (h : p_at D ad u H q e) : p_at D ad U H q e := by
  cases e with
  | inl x =>
    obtain ⟨cA, ⟨h1, h2⟩, h3⟩ := h
    exact ⟨cA, ⟨arrOfT_moved hvm h1, h2.moved hvm⟩, h3⟩
  | inr o => exact h
theorem p_at.kept {D : va_G} {ad : Nat → Nat} {s : State} {H H1 : Heap} {q : Nat} {e : PE} (h : p_at D ad s H q e) (hq : H1[ad q]? = H[ad q]?) : p_at D ad s H1 q e := by
  cases e with
  | inl x =>
    obtain ⟨cA, h2, h3⟩ := h
    exact ⟨cA, h2, hq.trans h3⟩
  | inr o => exact va_at.kept (q := (ad q, .inr (o.1, o.2.map (p_v ad)))) h hq
theorem p_at.lt {D : va_G} {ad : Nat → Nat} {s : State} {H : Heap} {q : Nat} {e : PE} (h : p_at D ad s H q e) : ad q < H.size := by
  cases e with
  | inl x =>
    obtain ⟨cA, h2, h3⟩ := h
    exact (Array.getElem?_eq_some_iff.mp h3).1
  | inr o => exact va_at.lt (q := (ad q, .inr (o.1, o.2.map (p_v ad)))) h
theorem p_Q.moved {D : va_G} {ad : Nat → Nat} {B : Nat → Prop} {u U : State} {h : PH} {H : Heap} (hvm : u.vm.Alike U.vm) (hQ : p_Q D ad B u h H) : p_Q D ad B U h H :=
  ⟨fun q e he => ⟨(hQ.1 q e he).1.moved hvm, (hQ.1 q e he).2⟩, hQ.2⟩
theorem p_Q.kept {D : va_G} {ad : Nat → Nat} {B : Nat → Prop} {s : State} {h : PH} {H H1 : Heap} (hQ : p_Q D ad B s h H) (hk : ∀ x : Nat, x < H.size → B x → H1[x]? = H[x]?) : p_Q D ad B s h H1 :=
  ⟨fun q e he => ⟨(hQ.1 q e he).1.kept (hk _ (hQ.1 q e he).1.lt (hQ.1 q e he).2), (hQ.1 q e he).2⟩, hQ.2⟩
theorem p_Q.mono {D : va_G} {ad : Nat → Nat} {B C : Nat → Prop} {s : State} {h : PH} {H : Heap} (hQ : p_Q D ad B s h H) (hk : ∀ q e, h q = some e → B (ad q) → C (ad q)) : p_Q D ad C s h H :=
  ⟨fun q e he => ⟨(hQ.1 q e he).1, hk q e he (hQ.1 q e he).2⟩, hQ.2⟩
theorem p_Q.tt {D : va_G} {ad : Nat → Nat} {B : Nat → Prop} {s : State} {h : PH} {H : Heap} (hQ : p_Q D ad B s h H) : p_Q D ad p_tt s h H := hQ.mono fun _ _ _ _ => trivial
theorem p_Q.self {D : va_G} {ad : Nat → Nat} {B : Nat → Prop} {s : State} {h : PH} {H : Heap} (hQ : p_Q D ad B s h H) : p_Q D ad (p_A ad h) s h H := hQ.mono fun q e he _ => ⟨q, e, he, rfl⟩
theorem p_up_some {h : PH} {a : Nat} {e : PE} {q : Nat} {f : PE} (hq : p_up h a e q = some f) : (q = a ∧ e = f) ∨ (q ≠ a ∧ h q = some f) := by
  unfold p_up at hq
  by_cases hqa : q = a
  · rw [if_pos hqa] at hq
    exact Or.inl ⟨hqa, Option.some.inj hq⟩
  · rw [if_neg hqa] at hq
    exact Or.inr ⟨hqa, hq⟩
theorem p_Q.set {D : va_G} {ad : Nat → Nat} {B : Nat → Prop} {s : State} {h : PH} {H H1 : Heap} {a : Nat} {e0 e : PE} (hQ : p_Q D ad B s h H) (he : h a = some e0) (h1 : p_at D ad s H1 a e) (oq : ∀ x : Nat, x ≠ ad a → H1[x]? = H[x]?) : p_Q D ad B s (p_up h a e) H1 := by
  have dom : ∀ q f, p_up h a e q = some f → ∃ f0, h q = some f0 := fun q f hq => by
    rcases p_up_some hq with ⟨h2, -⟩ | ⟨-, h2⟩
    · exact ⟨e0, by rw [h2]; exact he⟩
    · exact ⟨f, h2⟩
  refine ⟨fun q f hq => ?_, fun q r f g hq hr hqr => ?_⟩
  · rcases p_up_some hq with ⟨rfl, rfl⟩ | ⟨hne, h2⟩
    · exact ⟨h1, (hQ.1 q e0 he).2⟩
    · exact ⟨(hQ.1 q f h2).1.kept (oq _ fun z => hne (hQ.2 q a f e0 h2 he z)), (hQ.1 q f h2).2⟩
  · obtain ⟨f0, hf0⟩ := dom q f hq
    obtain ⟨g0, hg0⟩ := dom r g hr
    exact hQ.2 q r f0 g0 hf0 hg0 hqr
theorem p_b {α β : Type} {x : Option α} {f : α → Option β} {r : β} (h : x.bind f = some r) : ∃ v, x = some v ∧ f v = some r := Option.bind_eq_some_iff.mp h
/-! reading and writing -/
def p_g (h : PH) (a ci k : Nat) : Option Value := match h a with
  | some (.inr (c, fs)) => if c = ci then fs[k]? else none
  | _ => none
def p_gi (h : PH) (a ci k : Nat) : Option Int32 := match p_g h a ci k with
  | some (.int x) => some x
  | _ => none
def p_gr (h : PH) (a ci k : Nat) : Option Nat := match p_g h a ci k with
  | some (.ref x) => some x
  | _ => none
def p_s (h : PH) (a ci k : Nat) (v : Value) : Option PH := match h a with
  | some (.inr (c, fs)) => if c = ci ∧ k < fs.length then some (p_up h a (.inr (ci, fs.set k v))) else none
  | _ => none
def p_si (h : PH) (a ci k : Nat) (x : Int32) : Option PH := p_s h a ci k (.int x)
def p_sz (h : PH) (a ci k : Nat) (x : Int32) : Option PH := if x = 0 ∨ x = 1 then p_s h a ci k (.int x) else none
def p_sr (h : PH) (a ci k : Nat) (x : Nat) : Option PH := p_s h a ci k (.ref x)
def p_ob (h : PH) (a ci : Nat) : Option Unit := match h a with
  | some (.inr (c, _)) => if c = ci then some () else none
  | _ => none
def p_ld (h : PH) (a t : Nat) (i : Int32) : Option Int32 := match h a with
  | some (.inl (u, n, .inl f)) => if u = t ∧ ¬ (i < 0 ∨ n ≤ i.toNatClampNeg) then some (f i.toNatClampNeg) else none
  | _ => none
def p_st (h : PH) (a : Nat) (i x : Int32) : Option PH := match h a with
  | some (.inl (u, n, .inl f)) => if u = 0 ∧ ¬ (i < 0 ∨ n ≤ i.toNatClampNeg) then some (p_up h a (.inl (0, n, .inl (upd f i.toNatClampNeg x)))) else none
  | _ => none
def p_sb (h : PH) (a : Nat) (i x : Int32) : Option PH := match h a with
  | some (.inl (u, n, .inl f)) => if (u = 1 ∧ ¬ (i < 0 ∨ n ≤ i.toNatClampNeg)) ∧ (x = 0 ∨ x = 1) then some (p_up h a (.inl (1, n, .inl (upd f i.toNatClampNeg x)))) else none
  | _ => none
def p_ldr (h : PH) (a : Nat) (i : Int32) : Option (Option Nat) := match h a with
  | some (.inl (u, n, .inr (.inr (.inr (.inr f))))) => if u = 2 ∧ ¬ (i < 0 ∨ n ≤ i.toNatClampNeg) then some (f i.toNatClampNeg) else none
  | _ => none
def p_wo (h : PH) (r : Option Nat) : Option Unit := match r with
  | none => some ()
  | some v => p_ob h v 1
def p_str (h : PH) (a : Nat) (i : Int32) (r : Option Nat) : Option PH := match h a with
  | some (.inl (u, n, .inr (.inr (.inr (.inr f))))) => if (u = 2 ∧ ¬ (i < 0 ∨ n ≤ i.toNatClampNeg)) ∧ p_wo h r = some () then some (p_up h a (.inl (2, n, .inr (.inr (.inr (.inr (va_up f i.toNatClampNeg r))))))) else none
  | _ => none
def p_len (h : PH) (a : Nat) : Option Int32 := match h a with
  | some (.inl (_, x)) => some (Int32.ofNat x.1)
  | _ => none
def p_z (x : Int32) : Option Int32 := if x = 0 ∨ x = 1 then some x else none
theorem p_g_of {h : PH} {a ci k : Nat} {v : Value} (hv : p_g h a ci k = some v) : ∃ fs, h a = some (.inr (ci, fs)) ∧ fs[k]? = some v := by
  unfold p_g at hv
  split at hv
  · next c fs hh =>
    by_cases hc : c = ci
    · rw [if_pos hc] at hv
      exact ⟨fs, by rw [hh, hc], hv⟩
    · rw [if_neg hc] at hv
      cases hv
  · cases hv
theorem p_gi_of {h : PH} {a ci k : Nat} {x : Int32} (hv : p_gi h a ci k = some x) : p_g h a ci k = some (.int x) := by
  unfold p_gi at hv
  split at hv
  · next x' hh => rw [hh]; cases hv; rfl
  · cases hv
theorem p_gr_of {h : PH} {a ci k : Nat} {x : Nat} (hv : p_gr h a ci k = some x) : p_g h a ci k = some (.ref x) := by
  unfold p_gr at hv
  split at hv
  · next x' hh => rw [hh]; cases hv; rfl
  · cases hv
theorem p_s_of {h h1 : PH} {a ci k : Nat} {v : Value} (hv : p_s h a ci k v = some h1) : ∃ fs, h a = some (.inr (ci, fs)) ∧ k < fs.length ∧ h1 = p_up h a (.inr (ci, fs.set k v)) := by
  unfold p_s at hv
  split at hv
  · next c fs hh =>
    by_cases hc : c = ci ∧ k < fs.length
    · rw [if_pos hc] at hv
      exact ⟨fs, by rw [hh, hc.1], hc.2, (Option.some.inj hv).symm⟩
    · rw [if_neg hc] at hv
      cases hv
  · cases hv
theorem p_ob_of {h : PH} {a ci : Nat} {u : Unit} (hv : p_ob h a ci = some u) : ∃ fs, h a = some (.inr (ci, fs)) := by
  unfold p_ob at hv
  split at hv
  · next c fs hh =>
    by_cases hc : c = ci
    · exact ⟨fs, by rw [hh, hc]⟩
    · rw [if_neg hc] at hv
      cases hv
  · cases hv
theorem p_ld_of {h : PH} {a t : Nat} {i x : Int32} (hv : p_ld h a t i = some x) : ∃ n f, h a = some (.inl (t, n, .inl f)) ∧ vp_in i n ∧ x = f i.toNatClampNeg := by
  unfold p_ld at hv
  split at hv
  · next u n f hh =>
    by_cases hc : u = t ∧ ¬ (i < 0 ∨ n ≤ i.toNatClampNeg)
    · rw [if_pos hc] at hv
      exact ⟨n, f, by rw [hh, hc.1], hc.2, (Option.some.inj hv).symm⟩
    · rw [if_neg hc] at hv
      cases hv
  · cases hv
theorem p_st_of {h h1 : PH} {a : Nat} {i x : Int32} (hv : p_st h a i x = some h1) : ∃ n f, h a = some (.inl (0, n, .inl f)) ∧ vp_in i n ∧ h1 = p_up h a (.inl (0, n, .inl (upd f i.toNatClampNeg x))) := by
  unfold p_st at hv
  split at hv
  · next u n f hh =>
    by_cases hc : u = 0 ∧ ¬ (i < 0 ∨ n ≤ i.toNatClampNeg)
    · rw [if_pos hc] at hv
      exact ⟨n, f, by rw [hh, hc.1], hc.2, (Option.some.inj hv).symm⟩
    · rw [if_neg hc] at hv
      cases hv
  · cases hv
theorem p_sb_of {h h1 : PH} {a : Nat} {i x : Int32} (hv : p_sb h a i x = some h1) : ∃ n f, h a = some (.inl (1, n, .inl f)) ∧ vp_in i n ∧ (x = 0 ∨ x = 1) ∧ h1 = p_up h a (.inl (1, n, .inl (upd f i.toNatClampNeg x))) := by
  unfold p_sb at hv
  split at hv
  · next u n f hh =>
    by_cases hc : (u = 1 ∧ ¬ (i < 0 ∨ n ≤ i.toNatClampNeg)) ∧ (x = 0 ∨ x = 1)
    · rw [if_pos hc] at hv
      exact ⟨n, f, by rw [hh, hc.1.1], hc.1.2, hc.2, (Option.some.inj hv).symm⟩
    · rw [if_neg hc] at hv
      cases hv
  · cases hv
theorem p_ldr_of {h : PH} {a : Nat} {i : Int32} {x : Option Nat} (hv : p_ldr h a i = some x) : ∃ n f, h a = some (.inl (2, n, .inr (.inr (.inr (.inr f))))) ∧ vp_in i n ∧ x = f i.toNatClampNeg := by
  unfold p_ldr at hv
  split at hv
  · next u n f hh =>
    by_cases hc : u = 2 ∧ ¬ (i < 0 ∨ n ≤ i.toNatClampNeg)
    · rw [if_pos hc] at hv
      exact ⟨n, f, by rw [hh, hc.1], hc.2, (Option.some.inj hv).symm⟩
    · rw [if_neg hc] at hv
      cases hv
  · cases hv
theorem p_str_of {h h1 : PH} {a : Nat} {i : Int32} {r : Option Nat} (hv : p_str h a i r = some h1) : ∃ n f, h a = some (.inl (2, n, .inr (.inr (.inr (.inr f))))) ∧ vp_in i n ∧ p_wo h r = some () ∧ h1 = p_up h a (.inl (2, n, .inr (.inr (.inr (.inr (va_up f i.toNatClampNeg r)))))) := by
  unfold p_str at hv
  split at hv
  · next u n f hh =>
    by_cases hc : (u = 2 ∧ ¬ (i < 0 ∨ n ≤ i.toNatClampNeg)) ∧ p_wo h r = some ()
    · rw [if_pos hc] at hv
      exact ⟨n, f, by rw [hh, hc.1.1], hc.1.2, hc.2, (Option.some.inj hv).symm⟩
    · rw [if_neg hc] at hv
      cases hv
  · cases hv
theorem p_len_of {h : PH} {a : Nat} {x : Int32} (hv : p_len h a = some x) : ∃ t y, h a = some (.inl (t, y)) ∧ x = Int32.ofNat y.1 := by
  unfold p_len at hv
  split at hv
  · next t y hh => exact ⟨t, y, hh, (Option.some.inj hv).symm⟩
  · cases hv
/-! locals that hold values of one place each -/
def p_L (ls : Array Slot) (nL : Nat) (lv : List (Nat × Value)) : Prop := lv_has ls nL lv ∧ ∀ q ∈ lv, q.2.category = 1
theorem p_cat (r : Option Nat) : (va_rf r).category = 1 := by cases r <;> rfl
theorem p_L.sub {ls : Array Slot} {nL : Nat} {l l' : List (Nat × Value)} (h : p_L ls nL l) (ks : List Nat) (hl : lv_pick l ks = l') : p_L ls nL l' := by
  refine ⟨lv_sub h.1 ks hl, fun q hq => ?_⟩
  rw [← hl] at hq
  obtain ⟨k, -, hk⟩ := List.mem_filterMap.mp hq
  exact h.2 q (List.mem_of_getElem? hk)
theorem p_fl {lv : List (Nat × Value)} {i : Nat} (h : ∀ q ∈ lv, q.2.category = 1) : lv.filter (fun q => !(q.1 == i) && !(q.1 + 1 == i && q.2.category == 2)) = lv.filter (fun q => !(q.1 == i)) := by
  refine List.filter_congr fun q hq => ?_
  rw [h q hq]
  simp
theorem p_Lof {ls : Array Slot} {nL i : Nat} {v : Value} {lv lv' : List (Nat × Value)} (h : ∀ q ∈ lv, q.2.category = 1) (hv : v.category = 1) (hl : (i, v) :: lv.filter (fun q => !(q.1 == i)) = lv')
    (h1 : lv_has ls nL ((i, v) :: lv.filter (fun q => !(q.1 == i) && !(q.1 + 1 == i && q.2.category == 2)))) : p_L ls nL lv' := by
  rw [p_fl h, hl] at h1
  refine ⟨h1, fun q hq => ?_⟩
  rw [← hl] at hq
  rcases List.mem_cons.mp hq with rfl | hq
  · exact hv
  · exact h q (List.mem_filter.mp hq).1
end
section
section PR
variable {p : Program} {l : Launch} {e : Env} {R : Room} {s : State} {m : MethodId} {args : Array Value} {below : List Frame} {meth : Method} {c : Code} {H : Heap} {locs : List Loc} {cells slots : Nat} {Q : State → Prop}
variable {cc : ByteArray} {pc nL : Nat} {ls : Array Slot} {rest : List Value} {D : va_G} {ad : Nat → Nat} {A B : Nat → Prop} {h : PH} {Ts : List Cond} {own : String}
/-! locals -/
theorem p_istore_n (hexec : p.tables.exec = Jvm.exec) (hb : c.code = cc) {k : Fin 4} {i : Nat} {x : Int32} {lv lv' : List (Nat × Value)} (hdg : decode cc pc = .ok (.istore_n k, 1)) (hi : (k : Nat) = i) (hL : p_L ls nL lv) (hn : i < nL) (hl : (i, Value.int x) :: lv.filter (fun q => !(q.1 == i)) = lv')
    (kk : ∀ ls' : Array Slot, p_L ls' nL lv' → W p l e R s m args below meth c H locs cells slots Q (F0 m (pc + 1) ls' rest)) : W p l e R s m args below meth c H locs cells slots Q (F0 m pc ls (.int x :: rest)) :=
  lv_istore_n hexec hb hdg hi hL.1 hn rfl fun ls' h1 => kk ls' (p_Lof hL.2 rfl hl h1)
theorem p_istore (hexec : p.tables.exec = Jvm.exec) (hb : c.code = cc) {i : Nat} {x : Int32} {lv lv' : List (Nat × Value)} (hdg : decode cc pc = .ok (.istore i, 2)) (hL : p_L ls nL lv) (hn : i < nL) (hl : (i, Value.int x) :: lv.filter (fun q => !(q.1 == i)) = lv')
    (kk : ∀ ls' : Array Slot, p_L ls' nL lv' → W p l e R s m args below meth c H locs cells slots Q (F0 m (pc + 2) ls' rest)) : W p l e R s m args below meth c H locs cells slots Q (F0 m pc ls (.int x :: rest)) :=
  lv_istore hexec hb hdg hL.1 hn rfl fun ls' h1 => kk ls' (p_Lof hL.2 rfl hl h1)
theorem p_iinc (hexec : p.tables.exec = Jvm.exec) (hb : c.code = cc) {i k : Nat} {n : Int} {x v : Int32} {lv lv' : List (Nat × Value)} (hdg : decode cc pc = .ok (.iinc i n, 3)) (hL : p_L ls nL lv) (hk : lv[k]? = some (i, .int x)) (hv : x + Int32.ofInt n = v) (hn : i < nL) (hl : (i, Value.int v) :: lv.filter (fun q => !(q.1 == i)) = lv')
    (kk : ∀ ls' : Array Slot, p_L ls' nL lv' → W p l e R s m args below meth c H locs cells slots Q (F0 m (pc + 3) ls' rest)) : W p l e R s m args below meth c H locs cells slots Q (F0 m pc ls rest) :=
  lv_iinc hexec hb hdg hL.1 hk hv hn rfl fun ls' h1 => kk ls' (p_Lof hL.2 rfl hl h1)
theorem p_astore_n (hexec : p.tables.exec = Jvm.exec) (hb : c.code = cc) {k : Fin 4} {i : Nat} {o : Option Nat} {lv lv' : List (Nat × Value)} (hdg : decode cc pc = .ok (.astore_n k, 1)) (hi : (k : Nat) = i) (hL : p_L ls nL lv) (hn : i < nL) (hl : (i, va_rf o) :: lv.filter (fun q => !(q.1 == i)) = lv')
    (kk : ∀ ls' : Array Slot, p_L ls' nL lv' → W p l e R s m args below meth c H locs cells slots Q (F0 m (pc + 1) ls' rest)) : W p l e R s m args below meth c H locs cells slots Q (F0 m pc ls (va_rf o :: rest)) := by
  cases o with
  | none => exact lv_astore_nN hexec hb hdg hi hL.1 hn rfl fun ls' h1 => kk ls' (p_Lof hL.2 rfl hl h1)
  | some a => exact lv_astore_n hexec hb hdg hi hL.1 hn rfl fun ls' h1 => kk ls' (p_Lof hL.2 rfl hl h1)
theorem p_astore (hexec : p.tables.exec = Jvm.exec) (hb : c.code = cc) {i : Nat} {o : Option Nat} {lv lv' : List (Nat × Value)} (hdg : decode cc pc = .ok (.astore i, 2)) (hL : p_L ls nL lv) (hn : i < nL) (hl : (i, va_rf o) :: lv.filter (fun q => !(q.1 == i)) = lv')
    (kk : ∀ ls' : Array Slot, p_L ls' nL lv' → W p l e R s m args below meth c H locs cells slots Q (F0 m (pc + 2) ls' rest)) : W p l e R s m args below meth c H locs cells slots Q (F0 m pc ls (va_rf o :: rest)) := by
  cases o with
  | none => exact lv_astoreN hexec hb hdg hL.1 hn rfl fun ls' h1 => kk ls' (p_Lof hL.2 rfl hl h1)
  | some a => exact lv_astore hexec hb hdg hL.1 hn rfl fun ls' h1 => kk ls' (p_Lof hL.2 rfl hl h1)
theorem p_aload_n (hexec : p.tables.exec = Jvm.exec) (hb : c.code = cc) {k : Fin 4} {i : Nat} {o : Option Nat} (hdg : decode cc pc = .ok (.aload_n k, 1)) (hi : (k : Nat) = i) (hl : ls[i]? = some (.val (va_rf o)))
    (kk : W p l e R s m args below meth c H locs cells slots Q (F0 m (pc + 1) ls (va_rf o :: rest))) : W p l e R s m args below meth c H locs cells slots Q (F0 m pc ls rest) := by
  cases o with
  | none => exact lv_aload_nN hexec hb hdg hi hl kk
  | some a => exact lv_aload_n hexec hb hdg hi hl kk
theorem p_aload (hexec : p.tables.exec = Jvm.exec) (hb : c.code = cc) {i : Nat} {o : Option Nat} (hdg : decode cc pc = .ok (.aload i, 2)) (hl : ls[i]? = some (.val (va_rf o)))
    (kk : W p l e R s m args below meth c H locs cells slots Q (F0 m (pc + 2) ls (va_rf o :: rest))) : W p l e R s m args below meth c H locs cells slots Q (F0 m pc ls rest) := by
  cases o with
  | none => exact lv_aloadN hexec hb hdg hl kk
  | some a => exact lv_aload hexec hb hdg hl kk
/-! fields -/
theorem p_getV (S : CallFix p m c cc nL s args Ts own) {C : String} {T : u_T} {N ci k a index : Nat} {v : Value} (hin : ∀ w ∈ u_ws C T N, w ∈ Ts) (hK : va_K D vwCl [] s) (hQ : p_Q D ad B s h H) (hv : p_g h a ci k = some v) (hc : vwCl[ci]? = some (C, T, N)) (hk : k < N)
    (hlink : Cond.fieldLink own index (T k).1 (T k).2.1 (T k).2.2.1 ∈ Ts) (hdg : decode cc pc = .ok (.getfield index, 3)) (kk : W p l e R s m args below meth c H locs cells slots Q (F0 m (pc + 3) ls (p_v ad v :: rest))) : W p l e R s m args below meth c H locs cells slots Q (F0 m pc ls (.ref (ad a) :: rest)) := by
  obtain ⟨fs, hh, hfs⟩ := p_g_of hv
  obtain ⟨hx, hb, -, hown, hts⟩ := S
  have hP : va_P D vwCl [(ad a, .inr (ci, fs.map (p_v ad)))] H := by
    intro k q hq
    cases k with
    | zero => cases hq; exact (hQ.1 a _ hh).1
    | succ k => simp at hq
  exact va_get (D := D) hx hb hts hin hown hK hP 0 rfl hc k hk (hts _ hlink) (fun _ h9 => h9) (by rw [List.getElem?_map, hfs]; rfl) hdg kk
theorem p_getI (S : CallFix p m c cc nL s args Ts own) {C : String} {T : u_T} {N ci k a index : Nat} {x : Int32} (hin : ∀ w ∈ u_ws C T N, w ∈ Ts) (hK : va_K D vwCl [] s) (hQ : p_Q D ad B s h H) (hv : p_gi h a ci k = some x) (hc : vwCl[ci]? = some (C, T, N)) (hk : k < N)
    (hlink : Cond.fieldLink own index (T k).1 (T k).2.1 (T k).2.2.1 ∈ Ts) (hdg : decode cc pc = .ok (.getfield index, 3)) (kk : W p l e R s m args below meth c H locs cells slots Q (F0 m (pc + 3) ls (.int x :: rest))) : W p l e R s m args below meth c H locs cells slots Q (F0 m pc ls (.ref (ad a) :: rest)) :=
  p_getV S hin hK hQ (p_gi_of hv) hc hk hlink hdg kk
theorem p_getR (S : CallFix p m c cc nL s args Ts own) {C : String} {T : u_T} {N ci k a index : Nat} {x : Nat} (hin : ∀ w ∈ u_ws C T N, w ∈ Ts) (hK : va_K D vwCl [] s) (hQ : p_Q D ad B s h H) (hv : p_gr h a ci k = some x) (hc : vwCl[ci]? = some (C, T, N)) (hk : k < N)
    (hlink : Cond.fieldLink own index (T k).1 (T k).2.1 (T k).2.2.1 ∈ Ts) (hdg : decode cc pc = .ok (.getfield index, 3)) (kk : W p l e R s m args below meth c H locs cells slots Q (F0 m (pc + 3) ls (.ref (ad x) :: rest))) : W p l e R s m args below meth c H locs cells slots Q (F0 m pc ls (.ref (ad a) :: rest)) :=
  p_getV S hin hK hQ (p_gr_of hv) hc hk hlink hdg kk
theorem p_putV (S : CallFix p m c cc nL s args Ts own) {C : String} {T : u_T} {N ci k a index : Nat} {v : Value} {ty0 : Nat → FieldType} {ty : FieldType} {h1 : PH} (hin : ∀ w ∈ u_ws C T N, w ∈ Ts) (hty : ∀ k, k < N → parseFieldDescriptor (T k).2.2.1 = some (ty0 k)) (hnm : ∀ a, a < N → ∀ b, b < N → a ≠ b → (T a).2.1 ≠ (T b).2.1)
    (hK : va_K D vwCl [] s) (hQ : p_Q D ad A s h H) (hS : va_S A s.heap H locs) (hv : p_s h a ci k v = some h1) (hc : vwCl[ci]? = some (C, T, N)) (hk : k < N) (hfin : (T k).2.2.2 = false) (hd : ty0 k = ty) (hn : narrow ty (p_v ad v) = p_v ad v) (hfit : fits ty (p_v ad v) = true)
    (hlink : Cond.fieldLink own index (T k).1 (T k).2.1 (T k).2.2.1 ∈ Ts) (hdg : decode cc pc = .ok (.putfield index, 3))
    (kk : ∀ (H1 : Heap) (locs1 : List Loc), p_Q D ad A s h1 H1 → va_S A s.heap H1 locs1 → W p l e R s m args below meth c H1 locs1 cells slots Q (F0 m (pc + 3) ls rest)) : W p l e R s m args below meth c H locs cells slots Q (F0 m pc ls (p_v ad v :: .ref (ad a) :: rest)) := by
  obtain ⟨fs, hh, hl, rfl⟩ := p_s_of hv
  obtain ⟨hexec, hb, -, hown, hts⟩ := S
  have hap := va_apart (own := own) hts hin ty0 hty hnm hK hc
  obtain ⟨hat, hAa⟩ := hQ.1 a _ hh
  obtain ⟨r, h1, cell, q1, q2, q3, q4⟩ := hat
  have hr : r = (C, T, N) := Option.some.inj (h1.symm.trans hc)
  subst hr
  obtain ⟨hSl, hfc, kC, hkC, hkind⟩ := hK.1 ci _ hc
  obtain ⟨cf, kf, fi, f, hi, hsl⟩ := hSl k hk
  have hlay := hts _ (hin _ (u_in_lay hk))
  unfold u_lay at hlay
  rw [if_neg (by rw [hfin]; decide)] at hlay
  have hst := (u_facts hfc hkC (u_lays hts hin hk) hi).1
  have h6 := u_store hfc hkC hkind hlay hi ((hty k hk).trans (congrArg some hd)) hn hfit
  refine W.putK hexec hb (f := f) ⟨hown, hts _ hlink, ⟨_, _, _, hi⟩, hst⟩ (by rw [q2]; exact h6) q1 q3 (by rw [hsl]; exact k2_hasslot (q4 k hk)) rfl rfl hdg fun H' e1 e2 e3 => ?_
  rw [hsl] at e1 ⊢
  refine kk H' _ (hQ.set hh ?_ e3) (hS.put e2 e3 hAa)
  show va_at D vwCl (ad a, .inr (ci, (fs.set k v).map (p_v ad))) H'
  rw [List.map_set]
  exact ⟨_, hc, t_OB.to (V := updV (vp_V (fs.map (p_v ad))) k (p_v ad v)) ⟨_, e1, q2, q3, t_set q4 hap hk (p_v ad v)⟩ (fun j _ => vp_updV_set (by rw [List.length_map]; exact hl) (p_v ad v) j)⟩
theorem p_putI (S : CallFix p m c cc nL s args Ts own) {C : String} {T : u_T} {N ci k a index : Nat} {x : Int32} {ty0 : Nat → FieldType} {h1 : PH} (hin : ∀ w ∈ u_ws C T N, w ∈ Ts) (hty : ∀ k, k < N → parseFieldDescriptor (T k).2.2.1 = some (ty0 k)) (hnm : ∀ a, a < N → ∀ b, b < N → a ≠ b → (T a).2.1 ≠ (T b).2.1)
    (hK : va_K D vwCl [] s) (hQ : p_Q D ad A s h H) (hS : va_S A s.heap H locs) (hv : p_si h a ci k x = some h1) (hc : vwCl[ci]? = some (C, T, N)) (hk : k < N) (hfin : (T k).2.2.2 = false) (hd : ty0 k = .int)
    (hlink : Cond.fieldLink own index (T k).1 (T k).2.1 (T k).2.2.1 ∈ Ts) (hdg : decode cc pc = .ok (.putfield index, 3))
    (kk : ∀ (H1 : Heap) (locs1 : List Loc), p_Q D ad A s h1 H1 → va_S A s.heap H1 locs1 → W p l e R s m args below meth c H1 locs1 cells slots Q (F0 m (pc + 3) ls rest)) : W p l e R s m args below meth c H locs cells slots Q (F0 m pc ls (.int x :: .ref (ad a) :: rest)) :=
  p_putV S hin hty hnm hK hQ hS (v := .int x) hv hc hk hfin hd rfl rfl hlink hdg kk
theorem p_nz {x : Int32} (h : x = 0 ∨ x = 1) : narrow .boolean (.int x) = .int x ∧ fits .boolean (.int x) = true := by
  rcases h with rfl | rfl <;> decide
theorem p_putZ (S : CallFix p m c cc nL s args Ts own) {C : String} {T : u_T} {N ci k a index : Nat} {x : Int32} {ty0 : Nat → FieldType} {h1 : PH} (hin : ∀ w ∈ u_ws C T N, w ∈ Ts) (hty : ∀ k, k < N → parseFieldDescriptor (T k).2.2.1 = some (ty0 k)) (hnm : ∀ a, a < N → ∀ b, b < N → a ≠ b → (T a).2.1 ≠ (T b).2.1)
    (hK : va_K D vwCl [] s) (hQ : p_Q D ad A s h H) (hS : va_S A s.heap H locs) (hv : p_sz h a ci k x = some h1) (hc : vwCl[ci]? = some (C, T, N)) (hk : k < N) (hfin : (T k).2.2.2 = false) (hd : ty0 k = .boolean)
    (hlink : Cond.fieldLink own index (T k).1 (T k).2.1 (T k).2.2.1 ∈ Ts) (hdg : decode cc pc = .ok (.putfield index, 3))
    (kk : ∀ (H1 : Heap) (locs1 : List Loc), p_Q D ad A s h1 H1 → va_S A s.heap H1 locs1 → W p l e R s m args below meth c H1 locs1 cells slots Q (F0 m (pc + 3) ls rest)) : W p l e R s m args below meth c H locs cells slots Q (F0 m pc ls (.int x :: .ref (ad a) :: rest)) := by
  unfold p_sz at hv
  by_cases hz : x = 0 ∨ x = 1
  · rw [if_pos hz] at hv
    exact p_putV S hin hty hnm hK hQ hS (v := .int x) hv hc hk hfin hd (p_nz hz).1 (p_nz hz).2 hlink hdg kk
  · rw [if_neg hz] at hv
    cases hv
/-! arrays -/
theorem p_iald (S : CallFix p m c cc nL s args Ts own) {a : Nat} {i x : Int32} (hQ : p_Q D ad B s h H) (hv : p_ld h a 0 i = some x) (hdg : decode cc pc = .ok (.iaload, 1))
    (kk : W p l e R s m args below meth c H locs cells slots Q (F0 m (pc + 1) ls (.int x :: rest))) : W p l e R s m args below meth c H locs cells slots Q (F0 m pc ls (.int i :: .ref (ad a) :: rest)) := by
  obtain ⟨n, f, hh, hin, rfl⟩ := p_ld_of hv
  obtain ⟨cA, ⟨hA, -⟩, hcell⟩ := (hQ.1 a _ hh).1
  have hlt : i.toNatClampNeg < n := Nat.not_le.mp fun q => hin (Or.inr q)
  exact W.iald (v := .int (f i.toNatClampNeg)) S.1 S.2.1 hcell (hA n (fun j => .int (f j))) (fun q => by cases q) (by show ¬ (i < 0 ∨ (arrV _ _ _).slots.size ≤ _); rw [arrV_size]; exact hin) (by show (arrV cA n (fun j => .int (f j))).slots[_]? = _; rw [arrV_read _ _ hlt]) rfl rfl hdg kk
theorem p_zald (S : CallFix p m c cc nL s args Ts own) {a : Nat} {i x : Int32} (hQ : p_Q D ad B s h H) (hv : p_ld h a 1 i = some x) (hdg : decode cc pc = .ok (.baload, 1))
    (kk : W p l e R s m args below meth c H locs cells slots Q (F0 m (pc + 1) ls (.int x :: rest))) : W p l e R s m args below meth c H locs cells slots Q (F0 m pc ls (.int i :: .ref (ad a) :: rest)) := by
  obtain ⟨n, f, hh, hin, rfl⟩ := p_ld_of hv
  obtain ⟨cA, ⟨hA, -⟩, hcell⟩ := (hQ.1 a _ hh).1
  have hlt : i.toNatClampNeg < n := Nat.not_le.mp fun q => hin (Or.inr q)
  exact W.zald (v := .int (f i.toNatClampNeg)) S.1 S.2.1 hcell (hA n (fun j => .int (f j))) (fun q => by cases q) (by show ¬ (i < 0 ∨ (arrV _ _ _).slots.size ≤ _); rw [arrV_size]; exact hin) (by show (arrV cA n (fun j => .int (f j))).slots[_]? = _; rw [arrV_read _ _ hlt]) rfl rfl hdg kk
theorem p_aald (S : CallFix p m c cc nL s args Ts own) {a : Nat} {i : Int32} {o : Option Nat} (hQ : p_Q D ad B s h H) (hv : p_ldr h a i = some o) (hdg : decode cc pc = .ok (.aaload, 1))
    (kk : W p l e R s m args below meth c H locs cells slots Q (F0 m (pc + 1) ls (va_rf (o.map ad) :: rest))) : W p l e R s m args below meth c H locs cells slots Q (F0 m pc ls (.int i :: .ref (ad a) :: rest)) := by
  obtain ⟨n, f, hh, hin, rfl⟩ := p_ldr_of hv
  obtain ⟨cA, ⟨hA, -⟩, hcell⟩ := (hQ.1 a _ hh).1
  have hlt : i.toNatClampNeg < n := Nat.not_le.mp fun q => hin (Or.inr q)
  exact W.aald (v := va_rf ((f i.toNatClampNeg).map ad)) (ty := .object RX1) S.1 S.2.1 hcell (hA n (fun j => va_rf ((f j).map ad))) rfl (fun q => by cases q) (by show ¬ (i < 0 ∨ (arrV _ _ _).slots.size ≤ _); rw [arrV_size]; exact hin) (by show (arrV cA n (fun j => va_rf ((f j).map ad))).slots[_]? = _; rw [arrV_read _ _ hlt]) rfl rfl hdg kk
theorem p_alen (S : CallFix p m c cc nL s args Ts own) {a : Nat} {x : Int32} (hQ : p_Q D ad B s h H) (hv : p_len h a = some x) (hdg : decode cc pc = .ok (.arraylength, 1))
    (kk : W p l e R s m args below meth c H locs cells slots Q (F0 m (pc + 1) ls (.int x :: rest))) : W p l e R s m args below meth c H locs cells slots Q (F0 m pc ls (.ref (ad a) :: rest)) := by
  obtain ⟨t, ⟨n, f⟩, hh, rfl⟩ := p_len_of hv
  obtain ⟨cA, ⟨hA, -⟩, hcell⟩ := (hQ.1 a _ hh).1
  obtain f | f | f | f | f := f
  · exact W.alen (n := Int32.ofNat n) S.1 S.2.1 hcell (hA n (fun j => .int (f j))) (by show (arrV _ _ _).slots.size.toInt32 = _; rw [arrV_size] <;> rfl) rfl rfl hdg kk
  · exact W.alen (n := Int32.ofNat n) S.1 S.2.1 hcell (hA n (fun j => .long (f j))) (by show (arrV _ _ _).slots.size.toInt32 = _; rw [arrV_size] <;> rfl) rfl rfl hdg kk
  · exact W.alen (n := Int32.ofNat n) S.1 S.2.1 hcell (hA n (fun j => .float (f j))) (by show (arrV _ _ _).slots.size.toInt32 = _; rw [arrV_size] <;> rfl) rfl rfl hdg kk
  · exact W.alen (n := Int32.ofNat n) S.1 S.2.1 hcell (hA n (fun j => .double (f j))) (by show (arrV _ _ _).slots.size.toInt32 = _; rw [arrV_size] <;> rfl) rfl rfl hdg kk
  · exact W.alen (n := Int32.ofNat n) S.1 S.2.1 hcell (hA n (fun j => va_rf ((f j).map ad))) (by show (arrV _ _ _).slots.size.toInt32 = _; rw [arrV_size] <;> rfl) rfl rfl hdg kk
theorem p_updV {f : Nat → Int32} {k : Nat} {x : Int32} : updV (fun j => Value.int (f j)) k (.int x) = fun j => .int (upd f k x j) := by
  funext q
  by_cases hq : q = k
  · subst hq
    simp [updV, upd]
  · simp [updV, upd, hq]
theorem p_iast (S : CallFix p m c cc nL s args Ts own) {a : Nat} {i x : Int32} {h1 : PH} (hQ : p_Q D ad A s h H) (hS : va_S A s.heap H locs) (hv : p_st h a i x = some h1) (hdg : decode cc pc = .ok (.iastore, 1))
    (kk : ∀ (H1 : Heap) (locs1 : List Loc), p_Q D ad A s h1 H1 → va_S A s.heap H1 locs1 → W p l e R s m args below meth c H1 locs1 cells slots Q (F0 m (pc + 1) ls rest)) : W p l e R s m args below meth c H locs cells slots Q (F0 m pc ls (.int x :: .int i :: .ref (ad a) :: rest)) := by
  obtain ⟨n, f, hh, hin, rfl⟩ := p_st_of hv
  obtain ⟨⟨cA, hA, hcell⟩, hAa⟩ := hQ.1 a _ hh
  refine W.iast S.1 S.2.1 hcell (hA.1 n (fun j => .int (f j))) (fun q => by cases q) (by show ¬ (i < 0 ∨ (arrV _ _ _).slots.size ≤ _); rw [arrV_size]; exact hin) rfl rfl hdg fun H1 e1 z oq => ?_
  refine kk H1 _ (hQ.set hh ⟨cA, hA, ?_⟩ oq) (hS.put z oq hAa)
  rw [e1]
  show some ((arrV cA n (fun j => .int (f j))).setSlot _ _) = some (arrV cA n (fun j => .int (upd f i.toNatClampNeg x j)))
  rw [arrV_store, p_updV]
theorem p_zast (S : CallFix p m c cc nL s args Ts own) {a : Nat} {i x : Int32} {h1 : PH} (hQ : p_Q D ad A s h H) (hS : va_S A s.heap H locs) (hv : p_sb h a i x = some h1) (hdg : decode cc pc = .ok (.bastore, 1))
    (kk : ∀ (H1 : Heap) (locs1 : List Loc), p_Q D ad A s h1 H1 → va_S A s.heap H1 locs1 → W p l e R s m args below meth c H1 locs1 cells slots Q (F0 m (pc + 1) ls rest)) : W p l e R s m args below meth c H locs cells slots Q (F0 m pc ls (.int x :: .int i :: .ref (ad a) :: rest)) := by
  obtain ⟨n, f, hh, hin, hz, rfl⟩ := p_sb_of hv
  obtain ⟨⟨cA, hA, hcell⟩, hAa⟩ := hQ.1 a _ hh
  refine W.zast S.1 S.2.1 hcell (hA.1 n (fun j => .int (f j))) (fun q => by cases q) (by show ¬ (i < 0 ∨ (arrV _ _ _).slots.size ≤ _); rw [arrV_size]; exact hin) rfl rfl hdg fun H1 e1 z oq => ?_
  refine kk H1 _ (hQ.set hh ⟨cA, hA, ?_⟩ oq) (hS.put z oq hAa)
  rw [e1, (p_nz hz).1]
  show some ((arrV cA n (fun j => .int (f j))).setSlot _ _) = some (arrV cA n (fun j => .int (upd f i.toNatClampNeg x j)))
  rw [arrV_store, p_updV]
theorem p_updR {f : Nat → Option Nat} {k : Nat} {o : Option Nat} : updV (fun j => va_rf ((f j).map ad)) k (va_rf (o.map ad)) = fun j => va_rf ((va_up f k o j).map ad) := by
  funext q
  by_cases hq : q = k
  · subst hq
    simp [updV, va_up]
  · simp [updV, va_up, hq]
theorem p_aast (S : CallFix p m c cc nL s args Ts own) {a : Nat} {i : Int32} {o : Option Nat} {h1 : PH} (hK : va_K D vwCl [] s) (hQ : p_Q D ad A s h H) (hS : va_S A s.heap H locs) (hv : p_str h a i o = some h1) (hdg : decode cc pc = .ok (.aastore, 1))
    (kk : ∀ (H1 : Heap) (locs1 : List Loc), p_Q D ad A s h1 H1 → va_S A s.heap H1 locs1 → W p l e R s m args below meth c H1 locs1 cells slots Q (F0 m (pc + 1) ls rest)) : W p l e R s m args below meth c H locs cells slots Q (F0 m pc ls (va_rf (o.map ad) :: .int i :: .ref (ad a) :: rest)) := by
  obtain ⟨n, f, hh, hin, hw, rfl⟩ := p_str_of hv
  obtain ⟨⟨cA, hA, hcell⟩, hAa⟩ := hQ.1 a _ hh
  have hin0 : ¬ (i < 0 ∨ (arrV cA n (fun j => va_rf ((f j).map ad))).slots.size ≤ i.toNatClampNeg) := by rw [arrV_size]; exact hin
  cases o with
  | none =>
    refine va_WaastN (C := RX1) S.1 S.2.1 hcell (hA.1 n (fun j => va_rf ((f j).map ad))) (fun q => by cases q) hin0 rfl rfl hdg fun H1 e1 z oq => ?_
    refine kk H1 _ (hQ.set hh ⟨cA, hA, ?_⟩ oq) (hS.put z oq hAa)
    rw [e1]
    show some ((arrV cA n (fun j => va_rf ((f j).map ad))).setSlot _ (va_rf (Option.map ad none))) = some (arrV cA n (fun j => va_rf ((va_up f i.toNatClampNeg none j).map ad)))
    rw [arrV_store, p_updR]
  | some v =>
    obtain ⟨vs, hvs⟩ := p_ob_of (u := ()) hw
    obtain ⟨r', hr', cellV, g1, g2, g3, -⟩ := (hQ.1 v _ hvs).1
    have hcls := (hK.1 1 (RX1, TX1, 10) rfl).2
    obtain ⟨kA, comp, k1, k2, k3, -⟩ := hA.2
    have hcomp : comp = D.1 1 := Option.some.inj (k3.symm.trans hcls.1)
    subst hcomp
    obtain ⟨kC, hkC, -⟩ := hcls.2
    refine W.aast (v := ad v) S.1 S.2.1 hcell (fun q h => by cases h) (fun h => by cases h) k1 k2 rfl hkC ⟨fun q => hin (Or.inl q), Nat.not_le.mp fun q => hin0 (Or.inr q)⟩ g1 (fun q h => by rw [g3] at h; cases h) (by rw [g2]; exact hkC) (by rw [g2]; exact va_assign hcls) rfl rfl hdg fun H1 e1 z oq => ?_
    refine kk H1 _ (hQ.set hh ⟨cA, hA, ?_⟩ oq) (hS.put z oq hAa)
    rw [e1]
    show some ((arrV cA n (fun j => va_rf ((f j).map ad))).setSlot _ (va_rf (Option.map ad (some v)))) = some (arrV cA n (fun j => va_rf ((va_up f i.toNatClampNeg (some v) j).map ad)))
    rw [arrV_store, p_updR]
/-! contracts: what is given, what is answered -/
def p_pre (D : va_G) (ad : Nat → Nat) (B : Nat → Prop) (h : PH) (As : List Value) : Array Value → State → Prop := va_Pc As (fun U => va_K D vwCl [] U ∧ p_Q D ad B U h U.heap)
theorem p_blind {As : List Value} : FrameBlind (p_pre D ad B h As) := fun a U g mk q => ⟨q.1, va_K.moved (u := U) (U := U.calling g mk a) (Vm.Alike.refl U.vm) q.2.1, p_Q.moved (u := U) (U := U.calling g mk a) (Vm.Alike.refl U.vm) q.2.2⟩
theorem p_preV {b ci : Nat} {u : Unit} {C : String} {T : u_T} {N : Nat} {As : List Value} (hK : va_K D vwCl [] s) (hQ : p_Q D ad B s h H) (ho : p_ob h b ci = some u) (hc : vwCl[ci]? = some (C, T, N)) : PreV s H C (ad b) (p_pre D ad B h (.ref (ad b) :: As)) As := by
  obtain ⟨fs, hh⟩ := p_ob_of ho
  obtain ⟨r, h1, cell, g1, g2, g3, -⟩ := (hQ.1 b _ hh).1
  exact ⟨p_blind, ⟨cell, g1, by rw [g3]; rfl, by rw [g2]; exact (hK.1 ci _ hc).2.1⟩, fun U hU hW => ⟨rfl, va_K.moved hW.alike hK, by rw [hU]; exact hQ.moved hW.alike⟩⟩
theorem p_preS {As : List Value} (hK : va_K D vwCl [] s) (hQ : p_Q D ad B s h H) : PreS s H (p_pre D ad B h As) As :=
  ⟨p_blind, fun U hU hW => ⟨rfl, va_K.moved hW.alike hK, by rw [hU]; exact hQ.moved hW.alike⟩⟩
def p_Ri (r : Int32) : Array Value → State → Outcome → State → Prop := va_Qi (fun x (_ : Unit) => x = r) (fun _ _ => True) p_no
def p_Rq (ad : Nat → Nat) (r : Option Nat) : Array Value → State → Outcome → State → Prop := va_Qq (fun x (_ : Unit) => x = r.map ad) (fun _ _ => True) p_no
def p_Mv (D : va_G) (ad : Nat → Nat) (A : Nat → Prop) (h1 : PH) : Array Value → State → Outcome → State → Prop := va_Qv (fun _ : Unit => True) (fun _ t => p_Q D ad A t h1 t.heap) A
def p_Mi (D : va_G) (ad : Nat → Nat) (A : Nat → Prop) (r : Int32 × PH) : Array Value → State → Outcome → State → Prop := va_Qi (fun x (_ : Unit) => x = r.1) (fun _ t => p_Q D ad A t r.2 t.heap) A
variable {st0 : List Value} {a : Array Value}
theorem p_cRi {r : Int32} (hr : va_Run p l e R s m args below meth c H locs cells slots 0 0 (F0 m pc ls st0) rest (p_Ri r a) p_no) (hQ : p_Q D ad B s h H) (hS : va_S A s.heap H locs)
    (kk : ∀ (H1 : Heap) (locs1 : List Loc), p_Q D ad B s h H1 → va_S A s.heap H1 locs1 → W p l e R s m args below meth c H1 locs1 cells slots Q (F0 m (pc + 3) ls (.int r :: rest))) : W p l e R s m args below meth c H locs cells slots Q (F0 m pc ls st0) :=
  va_calli hr hS (fun _ _ h => h.elim) (fun _ h => h.elim) fun x u t H1 locs1 ht hvm hp hB hz hk hS1 => by
    subst hp
    exact kk H1 locs1 (hQ.kept fun y hy _ => hk y hy fun z => z) hS1
theorem p_cRq {r : Option Nat} (hr : va_Run p l e R s m args below meth c H locs cells slots 0 0 (F0 m pc ls st0) rest (p_Rq ad r a) p_no) (hQ : p_Q D ad B s h H) (hS : va_S A s.heap H locs)
    (kk : ∀ (H1 : Heap) (locs1 : List Loc), p_Q D ad B s h H1 → va_S A s.heap H1 locs1 → W p l e R s m args below meth c H1 locs1 cells slots Q (F0 m (pc + 3) ls (va_rf (r.map ad) :: rest))) : W p l e R s m args below meth c H locs cells slots Q (F0 m pc ls st0) :=
  va_callq hr hS (fun _ _ h => h.elim) (fun _ h => h.elim) fun x u t H1 locs1 ht hvm hp hB hz hk hS1 => by
    subst hp
    exact kk H1 locs1 (hQ.kept fun y hy _ => hk y hy fun z => z) hS1
theorem p_sub (hQ : p_Q D ad A s h H) : ∀ x, p_A ad h x → A x := fun x hx => by
  obtain ⟨q, f, h1, h2⟩ := hx
  rw [← h2]
  exact (hQ.1 q f h1).2
theorem p_cMv {h1 : PH} (hr : va_Run p l e R s m args below meth c H locs cells slots 0 0 (F0 m pc ls st0) rest (p_Mv D ad (p_A ad h) h1 a) (p_A ad h)) (hQ : p_Q D ad A s h H) (hS : va_S A s.heap H locs)
    (kk : ∀ (H1 : Heap) (locs1 : List Loc), p_Q D ad A s h1 H1 → va_S A s.heap H1 locs1 → W p l e R s m args below meth c H1 locs1 cells slots Q (F0 m (pc + 3) ls rest)) : W p l e R s m args below meth c H locs cells slots Q (F0 m pc ls st0) :=
  va_callv hr hS (fun x _ hx => p_sub hQ x hx) (fun x hx => p_sub hQ x hx) fun u t H1 locs1 ht hvm hp hB hz hk hS1 => by
    rw [ht] at hB
    exact kk H1 locs1 ((hB.moved hvm.symm).mono fun q f _ hx => p_sub hQ _ hx) hS1
theorem p_cMi {r : Int32 × PH} (hr : va_Run p l e R s m args below meth c H locs cells slots 0 0 (F0 m pc ls st0) rest (p_Mi D ad (p_A ad h) r a) (p_A ad h)) (hQ : p_Q D ad A s h H) (hS : va_S A s.heap H locs)
    (kk : ∀ (H1 : Heap) (locs1 : List Loc), p_Q D ad A s r.2 H1 → va_S A s.heap H1 locs1 → W p l e R s m args below meth c H1 locs1 cells slots Q (F0 m (pc + 3) ls (.int r.1 :: rest))) : W p l e R s m args below meth c H locs cells slots Q (F0 m pc ls st0) :=
  va_calli hr hS (fun x _ hx => p_sub hQ x hx) (fun x hx => p_sub hQ x hx) fun x u t H1 locs1 ht hvm hp hB hz hk hS1 => by
    subst hp
    rw [ht] at hB
    exact kk H1 locs1 ((hB.moved hvm.symm).mono fun q f _ hx => p_sub hQ _ hx) hS1
/-! ends -/
theorem p_rRi (S : CallFix p m c cc nL s args Ts own) (hr : meth.sig.returnType = some .int) (hlocks : meth.locks = false) {v r : Int32} (hS : va_S p_no s.heap H locs) (hf : some v = some r) (hdg : decode cc pc = .ok (.ireturn, 1)) : W p l e R s m args below meth c H locs cells slots (MQ below (p_Ri r) args s cells slots p_no) (F0 m pc ls [.int v]) := by
  cases hf
  exact W.iret S.1 S.2.1 hr (fun t ht hW => ⟨⟨v, (), rfl, rfl, trivial⟩, hS.F ht⟩) hS.2.2 hdg hlocks
theorem p_rRz (S : CallFix p m c cc nL s args Ts own) (hr : meth.sig.returnType = some .boolean) (hlocks : meth.locks = false) {v r : Int32} (hS : va_S p_no s.heap H locs) (hf : p_z v = some r) (hdg : decode cc pc = .ok (.ireturn, 1)) : W p l e R s m args below meth c H locs cells slots (MQ below (p_Ri r) args s cells slots p_no) (F0 m pc ls [.int v]) := by
  unfold p_z at hf
  by_cases hz : v = 0 ∨ v = 1
  · rw [if_pos hz] at hf
    cases hf
    exact W.zret S.1 S.2.1 hr (p_nz hz).1 (fun t ht hW => ⟨⟨v, (), rfl, rfl, trivial⟩, hS.F ht⟩) hS.2.2 hdg hlocks
  · rw [if_neg hz] at hf
    cases hf
theorem p_rRq (S : CallFix p m c cc nL s args Ts own) {C : String} (hr : meth.sig.returnType = some (.object C)) (hlocks : meth.locks = false) {v r : Option Nat} (hS : va_S p_no s.heap H locs) (hf : some v = some r) (hdg : decode cc pc = .ok (.areturn, 1)) : W p l e R s m args below meth c H locs cells slots (MQ below (p_Rq ad r) args s cells slots p_no) (F0 m pc ls [va_rf (v.map ad)]) := by
  cases hf
  exact W.aret S.1 S.2.1 hr (Or.inl ⟨C, rfl⟩) (va_rf_or _) (fun t ht hW => ⟨⟨v.map ad, (), rfl, rfl, trivial⟩, hS.F ht⟩) hS.2.2 hdg hlocks
theorem p_rMv (S : CallFix p m c cc nL s args Ts own) (hr : meth.sig.returnType = none) (hlocks : meth.locks = false) {h1 : PH} (hQ : p_Q D ad A s h H) (hS : va_S A s.heap H locs) (hf : some h = some h1) (hdg : decode cc pc = .ok (.return_, 1)) : W p l e R s m args below meth c H locs cells slots (MQ below (p_Mv D ad A h1) args s cells slots A) (F0 m pc ls []) := by
  cases hf
  exact W.vret S.1 S.2.1 hr (fun t ht hW => ⟨⟨(), rfl, trivial, by show p_Q D ad A t h t.heap; rw [ht]; exact hQ.moved hW.alike⟩, hS.F ht⟩) hS.2.2 hdg hlocks
theorem p_rMi (S : CallFix p m c cc nL s args Ts own) (hr : meth.sig.returnType = some .int) (hlocks : meth.locks = false) {v : Int32} {r : Int32 × PH} (hQ : p_Q D ad A s h H) (hS : va_S A s.heap H locs) (hf : some (v, h) = some r) (hdg : decode cc pc = .ok (.ireturn, 1)) : W p l e R s m args below meth c H locs cells slots (MQ below (p_Mi D ad A r) args s cells slots A) (F0 m pc ls [.int v]) := by
  cases hf
  exact W.iret S.1 S.2.1 hr (fun t ht hW => ⟨⟨v, (), rfl, rfl, by show p_Q D ad A t h t.heap; rw [ht]; exact hQ.moved hW.alike⟩, hS.F ht⟩) hS.2.2 hdg hlocks
theorem p_rMz (S : CallFix p m c cc nL s args Ts own) (hr : meth.sig.returnType = some .boolean) (hlocks : meth.locks = false) {v : Int32} {r : Int32 × PH} (hQ : p_Q D ad A s h H) (hS : va_S A s.heap H locs) (hf : ((p_z v).bind fun z => some (z, h)) = some r) (hdg : decode cc pc = .ok (.ireturn, 1)) : W p l e R s m args below meth c H locs cells slots (MQ below (p_Mi D ad A r) args s cells slots A) (F0 m pc ls [.int v]) := by
  unfold p_z at hf
  by_cases hz : v = 0 ∨ v = 1
  · rw [if_pos hz] at hf
    cases hf
    exact W.zret S.1 S.2.1 hr (p_nz hz).1 (fun t ht hW => ⟨⟨v, (), rfl, rfl, by show p_Q D ad A t h t.heap; rw [ht]; exact hQ.moved hW.alike⟩, hS.F ht⟩) hS.2.2 hdg hlocks
  · rw [if_neg hz] at hf
    cases hf
theorem p_sl {vs : List Value} (hc : ∀ v ∈ vs, v.category = 1) : lg_sl vs = vs.map Slot.val := by
  induction vs with
  | nil => rfl
  | cons v vs ih =>
    have h1 := hc v List.mem_cons_self
    have h2 := ih fun w hw => hc w (List.mem_cons_of_mem _ hw)
    simp only [lg_sl] at h2
    simp [lg_sl, h1, h2]
def p_ix : Nat → List Value → List (Nat × Value)
  | _, [] => []
  | i, v :: vs => (i, v) :: p_ix (i + 1) vs
theorem p_ix_eq {vs : List Value} (hc : ∀ v ∈ vs, v.category = 1) : ∀ i, lv_args i vs = p_ix i vs := by
  induction vs with
  | nil => intro i; rfl
  | cons v vs ih =>
    intro i
    have h1 := hc v List.mem_cons_self
    have h2 := ih (fun w hw => hc w (List.mem_cons_of_mem _ hw)) (i + 1)
    simp [lv_args, p_ix, h1, h2]
theorem p_ix_cat {vs : List Value} (hc : ∀ v ∈ vs, v.category = 1) : ∀ i, ∀ q ∈ p_ix i vs, q.2.category = 1 := by
  induction vs with
  | nil => intro i q hq; cases hq
  | cons v vs ih =>
    intro i q hq
    rcases List.mem_cons.mp hq with rfl | hq
    · exact hc v List.mem_cons_self
    · exact ih (fun w hw => hc w (List.mem_cons_of_mem _ hw)) (i + 1) q hq
theorem p_start {args : Array Value} {vs : List Value} {n : Nat} (ha : args = vs.toArray) (hc : ∀ v ∈ vs, v.category = 1) (hn : vs.length ≤ n) : ∃ ls, entryFrame m args n = F0 m 0 ls [] ∧ p_L ls n (p_ix 0 vs) := by
  have h1 := lv_entry vs (n := n) (by rw [p_sl hc, List.length_map]; exact hn)
  rw [p_ix_eq hc] at h1
  exact ⟨_, by rw [ha, lg_entry_eq], h1, p_ix_cat hc 0⟩
end PR
end
