theorem dX0_init_0 : decode cX0_init 0 = .ok (.aload_n 0, 1) := by decide +kernel
theorem dX0_init_1 : decode cX0_init 1 = .ok (.invokespecial 3, 3) := by decide +kernel
theorem dX0_init_4 : decode cX0_init 4 = .ok (.aload_n 0, 1) := by decide +kernel
theorem dX0_init_5 : decode cX0_init 5 = .ok (.iload_n 1, 1) := by decide +kernel
theorem dX0_init_6 : decode cX0_init 6 = .ok (.putfield 9, 3) := by decide +kernel
theorem dX0_init_9 : decode cX0_init 9 = .ok (.aload_n 0, 1) := by decide +kernel
theorem dX0_init_10 : decode cX0_init 10 = .ok (.iload_n 2, 1) := by decide +kernel
theorem dX0_init_11 : decode cX0_init 11 = .ok (.putfield 15, 3) := by decide +kernel
theorem dX0_init_14 : decode cX0_init 14 = .ok (.aload_n 0, 1) := by decide +kernel
theorem dX0_init_15 : decode cX0_init 15 = .ok (.iconst 1, 1) := by decide +kernel
theorem dX0_init_16 : decode cX0_init 16 = .ok (.putfield 18, 3) := by decide +kernel
theorem dX0_init_19 : decode cX0_init 19 = .ok (.aload_n 0, 1) := by decide +kernel
theorem dX0_init_20 : decode cX0_init 20 = .ok (.iconst 0, 1) := by decide +kernel
theorem dX0_init_21 : decode cX0_init 21 = .ok (.putfield 21, 3) := by decide +kernel
theorem dX0_init_24 : decode cX0_init 24 = .ok (.aload_n 0, 1) := by decide +kernel
theorem dX0_init_25 : decode cX0_init 25 = .ok (.iconst 0, 1) := by decide +kernel
theorem dX0_init_26 : decode cX0_init 26 = .ok (.putfield 24, 3) := by decide +kernel
theorem dX0_init_29 : decode cX0_init 29 = .ok (.aload_n 0, 1) := by decide +kernel
theorem dX0_init_30 : decode cX0_init 30 = .ok (.iload_n 3, 1) := by decide +kernel
theorem dX0_init_31 : decode cX0_init 31 = .ok (.putfield 27, 3) := by decide +kernel
theorem dX0_init_34 : decode cX0_init 34 = .ok (.aload_n 0, 1) := by decide +kernel
theorem dX0_init_35 : decode cX0_init 35 = .ok (.iconst 0, 1) := by decide +kernel
theorem dX0_init_36 : decode cX0_init 36 = .ok (.putfield 30, 3) := by decide +kernel
theorem dX0_init_39 : decode cX0_init 39 = .ok (.aload_n 0, 1) := by decide +kernel
theorem dX0_init_40 : decode cX0_init 40 = .ok (.iconst 0, 1) := by decide +kernel
theorem dX0_init_41 : decode cX0_init 41 = .ok (.putfield 34, 3) := by decide +kernel
theorem dX0_init_44 : decode cX0_init 44 = .ok (.aload_n 0, 1) := by decide +kernel
theorem dX0_init_45 : decode cX0_init 45 = .ok (.iload_n 3, 1) := by decide +kernel
theorem dX0_init_46 : decode cX0_init 46 = .ok (.putfield 37, 3) := by decide +kernel
theorem dX0_init_49 : decode cX0_init 49 = .ok (.return_, 1) := by decide +kernel
theorem dX0_begin_0 : decode cX0_begin 0 = .ok (.aload_n 0, 1) := by decide +kernel
theorem dX0_begin_1 : decode cX0_begin 1 = .ok (.iconst 1, 1) := by decide +kernel
theorem dX0_begin_2 : decode cX0_begin 2 = .ok (.putfield 30, 3) := by decide +kernel
theorem dX0_begin_5 : decode cX0_begin 5 = .ok (.aload_n 0, 1) := by decide +kernel
theorem dX0_begin_6 : decode cX0_begin 6 = .ok (.iconst 0, 1) := by decide +kernel
theorem dX0_begin_7 : decode cX0_begin 7 = .ok (.putfield 34, 3) := by decide +kernel
theorem dX0_begin_10 : decode cX0_begin 10 = .ok (.aload_n 0, 1) := by decide +kernel
theorem dX0_begin_11 : decode cX0_begin 11 = .ok (.iload_n 1, 1) := by decide +kernel
theorem dX0_begin_12 : decode cX0_begin 12 = .ok (.putfield 37, 3) := by decide +kernel
theorem dX0_begin_15 : decode cX0_begin 15 = .ok (.return_, 1) := by decide +kernel
set_option maxRecDepth 20000 in
theorem ggX0_beginIfDue_X0_begin : GoodIn wsX0_beginIfDue wsX0_begin := goodIn_r _ [9, 1, 10, 11, 12, 13, 14, 15, 16, 17, 18, 19, 20] (by decide +kernel) (by decide +kernel)
set_option maxRecDepth 20000 in
theorem gX0_beginIfDue_X0_begin : GoodIn wsX0_beginIfDue (wsV RX0 40 RX0 yX0_begin wsX0_begin) := goodIn_app (goodIn_of _ (by decide +kernel)) ggX0_beginIfDue_X0_begin
theorem dX0_beginIfDue_0 : decode cX0_beginIfDue 0 = .ok (.aload_n 0, 1) := by decide +kernel
theorem dX0_beginIfDue_1 : decode cX0_beginIfDue 1 = .ok (.getfield 30, 3) := by decide +kernel
theorem dX0_beginIfDue_4 : decode cX0_beginIfDue 4 = .ok (.ifCond .ne 26, 3) := by decide +kernel
theorem dX0_beginIfDue_7 : decode cX0_beginIfDue 7 = .ok (.aload_n 0, 1) := by decide +kernel
theorem dX0_beginIfDue_8 : decode cX0_beginIfDue 8 = .ok (.getfield 27, 3) := by decide +kernel
theorem dX0_beginIfDue_11 : decode cX0_beginIfDue 11 = .ok (.iload_n 1, 1) := by decide +kernel
theorem dX0_beginIfDue_12 : decode cX0_beginIfDue 12 = .ok (.if_icmp .gt 18, 3) := by decide +kernel
theorem dX0_beginIfDue_15 : decode cX0_beginIfDue 15 = .ok (.aload_n 0, 1) := by decide +kernel
theorem dX0_beginIfDue_16 : decode cX0_beginIfDue 16 = .ok (.iload_n 1, 1) := by decide +kernel
theorem dX0_beginIfDue_17 : decode cX0_beginIfDue 17 = .ok (.aload_n 0, 1) := by decide +kernel
theorem dX0_beginIfDue_18 : decode cX0_beginIfDue 18 = .ok (.getfield 9, 3) := by decide +kernel
theorem dX0_beginIfDue_21 : decode cX0_beginIfDue 21 = .ok (.aload_n 0, 1) := by decide +kernel
theorem dX0_beginIfDue_22 : decode cX0_beginIfDue 22 = .ok (.getfield 18, 3) := by decide +kernel
theorem dX0_beginIfDue_25 : decode cX0_beginIfDue 25 = .ok (.imul, 1) := by decide +kernel
theorem dX0_beginIfDue_26 : decode cX0_beginIfDue 26 = .ok (.iadd, 1) := by decide +kernel
theorem dX0_beginIfDue_27 : decode cX0_beginIfDue 27 = .ok (.invokevirtual 40, 3) := by decide +kernel
theorem dX0_beginIfDue_30 : decode cX0_beginIfDue 30 = .ok (.return_, 1) := by decide +kernel
theorem dX0_drop_0 : decode cX0_drop 0 = .ok (.aload_n 0, 1) := by decide +kernel
theorem dX0_drop_1 : decode cX0_drop 1 = .ok (.getfield 30, 3) := by decide +kernel
theorem dX0_drop_4 : decode cX0_drop 4 = .ok (.ifCond .eq 13, 3) := by decide +kernel
theorem dX0_drop_7 : decode cX0_drop 7 = .ok (.aload_n 0, 1) := by decide +kernel
theorem dX0_drop_8 : decode cX0_drop 8 = .ok (.iconst 0, 1) := by decide +kernel
theorem dX0_drop_9 : decode cX0_drop 9 = .ok (.putfield 30, 3) := by decide +kernel
theorem dX0_drop_12 : decode cX0_drop 12 = .ok (.aload_n 0, 1) := by decide +kernel
theorem dX0_drop_13 : decode cX0_drop 13 = .ok (.iload_n 1, 1) := by decide +kernel
theorem dX0_drop_14 : decode cX0_drop 14 = .ok (.putfield 27, 3) := by decide +kernel
theorem dX0_drop_17 : decode cX0_drop 17 = .ok (.return_, 1) := by decide +kernel
set_option maxRecDepth 20000 in
theorem ggX0_hurry_X0_begin : GoodIn wsX0_hurry wsX0_begin := goodIn_r _ [8, 2, 9, 3, 10, 11, 12, 13, 14, 15, 16, 17, 18] (by decide +kernel) (by decide +kernel)
set_option maxRecDepth 20000 in
theorem gX0_hurry_X0_begin : GoodIn wsX0_hurry (wsV RX0 40 RX0 yX0_begin wsX0_begin) := goodIn_app (goodIn_of _ (by decide +kernel)) ggX0_hurry_X0_begin
theorem dX0_hurry_0 : decode cX0_hurry 0 = .ok (.iload_n 1, 1) := by decide +kernel
theorem dX0_hurry_1 : decode cX0_hurry 1 = .ok (.aload_n 0, 1) := by decide +kernel
theorem dX0_hurry_2 : decode cX0_hurry 2 = .ok (.getfield 9, 3) := by decide +kernel
theorem dX0_hurry_5 : decode cX0_hurry 5 = .ok (.iconst 1, 1) := by decide +kernel
theorem dX0_hurry_6 : decode cX0_hurry 6 = .ok (.iadd, 1) := by decide +kernel
theorem dX0_hurry_7 : decode cX0_hurry 7 = .ok (.iconst 2, 1) := by decide +kernel
theorem dX0_hurry_8 : decode cX0_hurry 8 = .ok (.idiv, 1) := by decide +kernel
theorem dX0_hurry_9 : decode cX0_hurry 9 = .ok (.iadd, 1) := by decide +kernel
theorem dX0_hurry_10 : decode cX0_hurry 10 = .ok (.istore_n 2, 1) := by decide +kernel
theorem dX0_hurry_11 : decode cX0_hurry 11 = .ok (.aload_n 0, 1) := by decide +kernel
theorem dX0_hurry_12 : decode cX0_hurry 12 = .ok (.getfield 30, 3) := by decide +kernel
theorem dX0_hurry_15 : decode cX0_hurry 15 = .ok (.ifCond .ne 11, 3) := by decide +kernel
theorem dX0_hurry_18 : decode cX0_hurry 18 = .ok (.aload_n 0, 1) := by decide +kernel
theorem dX0_hurry_19 : decode cX0_hurry 19 = .ok (.iload_n 2, 1) := by decide +kernel
theorem dX0_hurry_20 : decode cX0_hurry 20 = .ok (.invokevirtual 40, 3) := by decide +kernel
theorem dX0_hurry_23 : decode cX0_hurry 23 = .ok (.goto 16, 3) := by decide +kernel
theorem dX0_hurry_26 : decode cX0_hurry 26 = .ok (.iload_n 2, 1) := by decide +kernel
theorem dX0_hurry_27 : decode cX0_hurry 27 = .ok (.aload_n 0, 1) := by decide +kernel
theorem dX0_hurry_28 : decode cX0_hurry 28 = .ok (.getfield 37, 3) := by decide +kernel
theorem dX0_hurry_31 : decode cX0_hurry 31 = .ok (.if_icmp .ge 8, 3) := by decide +kernel
theorem dX0_hurry_34 : decode cX0_hurry 34 = .ok (.aload_n 0, 1) := by decide +kernel
theorem dX0_hurry_35 : decode cX0_hurry 35 = .ok (.iload_n 2, 1) := by decide +kernel
theorem dX0_hurry_36 : decode cX0_hurry 36 = .ok (.putfield 37, 3) := by decide +kernel
theorem dX0_hurry_39 : decode cX0_hurry 39 = .ok (.return_, 1) := by decide +kernel
theorem dX0_finish_0 : decode cX0_finish 0 = .ok (.aload_n 0, 1) := by decide +kernel
theorem dX0_finish_1 : decode cX0_finish 1 = .ok (.iconst 0, 1) := by decide +kernel
theorem dX0_finish_2 : decode cX0_finish 2 = .ok (.putfield 30, 3) := by decide +kernel
theorem dX0_finish_5 : decode cX0_finish 5 = .ok (.aload_n 0, 1) := by decide +kernel
theorem dX0_finish_6 : decode cX0_finish 6 = .ok (.aload_n 0, 1) := by decide +kernel
theorem dX0_finish_7 : decode cX0_finish 7 = .ok (.getfield 37, 3) := by decide +kernel
theorem dX0_finish_10 : decode cX0_finish 10 = .ok (.putfield 27, 3) := by decide +kernel
theorem dX0_finish_13 : decode cX0_finish 13 = .ok (.aload_n 0, 1) := by decide +kernel
theorem dX0_finish_14 : decode cX0_finish 14 = .ok (.dup, 1) := by decide +kernel
theorem dX0_finish_15 : decode cX0_finish 15 = .ok (.getfield 24, 3) := by decide +kernel
theorem dX0_finish_18 : decode cX0_finish 18 = .ok (.iconst 1, 1) := by decide +kernel
theorem dX0_finish_19 : decode cX0_finish 19 = .ok (.iadd, 1) := by decide +kernel
theorem dX0_finish_20 : decode cX0_finish 20 = .ok (.putfield 24, 3) := by decide +kernel
theorem dX0_finish_23 : decode cX0_finish 23 = .ok (.aload_n 0, 1) := by decide +kernel
theorem dX0_finish_24 : decode cX0_finish 24 = .ok (.getfield 24, 3) := by decide +kernel
theorem dX0_finish_27 : decode cX0_finish 27 = .ok (.iconst 3, 1) := by decide +kernel
theorem dX0_finish_28 : decode cX0_finish 28 = .ok (.if_icmp .lt 30, 3) := by decide +kernel
theorem dX0_finish_31 : decode cX0_finish 31 = .ok (.aload_n 0, 1) := by decide +kernel
theorem dX0_finish_32 : decode cX0_finish 32 = .ok (.iconst 0, 1) := by decide +kernel
theorem dX0_finish_33 : decode cX0_finish 33 = .ok (.putfield 24, 3) := by decide +kernel
theorem dX0_finish_36 : decode cX0_finish 36 = .ok (.aload_n 0, 1) := by decide +kernel
theorem dX0_finish_37 : decode cX0_finish 37 = .ok (.aload_n 0, 1) := by decide +kernel
theorem dX0_finish_38 : decode cX0_finish 38 = .ok (.getfield 18, 3) := by decide +kernel
theorem dX0_finish_41 : decode cX0_finish 41 = .ok (.iconst 1, 1) := by decide +kernel
theorem dX0_finish_42 : decode cX0_finish 42 = .ok (.if_icmp .le 12, 3) := by decide +kernel
theorem dX0_finish_45 : decode cX0_finish 45 = .ok (.aload_n 0, 1) := by decide +kernel
theorem dX0_finish_46 : decode cX0_finish 46 = .ok (.getfield 18, 3) := by decide +kernel
theorem dX0_finish_49 : decode cX0_finish 49 = .ok (.iconst 2, 1) := by decide +kernel
theorem dX0_finish_50 : decode cX0_finish 50 = .ok (.idiv, 1) := by decide +kernel
theorem dX0_finish_51 : decode cX0_finish 51 = .ok (.goto 4, 3) := by decide +kernel
theorem dX0_finish_54 : decode cX0_finish 54 = .ok (.iconst 1, 1) := by decide +kernel
theorem dX0_finish_55 : decode cX0_finish 55 = .ok (.putfield 18, 3) := by decide +kernel
theorem dX0_finish_58 : decode cX0_finish 58 = .ok (.return_, 1) := by decide +kernel
theorem dX0_miss_0 : decode cX0_miss 0 = .ok (.aload_n 0, 1) := by decide +kernel
theorem dX0_miss_1 : decode cX0_miss 1 = .ok (.dup, 1) := by decide +kernel
theorem dX0_miss_2 : decode cX0_miss 2 = .ok (.getfield 21, 3) := by decide +kernel
theorem dX0_miss_5 : decode cX0_miss 5 = .ok (.iconst 1, 1) := by decide +kernel
theorem dX0_miss_6 : decode cX0_miss 6 = .ok (.iadd, 1) := by decide +kernel
theorem dX0_miss_7 : decode cX0_miss 7 = .ok (.putfield 21, 3) := by decide +kernel
theorem dX0_miss_10 : decode cX0_miss 10 = .ok (.aload_n 0, 1) := by decide +kernel
theorem dX0_miss_11 : decode cX0_miss 11 = .ok (.iconst 0, 1) := by decide +kernel
theorem dX0_miss_12 : decode cX0_miss 12 = .ok (.putfield 24, 3) := by decide +kernel
theorem dX0_miss_15 : decode cX0_miss 15 = .ok (.aload_n 0, 1) := by decide +kernel
theorem dX0_miss_16 : decode cX0_miss 16 = .ok (.dup, 1) := by decide +kernel
theorem dX0_miss_17 : decode cX0_miss 17 = .ok (.getfield 37, 3) := by decide +kernel
theorem dX0_miss_20 : decode cX0_miss 20 = .ok (.aload_n 0, 1) := by decide +kernel
theorem dX0_miss_21 : decode cX0_miss 21 = .ok (.getfield 9, 3) := by decide +kernel
theorem dX0_miss_24 : decode cX0_miss 24 = .ok (.aload_n 0, 1) := by decide +kernel
theorem dX0_miss_25 : decode cX0_miss 25 = .ok (.getfield 18, 3) := by decide +kernel
theorem dX0_miss_28 : decode cX0_miss 28 = .ok (.imul, 1) := by decide +kernel
theorem dX0_miss_29 : decode cX0_miss 29 = .ok (.iadd, 1) := by decide +kernel
theorem dX0_miss_30 : decode cX0_miss 30 = .ok (.putfield 37, 3) := by decide +kernel
theorem dX0_miss_33 : decode cX0_miss 33 = .ok (.aload_n 0, 1) := by decide +kernel
theorem dX0_miss_34 : decode cX0_miss 34 = .ok (.aload_n 0, 1) := by decide +kernel
theorem dX0_miss_35 : decode cX0_miss 35 = .ok (.getfield 18, 3) := by decide +kernel
theorem dX0_miss_38 : decode cX0_miss 38 = .ok (.bipush 8, 2) := by decide +kernel
theorem dX0_miss_40 : decode cX0_miss 40 = .ok (.if_icmp .ge 12, 3) := by decide +kernel
theorem dX0_miss_43 : decode cX0_miss 43 = .ok (.aload_n 0, 1) := by decide +kernel
theorem dX0_miss_44 : decode cX0_miss 44 = .ok (.getfield 18, 3) := by decide +kernel
theorem dX0_miss_47 : decode cX0_miss 47 = .ok (.iconst 2, 1) := by decide +kernel
theorem dX0_miss_48 : decode cX0_miss 48 = .ok (.imul, 1) := by decide +kernel
theorem dX0_miss_49 : decode cX0_miss 49 = .ok (.goto 5, 3) := by decide +kernel
theorem dX0_miss_52 : decode cX0_miss 52 = .ok (.bipush 8, 2) := by decide +kernel
theorem dX0_miss_54 : decode cX0_miss 54 = .ok (.putfield 18, 3) := by decide +kernel
theorem dX0_miss_57 : decode cX0_miss 57 = .ok (.return_, 1) := by decide +kernel
theorem dX1_init_0 : decode cX1_init 0 = .ok (.aload_n 0, 1) := by decide +kernel
theorem dX1_init_1 : decode cX1_init 1 = .ok (.invokespecial 3, 3) := by decide +kernel
theorem dX1_init_4 : decode cX1_init 4 = .ok (.aload_n 0, 1) := by decide +kernel
theorem dX1_init_5 : decode cX1_init 5 = .ok (.iload_n 1, 1) := by decide +kernel
theorem dX1_init_6 : decode cX1_init 6 = .ok (.putfield 9, 3) := by decide +kernel
theorem dX1_init_9 : decode cX1_init 9 = .ok (.aload_n 0, 1) := by decide +kernel
theorem dX1_init_10 : decode cX1_init 10 = .ok (.iload_n 2, 1) := by decide +kernel
theorem dX1_init_11 : decode cX1_init 11 = .ok (.putfield 15, 3) := by decide +kernel
theorem dX1_init_14 : decode cX1_init 14 = .ok (.aload_n 0, 1) := by decide +kernel
theorem dX1_init_15 : decode cX1_init 15 = .ok (.iload_n 3, 1) := by decide +kernel
theorem dX1_init_16 : decode cX1_init 16 = .ok (.putfield 18, 3) := by decide +kernel
theorem dX1_init_19 : decode cX1_init 19 = .ok (.aload_n 0, 1) := by decide +kernel
theorem dX1_init_20 : decode cX1_init 20 = .ok (.iload 4, 2) := by decide +kernel
theorem dX1_init_22 : decode cX1_init 22 = .ok (.putfield 21, 3) := by decide +kernel
theorem dX1_init_25 : decode cX1_init 25 = .ok (.aload_n 0, 1) := by decide +kernel
theorem dX1_init_26 : decode cX1_init 26 = .ok (.iload 5, 2) := by decide +kernel
theorem dX1_init_28 : decode cX1_init 28 = .ok (.putfield 24, 3) := by decide +kernel
theorem dX1_init_31 : decode cX1_init 31 = .ok (.aload_n 0, 1) := by decide +kernel
theorem dX1_init_32 : decode cX1_init 32 = .ok (.iload 6, 2) := by decide +kernel
theorem dX1_init_34 : decode cX1_init 34 = .ok (.putfield 27, 3) := by decide +kernel
theorem dX1_init_37 : decode cX1_init 37 = .ok (.aload_n 0, 1) := by decide +kernel
theorem dX1_init_38 : decode cX1_init 38 = .ok (.aload 7, 2) := by decide +kernel
theorem dX1_init_40 : decode cX1_init 40 = .ok (.putfield 31, 3) := by decide +kernel
theorem dX1_init_43 : decode cX1_init 43 = .ok (.aload_n 0, 1) := by decide +kernel
theorem dX1_init_44 : decode cX1_init 44 = .ok (.iconst 0, 1) := by decide +kernel
theorem dX1_init_45 : decode cX1_init 45 = .ok (.putfield 35, 3) := by decide +kernel
theorem dX1_init_48 : decode cX1_init 48 = .ok (.aload_n 0, 1) := by decide +kernel
theorem dX1_init_49 : decode cX1_init 49 = .ok (.iconst 0, 1) := by decide +kernel
theorem dX1_init_50 : decode cX1_init 50 = .ok (.putfield 38, 3) := by decide +kernel
theorem dX1_init_53 : decode cX1_init 53 = .ok (.aload_n 0, 1) := by decide +kernel
theorem dX1_init_54 : decode cX1_init 54 = .ok (.iconst 0, 1) := by decide +kernel
theorem dX1_init_55 : decode cX1_init 55 = .ok (.putfield 41, 3) := by decide +kernel
theorem dX1_init_58 : decode cX1_init 58 = .ok (.return_, 1) := by decide +kernel
theorem dX1_covers_0 : decode cX1_covers 0 = .ok (.iload_n 1, 1) := by decide +kernel
theorem dX1_covers_1 : decode cX1_covers 1 = .ok (.aload_n 0, 1) := by decide +kernel
theorem dX1_covers_2 : decode cX1_covers 2 = .ok (.getfield 15, 3) := by decide +kernel
theorem dX1_covers_5 : decode cX1_covers 5 = .ok (.if_icmp .lt 56, 3) := by decide +kernel
theorem dX1_covers_8 : decode cX1_covers 8 = .ok (.iload_n 1, 1) := by decide +kernel
theorem dX1_covers_9 : decode cX1_covers 9 = .ok (.aload_n 0, 1) := by decide +kernel
theorem dX1_covers_10 : decode cX1_covers 10 = .ok (.getfield 15, 3) := by decide +kernel
theorem dX1_covers_13 : decode cX1_covers 13 = .ok (.aload_n 0, 1) := by decide +kernel
theorem dX1_covers_14 : decode cX1_covers 14 = .ok (.getfield 21, 3) := by decide +kernel
theorem dX1_covers_17 : decode cX1_covers 17 = .ok (.iadd, 1) := by decide +kernel
theorem dX1_covers_18 : decode cX1_covers 18 = .ok (.if_icmp .ge 43, 3) := by decide +kernel
theorem dX1_covers_21 : decode cX1_covers 21 = .ok (.iload_n 2, 1) := by decide +kernel
theorem dX1_covers_22 : decode cX1_covers 22 = .ok (.aload_n 0, 1) := by decide +kernel
theorem dX1_covers_23 : decode cX1_covers 23 = .ok (.getfield 18, 3) := by decide +kernel
theorem dX1_covers_26 : decode cX1_covers 26 = .ok (.if_icmp .lt 35, 3) := by decide +kernel
theorem dX1_covers_29 : decode cX1_covers 29 = .ok (.iload_n 2, 1) := by decide +kernel
theorem dX1_covers_30 : decode cX1_covers 30 = .ok (.aload_n 0, 1) := by decide +kernel
theorem dX1_covers_31 : decode cX1_covers 31 = .ok (.getfield 18, 3) := by decide +kernel
theorem dX1_covers_34 : decode cX1_covers 34 = .ok (.aload_n 0, 1) := by decide +kernel
theorem dX1_covers_35 : decode cX1_covers 35 = .ok (.getfield 24, 3) := by decide +kernel
theorem dX1_covers_38 : decode cX1_covers 38 = .ok (.iadd, 1) := by decide +kernel
theorem dX1_covers_39 : decode cX1_covers 39 = .ok (.if_icmp .ge 22, 3) := by decide +kernel
theorem dX1_covers_42 : decode cX1_covers 42 = .ok (.aload_n 0, 1) := by decide +kernel
theorem dX1_covers_43 : decode cX1_covers 43 = .ok (.getfield 27, 3) := by decide +kernel
theorem dX1_covers_46 : decode cX1_covers 46 = .ok (.ifCond .eq 11, 3) := by decide +kernel
theorem dX1_covers_49 : decode cX1_covers 49 = .ok (.iload_n 1, 1) := by decide +kernel
theorem dX1_covers_50 : decode cX1_covers 50 = .ok (.iload_n 2, 1) := by decide +kernel
theorem dX1_covers_51 : decode cX1_covers 51 = .ok (.iadd, 1) := by decide +kernel
theorem dX1_covers_52 : decode cX1_covers 52 = .ok (.iconst 2, 1) := by decide +kernel
theorem dX1_covers_53 : decode cX1_covers 53 = .ok (.irem, 1) := by decide +kernel
theorem dX1_covers_54 : decode cX1_covers 54 = .ok (.ifCond .ne 7, 3) := by decide +kernel
theorem dX1_covers_57 : decode cX1_covers 57 = .ok (.iconst 1, 1) := by decide +kernel
theorem dX1_covers_58 : decode cX1_covers 58 = .ok (.goto 4, 3) := by decide +kernel
theorem dX1_covers_61 : decode cX1_covers 61 = .ok (.iconst 0, 1) := by decide +kernel
theorem dX1_covers_62 : decode cX1_covers 62 = .ok (.ireturn, 1) := by decide +kernel
theorem dX1_pagesNeeded_0 : decode cX1_pagesNeeded 0 = .ok (.aload_n 0, 1) := by decide +kernel
theorem dX1_pagesNeeded_1 : decode cX1_pagesNeeded 1 = .ok (.getfield 21, 3) := by decide +kernel
theorem dX1_pagesNeeded_4 : decode cX1_pagesNeeded 4 = .ok (.aload_n 0, 1) := by decide +kernel
theorem dX1_pagesNeeded_5 : decode cX1_pagesNeeded 5 = .ok (.getfield 24, 3) := by decide +kernel
theorem dX1_pagesNeeded_8 : decode cX1_pagesNeeded 8 = .ok (.imul, 1) := by decide +kernel
theorem dX1_pagesNeeded_9 : decode cX1_pagesNeeded 9 = .ok (.iconst 4, 1) := by decide +kernel
theorem dX1_pagesNeeded_10 : decode cX1_pagesNeeded 10 = .ok (.iadd, 1) := by decide +kernel
theorem dX1_pagesNeeded_11 : decode cX1_pagesNeeded 11 = .ok (.iconst 1, 1) := by decide +kernel
theorem dX1_pagesNeeded_12 : decode cX1_pagesNeeded 12 = .ok (.isub, 1) := by decide +kernel
theorem dX1_pagesNeeded_13 : decode cX1_pagesNeeded 13 = .ok (.iconst 4, 1) := by decide +kernel
theorem dX1_pagesNeeded_14 : decode cX1_pagesNeeded 14 = .ok (.idiv, 1) := by decide +kernel
theorem dX1_pagesNeeded_15 : decode cX1_pagesNeeded 15 = .ok (.ireturn, 1) := by decide +kernel
set_option maxRecDepth 20000 in
theorem ggX1_pagesHeld_X1_pagesNeeded : GoodIn wsX1_pagesHeld wsX1_pagesNeeded := goodIn_r _ [6, 7, 8, 9, 10, 11, 12, 13, 14, 15, 16, 17, 18] (by decide +kernel) (by decide +kernel)
set_option maxRecDepth 20000 in
theorem gX1_pagesHeld_X1_pagesNeeded : GoodIn wsX1_pagesHeld (wsV RX1 44 RX1 yX1_pagesNeeded wsX1_pagesNeeded) := goodIn_app (goodIn_of _ (by decide +kernel)) ggX1_pagesHeld_X1_pagesNeeded
theorem dX1_pagesHeld_0 : decode cX1_pagesHeld 0 = .ok (.aload_n 0, 1) := by decide +kernel
theorem dX1_pagesHeld_1 : decode cX1_pagesHeld 1 = .ok (.getfield 38, 3) := by decide +kernel
theorem dX1_pagesHeld_4 : decode cX1_pagesHeld 4 = .ok (.ifCond .eq 10, 3) := by decide +kernel
theorem dX1_pagesHeld_7 : decode cX1_pagesHeld 7 = .ok (.aload_n 0, 1) := by decide +kernel
theorem dX1_pagesHeld_8 : decode cX1_pagesHeld 8 = .ok (.invokevirtual 44, 3) := by decide +kernel
theorem dX1_pagesHeld_11 : decode cX1_pagesHeld 11 = .ok (.goto 4, 3) := by decide +kernel
theorem dX1_pagesHeld_14 : decode cX1_pagesHeld 14 = .ok (.iconst 0, 1) := by decide +kernel
theorem dX1_pagesHeld_15 : decode cX1_pagesHeld 15 = .ok (.ireturn, 1) := by decide +kernel
set_option maxRecDepth 20000 in
theorem ggX1_loseSurface_X0_drop : GoodIn wsX1_loseSurface wsX0_drop := goodIn_r _ [8, 9, 10, 21, 22, 23, 24, 25, 26, 27, 28, 29] (by decide +kernel) (by decide +kernel)
set_option maxRecDepth 20000 in
theorem gX1_loseSurface_X0_drop : GoodIn wsX1_loseSurface (wsV RX1 48 RX0 yX0_drop wsX0_drop) := goodIn_app (goodIn_of _ (by decide +kernel)) ggX1_loseSurface_X0_drop
theorem dX1_loseSurface_0 : decode cX1_loseSurface 0 = .ok (.aload_n 0, 1) := by decide +kernel
theorem dX1_loseSurface_1 : decode cX1_loseSurface 1 = .ok (.iconst 0, 1) := by decide +kernel
theorem dX1_loseSurface_2 : decode cX1_loseSurface 2 = .ok (.putfield 38, 3) := by decide +kernel
theorem dX1_loseSurface_5 : decode cX1_loseSurface 5 = .ok (.aload_n 0, 1) := by decide +kernel
theorem dX1_loseSurface_6 : decode cX1_loseSurface 6 = .ok (.iconst 0, 1) := by decide +kernel
theorem dX1_loseSurface_7 : decode cX1_loseSurface 7 = .ok (.putfield 41, 3) := by decide +kernel
theorem dX1_loseSurface_10 : decode cX1_loseSurface 10 = .ok (.aload_n 0, 1) := by decide +kernel
theorem dX1_loseSurface_11 : decode cX1_loseSurface 11 = .ok (.getfield 31, 3) := by decide +kernel
theorem dX1_loseSurface_14 : decode cX1_loseSurface 14 = .ok (.iload_n 1, 1) := by decide +kernel
theorem dX1_loseSurface_15 : decode cX1_loseSurface 15 = .ok (.invokevirtual 48, 3) := by decide +kernel
theorem dX1_loseSurface_18 : decode cX1_loseSurface 18 = .ok (.return_, 1) := by decide +kernel
theorem dX2_init_0 : decode cX2_init 0 = .ok (.aload_n 0, 1) := by decide +kernel
theorem dX2_init_1 : decode cX2_init 1 = .ok (.invokespecial 3, 3) := by decide +kernel
theorem dX2_init_4 : decode cX2_init 4 = .ok (.aload_n 0, 1) := by decide +kernel
theorem dX2_init_5 : decode cX2_init 5 = .ok (.bipush 8, 2) := by decide +kernel
theorem dX2_init_7 : decode cX2_init 7 = .ok (.anewarray 9, 3) := by decide +kernel
theorem dX2_init_10 : decode cX2_init 10 = .ok (.putfield 11, 3) := by decide +kernel
theorem dX2_init_13 : decode cX2_init 13 = .ok (.aload_n 0, 1) := by decide +kernel
theorem dX2_init_14 : decode cX2_init 14 = .ok (.iconst 0, 1) := by decide +kernel
theorem dX2_init_15 : decode cX2_init 15 = .ok (.putfield 17, 3) := by decide +kernel
theorem dX2_init_18 : decode cX2_init 18 = .ok (.return_, 1) := by decide +kernel
theorem dX2_count_0 : decode cX2_count 0 = .ok (.aload_n 0, 1) := by decide +kernel
theorem dX2_count_1 : decode cX2_count 1 = .ok (.getfield 17, 3) := by decide +kernel
theorem dX2_count_4 : decode cX2_count 4 = .ok (.ireturn, 1) := by decide +kernel
theorem dX2_get_0 : decode cX2_get 0 = .ok (.iload_n 1, 1) := by decide +kernel
theorem dX2_get_1 : decode cX2_get 1 = .ok (.ifCond .lt 21, 3) := by decide +kernel
theorem dX2_get_4 : decode cX2_get 4 = .ok (.iload_n 1, 1) := by decide +kernel
theorem dX2_get_5 : decode cX2_get 5 = .ok (.aload_n 0, 1) := by decide +kernel
theorem dX2_get_6 : decode cX2_get 6 = .ok (.getfield 11, 3) := by decide +kernel
theorem dX2_get_9 : decode cX2_get 9 = .ok (.arraylength, 1) := by decide +kernel
theorem dX2_get_10 : decode cX2_get 10 = .ok (.if_icmp .ge 12, 3) := by decide +kernel
theorem dX2_get_13 : decode cX2_get 13 = .ok (.aload_n 0, 1) := by decide +kernel
theorem dX2_get_14 : decode cX2_get 14 = .ok (.getfield 11, 3) := by decide +kernel
theorem dX2_get_17 : decode cX2_get 17 = .ok (.iload_n 1, 1) := by decide +kernel
theorem dX2_get_18 : decode cX2_get 18 = .ok (.aaload, 1) := by decide +kernel
theorem dX2_get_19 : decode cX2_get 19 = .ok (.goto 4, 3) := by decide +kernel
theorem dX2_get_22 : decode cX2_get 22 = .ok (.aconst_null, 1) := by decide +kernel
theorem dX2_get_23 : decode cX2_get 23 = .ok (.areturn, 1) := by decide +kernel
theorem dX2_indexOf_0 : decode cX2_indexOf 0 = .ok (.iconst 0, 1) := by decide +kernel
theorem dX2_indexOf_1 : decode cX2_indexOf 1 = .ok (.istore_n 2, 1) := by decide +kernel
theorem dX2_indexOf_2 : decode cX2_indexOf 2 = .ok (.iload_n 2, 1) := by decide +kernel
theorem dX2_indexOf_3 : decode cX2_indexOf 3 = .ok (.aload_n 0, 1) := by decide +kernel
theorem dX2_indexOf_4 : decode cX2_indexOf 4 = .ok (.getfield 11, 3) := by decide +kernel
theorem dX2_indexOf_7 : decode cX2_indexOf 7 = .ok (.arraylength, 1) := by decide +kernel
theorem dX2_indexOf_8 : decode cX2_indexOf 8 = .ok (.if_icmp .ge 30, 3) := by decide +kernel
theorem dX2_indexOf_11 : decode cX2_indexOf 11 = .ok (.aload_n 0, 1) := by decide +kernel
theorem dX2_indexOf_12 : decode cX2_indexOf 12 = .ok (.getfield 11, 3) := by decide +kernel
theorem dX2_indexOf_15 : decode cX2_indexOf 15 = .ok (.iload_n 2, 1) := by decide +kernel
theorem dX2_indexOf_16 : decode cX2_indexOf 16 = .ok (.aaload, 1) := by decide +kernel
theorem dX2_indexOf_17 : decode cX2_indexOf 17 = .ok (.astore_n 3, 1) := by decide +kernel
theorem dX2_indexOf_18 : decode cX2_indexOf 18 = .ok (.aload_n 3, 1) := by decide +kernel
theorem dX2_indexOf_19 : decode cX2_indexOf 19 = .ok (.ifnull 13, 3) := by decide +kernel
theorem dX2_indexOf_22 : decode cX2_indexOf 22 = .ok (.aload_n 3, 1) := by decide +kernel
theorem dX2_indexOf_23 : decode cX2_indexOf 23 = .ok (.getfield 21, 3) := by decide +kernel
theorem dX2_indexOf_26 : decode cX2_indexOf 26 = .ok (.iload_n 1, 1) := by decide +kernel
theorem dX2_indexOf_27 : decode cX2_indexOf 27 = .ok (.if_icmp .ne 5, 3) := by decide +kernel
theorem dX2_indexOf_30 : decode cX2_indexOf 30 = .ok (.iload_n 2, 1) := by decide +kernel
theorem dX2_indexOf_31 : decode cX2_indexOf 31 = .ok (.ireturn, 1) := by decide +kernel
theorem dX2_indexOf_32 : decode cX2_indexOf 32 = .ok (.iinc 2 1, 3) := by decide +kernel
theorem dX2_indexOf_35 : decode cX2_indexOf 35 = .ok (.goto (-33), 3) := by decide +kernel
theorem dX2_indexOf_38 : decode cX2_indexOf 38 = .ok (.iconst (-1), 1) := by decide +kernel
theorem dX2_indexOf_39 : decode cX2_indexOf 39 = .ok (.ireturn, 1) := by decide +kernel
set_option maxRecDepth 20000 in
theorem ggX2_topmostOver_X2_get : GoodIn wsX2_topmostOver wsX2_get := goodIn_r _ [6, 7, 18, 19] (by decide +kernel) (by decide +kernel)
set_option maxRecDepth 20000 in
theorem gX2_topmostOver_X2_get : GoodIn wsX2_topmostOver (wsV RX2 24 RX2 yX2_get wsX2_get) := goodIn_app (goodIn_of _ (by decide +kernel)) ggX2_topmostOver_X2_get
set_option maxRecDepth 20000 in
theorem ggX2_topmostOver_X1_covers : GoodIn wsX2_topmostOver wsX1_covers := goodIn_r _ [12, 13, 14, 15, 16, 17, 20, 21, 22, 23, 24, 25, 26, 27, 28, 29] (by decide +kernel) (by decide +kernel)
set_option maxRecDepth 20000 in
theorem gX2_topmostOver_X1_covers : GoodIn wsX2_topmostOver (wsV RX2 28 RX1 yX1_covers wsX1_covers) := goodIn_app (goodIn_of _ (by decide +kernel)) ggX2_topmostOver_X1_covers
theorem dX2_topmostOver_0 : decode cX2_topmostOver 0 = .ok (.aload_n 0, 1) := by decide +kernel
theorem dX2_topmostOver_1 : decode cX2_topmostOver 1 = .ok (.getfield 17, 3) := by decide +kernel
theorem dX2_topmostOver_4 : decode cX2_topmostOver 4 = .ok (.iconst 1, 1) := by decide +kernel
theorem dX2_topmostOver_5 : decode cX2_topmostOver 5 = .ok (.isub, 1) := by decide +kernel
theorem dX2_topmostOver_6 : decode cX2_topmostOver 6 = .ok (.istore_n 3, 1) := by decide +kernel
theorem dX2_topmostOver_7 : decode cX2_topmostOver 7 = .ok (.iload_n 3, 1) := by decide +kernel
theorem dX2_topmostOver_8 : decode cX2_topmostOver 8 = .ok (.ifCond .lt 34, 3) := by decide +kernel
theorem dX2_topmostOver_11 : decode cX2_topmostOver 11 = .ok (.aload_n 0, 1) := by decide +kernel
theorem dX2_topmostOver_12 : decode cX2_topmostOver 12 = .ok (.iload_n 3, 1) := by decide +kernel
theorem dX2_topmostOver_13 : decode cX2_topmostOver 13 = .ok (.invokevirtual 24, 3) := by decide +kernel
theorem dX2_topmostOver_16 : decode cX2_topmostOver 16 = .ok (.astore 4, 2) := by decide +kernel
theorem dX2_topmostOver_18 : decode cX2_topmostOver 18 = .ok (.aload 4, 2) := by decide +kernel
theorem dX2_topmostOver_20 : decode cX2_topmostOver 20 = .ok (.ifnull 16, 3) := by decide +kernel
theorem dX2_topmostOver_23 : decode cX2_topmostOver 23 = .ok (.aload 4, 2) := by decide +kernel
theorem dX2_topmostOver_25 : decode cX2_topmostOver 25 = .ok (.iload_n 1, 1) := by decide +kernel
theorem dX2_topmostOver_26 : decode cX2_topmostOver 26 = .ok (.iload_n 2, 1) := by decide +kernel
theorem dX2_topmostOver_27 : decode cX2_topmostOver 27 = .ok (.invokevirtual 28, 3) := by decide +kernel
theorem dX2_topmostOver_30 : decode cX2_topmostOver 30 = .ok (.ifCond .eq 6, 3) := by decide +kernel
theorem dX2_topmostOver_33 : decode cX2_topmostOver 33 = .ok (.aload 4, 2) := by decide +kernel
theorem dX2_topmostOver_35 : decode cX2_topmostOver 35 = .ok (.areturn, 1) := by decide +kernel
theorem dX2_topmostOver_36 : decode cX2_topmostOver 36 = .ok (.iinc 3 (-1), 3) := by decide +kernel
theorem dX2_topmostOver_39 : decode cX2_topmostOver 39 = .ok (.goto (-32), 3) := by decide +kernel
theorem dX2_topmostOver_42 : decode cX2_topmostOver 42 = .ok (.aconst_null, 1) := by decide +kernel
theorem dX2_topmostOver_43 : decode cX2_topmostOver 43 = .ok (.areturn, 1) := by decide +kernel
theorem dX2_addLast_0 : decode cX2_addLast 0 = .ok (.aload_n 0, 1) := by decide +kernel
theorem dX2_addLast_1 : decode cX2_addLast 1 = .ok (.getfield 17, 3) := by decide +kernel
theorem dX2_addLast_4 : decode cX2_addLast 4 = .ok (.ifCond .lt 35, 3) := by decide +kernel
theorem dX2_addLast_7 : decode cX2_addLast 7 = .ok (.aload_n 0, 1) := by decide +kernel
theorem dX2_addLast_8 : decode cX2_addLast 8 = .ok (.getfield 17, 3) := by decide +kernel
theorem dX2_addLast_11 : decode cX2_addLast 11 = .ok (.aload_n 0, 1) := by decide +kernel
theorem dX2_addLast_12 : decode cX2_addLast 12 = .ok (.getfield 11, 3) := by decide +kernel
theorem dX2_addLast_15 : decode cX2_addLast 15 = .ok (.arraylength, 1) := by decide +kernel
theorem dX2_addLast_16 : decode cX2_addLast 16 = .ok (.if_icmp .ge 23, 3) := by decide +kernel
theorem dX2_addLast_19 : decode cX2_addLast 19 = .ok (.aload_n 0, 1) := by decide +kernel
theorem dX2_addLast_20 : decode cX2_addLast 20 = .ok (.getfield 11, 3) := by decide +kernel
theorem dX2_addLast_23 : decode cX2_addLast 23 = .ok (.aload_n 0, 1) := by decide +kernel
theorem dX2_addLast_24 : decode cX2_addLast 24 = .ok (.getfield 17, 3) := by decide +kernel
theorem dX2_addLast_27 : decode cX2_addLast 27 = .ok (.aload_n 1, 1) := by decide +kernel
theorem dX2_addLast_28 : decode cX2_addLast 28 = .ok (.aastore, 1) := by decide +kernel
theorem dX2_addLast_29 : decode cX2_addLast 29 = .ok (.aload_n 0, 1) := by decide +kernel
theorem dX2_addLast_30 : decode cX2_addLast 30 = .ok (.dup, 1) := by decide +kernel
theorem dX2_addLast_31 : decode cX2_addLast 31 = .ok (.getfield 17, 3) := by decide +kernel
theorem dX2_addLast_34 : decode cX2_addLast 34 = .ok (.iconst 1, 1) := by decide +kernel
theorem dX2_addLast_35 : decode cX2_addLast 35 = .ok (.iadd, 1) := by decide +kernel
theorem dX2_addLast_36 : decode cX2_addLast 36 = .ok (.putfield 17, 3) := by decide +kernel
theorem dX2_addLast_39 : decode cX2_addLast 39 = .ok (.return_, 1) := by decide +kernel
theorem dX2_addFirst_0 : decode cX2_addFirst 0 = .ok (.aload_n 0, 1) := by decide +kernel
theorem dX2_addFirst_1 : decode cX2_addFirst 1 = .ok (.getfield 17, 3) := by decide +kernel
theorem dX2_addFirst_4 : decode cX2_addFirst 4 = .ok (.aload_n 0, 1) := by decide +kernel
theorem dX2_addFirst_5 : decode cX2_addFirst 5 = .ok (.getfield 11, 3) := by decide +kernel
theorem dX2_addFirst_8 : decode cX2_addFirst 8 = .ok (.arraylength, 1) := by decide +kernel
theorem dX2_addFirst_9 : decode cX2_addFirst 9 = .ok (.if_icmp .lt 4, 3) := by decide +kernel
theorem dX2_addFirst_12 : decode cX2_addFirst 12 = .ok (.return_, 1) := by decide +kernel
theorem dX2_addFirst_13 : decode cX2_addFirst 13 = .ok (.aload_n 0, 1) := by decide +kernel
theorem dX2_addFirst_14 : decode cX2_addFirst 14 = .ok (.getfield 17, 3) := by decide +kernel
theorem dX2_addFirst_17 : decode cX2_addFirst 17 = .ok (.istore_n 2, 1) := by decide +kernel
theorem dX2_addFirst_18 : decode cX2_addFirst 18 = .ok (.iload_n 2, 1) := by decide +kernel
theorem dX2_addFirst_19 : decode cX2_addFirst 19 = .ok (.ifCond .le 23, 3) := by decide +kernel
theorem dX2_addFirst_22 : decode cX2_addFirst 22 = .ok (.aload_n 0, 1) := by decide +kernel
theorem dX2_addFirst_23 : decode cX2_addFirst 23 = .ok (.getfield 11, 3) := by decide +kernel
theorem dX2_addFirst_26 : decode cX2_addFirst 26 = .ok (.iload_n 2, 1) := by decide +kernel
theorem dX2_addFirst_27 : decode cX2_addFirst 27 = .ok (.aload_n 0, 1) := by decide +kernel
theorem dX2_addFirst_28 : decode cX2_addFirst 28 = .ok (.getfield 11, 3) := by decide +kernel
theorem dX2_addFirst_31 : decode cX2_addFirst 31 = .ok (.iload_n 2, 1) := by decide +kernel
theorem dX2_addFirst_32 : decode cX2_addFirst 32 = .ok (.iconst 1, 1) := by decide +kernel
theorem dX2_addFirst_33 : decode cX2_addFirst 33 = .ok (.isub, 1) := by decide +kernel
theorem dX2_addFirst_34 : decode cX2_addFirst 34 = .ok (.aaload, 1) := by decide +kernel
theorem dX2_addFirst_35 : decode cX2_addFirst 35 = .ok (.aastore, 1) := by decide +kernel
theorem dX2_addFirst_36 : decode cX2_addFirst 36 = .ok (.iinc 2 (-1), 3) := by decide +kernel
theorem dX2_addFirst_39 : decode cX2_addFirst 39 = .ok (.goto (-21), 3) := by decide +kernel
theorem dX2_addFirst_42 : decode cX2_addFirst 42 = .ok (.aload_n 0, 1) := by decide +kernel
theorem dX2_addFirst_43 : decode cX2_addFirst 43 = .ok (.getfield 11, 3) := by decide +kernel
theorem dX2_addFirst_46 : decode cX2_addFirst 46 = .ok (.iconst 0, 1) := by decide +kernel
theorem dX2_addFirst_47 : decode cX2_addFirst 47 = .ok (.aload_n 1, 1) := by decide +kernel
theorem dX2_addFirst_48 : decode cX2_addFirst 48 = .ok (.aastore, 1) := by decide +kernel
theorem dX2_addFirst_49 : decode cX2_addFirst 49 = .ok (.aload_n 0, 1) := by decide +kernel
theorem dX2_addFirst_50 : decode cX2_addFirst 50 = .ok (.dup, 1) := by decide +kernel
theorem dX2_addFirst_51 : decode cX2_addFirst 51 = .ok (.getfield 17, 3) := by decide +kernel
theorem dX2_addFirst_54 : decode cX2_addFirst 54 = .ok (.iconst 1, 1) := by decide +kernel
theorem dX2_addFirst_55 : decode cX2_addFirst 55 = .ok (.iadd, 1) := by decide +kernel
theorem dX2_addFirst_56 : decode cX2_addFirst 56 = .ok (.putfield 17, 3) := by decide +kernel
theorem dX2_addFirst_59 : decode cX2_addFirst 59 = .ok (.return_, 1) := by decide +kernel
set_option maxRecDepth 20000 in
theorem ggX2_remove_X2_indexOf : GoodIn wsX2_remove wsX2_indexOf := goodIn_r _ [7, 1, 8, 9, 10, 11, 12, 13, 14, 15, 16, 17, 18, 19, 20] (by decide +kernel) (by decide +kernel)
set_option maxRecDepth 20000 in
theorem gX2_remove_X2_indexOf : GoodIn wsX2_remove (wsV RX2 32 RX2 yX2_indexOf wsX2_indexOf) := goodIn_app (goodIn_of _ (by decide +kernel)) ggX2_remove_X2_indexOf
theorem dX2_remove_0 : decode cX2_remove 0 = .ok (.aload_n 0, 1) := by decide +kernel
theorem dX2_remove_1 : decode cX2_remove 1 = .ok (.iload_n 1, 1) := by decide +kernel
theorem dX2_remove_2 : decode cX2_remove 2 = .ok (.invokevirtual 32, 3) := by decide +kernel
theorem dX2_remove_5 : decode cX2_remove 5 = .ok (.istore_n 2, 1) := by decide +kernel
theorem dX2_remove_6 : decode cX2_remove 6 = .ok (.iload_n 2, 1) := by decide +kernel
theorem dX2_remove_7 : decode cX2_remove 7 = .ok (.ifCond .ge 4, 3) := by decide +kernel
theorem dX2_remove_10 : decode cX2_remove 10 = .ok (.return_, 1) := by decide +kernel
theorem dX2_remove_11 : decode cX2_remove 11 = .ok (.iload_n 2, 1) := by decide +kernel
theorem dX2_remove_12 : decode cX2_remove 12 = .ok (.istore_n 3, 1) := by decide +kernel
theorem dX2_remove_13 : decode cX2_remove 13 = .ok (.iload_n 3, 1) := by decide +kernel
theorem dX2_remove_14 : decode cX2_remove 14 = .ok (.iconst 1, 1) := by decide +kernel
theorem dX2_remove_15 : decode cX2_remove 15 = .ok (.iadd, 1) := by decide +kernel
theorem dX2_remove_16 : decode cX2_remove 16 = .ok (.aload_n 0, 1) := by decide +kernel
theorem dX2_remove_17 : decode cX2_remove 17 = .ok (.getfield 11, 3) := by decide +kernel
theorem dX2_remove_20 : decode cX2_remove 20 = .ok (.arraylength, 1) := by decide +kernel
theorem dX2_remove_21 : decode cX2_remove 21 = .ok (.if_icmp .ge 23, 3) := by decide +kernel
theorem dX2_remove_24 : decode cX2_remove 24 = .ok (.aload_n 0, 1) := by decide +kernel
theorem dX2_remove_25 : decode cX2_remove 25 = .ok (.getfield 11, 3) := by decide +kernel
theorem dX2_remove_28 : decode cX2_remove 28 = .ok (.iload_n 3, 1) := by decide +kernel
theorem dX2_remove_29 : decode cX2_remove 29 = .ok (.aload_n 0, 1) := by decide +kernel
theorem dX2_remove_30 : decode cX2_remove 30 = .ok (.getfield 11, 3) := by decide +kernel
theorem dX2_remove_33 : decode cX2_remove 33 = .ok (.iload_n 3, 1) := by decide +kernel
theorem dX2_remove_34 : decode cX2_remove 34 = .ok (.iconst 1, 1) := by decide +kernel
theorem dX2_remove_35 : decode cX2_remove 35 = .ok (.iadd, 1) := by decide +kernel
theorem dX2_remove_36 : decode cX2_remove 36 = .ok (.aaload, 1) := by decide +kernel
theorem dX2_remove_37 : decode cX2_remove 37 = .ok (.aastore, 1) := by decide +kernel
theorem dX2_remove_38 : decode cX2_remove 38 = .ok (.iinc 3 1, 3) := by decide +kernel
theorem dX2_remove_41 : decode cX2_remove 41 = .ok (.goto (-28), 3) := by decide +kernel
theorem dX2_remove_44 : decode cX2_remove 44 = .ok (.aload_n 0, 1) := by decide +kernel
theorem dX2_remove_45 : decode cX2_remove 45 = .ok (.getfield 11, 3) := by decide +kernel
theorem dX2_remove_48 : decode cX2_remove 48 = .ok (.aload_n 0, 1) := by decide +kernel
theorem dX2_remove_49 : decode cX2_remove 49 = .ok (.getfield 11, 3) := by decide +kernel
theorem dX2_remove_52 : decode cX2_remove 52 = .ok (.arraylength, 1) := by decide +kernel
theorem dX2_remove_53 : decode cX2_remove 53 = .ok (.iconst 1, 1) := by decide +kernel
theorem dX2_remove_54 : decode cX2_remove 54 = .ok (.isub, 1) := by decide +kernel
theorem dX2_remove_55 : decode cX2_remove 55 = .ok (.aconst_null, 1) := by decide +kernel
theorem dX2_remove_56 : decode cX2_remove 56 = .ok (.aastore, 1) := by decide +kernel
theorem dX2_remove_57 : decode cX2_remove 57 = .ok (.aload_n 0, 1) := by decide +kernel
theorem dX2_remove_58 : decode cX2_remove 58 = .ok (.dup, 1) := by decide +kernel
theorem dX2_remove_59 : decode cX2_remove 59 = .ok (.getfield 17, 3) := by decide +kernel
theorem dX2_remove_62 : decode cX2_remove 62 = .ok (.iconst 1, 1) := by decide +kernel
theorem dX2_remove_63 : decode cX2_remove 63 = .ok (.isub, 1) := by decide +kernel
theorem dX2_remove_64 : decode cX2_remove 64 = .ok (.putfield 17, 3) := by decide +kernel
theorem dX2_remove_67 : decode cX2_remove 67 = .ok (.return_, 1) := by decide +kernel
set_option maxRecDepth 20000 in
theorem ggX3_init_X2_init : GoodIn wsX3_init wsX2_init := goodIn_r _ [19, 20, 2, 3, 21, 22, 23, 24, 25] (by decide +kernel) (by decide +kernel)
set_option maxRecDepth 20000 in
theorem gX3_init_X2_init : GoodIn wsX3_init (wsX2_init) := ggX3_init_X2_init
theorem dX3_init_0 : decode cX3_init 0 = .ok (.aload_n 0, 1) := by decide +kernel
theorem dX3_init_1 : decode cX3_init 1 = .ok (.invokespecial 1, 3) := by decide +kernel
theorem dX3_init_4 : decode cX3_init 4 = .ok (.aload_n 0, 1) := by decide +kernel
theorem dX3_init_5 : decode cX3_init 5 = .ok (.new 7, 3) := by decide +kernel
theorem dX3_init_8 : decode cX3_init 8 = .ok (.dup, 1) := by decide +kernel
theorem dX3_init_9 : decode cX3_init 9 = .ok (.invokespecial 9, 3) := by decide +kernel
theorem dX3_init_12 : decode cX3_init 12 = .ok (.putfield 10, 3) := by decide +kernel
theorem dX3_init_15 : decode cX3_init 15 = .ok (.aload_n 0, 1) := by decide +kernel
theorem dX3_init_16 : decode cX3_init 16 = .ok (.new 7, 3) := by decide +kernel
theorem dX3_init_19 : decode cX3_init 19 = .ok (.dup, 1) := by decide +kernel
theorem dX3_init_20 : decode cX3_init 20 = .ok (.invokespecial 9, 3) := by decide +kernel
theorem dX3_init_23 : decode cX3_init 23 = .ok (.putfield 16, 3) := by decide +kernel
theorem dX3_init_26 : decode cX3_init 26 = .ok (.aload_n 0, 1) := by decide +kernel
theorem dX3_init_27 : decode cX3_init 27 = .ok (.bipush 48, 2) := by decide +kernel
theorem dX3_init_29 : decode cX3_init 29 = .ok (.anewarray 19, 3) := by decide +kernel
theorem dX3_init_32 : decode cX3_init 32 = .ok (.putfield 21, 3) := by decide +kernel
theorem dX3_init_35 : decode cX3_init 35 = .ok (.aload_n 0, 1) := by decide +kernel
theorem dX3_init_36 : decode cX3_init 36 = .ok (.bipush 48, 2) := by decide +kernel
theorem dX3_init_38 : decode cX3_init 38 = .ok (.newarray .int, 2) := by decide +kernel
theorem dX3_init_40 : decode cX3_init 40 = .ok (.putfield 25, 3) := by decide +kernel
theorem dX3_init_43 : decode cX3_init 43 = .ok (.aload_n 0, 1) := by decide +kernel
theorem dX3_init_44 : decode cX3_init 44 = .ok (.bipush 48, 2) := by decide +kernel
theorem dX3_init_46 : decode cX3_init 46 = .ok (.newarray .int, 2) := by decide +kernel
theorem dX3_init_48 : decode cX3_init 48 = .ok (.putfield 29, 3) := by decide +kernel
theorem dX3_init_51 : decode cX3_init 51 = .ok (.iconst 0, 1) := by decide +kernel
theorem dX3_init_52 : decode cX3_init 52 = .ok (.istore_n 1, 1) := by decide +kernel
theorem dX3_init_53 : decode cX3_init 53 = .ok (.iload_n 1, 1) := by decide +kernel
theorem dX3_init_54 : decode cX3_init 54 = .ok (.bipush 48, 2) := by decide +kernel
theorem dX3_init_56 : decode cX3_init 56 = .ok (.if_icmp .ge 16, 3) := by decide +kernel
theorem dX3_init_59 : decode cX3_init 59 = .ok (.aload_n 0, 1) := by decide +kernel
theorem dX3_init_60 : decode cX3_init 60 = .ok (.getfield 25, 3) := by decide +kernel
theorem dX3_init_63 : decode cX3_init 63 = .ok (.iload_n 1, 1) := by decide +kernel
theorem dX3_init_64 : decode cX3_init 64 = .ok (.iconst (-1), 1) := by decide +kernel
theorem dX3_init_65 : decode cX3_init 65 = .ok (.iastore, 1) := by decide +kernel
theorem dX3_init_66 : decode cX3_init 66 = .ok (.iinc 1 1, 3) := by decide +kernel
theorem dX3_init_69 : decode cX3_init 69 = .ok (.goto (-16), 3) := by decide +kernel
theorem dX3_init_72 : decode cX3_init 72 = .ok (.aload_n 0, 1) := by decide +kernel
theorem dX3_init_73 : decode cX3_init 73 = .ok (.iconst 0, 1) := by decide +kernel
theorem dX3_init_74 : decode cX3_init 74 = .ok (.putfield 32, 3) := by decide +kernel
theorem dX3_init_77 : decode cX3_init 77 = .ok (.aload_n 0, 1) := by decide +kernel
theorem dX3_init_78 : decode cX3_init 78 = .ok (.bipush 24, 2) := by decide +kernel
theorem dX3_init_80 : decode cX3_init 80 = .ok (.putfield 36, 3) := by decide +kernel
theorem dX3_init_83 : decode cX3_init 83 = .ok (.aload_n 0, 1) := by decide +kernel
theorem dX3_init_84 : decode cX3_init 84 = .ok (.iconst 0, 1) := by decide +kernel
theorem dX3_init_85 : decode cX3_init 85 = .ok (.putfield 39, 3) := by decide +kernel
theorem dX3_init_88 : decode cX3_init 88 = .ok (.return_, 1) := by decide +kernel
set_option maxRecDepth 20000 in
theorem ggX3_open_X3_isCell : GoodIn wsX3_open wsX3_isCell := goodIn_r _ [19] (by decide +kernel) (by decide +kernel)
set_option maxRecDepth 20000 in
theorem gX3_open_X3_isCell : GoodIn wsX3_open (va_wsS RX3 42 yX3_isCell wsX3_isCell) := goodIn_app (goodIn_of _ (by decide +kernel)) ggX3_open_X3_isCell
set_option maxRecDepth 20000 in
theorem ggX3_open_X3_fits : GoodIn wsX3_open wsX3_fits := goodIn_r _ [22] (by decide +kernel) (by decide +kernel)
set_option maxRecDepth 20000 in
theorem gX3_open_X3_fits : GoodIn wsX3_open (va_wsS RX3 46 yX3_fits wsX3_fits) := goodIn_app (goodIn_of _ (by decide +kernel)) ggX3_open_X3_fits
set_option maxRecDepth 20000 in
theorem ggX3_open_X2_count : GoodIn wsX3_open wsX2_count := goodIn_r _ [27, 28, 152, 153] (by decide +kernel) (by decide +kernel)
set_option maxRecDepth 20000 in
theorem gX3_open_X2_count : GoodIn wsX3_open (wsV RX3 59 RX2 yX2_count wsX2_count) := goodIn_app (goodIn_of _ (by decide +kernel)) ggX3_open_X2_count
set_option maxRecDepth 20000 in
theorem ggX3_open_X0_init : GoodIn wsX3_open wsX0_init := goodIn_r _ [31, 32, 33, 34, 35, 36, 37, 38, 39, 40, 41, 42, 43, 143, 144, 145, 146, 147, 148, 149, 150, 151] (by decide +kernel) (by decide +kernel)
set_option maxRecDepth 20000 in
theorem gX3_open_X0_init : GoodIn wsX3_open (wsX0_init) := ggX3_open_X0_init
set_option maxRecDepth 20000 in
theorem ggX3_open_X1_init : GoodIn wsX3_open wsX1_init := goodIn_r _ [46, 47, 33, 34, 48, 49, 50, 51, 52, 53, 54, 55, 56, 57, 133, 134, 135, 136, 137, 138, 139, 140, 141, 142] (by decide +kernel) (by decide +kernel)
set_option maxRecDepth 20000 in
theorem gX3_open_X1_init : GoodIn wsX3_open (wsX1_init) := ggX3_open_X1_init
set_option maxRecDepth 20000 in
theorem ggX3_open_X3_putOnTop : GoodIn wsX3_open wsX3_putOnTop := goodIn_r _ [61, 5, 15, 62, 63, 64, 26, 65, 28, 66, 67, 68, 69, 18, 70, 71, 72, 23, 24, 25, 27, 73, 74, 75, 76, 77, 78, 79, 80, 81, 82, 83, 84, 9, 85, 49, 51, 50, 52, 53, 86, 87, 88, 89, 90, 91, 92, 93, 94, 95, 96, 97, 98, 99, 100, 101, 102, 103, 13, 104, 105, 106, 107, 56, 57, 54, 108, 109, 110, 12, 111, 41, 40, 112, 113, 114, 115, 116, 117, 118, 119, 120, 125, 126, 127, 128, 129, 130, 131, 132, 133, 134, 135, 136, 137, 138, 139, 140, 141, 142, 152, 153, 143, 144, 145, 146, 147, 148, 149, 150, 151] (by decide +kernel) (by decide +kernel)
set_option maxRecDepth 20000 in
theorem gX3_open_X3_putOnTop : GoodIn wsX3_open (wsV RX3 76 RX3 yX3_putOnTop wsX3_putOnTop) := goodIn_app (goodIn_of _ (by decide +kernel)) ggX3_open_X3_putOnTop
set_option maxRecDepth 20000 in
theorem ggX3_open_X2_addLast : GoodIn wsX3_open wsX2_addLast := goodIn_r _ [65, 28, 66, 152, 153] (by decide +kernel) (by decide +kernel)
set_option maxRecDepth 20000 in
theorem gX3_open_X2_addLast : GoodIn wsX3_open (wsV RX3 82 RX2 yX2_addLast wsX2_addLast) := goodIn_app (goodIn_of _ (by decide +kernel)) ggX3_open_X2_addLast
set_option maxRecDepth 20000 in
theorem ggX3_open_X3_lendToSeen : GoodIn wsX3_open wsX3_lendToSeen := goodIn_r _ [124, 5, 71, 91, 23, 24, 25, 26, 27, 28, 73, 74, 75, 76, 66, 86, 87, 88, 18, 89, 90, 92, 93, 94, 9, 95, 51, 52, 96, 97, 98, 99, 100, 101, 102, 103, 13, 104, 105, 106, 107, 56, 57, 54, 108, 109, 110, 12, 111, 41, 40, 125, 126, 127, 128, 129, 130, 131, 132, 133, 134, 135, 136, 137, 138, 139, 140, 141, 142, 152, 153, 143, 144, 145, 146, 147, 148, 149, 150, 151] (by decide +kernel) (by decide +kernel)
set_option maxRecDepth 20000 in
theorem gX3_open_X3_lendToSeen : GoodIn wsX3_open (wsV RX3 86 RX3 yX3_lendToSeen wsX3_lendToSeen) := goodIn_app (goodIn_of _ (by decide +kernel)) ggX3_open_X3_lendToSeen
theorem dX3_open_0 : decode cX3_open 0 = .ok (.iload_n 1, 1) := by decide +kernel
theorem dX3_open_1 : decode cX3_open 1 = .ok (.iload_n 2, 1) := by decide +kernel
theorem dX3_open_2 : decode cX3_open 2 = .ok (.invokestatic 42, 3) := by decide +kernel
theorem dX3_open_5 : decode cX3_open 5 = .ok (.ifCond .eq 25, 3) := by decide +kernel
theorem dX3_open_8 : decode cX3_open 8 = .ok (.iload_n 3, 1) := by decide +kernel
theorem dX3_open_9 : decode cX3_open 9 = .ok (.iconst 1, 1) := by decide +kernel
theorem dX3_open_10 : decode cX3_open 10 = .ok (.if_icmp .lt 20, 3) := by decide +kernel
theorem dX3_open_13 : decode cX3_open 13 = .ok (.iload 4, 2) := by decide +kernel
theorem dX3_open_15 : decode cX3_open 15 = .ok (.iconst 1, 1) := by decide +kernel
theorem dX3_open_16 : decode cX3_open 16 = .ok (.if_icmp .lt 14, 3) := by decide +kernel
theorem dX3_open_19 : decode cX3_open 19 = .ok (.iload_n 1, 1) := by decide +kernel
theorem dX3_open_20 : decode cX3_open 20 = .ok (.iload_n 2, 1) := by decide +kernel
theorem dX3_open_21 : decode cX3_open 21 = .ok (.iload_n 3, 1) := by decide +kernel
theorem dX3_open_22 : decode cX3_open 22 = .ok (.iload 4, 2) := by decide +kernel
theorem dX3_open_24 : decode cX3_open 24 = .ok (.invokestatic 46, 3) := by decide +kernel
theorem dX3_open_27 : decode cX3_open 27 = .ok (.ifCond .ne 13, 3) := by decide +kernel
theorem dX3_open_30 : decode cX3_open 30 = .ok (.new 50, 3) := by decide +kernel
theorem dX3_open_33 : decode cX3_open 33 = .ok (.dup, 1) := by decide +kernel
theorem dX3_open_34 : decode cX3_open 34 = .ok (.ldc 52, 2) := by decide +kernel
theorem dX3_open_36 : decode cX3_open 36 = .ok (.invokespecial 54, 3) := by decide +kernel
theorem dX3_open_39 : decode cX3_open 39 = .ok (.athrow, 1) := by decide +kernel
theorem dX3_open_40 : decode cX3_open 40 = .ok (.iload 6, 2) := by decide +kernel
theorem dX3_open_42 : decode cX3_open 42 = .ok (.iconst 1, 1) := by decide +kernel
theorem dX3_open_43 : decode cX3_open 43 = .ok (.if_icmp .lt 23, 3) := by decide +kernel
theorem dX3_open_46 : decode cX3_open 46 = .ok (.iload 6, 2) := by decide +kernel
theorem dX3_open_48 : decode cX3_open 48 = .ok (.bipush 100, 2) := by decide +kernel
theorem dX3_open_50 : decode cX3_open 50 = .ok (.if_icmp .gt 16, 3) := by decide +kernel
theorem dX3_open_53 : decode cX3_open 53 = .ok (.iload 7, 2) := by decide +kernel
theorem dX3_open_55 : decode cX3_open 55 = .ok (.iconst 1, 1) := by decide +kernel
theorem dX3_open_56 : decode cX3_open 56 = .ok (.if_icmp .lt 10, 3) := by decide +kernel
theorem dX3_open_59 : decode cX3_open 59 = .ok (.iload 7, 2) := by decide +kernel
theorem dX3_open_61 : decode cX3_open 61 = .ok (.bipush 20, 2) := by decide +kernel
theorem dX3_open_63 : decode cX3_open 63 = .ok (.if_icmp .le 13, 3) := by decide +kernel
theorem dX3_open_66 : decode cX3_open 66 = .ok (.new 50, 3) := by decide +kernel
theorem dX3_open_69 : decode cX3_open 69 = .ok (.dup, 1) := by decide +kernel
theorem dX3_open_70 : decode cX3_open 70 = .ok (.ldc 57, 2) := by decide +kernel
theorem dX3_open_72 : decode cX3_open 72 = .ok (.invokespecial 54, 3) := by decide +kernel
theorem dX3_open_75 : decode cX3_open 75 = .ok (.athrow, 1) := by decide +kernel
theorem dX3_open_76 : decode cX3_open 76 = .ok (.aload_n 0, 1) := by decide +kernel
theorem dX3_open_77 : decode cX3_open 77 = .ok (.getfield 16, 3) := by decide +kernel
theorem dX3_open_80 : decode cX3_open 80 = .ok (.invokevirtual 59, 3) := by decide +kernel
theorem dX3_open_83 : decode cX3_open 83 = .ok (.bipush 8, 2) := by decide +kernel
theorem dX3_open_85 : decode cX3_open 85 = .ok (.if_icmp .ge 12, 3) := by decide +kernel
theorem dX3_open_88 : decode cX3_open 88 = .ok (.aload_n 0, 1) := by decide +kernel
theorem dX3_open_89 : decode cX3_open 89 = .ok (.getfield 32, 3) := by decide +kernel
theorem dX3_open_92 : decode cX3_open 92 = .ok (.bipush 40, 2) := by decide +kernel
theorem dX3_open_94 : decode cX3_open 94 = .ok (.if_icmp .lt 13, 3) := by decide +kernel
theorem dX3_open_97 : decode cX3_open 97 = .ok (.new 63, 3) := by decide +kernel
theorem dX3_open_100 : decode cX3_open 100 = .ok (.dup, 1) := by decide +kernel
theorem dX3_open_101 : decode cX3_open 101 = .ok (.ldc 65, 2) := by decide +kernel
theorem dX3_open_103 : decode cX3_open 103 = .ok (.invokespecial 67, 3) := by decide +kernel
theorem dX3_open_106 : decode cX3_open 106 = .ok (.athrow, 1) := by decide +kernel
theorem dX3_open_107 : decode cX3_open 107 = .ok (.new 19, 3) := by decide +kernel
theorem dX3_open_110 : decode cX3_open 110 = .ok (.dup, 1) := by decide +kernel
theorem dX3_open_111 : decode cX3_open 111 = .ok (.aload_n 0, 1) := by decide +kernel
theorem dX3_open_112 : decode cX3_open 112 = .ok (.getfield 32, 3) := by decide +kernel
theorem dX3_open_115 : decode cX3_open 115 = .ok (.iload_n 1, 1) := by decide +kernel
theorem dX3_open_116 : decode cX3_open 116 = .ok (.iload_n 2, 1) := by decide +kernel
theorem dX3_open_117 : decode cX3_open 117 = .ok (.iload_n 3, 1) := by decide +kernel
theorem dX3_open_118 : decode cX3_open 118 = .ok (.iload 4, 2) := by decide +kernel
theorem dX3_open_120 : decode cX3_open 120 = .ok (.iload 5, 2) := by decide +kernel
theorem dX3_open_122 : decode cX3_open 122 = .ok (.new 68, 3) := by decide +kernel
theorem dX3_open_125 : decode cX3_open 125 = .ok (.dup, 1) := by decide +kernel
theorem dX3_open_126 : decode cX3_open 126 = .ok (.iload 6, 2) := by decide +kernel
theorem dX3_open_128 : decode cX3_open 128 = .ok (.iload 7, 2) := by decide +kernel
theorem dX3_open_130 : decode cX3_open 130 = .ok (.aload_n 0, 1) := by decide +kernel
theorem dX3_open_131 : decode cX3_open 131 = .ok (.getfield 39, 3) := by decide +kernel
theorem dX3_open_134 : decode cX3_open 134 = .ok (.invokespecial 70, 3) := by decide +kernel
theorem dX3_open_137 : decode cX3_open 137 = .ok (.invokespecial 73, 3) := by decide +kernel
theorem dX3_open_140 : decode cX3_open 140 = .ok (.astore 8, 2) := by decide +kernel
theorem dX3_open_142 : decode cX3_open 142 = .ok (.aload_n 0, 1) := by decide +kernel
theorem dX3_open_143 : decode cX3_open 143 = .ok (.aload 8, 2) := by decide +kernel
theorem dX3_open_145 : decode cX3_open 145 = .ok (.invokevirtual 76, 3) := by decide +kernel
theorem dX3_open_148 : decode cX3_open 148 = .ok (.ifCond .ne 13, 3) := by decide +kernel
theorem dX3_open_151 : decode cX3_open 151 = .ok (.new 63, 3) := by decide +kernel
theorem dX3_open_154 : decode cX3_open 154 = .ok (.dup, 1) := by decide +kernel
theorem dX3_open_155 : decode cX3_open 155 = .ok (.ldc 80, 2) := by decide +kernel
theorem dX3_open_157 : decode cX3_open 157 = .ok (.invokespecial 67, 3) := by decide +kernel
theorem dX3_open_160 : decode cX3_open 160 = .ok (.athrow, 1) := by decide +kernel
theorem dX3_open_161 : decode cX3_open 161 = .ok (.aload_n 0, 1) := by decide +kernel
theorem dX3_open_162 : decode cX3_open 162 = .ok (.dup, 1) := by decide +kernel
theorem dX3_open_163 : decode cX3_open 163 = .ok (.getfield 32, 3) := by decide +kernel
theorem dX3_open_166 : decode cX3_open 166 = .ok (.iconst 1, 1) := by decide +kernel
theorem dX3_open_167 : decode cX3_open 167 = .ok (.iadd, 1) := by decide +kernel
theorem dX3_open_168 : decode cX3_open 168 = .ok (.putfield 32, 3) := by decide +kernel
theorem dX3_open_171 : decode cX3_open 171 = .ok (.aload_n 0, 1) := by decide +kernel
theorem dX3_open_172 : decode cX3_open 172 = .ok (.getfield 10, 3) := by decide +kernel
theorem dX3_open_175 : decode cX3_open 175 = .ok (.aload 8, 2) := by decide +kernel
theorem dX3_open_177 : decode cX3_open 177 = .ok (.invokevirtual 82, 3) := by decide +kernel
theorem dX3_open_180 : decode cX3_open 180 = .ok (.aload_n 0, 1) := by decide +kernel
theorem dX3_open_181 : decode cX3_open 181 = .ok (.invokevirtual 86, 3) := by decide +kernel
theorem dX3_open_184 : decode cX3_open 184 = .ok (.aload 8, 2) := by decide +kernel
theorem dX3_open_186 : decode cX3_open 186 = .ok (.getfield 89, 3) := by decide +kernel
theorem dX3_open_189 : decode cX3_open 189 = .ok (.ireturn, 1) := by decide +kernel
set_option maxRecDepth 20000 in
theorem ggX3_close_X3_find : GoodIn wsX3_close wsX3_find := goodIn_ca (goodIn_r _ [8, 9, 10, 2, 11, 12, 13, 14, 15, 16, 17, 18, 19, 20, 21, 98, 99, 100, 101, 102, 103, 104, 105, 106, 107, 108, 109, 110, 111, 112, 113, 114, 115, 116, 117] (by decide +kernel) (by decide +kernel)) (goodIn_sub (fun _ h => List.mem_cons_of_mem _ (List.mem_append_right _ h)) (by decide +kernel))
set_option maxRecDepth 20000 in
theorem gX3_close_X3_find : GoodIn wsX3_close (wsV RX3 92 RX3 yX3_find wsX3_find) := goodIn_app (goodIn_of _ (by decide +kernel)) ggX3_close_X3_find
set_option maxRecDepth 20000 in
theorem ggX3_close_X2_remove : GoodIn wsX3_close wsX2_remove := goodIn_r _ [25, 16, 26, 27, 12, 13, 14, 15, 17, 106, 107, 108, 109, 110, 111, 112, 113, 114, 115, 116, 117] (by decide +kernel) (by decide +kernel)
set_option maxRecDepth 20000 in
theorem gX3_close_X2_remove : GoodIn wsX3_close (wsV RX3 96 RX2 yX2_remove wsX2_remove) := goodIn_app (goodIn_of _ (by decide +kernel)) ggX3_close_X2_remove
set_option maxRecDepth 20000 in
theorem ggX3_close_X1_pagesHeld : GoodIn wsX3_close wsX1_pagesHeld := goodIn_r _ [32, 33, 34, 35, 36, 31, 37, 38, 39, 108, 109, 110, 111, 112, 113, 114, 115, 116, 117] (by decide +kernel) (by decide +kernel)
set_option maxRecDepth 20000 in
theorem gX3_close_X1_pagesHeld : GoodIn wsX3_close (wsV RX3 100 RX1 yX1_pagesHeld wsX1_pagesHeld) := goodIn_app (goodIn_of _ (by decide +kernel)) ggX3_close_X1_pagesHeld
set_option maxRecDepth 20000 in
theorem ggX3_close_X3_rearrange : GoodIn wsX3_close wsX3_rearrange := goodIn_r _ [43, 44, 45, 46, 7, 47, 1, 48, 49, 50, 51, 52, 14, 53, 26, 18, 19, 20, 21, 16, 54, 55, 56, 57, 58, 59, 60, 61, 31, 62, 63, 38, 64, 39, 65, 66, 67, 68, 69, 70, 71, 72, 73, 74, 3, 75, 35, 36, 37, 76, 77, 78, 79, 80, 81, 82, 83, 84, 85, 86, 87, 88, 33, 89, 90, 91, 92, 93, 94, 95, 96, 97, 98, 99, 100, 101, 102, 103, 104, 105, 108, 109, 110, 111, 112, 113, 114, 115, 116, 117, 106, 107, 118, 119, 120, 121, 122, 123, 124, 125, 126] (by decide +kernel) (by decide +kernel)
set_option maxRecDepth 20000 in
theorem gX3_close_X3_rearrange : GoodIn wsX3_close (wsV RX3 103 RX3 yX3_rearrange wsX3_rearrange) := goodIn_app (goodIn_of _ (by decide +kernel)) ggX3_close_X3_rearrange
set_option maxRecDepth 20000 in
theorem ggX3_close_X2_count : GoodIn wsX3_close wsX2_count := goodIn_r _ [53, 26, 106, 107] (by decide +kernel) (by decide +kernel)
set_option maxRecDepth 20000 in
theorem gX3_close_X2_count : GoodIn wsX3_close (wsV RX3 59 RX2 yX2_count wsX2_count) := goodIn_app (goodIn_of _ (by decide +kernel)) ggX3_close_X2_count
theorem dX3_close_0 : decode cX3_close 0 = .ok (.aload_n 0, 1) := by decide +kernel
theorem dX3_close_1 : decode cX3_close 1 = .ok (.iload_n 1, 1) := by decide +kernel
theorem dX3_close_2 : decode cX3_close 2 = .ok (.invokevirtual 92, 3) := by decide +kernel
theorem dX3_close_5 : decode cX3_close 5 = .ok (.astore_n 2, 1) := by decide +kernel
theorem dX3_close_6 : decode cX3_close 6 = .ok (.aload_n 0, 1) := by decide +kernel
theorem dX3_close_7 : decode cX3_close 7 = .ok (.getfield 16, 3) := by decide +kernel
theorem dX3_close_10 : decode cX3_close 10 = .ok (.iload_n 1, 1) := by decide +kernel
theorem dX3_close_11 : decode cX3_close 11 = .ok (.invokevirtual 96, 3) := by decide +kernel
theorem dX3_close_14 : decode cX3_close 14 = .ok (.aload_n 0, 1) := by decide +kernel
theorem dX3_close_15 : decode cX3_close 15 = .ok (.getfield 10, 3) := by decide +kernel
theorem dX3_close_18 : decode cX3_close 18 = .ok (.iload_n 1, 1) := by decide +kernel
theorem dX3_close_19 : decode cX3_close 19 = .ok (.invokevirtual 96, 3) := by decide +kernel
theorem dX3_close_22 : decode cX3_close 22 = .ok (.aload_n 0, 1) := by decide +kernel
theorem dX3_close_23 : decode cX3_close 23 = .ok (.dup, 1) := by decide +kernel
theorem dX3_close_24 : decode cX3_close 24 = .ok (.getfield 36, 3) := by decide +kernel
theorem dX3_close_27 : decode cX3_close 27 = .ok (.aload_n 2, 1) := by decide +kernel
theorem dX3_close_28 : decode cX3_close 28 = .ok (.invokevirtual 100, 3) := by decide +kernel
theorem dX3_close_31 : decode cX3_close 31 = .ok (.iadd, 1) := by decide +kernel
theorem dX3_close_32 : decode cX3_close 32 = .ok (.putfield 36, 3) := by decide +kernel
theorem dX3_close_35 : decode cX3_close 35 = .ok (.aload_n 0, 1) := by decide +kernel
theorem dX3_close_36 : decode cX3_close 36 = .ok (.invokevirtual 103, 3) := by decide +kernel
theorem dX3_close_39 : decode cX3_close 39 = .ok (.aload_n 0, 1) := by decide +kernel
theorem dX3_close_40 : decode cX3_close 40 = .ok (.getfield 16, 3) := by decide +kernel
theorem dX3_close_43 : decode cX3_close 43 = .ok (.invokevirtual 59, 3) := by decide +kernel
theorem dX3_close_46 : decode cX3_close 46 = .ok (.ireturn, 1) := by decide +kernel
set_option maxRecDepth 20000 in
theorem ggX3_move_X3_find : GoodIn wsX3_move wsX3_find := goodIn_ca (goodIn_r _ [11, 12, 13, 14, 15, 16, 17, 18, 19, 20, 21, 22, 23, 24, 25, 110, 111, 112, 113, 114, 115, 116, 117, 118, 119, 100, 101, 102, 103, 104, 105, 106, 107, 108, 109] (by decide +kernel) (by decide +kernel)) (goodIn_sub (fun _ h => List.mem_cons_of_mem _ (List.mem_append_right _ h)) (by decide +kernel))
set_option maxRecDepth 20000 in
theorem gX3_move_X3_find : GoodIn wsX3_move (wsV RX3 92 RX3 yX3_find wsX3_find) := goodIn_app (goodIn_of _ (by decide +kernel)) ggX3_move_X3_find
set_option maxRecDepth 20000 in
theorem ggX3_move_X3_isCell : GoodIn wsX3_move wsX3_isCell := goodIn_r _ [28] (by decide +kernel) (by decide +kernel)
set_option maxRecDepth 20000 in
theorem gX3_move_X3_isCell : GoodIn wsX3_move (va_wsS RX3 42 yX3_isCell wsX3_isCell) := goodIn_app (goodIn_of _ (by decide +kernel)) ggX3_move_X3_isCell
set_option maxRecDepth 20000 in
theorem ggX3_move_X3_fits : GoodIn wsX3_move wsX3_fits := goodIn_r _ [31] (by decide +kernel) (by decide +kernel)
set_option maxRecDepth 20000 in
theorem gX3_move_X3_fits : GoodIn wsX3_move (va_wsS RX3 46 yX3_fits wsX3_fits) := goodIn_app (goodIn_of _ (by decide +kernel)) ggX3_move_X3_fits
set_option maxRecDepth 20000 in
theorem ggX3_move_X3_rearrange : GoodIn wsX3_move wsX3_rearrange := goodIn_r _ [35, 36, 37, 38, 10, 39, 40, 41, 42, 43, 44, 45, 18, 46, 47, 22, 23, 24, 25, 20, 48, 49, 50, 51, 52, 53, 54, 55, 56, 57, 58, 59, 60, 61, 62, 63, 64, 65, 66, 67, 68, 69, 70, 71, 72, 73, 74, 75, 76, 77, 78, 79, 80, 81, 82, 83, 84, 85, 86, 87, 88, 89, 90, 91, 92, 93, 94, 95, 96, 97, 98, 99, 110, 111, 112, 113, 114, 115, 116, 117, 100, 101, 102, 103, 104, 105, 106, 107, 108, 109, 118, 119, 120, 121, 122, 123, 124, 125, 126, 127, 128] (by decide +kernel) (by decide +kernel)
set_option maxRecDepth 20000 in
theorem gX3_move_X3_rearrange : GoodIn wsX3_move (wsV RX3 103 RX3 yX3_rearrange wsX3_rearrange) := goodIn_app (goodIn_of _ (by decide +kernel)) ggX3_move_X3_rearrange
theorem dX3_move_0 : decode cX3_move 0 = .ok (.aload_n 0, 1) := by decide +kernel
theorem dX3_move_1 : decode cX3_move 1 = .ok (.iload_n 1, 1) := by decide +kernel
theorem dX3_move_2 : decode cX3_move 2 = .ok (.invokevirtual 92, 3) := by decide +kernel
theorem dX3_move_5 : decode cX3_move 5 = .ok (.astore 4, 2) := by decide +kernel
theorem dX3_move_7 : decode cX3_move 7 = .ok (.iload_n 2, 1) := by decide +kernel
theorem dX3_move_8 : decode cX3_move 8 = .ok (.iload_n 3, 1) := by decide +kernel
theorem dX3_move_9 : decode cX3_move 9 = .ok (.invokestatic 42, 3) := by decide +kernel
theorem dX3_move_12 : decode cX3_move 12 = .ok (.ifCond .eq 21, 3) := by decide +kernel
theorem dX3_move_15 : decode cX3_move 15 = .ok (.iload_n 2, 1) := by decide +kernel
theorem dX3_move_16 : decode cX3_move 16 = .ok (.iload_n 3, 1) := by decide +kernel
theorem dX3_move_17 : decode cX3_move 17 = .ok (.aload 4, 2) := by decide +kernel
theorem dX3_move_19 : decode cX3_move 19 = .ok (.getfield 106, 3) := by decide +kernel
theorem dX3_move_22 : decode cX3_move 22 = .ok (.aload 4, 2) := by decide +kernel
theorem dX3_move_24 : decode cX3_move 24 = .ok (.getfield 109, 3) := by decide +kernel
theorem dX3_move_27 : decode cX3_move 27 = .ok (.invokestatic 46, 3) := by decide +kernel
theorem dX3_move_30 : decode cX3_move 30 = .ok (.ifCond .ne 13, 3) := by decide +kernel
theorem dX3_move_33 : decode cX3_move 33 = .ok (.new 50, 3) := by decide +kernel
theorem dX3_move_36 : decode cX3_move 36 = .ok (.dup, 1) := by decide +kernel
theorem dX3_move_37 : decode cX3_move 37 = .ok (.ldc 52, 2) := by decide +kernel
theorem dX3_move_39 : decode cX3_move 39 = .ok (.invokespecial 54, 3) := by decide +kernel
theorem dX3_move_42 : decode cX3_move 42 = .ok (.athrow, 1) := by decide +kernel
theorem dX3_move_43 : decode cX3_move 43 = .ok (.aload 4, 2) := by decide +kernel
theorem dX3_move_45 : decode cX3_move 45 = .ok (.iload_n 2, 1) := by decide +kernel
theorem dX3_move_46 : decode cX3_move 46 = .ok (.putfield 112, 3) := by decide +kernel
theorem dX3_move_49 : decode cX3_move 49 = .ok (.aload 4, 2) := by decide +kernel
theorem dX3_move_51 : decode cX3_move 51 = .ok (.iload_n 3, 1) := by decide +kernel
theorem dX3_move_52 : decode cX3_move 52 = .ok (.putfield 115, 3) := by decide +kernel
theorem dX3_move_55 : decode cX3_move 55 = .ok (.aload_n 0, 1) := by decide +kernel
theorem dX3_move_56 : decode cX3_move 56 = .ok (.invokevirtual 103, 3) := by decide +kernel
theorem dX3_move_59 : decode cX3_move 59 = .ok (.return_, 1) := by decide +kernel
set_option maxRecDepth 20000 in
theorem ggX3_lay_X3_find : GoodIn wsX3_lay wsX3_find := goodIn_ca (goodIn_r _ [6, 7, 8, 9, 10, 11, 12, 13, 14, 15, 16, 17, 18, 19, 20, 101, 102, 103, 104, 105, 106, 107, 108, 109, 110, 111, 112, 113, 114, 115, 116, 117, 118, 119, 120] (by decide +kernel) (by decide +kernel)) (goodIn_sub (fun _ h => List.mem_cons_of_mem _ (List.mem_append_right _ h)) (by decide +kernel))
set_option maxRecDepth 20000 in
theorem gX3_lay_X3_find : GoodIn wsX3_lay (wsV RX3 92 RX3 yX3_find wsX3_find) := goodIn_app (goodIn_of _ (by decide +kernel)) ggX3_lay_X3_find
set_option maxRecDepth 20000 in
theorem ggX3_lay_X2_indexOf : GoodIn wsX3_lay wsX2_indexOf := goodIn_r _ [14, 15, 16, 109, 110, 111, 112, 113, 114, 115, 116, 117, 118, 119, 120] (by decide +kernel) (by decide +kernel)
set_option maxRecDepth 20000 in
theorem gX3_lay_X2_indexOf : GoodIn wsX3_lay (wsV RX3 118 RX2 yX2_indexOf wsX2_indexOf) := goodIn_app (goodIn_of _ (by decide +kernel)) ggX3_lay_X2_indexOf
set_option maxRecDepth 20000 in
theorem ggX3_lay_X2_remove : GoodIn wsX3_lay wsX2_remove := goodIn_r _ [24, 15, 25, 26, 11, 12, 13, 14, 16, 109, 110, 111, 112, 113, 114, 115, 116, 117, 118, 119, 120] (by decide +kernel) (by decide +kernel)
set_option maxRecDepth 20000 in
theorem gX3_lay_X2_remove : GoodIn wsX3_lay (wsV RX3 96 RX2 yX2_remove wsX2_remove) := goodIn_app (goodIn_of _ (by decide +kernel)) ggX3_lay_X2_remove
set_option maxRecDepth 20000 in
theorem ggX3_lay_X2_addLast : GoodIn wsX3_lay wsX2_addLast := goodIn_r _ [30, 25, 15, 109, 110] (by decide +kernel) (by decide +kernel)
set_option maxRecDepth 20000 in
theorem gX3_lay_X2_addLast : GoodIn wsX3_lay (wsV RX3 82 RX2 yX2_addLast wsX2_addLast) := goodIn_app (goodIn_of _ (by decide +kernel)) ggX3_lay_X2_addLast
set_option maxRecDepth 20000 in
theorem ggX3_lay_X2_addFirst : GoodIn wsX3_lay wsX2_addFirst := goodIn_r _ [34, 25, 15, 109, 110] (by decide +kernel) (by decide +kernel)
set_option maxRecDepth 20000 in
theorem gX3_lay_X2_addFirst : GoodIn wsX3_lay (wsV RX3 122 RX2 yX2_addFirst wsX2_addFirst) := goodIn_app (goodIn_of _ (by decide +kernel)) ggX3_lay_X2_addFirst
set_option maxRecDepth 20000 in
theorem ggX3_lay_X3_rearrange : GoodIn wsX3_lay wsX3_rearrange := goodIn_r _ [38, 39, 40, 41, 5, 42, 1, 43, 44, 45, 46, 47, 13, 48, 25, 17, 18, 19, 20, 15, 49, 50, 51, 52, 53, 54, 55, 56, 57, 58, 59, 60, 61, 62, 63, 64, 65, 66, 67, 68, 69, 70, 71, 72, 73, 74, 75, 76, 77, 78, 79, 80, 81, 82, 83, 84, 85, 86, 87, 88, 89, 90, 91, 92, 93, 94, 95, 96, 97, 98, 99, 100, 101, 102, 103, 104, 105, 106, 107, 108, 111, 112, 113, 114, 115, 116, 117, 118, 119, 120, 109, 110, 121, 122, 123, 124, 125, 126, 127, 128, 129] (by decide +kernel) (by decide +kernel)
set_option maxRecDepth 20000 in
theorem gX3_lay_X3_rearrange : GoodIn wsX3_lay (wsV RX3 103 RX3 yX3_rearrange wsX3_rearrange) := goodIn_app (goodIn_of _ (by decide +kernel)) ggX3_lay_X3_rearrange
theorem dX3_lay_0 : decode cX3_lay 0 = .ok (.aload_n 0, 1) := by decide +kernel
theorem dX3_lay_1 : decode cX3_lay 1 = .ok (.iload_n 1, 1) := by decide +kernel
theorem dX3_lay_2 : decode cX3_lay 2 = .ok (.invokevirtual 92, 3) := by decide +kernel
theorem dX3_lay_5 : decode cX3_lay 5 = .ok (.astore_n 3, 1) := by decide +kernel
theorem dX3_lay_6 : decode cX3_lay 6 = .ok (.aload_n 0, 1) := by decide +kernel
theorem dX3_lay_7 : decode cX3_lay 7 = .ok (.getfield 16, 3) := by decide +kernel
theorem dX3_lay_10 : decode cX3_lay 10 = .ok (.iload_n 1, 1) := by decide +kernel
theorem dX3_lay_11 : decode cX3_lay 11 = .ok (.invokevirtual 118, 3) := by decide +kernel
theorem dX3_lay_14 : decode cX3_lay 14 = .ok (.istore 4, 2) := by decide +kernel
theorem dX3_lay_16 : decode cX3_lay 16 = .ok (.aload_n 0, 1) := by decide +kernel
theorem dX3_lay_17 : decode cX3_lay 17 = .ok (.getfield 16, 3) := by decide +kernel
theorem dX3_lay_20 : decode cX3_lay 20 = .ok (.iload_n 1, 1) := by decide +kernel
theorem dX3_lay_21 : decode cX3_lay 21 = .ok (.invokevirtual 96, 3) := by decide +kernel
theorem dX3_lay_24 : decode cX3_lay 24 = .ok (.iload_n 2, 1) := by decide +kernel
theorem dX3_lay_25 : decode cX3_lay 25 = .ok (.ifCond .eq 14, 3) := by decide +kernel
theorem dX3_lay_28 : decode cX3_lay 28 = .ok (.aload_n 0, 1) := by decide +kernel
theorem dX3_lay_29 : decode cX3_lay 29 = .ok (.getfield 16, 3) := by decide +kernel
theorem dX3_lay_32 : decode cX3_lay 32 = .ok (.aload_n 3, 1) := by decide +kernel
theorem dX3_lay_33 : decode cX3_lay 33 = .ok (.invokevirtual 82, 3) := by decide +kernel
theorem dX3_lay_36 : decode cX3_lay 36 = .ok (.goto 11, 3) := by decide +kernel
theorem dX3_lay_39 : decode cX3_lay 39 = .ok (.aload_n 0, 1) := by decide +kernel
theorem dX3_lay_40 : decode cX3_lay 40 = .ok (.getfield 16, 3) := by decide +kernel
theorem dX3_lay_43 : decode cX3_lay 43 = .ok (.aload_n 3, 1) := by decide +kernel
theorem dX3_lay_44 : decode cX3_lay 44 = .ok (.invokevirtual 122, 3) := by decide +kernel
theorem dX3_lay_47 : decode cX3_lay 47 = .ok (.aload_n 0, 1) := by decide +kernel
theorem dX3_lay_48 : decode cX3_lay 48 = .ok (.invokevirtual 103, 3) := by decide +kernel
theorem dX3_lay_51 : decode cX3_lay 51 = .ok (.iload 4, 2) := by decide +kernel
theorem dX3_lay_53 : decode cX3_lay 53 = .ok (.ireturn, 1) := by decide +kernel
set_option maxRecDepth 20000 in
theorem ggX3_advance_X3_passTick : GoodIn wsX3_advance wsX3_passTick := goodIn_r _ [11, 12, 13, 5, 14, 15, 16, 17, 18, 10, 19, 20, 21, 22, 23, 24, 25, 26, 27, 28, 29, 30, 31, 32, 33, 34, 35, 36, 37, 38, 39, 40, 41, 42, 43, 44, 45, 46, 47, 48, 49, 50, 51, 52, 53, 54, 55, 56, 57, 58, 59, 60, 61, 62, 63, 64, 65, 66, 67, 68, 69, 70, 71, 72, 81, 82, 83, 84, 85, 86, 87, 88, 89, 90, 91, 92, 93, 94, 95, 96, 97, 98, 99, 73, 74, 75, 76, 77, 78, 79, 80, 100, 101] (by decide +kernel) (by decide +kernel)
set_option maxRecDepth 20000 in
theorem gX3_advance_X3_passTick : GoodIn wsX3_advance (wsV RX3 130 RX3 yX3_passTick wsX3_passTick) := goodIn_app (goodIn_of _ (by decide +kernel)) ggX3_advance_X3_passTick
theorem dX3_advance_0 : decode cX3_advance 0 = .ok (.iload_n 1, 1) := by decide +kernel
theorem dX3_advance_1 : decode cX3_advance 1 = .ok (.iconst 1, 1) := by decide +kernel
theorem dX3_advance_2 : decode cX3_advance 2 = .ok (.if_icmp .lt 10, 3) := by decide +kernel
theorem dX3_advance_5 : decode cX3_advance 5 = .ok (.iload_n 1, 1) := by decide +kernel
theorem dX3_advance_6 : decode cX3_advance 6 = .ok (.sipush 200, 3) := by decide +kernel
theorem dX3_advance_9 : decode cX3_advance 9 = .ok (.if_icmp .le 13, 3) := by decide +kernel
theorem dX3_advance_12 : decode cX3_advance 12 = .ok (.new 50, 3) := by decide +kernel
theorem dX3_advance_15 : decode cX3_advance 15 = .ok (.dup, 1) := by decide +kernel
theorem dX3_advance_16 : decode cX3_advance 16 = .ok (.ldc 125, 2) := by decide +kernel
theorem dX3_advance_18 : decode cX3_advance 18 = .ok (.invokespecial 54, 3) := by decide +kernel
theorem dX3_advance_21 : decode cX3_advance 21 = .ok (.athrow, 1) := by decide +kernel
theorem dX3_advance_22 : decode cX3_advance 22 = .ok (.aload_n 0, 1) := by decide +kernel
theorem dX3_advance_23 : decode cX3_advance 23 = .ok (.getfield 39, 3) := by decide +kernel
theorem dX3_advance_26 : decode cX3_advance 26 = .ok (.iload_n 1, 1) := by decide +kernel
theorem dX3_advance_27 : decode cX3_advance 27 = .ok (.iadd, 1) := by decide +kernel
theorem dX3_advance_28 : decode cX3_advance 28 = .ok (.ldc 127, 2) := by decide +kernel
theorem dX3_advance_30 : decode cX3_advance 30 = .ok (.if_icmp .le 13, 3) := by decide +kernel
theorem dX3_advance_33 : decode cX3_advance 33 = .ok (.new 63, 3) := by decide +kernel
theorem dX3_advance_36 : decode cX3_advance 36 = .ok (.dup, 1) := by decide +kernel
theorem dX3_advance_37 : decode cX3_advance 37 = .ok (.ldc 128, 2) := by decide +kernel
theorem dX3_advance_39 : decode cX3_advance 39 = .ok (.invokespecial 67, 3) := by decide +kernel
theorem dX3_advance_42 : decode cX3_advance 42 = .ok (.athrow, 1) := by decide +kernel
theorem dX3_advance_43 : decode cX3_advance 43 = .ok (.iconst 0, 1) := by decide +kernel
theorem dX3_advance_44 : decode cX3_advance 44 = .ok (.istore_n 2, 1) := by decide +kernel
theorem dX3_advance_45 : decode cX3_advance 45 = .ok (.iload_n 2, 1) := by decide +kernel
theorem dX3_advance_46 : decode cX3_advance 46 = .ok (.iload_n 1, 1) := by decide +kernel
theorem dX3_advance_47 : decode cX3_advance 47 = .ok (.if_icmp .ge 13, 3) := by decide +kernel
theorem dX3_advance_50 : decode cX3_advance 50 = .ok (.aload_n 0, 1) := by decide +kernel
theorem dX3_advance_51 : decode cX3_advance 51 = .ok (.invokevirtual 130, 3) := by decide +kernel
theorem dX3_advance_54 : decode cX3_advance 54 = .ok (.iinc 2 1, 3) := by decide +kernel
theorem dX3_advance_57 : decode cX3_advance 57 = .ok (.goto (-12), 3) := by decide +kernel
theorem dX3_advance_60 : decode cX3_advance 60 = .ok (.aload_n 0, 1) := by decide +kernel
theorem dX3_advance_61 : decode cX3_advance 61 = .ok (.getfield 39, 3) := by decide +kernel
theorem dX3_advance_64 : decode cX3_advance 64 = .ok (.ireturn, 1) := by decide +kernel
set_option maxRecDepth 20000 in
theorem ggX3_input_X3_findTopmost : GoodIn wsX3_input wsX3_findTopmost := goodIn_ca (goodIn_r _ [8, 9, 10, 11, 12, 13, 7, 14, 42, 43, 44, 45, 46, 47, 48, 49] (by decide +kernel) (by decide +kernel)) (goodIn_sub (fun _ h => List.mem_cons_of_mem _ (List.mem_append_right _ h)) (by decide +kernel))
set_option maxRecDepth 20000 in
theorem gX3_input_X3_findTopmost : GoodIn wsX3_input (wsV RX3 133 RX3 yX3_findTopmost wsX3_findTopmost) := goodIn_app (goodIn_of _ (by decide +kernel)) ggX3_input_X3_findTopmost
set_option maxRecDepth 20000 in
theorem ggX3_input_X0_hurry : GoodIn wsX3_input wsX0_hurry := goodIn_r _ [19, 20, 21, 22, 23, 24, 25, 18, 26, 27, 50, 51, 52, 53, 54, 55, 56, 57, 58] (by decide +kernel) (by decide +kernel)
set_option maxRecDepth 20000 in
theorem gX3_input_X0_hurry : GoodIn wsX3_input (wsV RX3 145 RX0 yX0_hurry wsX0_hurry) := goodIn_app (goodIn_of _ (by decide +kernel)) ggX3_input_X0_hurry
set_option maxRecDepth 20000 in
theorem ggX3_input_X3_numberOf : GoodIn wsX3_input wsX3_numberOf := goodIn_r _ [30, 31, 32, 33, 34, 35, 36, 37, 38, 39, 40, 41] (by decide +kernel) (by decide +kernel)
set_option maxRecDepth 20000 in
theorem gX3_input_X3_numberOf : GoodIn wsX3_input (va_wsS RX3 148 yX3_numberOf wsX3_numberOf) := goodIn_app (goodIn_of _ (by decide +kernel)) ggX3_input_X3_numberOf
theorem dX3_input_0 : decode cX3_input 0 = .ok (.aload_n 0, 1) := by decide +kernel
theorem dX3_input_1 : decode cX3_input 1 = .ok (.iload_n 1, 1) := by decide +kernel
theorem dX3_input_2 : decode cX3_input 2 = .ok (.iload_n 2, 1) := by decide +kernel
theorem dX3_input_3 : decode cX3_input 3 = .ok (.invokevirtual 133, 3) := by decide +kernel
theorem dX3_input_6 : decode cX3_input 6 = .ok (.astore_n 3, 1) := by decide +kernel
theorem dX3_input_7 : decode cX3_input 7 = .ok (.aload_n 3, 1) := by decide +kernel
theorem dX3_input_8 : decode cX3_input 8 = .ok (.ifnull 21, 3) := by decide +kernel
theorem dX3_input_11 : decode cX3_input 11 = .ok (.aload_n 3, 1) := by decide +kernel
theorem dX3_input_12 : decode cX3_input 12 = .ok (.getfield 137, 3) := by decide +kernel
theorem dX3_input_15 : decode cX3_input 15 = .ok (.ifCond .eq 14, 3) := by decide +kernel
theorem dX3_input_18 : decode cX3_input 18 = .ok (.aload_n 3, 1) := by decide +kernel
theorem dX3_input_19 : decode cX3_input 19 = .ok (.getfield 141, 3) := by decide +kernel
theorem dX3_input_22 : decode cX3_input 22 = .ok (.aload_n 0, 1) := by decide +kernel
theorem dX3_input_23 : decode cX3_input 23 = .ok (.getfield 39, 3) := by decide +kernel
theorem dX3_input_26 : decode cX3_input 26 = .ok (.invokevirtual 145, 3) := by decide +kernel
theorem dX3_input_29 : decode cX3_input 29 = .ok (.aload_n 3, 1) := by decide +kernel
theorem dX3_input_30 : decode cX3_input 30 = .ok (.invokestatic 148, 3) := by decide +kernel
theorem dX3_input_33 : decode cX3_input 33 = .ok (.ireturn, 1) := by decide +kernel
set_option maxRecDepth 20000 in
theorem ggX3_show_X3_countDamage : GoodIn wsX3_show wsX3_countDamage := goodIn_r _ [5, 6, 7, 8, 9, 10, 4, 11, 12, 13, 14, 15, 16, 21, 22, 23, 24, 25, 26, 27, 28, 29, 30, 31, 32, 33, 34, 35, 36, 37, 38] (by decide +kernel) (by decide +kernel)
set_option maxRecDepth 20000 in
theorem gX3_show_X3_countDamage : GoodIn wsX3_show (wsV RX3 152 RX3 yX3_countDamage wsX3_countDamage) := goodIn_app (goodIn_of _ (by decide +kernel)) ggX3_show_X3_countDamage
set_option maxRecDepth 20000 in
theorem ggX3_show_X3_rememberScreen : GoodIn wsX3_show wsX3_rememberScreen := goodIn_r _ [20, 6, 7, 8, 9, 10, 4, 11, 12, 13, 14, 15, 16, 21, 22, 23, 24, 25, 26, 27, 28, 29, 30, 31, 32, 33, 34, 35, 36, 37, 38] (by decide +kernel) (by decide +kernel)
set_option maxRecDepth 20000 in
theorem gX3_show_X3_rememberScreen : GoodIn wsX3_show (wsV RX3 155 RX3 yX3_rememberScreen wsX3_rememberScreen) := goodIn_app (goodIn_of _ (by decide +kernel)) ggX3_show_X3_rememberScreen
theorem dX3_show_0 : decode cX3_show 0 = .ok (.aload_n 0, 1) := by decide +kernel
theorem dX3_show_1 : decode cX3_show 1 = .ok (.invokevirtual 152, 3) := by decide +kernel
theorem dX3_show_4 : decode cX3_show 4 = .ok (.istore_n 1, 1) := by decide +kernel
theorem dX3_show_5 : decode cX3_show 5 = .ok (.aload_n 0, 1) := by decide +kernel
theorem dX3_show_6 : decode cX3_show 6 = .ok (.invokevirtual 155, 3) := by decide +kernel
theorem dX3_show_9 : decode cX3_show 9 = .ok (.iload_n 1, 1) := by decide +kernel
theorem dX3_show_10 : decode cX3_show 10 = .ok (.ireturn, 1) := by decide +kernel
theorem dX3_tick_0 : decode cX3_tick 0 = .ok (.aload_n 0, 1) := by decide +kernel
theorem dX3_tick_1 : decode cX3_tick 1 = .ok (.getfield 39, 3) := by decide +kernel
theorem dX3_tick_4 : decode cX3_tick 4 = .ok (.ireturn, 1) := by decide +kernel
set_option maxRecDepth 20000 in
theorem ggX3_windows_X2_count : GoodIn wsX3_windows wsX2_count := goodIn_r _ [6, 7, 16, 17] (by decide +kernel) (by decide +kernel)
set_option maxRecDepth 20000 in
theorem gX3_windows_X2_count : GoodIn wsX3_windows (wsV RX3 59 RX2 yX2_count wsX2_count) := goodIn_app (goodIn_of _ (by decide +kernel)) ggX3_windows_X2_count
theorem dX3_windows_0 : decode cX3_windows 0 = .ok (.aload_n 0, 1) := by decide +kernel
theorem dX3_windows_1 : decode cX3_windows 1 = .ok (.getfield 16, 3) := by decide +kernel
theorem dX3_windows_4 : decode cX3_windows 4 = .ok (.invokevirtual 59, 3) := by decide +kernel
theorem dX3_windows_7 : decode cX3_windows 7 = .ok (.ireturn, 1) := by decide +kernel
theorem dX3_free_0 : decode cX3_free 0 = .ok (.aload_n 0, 1) := by decide +kernel
theorem dX3_free_1 : decode cX3_free 1 = .ok (.getfield 36, 3) := by decide +kernel
theorem dX3_free_4 : decode cX3_free 4 = .ok (.ireturn, 1) := by decide +kernel
set_option maxRecDepth 20000 in
theorem ggX3_damage_X3_countDamage : GoodIn wsX3_damage wsX3_countDamage := goodIn_r _ [5, 6, 7, 8, 9, 10, 4, 11, 12, 13, 14, 15, 16, 17, 18, 19, 20, 21, 22, 23, 24, 25, 26, 27, 28, 29, 30, 31, 32, 33, 34] (by decide +kernel) (by decide +kernel)
set_option maxRecDepth 20000 in
theorem gX3_damage_X3_countDamage : GoodIn wsX3_damage (wsV RX3 152 RX3 yX3_countDamage wsX3_countDamage) := goodIn_app (goodIn_of _ (by decide +kernel)) ggX3_damage_X3_countDamage
theorem dX3_damage_0 : decode cX3_damage 0 = .ok (.aload_n 0, 1) := by decide +kernel
theorem dX3_damage_1 : decode cX3_damage 1 = .ok (.invokevirtual 152, 3) := by decide +kernel
theorem dX3_damage_4 : decode cX3_damage 4 = .ok (.ireturn, 1) := by decide +kernel
set_option maxRecDepth 20000 in
theorem ggX3_at_X3_findTopmost : GoodIn wsX3_at wsX3_findTopmost := goodIn_ca (goodIn_r _ [5, 6, 7, 8, 9, 10, 4, 11, 16, 17, 18, 19, 20, 21, 22, 23] (by decide +kernel) (by decide +kernel)) (goodIn_sub (fun _ h => List.mem_cons_of_mem _ (List.mem_append_right _ h)) (by decide +kernel))
set_option maxRecDepth 20000 in
theorem gX3_at_X3_findTopmost : GoodIn wsX3_at (wsV RX3 133 RX3 yX3_findTopmost wsX3_findTopmost) := goodIn_app (goodIn_of _ (by decide +kernel)) ggX3_at_X3_findTopmost
set_option maxRecDepth 20000 in
theorem ggX3_at_X3_numberOf : GoodIn wsX3_at wsX3_numberOf := goodIn_r _ [14, 15, 24, 25, 26, 27, 28, 29, 30, 31, 32, 33] (by decide +kernel) (by decide +kernel)
set_option maxRecDepth 20000 in
theorem gX3_at_X3_numberOf : GoodIn wsX3_at (va_wsS RX3 148 yX3_numberOf wsX3_numberOf) := goodIn_app (goodIn_of _ (by decide +kernel)) ggX3_at_X3_numberOf
theorem dX3_at_0 : decode cX3_at 0 = .ok (.aload_n 0, 1) := by decide +kernel
theorem dX3_at_1 : decode cX3_at 1 = .ok (.iload_n 1, 1) := by decide +kernel
theorem dX3_at_2 : decode cX3_at 2 = .ok (.iload_n 2, 1) := by decide +kernel
theorem dX3_at_3 : decode cX3_at 3 = .ok (.invokevirtual 133, 3) := by decide +kernel
theorem dX3_at_6 : decode cX3_at 6 = .ok (.invokestatic 148, 3) := by decide +kernel
theorem dX3_at_9 : decode cX3_at 9 = .ok (.ireturn, 1) := by decide +kernel
set_option maxRecDepth 20000 in
theorem ggX3_placeOf_X3_find : GoodIn wsX3_placeOf wsX3_find := goodIn_ca (goodIn_r _ [7, 8, 9, 10, 11, 12, 13, 14, 15, 16, 17, 18, 19, 20, 21, 22, 23, 24, 25, 26, 27, 28, 29, 40, 41, 30, 31, 32, 33, 34, 35, 36, 37, 38, 39] (by decide +kernel) (by decide +kernel)) (goodIn_sub (fun _ h => List.mem_cons_of_mem _ (List.mem_append_right _ h)) (by decide +kernel))
set_option maxRecDepth 20000 in
theorem gX3_placeOf_X3_find : GoodIn wsX3_placeOf (wsV RX3 92 RX3 yX3_find wsX3_find) := goodIn_app (goodIn_of _ (by decide +kernel)) ggX3_placeOf_X3_find
set_option maxRecDepth 20000 in
theorem ggX3_placeOf_X2_indexOf : GoodIn wsX3_placeOf wsX2_indexOf := goodIn_r _ [15, 16, 17, 40, 41, 30, 31, 32, 33, 34, 35, 36, 37, 38, 39] (by decide +kernel) (by decide +kernel)
set_option maxRecDepth 20000 in
theorem gX3_placeOf_X2_indexOf : GoodIn wsX3_placeOf (wsV RX3 118 RX2 yX2_indexOf wsX2_indexOf) := goodIn_app (goodIn_of _ (by decide +kernel)) ggX3_placeOf_X2_indexOf
theorem dX3_placeOf_0 : decode cX3_placeOf 0 = .ok (.aload_n 0, 1) := by decide +kernel
theorem dX3_placeOf_1 : decode cX3_placeOf 1 = .ok (.getfield 16, 3) := by decide +kernel
theorem dX3_placeOf_4 : decode cX3_placeOf 4 = .ok (.aload_n 0, 1) := by decide +kernel
theorem dX3_placeOf_5 : decode cX3_placeOf 5 = .ok (.iload_n 1, 1) := by decide +kernel
theorem dX3_placeOf_6 : decode cX3_placeOf 6 = .ok (.invokevirtual 92, 3) := by decide +kernel
theorem dX3_placeOf_9 : decode cX3_placeOf 9 = .ok (.getfield 89, 3) := by decide +kernel
theorem dX3_placeOf_12 : decode cX3_placeOf 12 = .ok (.invokevirtual 118, 3) := by decide +kernel
theorem dX3_placeOf_15 : decode cX3_placeOf 15 = .ok (.ireturn, 1) := by decide +kernel
set_option maxRecDepth 20000 in
theorem ggX3_isSeen_X3_find : GoodIn wsX3_isSeen wsX3_find := goodIn_ca (goodIn_r _ [6, 7, 8, 9, 10, 11, 12, 13, 14, 15, 16, 17, 18, 19, 20, 31, 32, 33, 34, 35, 36, 37, 38, 39, 40, 21, 22, 23, 24, 25, 26, 27, 28, 29, 30] (by decide +kernel) (by decide +kernel)) (goodIn_sub (fun _ h => List.mem_cons_of_mem _ (List.mem_append_right _ h)) (by decide +kernel))
set_option maxRecDepth 20000 in
theorem gX3_isSeen_X3_find : GoodIn wsX3_isSeen (wsV RX3 92 RX3 yX3_find wsX3_find) := goodIn_app (goodIn_of _ (by decide +kernel)) ggX3_isSeen_X3_find
theorem dX3_isSeen_0 : decode cX3_isSeen 0 = .ok (.aload_n 0, 1) := by decide +kernel
theorem dX3_isSeen_1 : decode cX3_isSeen 1 = .ok (.iload_n 1, 1) := by decide +kernel
theorem dX3_isSeen_2 : decode cX3_isSeen 2 = .ok (.invokevirtual 92, 3) := by decide +kernel
theorem dX3_isSeen_5 : decode cX3_isSeen 5 = .ok (.getfield 158, 3) := by decide +kernel
theorem dX3_isSeen_8 : decode cX3_isSeen 8 = .ok (.ireturn, 1) := by decide +kernel
set_option maxRecDepth 20000 in
theorem ggX3_pagesOf_X3_find : GoodIn wsX3_pagesOf wsX3_find := goodIn_ca (goodIn_r _ [5, 6, 7, 8, 9, 10, 11, 12, 13, 14, 15, 16, 17, 18, 19, 32, 33, 34, 35, 36, 37, 38, 39, 40, 41, 42, 43, 44, 45, 46, 47, 48, 49, 50, 51] (by decide +kernel) (by decide +kernel)) (goodIn_sub (fun _ h => List.mem_cons_of_mem _ (List.mem_append_right _ h)) (by decide +kernel))
set_option maxRecDepth 20000 in
theorem gX3_pagesOf_X3_find : GoodIn wsX3_pagesOf (wsV RX3 92 RX3 yX3_find wsX3_find) := goodIn_app (goodIn_of _ (by decide +kernel)) ggX3_pagesOf_X3_find
set_option maxRecDepth 20000 in
theorem ggX3_pagesOf_X1_pagesHeld : GoodIn wsX3_pagesOf wsX1_pagesHeld := goodIn_r _ [24, 25, 26, 27, 28, 23, 29, 30, 31, 42, 43, 44, 45, 46, 47, 48, 49, 50, 51] (by decide +kernel) (by decide +kernel)
set_option maxRecDepth 20000 in
theorem gX3_pagesOf_X1_pagesHeld : GoodIn wsX3_pagesOf (wsV RX3 100 RX1 yX1_pagesHeld wsX1_pagesHeld) := goodIn_app (goodIn_of _ (by decide +kernel)) ggX3_pagesOf_X1_pagesHeld
theorem dX3_pagesOf_0 : decode cX3_pagesOf 0 = .ok (.aload_n 0, 1) := by decide +kernel
theorem dX3_pagesOf_1 : decode cX3_pagesOf 1 = .ok (.iload_n 1, 1) := by decide +kernel
theorem dX3_pagesOf_2 : decode cX3_pagesOf 2 = .ok (.invokevirtual 92, 3) := by decide +kernel
theorem dX3_pagesOf_5 : decode cX3_pagesOf 5 = .ok (.invokevirtual 100, 3) := by decide +kernel
theorem dX3_pagesOf_8 : decode cX3_pagesOf 8 = .ok (.ireturn, 1) := by decide +kernel
set_option maxRecDepth 20000 in
theorem ggX3_picture_X3_find : GoodIn wsX3_picture wsX3_find := goodIn_ca (goodIn_r _ [6, 7, 8, 9, 10, 11, 12, 13, 14, 15, 16, 17, 18, 19, 20, 31, 32, 33, 34, 35, 36, 37, 38, 39, 40, 21, 22, 23, 24, 25, 26, 27, 28, 29, 30] (by decide +kernel) (by decide +kernel)) (goodIn_sub (fun _ h => List.mem_cons_of_mem _ (List.mem_append_right _ h)) (by decide +kernel))
set_option maxRecDepth 20000 in
theorem gX3_picture_X3_find : GoodIn wsX3_picture (wsV RX3 92 RX3 yX3_find wsX3_find) := goodIn_app (goodIn_of _ (by decide +kernel)) ggX3_picture_X3_find
theorem dX3_picture_0 : decode cX3_picture 0 = .ok (.aload_n 0, 1) := by decide +kernel
theorem dX3_picture_1 : decode cX3_picture 1 = .ok (.iload_n 1, 1) := by decide +kernel
theorem dX3_picture_2 : decode cX3_picture 2 = .ok (.invokevirtual 92, 3) := by decide +kernel
theorem dX3_picture_5 : decode cX3_picture 5 = .ok (.getfield 161, 3) := by decide +kernel
theorem dX3_picture_8 : decode cX3_picture 8 = .ok (.ireturn, 1) := by decide +kernel
set_option maxRecDepth 20000 in
theorem ggX3_pace_X3_find : GoodIn wsX3_pace wsX3_find := goodIn_ca (goodIn_r _ [7, 8, 9, 10, 11, 12, 13, 14, 15, 16, 17, 18, 19, 20, 21, 41, 42, 43, 44, 45, 46, 47, 48, 49, 50, 22, 23, 24, 25, 26, 27, 28, 29, 30, 31] (by decide +kernel) (by decide +kernel)) (goodIn_sub (fun _ h => List.mem_cons_of_mem _ (List.mem_append_right _ h)) (by decide +kernel))
set_option maxRecDepth 20000 in
theorem gX3_pace_X3_find : GoodIn wsX3_pace (wsV RX3 92 RX3 yX3_find wsX3_find) := goodIn_app (goodIn_of _ (by decide +kernel)) ggX3_pace_X3_find
theorem dX3_pace_0 : decode cX3_pace 0 = .ok (.aload_n 0, 1) := by decide +kernel
theorem dX3_pace_1 : decode cX3_pace 1 = .ok (.iload_n 1, 1) := by decide +kernel
theorem dX3_pace_2 : decode cX3_pace 2 = .ok (.invokevirtual 92, 3) := by decide +kernel
theorem dX3_pace_5 : decode cX3_pace 5 = .ok (.getfield 141, 3) := by decide +kernel
theorem dX3_pace_8 : decode cX3_pace 8 = .ok (.getfield 164, 3) := by decide +kernel
theorem dX3_pace_11 : decode cX3_pace 11 = .ok (.ireturn, 1) := by decide +kernel
set_option maxRecDepth 20000 in
theorem ggX3_misses_X3_find : GoodIn wsX3_misses wsX3_find := goodIn_ca (goodIn_r _ [7, 8, 9, 10, 11, 12, 13, 14, 15, 16, 17, 18, 19, 20, 21, 41, 42, 43, 44, 45, 46, 47, 48, 49, 50, 22, 23, 24, 25, 26, 27, 28, 29, 30, 31] (by decide +kernel) (by decide +kernel)) (goodIn_sub (fun _ h => List.mem_cons_of_mem _ (List.mem_append_right _ h)) (by decide +kernel))
set_option maxRecDepth 20000 in
theorem gX3_misses_X3_find : GoodIn wsX3_misses (wsV RX3 92 RX3 yX3_find wsX3_find) := goodIn_app (goodIn_of _ (by decide +kernel)) ggX3_misses_X3_find
theorem dX3_misses_0 : decode cX3_misses 0 = .ok (.aload_n 0, 1) := by decide +kernel
theorem dX3_misses_1 : decode cX3_misses 1 = .ok (.iload_n 1, 1) := by decide +kernel
theorem dX3_misses_2 : decode cX3_misses 2 = .ok (.invokevirtual 92, 3) := by decide +kernel
theorem dX3_misses_5 : decode cX3_misses 5 = .ok (.getfield 141, 3) := by decide +kernel
theorem dX3_misses_8 : decode cX3_misses 8 = .ok (.getfield 167, 3) := by decide +kernel
theorem dX3_misses_11 : decode cX3_misses 11 = .ok (.ireturn, 1) := by decide +kernel
set_option maxRecDepth 20000 in
theorem ggX3_deadline_X3_find : GoodIn wsX3_deadline wsX3_find := goodIn_ca (goodIn_r _ [8, 9, 10, 11, 12, 13, 14, 15, 16, 17, 18, 19, 20, 21, 22, 42, 43, 44, 45, 46, 47, 48, 49, 50, 51, 23, 24, 25, 26, 27, 28, 29, 30, 31, 32] (by decide +kernel) (by decide +kernel)) (goodIn_sub (fun _ h => List.mem_cons_of_mem _ (List.mem_append_right _ h)) (by decide +kernel))
set_option maxRecDepth 20000 in
theorem gX3_deadline_X3_find : GoodIn wsX3_deadline (wsV RX3 92 RX3 yX3_find wsX3_find) := goodIn_app (goodIn_of _ (by decide +kernel)) ggX3_deadline_X3_find
theorem dX3_deadline_0 : decode cX3_deadline 0 = .ok (.aload_n 0, 1) := by decide +kernel
theorem dX3_deadline_1 : decode cX3_deadline 1 = .ok (.iload_n 1, 1) := by decide +kernel
theorem dX3_deadline_2 : decode cX3_deadline 2 = .ok (.invokevirtual 92, 3) := by decide +kernel
theorem dX3_deadline_5 : decode cX3_deadline 5 = .ok (.getfield 141, 3) := by decide +kernel
theorem dX3_deadline_8 : decode cX3_deadline 8 = .ok (.astore_n 2, 1) := by decide +kernel
theorem dX3_deadline_9 : decode cX3_deadline 9 = .ok (.aload_n 2, 1) := by decide +kernel
theorem dX3_deadline_10 : decode cX3_deadline 10 = .ok (.getfield 170, 3) := by decide +kernel
theorem dX3_deadline_13 : decode cX3_deadline 13 = .ok (.ifCond .eq 10, 3) := by decide +kernel
theorem dX3_deadline_16 : decode cX3_deadline 16 = .ok (.aload_n 2, 1) := by decide +kernel
theorem dX3_deadline_17 : decode cX3_deadline 17 = .ok (.getfield 173, 3) := by decide +kernel
theorem dX3_deadline_20 : decode cX3_deadline 20 = .ok (.goto 4, 3) := by decide +kernel
theorem dX3_deadline_23 : decode cX3_deadline 23 = .ok (.iconst (-1), 1) := by decide +kernel
theorem dX3_deadline_24 : decode cX3_deadline 24 = .ok (.ireturn, 1) := by decide +kernel
set_option maxRecDepth 20000 in
theorem ggX3_find_X2_indexOf : GoodIn wsX3_find wsX2_indexOf := goodIn_r _ [8, 9, 10, 23, 24, 25, 26, 27, 28, 29, 30, 31, 32, 33, 34] (by decide +kernel) (by decide +kernel)
set_option maxRecDepth 20000 in
theorem gX3_find_X2_indexOf : GoodIn wsX3_find (wsV RX3 118 RX2 yX2_indexOf wsX2_indexOf) := goodIn_app (goodIn_of _ (by decide +kernel)) ggX3_find_X2_indexOf
set_option maxRecDepth 20000 in
theorem ggX3_find_X2_get : GoodIn wsX3_find wsX2_get := goodIn_r _ [14, 9, 23, 24] (by decide +kernel) (by decide +kernel)
set_option maxRecDepth 20000 in
theorem gX3_find_X2_get : GoodIn wsX3_find (wsV RX3 176 RX2 yX2_get wsX2_get) := goodIn_app (goodIn_of _ (by decide +kernel)) ggX3_find_X2_get
theorem dX3_find_0 : decode cX3_find 0 = .ok (.aload_n 0, 1) := by decide +kernel
theorem dX3_find_1 : decode cX3_find 1 = .ok (.getfield 10, 3) := by decide +kernel
theorem dX3_find_4 : decode cX3_find 4 = .ok (.aload_n 0, 1) := by decide +kernel
theorem dX3_find_5 : decode cX3_find 5 = .ok (.getfield 10, 3) := by decide +kernel
theorem dX3_find_8 : decode cX3_find 8 = .ok (.iload_n 1, 1) := by decide +kernel
theorem dX3_find_9 : decode cX3_find 9 = .ok (.invokevirtual 118, 3) := by decide +kernel
theorem dX3_find_12 : decode cX3_find 12 = .ok (.invokevirtual 176, 3) := by decide +kernel
theorem dX3_find_15 : decode cX3_find 15 = .ok (.astore_n 2, 1) := by decide +kernel
theorem dX3_find_16 : decode cX3_find 16 = .ok (.aload_n 2, 1) := by decide +kernel
theorem dX3_find_17 : decode cX3_find 17 = .ok (.ifnonnull 13, 3) := by decide +kernel
theorem dX3_find_20 : decode cX3_find 20 = .ok (.new 179, 3) := by decide +kernel
theorem dX3_find_23 : decode cX3_find 23 = .ok (.dup, 1) := by decide +kernel
theorem dX3_find_24 : decode cX3_find 24 = .ok (.ldc 181, 2) := by decide +kernel
theorem dX3_find_26 : decode cX3_find 26 = .ok (.invokespecial 183, 3) := by decide +kernel
theorem dX3_find_29 : decode cX3_find 29 = .ok (.athrow, 1) := by decide +kernel
theorem dX3_find_30 : decode cX3_find 30 = .ok (.aload_n 2, 1) := by decide +kernel
theorem dX3_find_31 : decode cX3_find 31 = .ok (.areturn, 1) := by decide +kernel
set_option maxRecDepth 20000 in
theorem ggX3_findTopmost_X3_isCell : GoodIn wsX3_findTopmost wsX3_isCell := goodIn_r _ [7] (by decide +kernel) (by decide +kernel)
set_option maxRecDepth 20000 in
theorem gX3_findTopmost_X3_isCell : GoodIn wsX3_findTopmost (va_wsS RX3 42 yX3_isCell wsX3_isCell) := goodIn_app (goodIn_of _ (by decide +kernel)) ggX3_findTopmost_X3_isCell
theorem dX3_findTopmost_0 : decode cX3_findTopmost 0 = .ok (.iload_n 1, 1) := by decide +kernel
theorem dX3_findTopmost_1 : decode cX3_findTopmost 1 = .ok (.iload_n 2, 1) := by decide +kernel
theorem dX3_findTopmost_2 : decode cX3_findTopmost 2 = .ok (.invokestatic 42, 3) := by decide +kernel
theorem dX3_findTopmost_5 : decode cX3_findTopmost 5 = .ok (.ifCond .ne 13, 3) := by decide +kernel
theorem dX3_findTopmost_8 : decode cX3_findTopmost 8 = .ok (.new 179, 3) := by decide +kernel
theorem dX3_findTopmost_11 : decode cX3_findTopmost 11 = .ok (.dup, 1) := by decide +kernel
theorem dX3_findTopmost_12 : decode cX3_findTopmost 12 = .ok (.ldc 184, 2) := by decide +kernel
theorem dX3_findTopmost_14 : decode cX3_findTopmost 14 = .ok (.invokespecial 183, 3) := by decide +kernel
theorem dX3_findTopmost_17 : decode cX3_findTopmost 17 = .ok (.athrow, 1) := by decide +kernel
theorem dX3_findTopmost_18 : decode cX3_findTopmost 18 = .ok (.aload_n 0, 1) := by decide +kernel
theorem dX3_findTopmost_19 : decode cX3_findTopmost 19 = .ok (.getfield 21, 3) := by decide +kernel
theorem dX3_findTopmost_22 : decode cX3_findTopmost 22 = .ok (.iload_n 2, 1) := by decide +kernel
theorem dX3_findTopmost_23 : decode cX3_findTopmost 23 = .ok (.bipush 8, 2) := by decide +kernel
theorem dX3_findTopmost_25 : decode cX3_findTopmost 25 = .ok (.imul, 1) := by decide +kernel
theorem dX3_findTopmost_26 : decode cX3_findTopmost 26 = .ok (.iload_n 1, 1) := by decide +kernel
theorem dX3_findTopmost_27 : decode cX3_findTopmost 27 = .ok (.iadd, 1) := by decide +kernel
theorem dX3_findTopmost_28 : decode cX3_findTopmost 28 = .ok (.aaload, 1) := by decide +kernel
theorem dX3_findTopmost_29 : decode cX3_findTopmost 29 = .ok (.areturn, 1) := by decide +kernel
theorem dX3_numberOf_0 : decode cX3_numberOf 0 = .ok (.aload_n 0, 1) := by decide +kernel
theorem dX3_numberOf_1 : decode cX3_numberOf 1 = .ok (.ifnonnull 7, 3) := by decide +kernel
theorem dX3_numberOf_4 : decode cX3_numberOf 4 = .ok (.iconst (-1), 1) := by decide +kernel
theorem dX3_numberOf_5 : decode cX3_numberOf 5 = .ok (.goto 7, 3) := by decide +kernel
theorem dX3_numberOf_8 : decode cX3_numberOf 8 = .ok (.aload_n 0, 1) := by decide +kernel
theorem dX3_numberOf_9 : decode cX3_numberOf 9 = .ok (.getfield 89, 3) := by decide +kernel
theorem dX3_numberOf_12 : decode cX3_numberOf 12 = .ok (.ireturn, 1) := by decide +kernel
theorem dX3_pictureOf_0 : decode cX3_pictureOf 0 = .ok (.aload_n 0, 1) := by decide +kernel
theorem dX3_pictureOf_1 : decode cX3_pictureOf 1 = .ok (.ifnonnull 7, 3) := by decide +kernel
theorem dX3_pictureOf_4 : decode cX3_pictureOf 4 = .ok (.iconst 0, 1) := by decide +kernel
theorem dX3_pictureOf_5 : decode cX3_pictureOf 5 = .ok (.goto 7, 3) := by decide +kernel
theorem dX3_pictureOf_8 : decode cX3_pictureOf 8 = .ok (.aload_n 0, 1) := by decide +kernel
theorem dX3_pictureOf_9 : decode cX3_pictureOf 9 = .ok (.getfield 161, 3) := by decide +kernel
theorem dX3_pictureOf_12 : decode cX3_pictureOf 12 = .ok (.ireturn, 1) := by decide +kernel
theorem dX3_isCell_0 : decode cX3_isCell 0 = .ok (.iload_n 0, 1) := by decide +kernel
theorem dX3_isCell_1 : decode cX3_isCell 1 = .ok (.ifCond .lt 23, 3) := by decide +kernel
theorem dX3_isCell_4 : decode cX3_isCell 4 = .ok (.iload_n 0, 1) := by decide +kernel
theorem dX3_isCell_5 : decode cX3_isCell 5 = .ok (.bipush 8, 2) := by decide +kernel
theorem dX3_isCell_7 : decode cX3_isCell 7 = .ok (.if_icmp .ge 17, 3) := by decide +kernel
theorem dX3_isCell_10 : decode cX3_isCell 10 = .ok (.iload_n 1, 1) := by decide +kernel
theorem dX3_isCell_11 : decode cX3_isCell 11 = .ok (.ifCond .lt 13, 3) := by decide +kernel
theorem dX3_isCell_14 : decode cX3_isCell 14 = .ok (.iload_n 1, 1) := by decide +kernel
theorem dX3_isCell_15 : decode cX3_isCell 15 = .ok (.bipush 6, 2) := by decide +kernel
theorem dX3_isCell_17 : decode cX3_isCell 17 = .ok (.if_icmp .ge 7, 3) := by decide +kernel
theorem dX3_isCell_20 : decode cX3_isCell 20 = .ok (.iconst 1, 1) := by decide +kernel
theorem dX3_isCell_21 : decode cX3_isCell 21 = .ok (.goto 4, 3) := by decide +kernel
theorem dX3_isCell_24 : decode cX3_isCell 24 = .ok (.iconst 0, 1) := by decide +kernel
theorem dX3_isCell_25 : decode cX3_isCell 25 = .ok (.ireturn, 1) := by decide +kernel
theorem dX3_fits_0 : decode cX3_fits 0 = .ok (.iload_n 2, 1) := by decide +kernel
theorem dX3_fits_1 : decode cX3_fits 1 = .ok (.bipush 8, 2) := by decide +kernel
theorem dX3_fits_3 : decode cX3_fits 3 = .ok (.iload_n 0, 1) := by decide +kernel
theorem dX3_fits_4 : decode cX3_fits 4 = .ok (.isub, 1) := by decide +kernel
theorem dX3_fits_5 : decode cX3_fits 5 = .ok (.if_icmp .gt 15, 3) := by decide +kernel
theorem dX3_fits_8 : decode cX3_fits 8 = .ok (.iload_n 3, 1) := by decide +kernel
theorem dX3_fits_9 : decode cX3_fits 9 = .ok (.bipush 6, 2) := by decide +kernel
theorem dX3_fits_11 : decode cX3_fits 11 = .ok (.iload_n 1, 1) := by decide +kernel
theorem dX3_fits_12 : decode cX3_fits 12 = .ok (.isub, 1) := by decide +kernel
theorem dX3_fits_13 : decode cX3_fits 13 = .ok (.if_icmp .gt 7, 3) := by decide +kernel
theorem dX3_fits_16 : decode cX3_fits 16 = .ok (.iconst 1, 1) := by decide +kernel
theorem dX3_fits_17 : decode cX3_fits 17 = .ok (.goto 4, 3) := by decide +kernel
theorem dX3_fits_20 : decode cX3_fits 20 = .ok (.iconst 0, 1) := by decide +kernel
theorem dX3_fits_21 : decode cX3_fits 21 = .ok (.ireturn, 1) := by decide +kernel
set_option maxRecDepth 20000 in
theorem ggX3_rearrange_X3_lookAtScreen : GoodIn wsX3_rearrange wsX3_lookAtScreen := goodIn_r _ [5, 6, 7, 8, 9, 10, 11, 12, 13, 14, 15, 16, 17, 18, 19, 20, 21, 22, 23, 24, 25, 26, 27, 28, 29, 30, 31, 32, 33, 34, 72, 73, 74, 75, 76, 77, 78, 79, 80, 81, 82, 83, 84, 85, 86, 87, 88, 89, 90, 91] (by decide +kernel) (by decide +kernel)
set_option maxRecDepth 20000 in
theorem gX3_rearrange_X3_lookAtScreen : GoodIn wsX3_rearrange (wsV RX3 186 RX3 yX3_lookAtScreen wsX3_lookAtScreen) := goodIn_app (goodIn_of _ (by decide +kernel)) ggX3_rearrange_X3_lookAtScreen
set_option maxRecDepth 20000 in
theorem ggX3_rearrange_X3_lendToSeen : GoodIn wsX3_rearrange wsX3_lendToSeen := goodIn_r _ [38, 6, 7, 39, 9, 10, 11, 12, 13, 14, 15, 16, 17, 18, 19, 40, 41, 42, 4, 43, 44, 45, 46, 47, 28, 48, 31, 33, 49, 50, 51, 52, 53, 54, 55, 56, 57, 58, 59, 60, 61, 62, 63, 64, 65, 66, 67, 68, 69, 70, 71, 72, 73, 74, 75, 76, 77, 78, 79, 80, 81, 82, 83, 84, 85, 86, 87, 88, 89, 90, 91, 92, 93, 94, 95, 96, 97, 98, 99, 100] (by decide +kernel) (by decide +kernel)
set_option maxRecDepth 20000 in
theorem gX3_rearrange_X3_lendToSeen : GoodIn wsX3_rearrange (wsV RX3 86 RX3 yX3_lendToSeen wsX3_lendToSeen) := goodIn_app (goodIn_of _ (by decide +kernel)) ggX3_rearrange_X3_lendToSeen
theorem dX3_rearrange_0 : decode cX3_rearrange 0 = .ok (.aload_n 0, 1) := by decide +kernel
theorem dX3_rearrange_1 : decode cX3_rearrange 1 = .ok (.invokevirtual 186, 3) := by decide +kernel
theorem dX3_rearrange_4 : decode cX3_rearrange 4 = .ok (.aload_n 0, 1) := by decide +kernel
theorem dX3_rearrange_5 : decode cX3_rearrange 5 = .ok (.invokevirtual 86, 3) := by decide +kernel
theorem dX3_rearrange_8 : decode cX3_rearrange 8 = .ok (.return_, 1) := by decide +kernel
set_option maxRecDepth 20000 in
theorem ggX3_lookAtScreen_X2_count : GoodIn wsX3_lookAtScreen wsX2_count := goodIn_r _ [8, 9, 48, 49] (by decide +kernel) (by decide +kernel)
set_option maxRecDepth 20000 in
theorem gX3_lookAtScreen_X2_count : GoodIn wsX3_lookAtScreen (wsV RX3 59 RX2 yX2_count wsX2_count) := goodIn_app (goodIn_of _ (by decide +kernel)) ggX3_lookAtScreen_X2_count
set_option maxRecDepth 20000 in
theorem ggX3_lookAtScreen_X2_get : GoodIn wsX3_lookAtScreen wsX2_get := goodIn_r _ [13, 14, 48, 49] (by decide +kernel) (by decide +kernel)
set_option maxRecDepth 20000 in
theorem gX3_lookAtScreen_X2_get : GoodIn wsX3_lookAtScreen (wsV RX3 176 RX2 yX2_get wsX2_get) := goodIn_app (goodIn_of _ (by decide +kernel)) ggX3_lookAtScreen_X2_get
set_option maxRecDepth 20000 in
theorem ggX3_lookAtScreen_X2_topmostOver : GoodIn wsX3_lookAtScreen wsX2_topmostOver := goodIn_r _ [18, 9, 19, 11, 12, 7, 13, 14, 20, 21, 22, 23, 24, 25, 26, 27, 28, 29, 48, 49, 38, 39, 40, 41, 42, 43, 44, 45, 46, 47] (by decide +kernel) (by decide +kernel)
set_option maxRecDepth 20000 in
theorem gX3_lookAtScreen_X2_topmostOver : GoodIn wsX3_lookAtScreen (wsV RX3 189 RX2 yX2_topmostOver wsX2_topmostOver) := goodIn_app (goodIn_of _ (by decide +kernel)) ggX3_lookAtScreen_X2_topmostOver
theorem dX3_lookAtScreen_0 : decode cX3_lookAtScreen 0 = .ok (.iconst 0, 1) := by decide +kernel
theorem dX3_lookAtScreen_1 : decode cX3_lookAtScreen 1 = .ok (.istore_n 1, 1) := by decide +kernel
theorem dX3_lookAtScreen_2 : decode cX3_lookAtScreen 2 = .ok (.iload_n 1, 1) := by decide +kernel
theorem dX3_lookAtScreen_3 : decode cX3_lookAtScreen 3 = .ok (.aload_n 0, 1) := by decide +kernel
theorem dX3_lookAtScreen_4 : decode cX3_lookAtScreen 4 = .ok (.getfield 16, 3) := by decide +kernel
theorem dX3_lookAtScreen_7 : decode cX3_lookAtScreen 7 = .ok (.invokevirtual 59, 3) := by decide +kernel
theorem dX3_lookAtScreen_10 : decode cX3_lookAtScreen 10 = .ok (.if_icmp .ge 27, 3) := by decide +kernel
theorem dX3_lookAtScreen_13 : decode cX3_lookAtScreen 13 = .ok (.aload_n 0, 1) := by decide +kernel
theorem dX3_lookAtScreen_14 : decode cX3_lookAtScreen 14 = .ok (.getfield 16, 3) := by decide +kernel
theorem dX3_lookAtScreen_17 : decode cX3_lookAtScreen 17 = .ok (.iload_n 1, 1) := by decide +kernel
theorem dX3_lookAtScreen_18 : decode cX3_lookAtScreen 18 = .ok (.invokevirtual 176, 3) := by decide +kernel
theorem dX3_lookAtScreen_21 : decode cX3_lookAtScreen 21 = .ok (.astore_n 2, 1) := by decide +kernel
theorem dX3_lookAtScreen_22 : decode cX3_lookAtScreen 22 = .ok (.aload_n 2, 1) := by decide +kernel
theorem dX3_lookAtScreen_23 : decode cX3_lookAtScreen 23 = .ok (.ifnull 8, 3) := by decide +kernel
theorem dX3_lookAtScreen_26 : decode cX3_lookAtScreen 26 = .ok (.aload_n 2, 1) := by decide +kernel
theorem dX3_lookAtScreen_27 : decode cX3_lookAtScreen 27 = .ok (.iconst 0, 1) := by decide +kernel
theorem dX3_lookAtScreen_28 : decode cX3_lookAtScreen 28 = .ok (.putfield 158, 3) := by decide +kernel
theorem dX3_lookAtScreen_31 : decode cX3_lookAtScreen 31 = .ok (.iinc 1 1, 3) := by decide +kernel
theorem dX3_lookAtScreen_34 : decode cX3_lookAtScreen 34 = .ok (.goto (-32), 3) := by decide +kernel
theorem dX3_lookAtScreen_37 : decode cX3_lookAtScreen 37 = .ok (.iconst 0, 1) := by decide +kernel
theorem dX3_lookAtScreen_38 : decode cX3_lookAtScreen 38 = .ok (.istore_n 1, 1) := by decide +kernel
theorem dX3_lookAtScreen_39 : decode cX3_lookAtScreen 39 = .ok (.iload_n 1, 1) := by decide +kernel
theorem dX3_lookAtScreen_40 : decode cX3_lookAtScreen 40 = .ok (.bipush 48, 2) := by decide +kernel
theorem dX3_lookAtScreen_42 : decode cX3_lookAtScreen 42 = .ok (.if_icmp .ge 41, 3) := by decide +kernel
theorem dX3_lookAtScreen_45 : decode cX3_lookAtScreen 45 = .ok (.aload_n 0, 1) := by decide +kernel
theorem dX3_lookAtScreen_46 : decode cX3_lookAtScreen 46 = .ok (.getfield 16, 3) := by decide +kernel
theorem dX3_lookAtScreen_49 : decode cX3_lookAtScreen 49 = .ok (.iload_n 1, 1) := by decide +kernel
theorem dX3_lookAtScreen_50 : decode cX3_lookAtScreen 50 = .ok (.bipush 8, 2) := by decide +kernel
theorem dX3_lookAtScreen_52 : decode cX3_lookAtScreen 52 = .ok (.irem, 1) := by decide +kernel
theorem dX3_lookAtScreen_53 : decode cX3_lookAtScreen 53 = .ok (.iload_n 1, 1) := by decide +kernel
theorem dX3_lookAtScreen_54 : decode cX3_lookAtScreen 54 = .ok (.bipush 8, 2) := by decide +kernel
theorem dX3_lookAtScreen_56 : decode cX3_lookAtScreen 56 = .ok (.idiv, 1) := by decide +kernel
theorem dX3_lookAtScreen_57 : decode cX3_lookAtScreen 57 = .ok (.invokevirtual 189, 3) := by decide +kernel
theorem dX3_lookAtScreen_60 : decode cX3_lookAtScreen 60 = .ok (.astore_n 2, 1) := by decide +kernel
theorem dX3_lookAtScreen_61 : decode cX3_lookAtScreen 61 = .ok (.aload_n 0, 1) := by decide +kernel
theorem dX3_lookAtScreen_62 : decode cX3_lookAtScreen 62 = .ok (.getfield 21, 3) := by decide +kernel
theorem dX3_lookAtScreen_65 : decode cX3_lookAtScreen 65 = .ok (.iload_n 1, 1) := by decide +kernel
theorem dX3_lookAtScreen_66 : decode cX3_lookAtScreen 66 = .ok (.aload_n 2, 1) := by decide +kernel
theorem dX3_lookAtScreen_67 : decode cX3_lookAtScreen 67 = .ok (.aastore, 1) := by decide +kernel
theorem dX3_lookAtScreen_68 : decode cX3_lookAtScreen 68 = .ok (.aload_n 2, 1) := by decide +kernel
theorem dX3_lookAtScreen_69 : decode cX3_lookAtScreen 69 = .ok (.ifnull 8, 3) := by decide +kernel
theorem dX3_lookAtScreen_72 : decode cX3_lookAtScreen 72 = .ok (.aload_n 2, 1) := by decide +kernel
theorem dX3_lookAtScreen_73 : decode cX3_lookAtScreen 73 = .ok (.iconst 1, 1) := by decide +kernel
theorem dX3_lookAtScreen_74 : decode cX3_lookAtScreen 74 = .ok (.putfield 158, 3) := by decide +kernel
theorem dX3_lookAtScreen_77 : decode cX3_lookAtScreen 77 = .ok (.iinc 1 1, 3) := by decide +kernel
theorem dX3_lookAtScreen_80 : decode cX3_lookAtScreen 80 = .ok (.goto (-41), 3) := by decide +kernel
theorem dX3_lookAtScreen_83 : decode cX3_lookAtScreen 83 = .ok (.return_, 1) := by decide +kernel
set_option maxRecDepth 20000 in
theorem ggX3_countDamage_X3_numberOf : GoodIn wsX3_countDamage wsX3_numberOf := goodIn_r _ [7, 8, 21, 22, 23, 24, 25, 26, 27, 28, 29, 30] (by decide +kernel) (by decide +kernel)
set_option maxRecDepth 20000 in
theorem gX3_countDamage_X3_numberOf : GoodIn wsX3_countDamage (va_wsS RX3 148 yX3_numberOf wsX3_numberOf) := goodIn_app (goodIn_of _ (by decide +kernel)) ggX3_countDamage_X3_numberOf
set_option maxRecDepth 20000 in
theorem ggX3_countDamage_X3_pictureOf : GoodIn wsX3_countDamage wsX3_pictureOf := goodIn_r _ [11, 12, 21, 22, 23, 24, 25, 26, 27, 28, 29, 30] (by decide +kernel) (by decide +kernel)
set_option maxRecDepth 20000 in
theorem gX3_countDamage_X3_pictureOf : GoodIn wsX3_countDamage (va_wsS RX3 192 yX3_pictureOf wsX3_pictureOf) := goodIn_app (goodIn_of _ (by decide +kernel)) ggX3_countDamage_X3_pictureOf
theorem dX3_countDamage_0 : decode cX3_countDamage 0 = .ok (.iconst 0, 1) := by decide +kernel
theorem dX3_countDamage_1 : decode cX3_countDamage 1 = .ok (.istore_n 1, 1) := by decide +kernel
theorem dX3_countDamage_2 : decode cX3_countDamage 2 = .ok (.iconst 0, 1) := by decide +kernel
theorem dX3_countDamage_3 : decode cX3_countDamage 3 = .ok (.istore_n 2, 1) := by decide +kernel
theorem dX3_countDamage_4 : decode cX3_countDamage 4 = .ok (.iload_n 2, 1) := by decide +kernel
theorem dX3_countDamage_5 : decode cX3_countDamage 5 = .ok (.bipush 48, 2) := by decide +kernel
theorem dX3_countDamage_7 : decode cX3_countDamage 7 = .ok (.if_icmp .ge 45, 3) := by decide +kernel
theorem dX3_countDamage_10 : decode cX3_countDamage 10 = .ok (.aload_n 0, 1) := by decide +kernel
theorem dX3_countDamage_11 : decode cX3_countDamage 11 = .ok (.getfield 21, 3) := by decide +kernel
theorem dX3_countDamage_14 : decode cX3_countDamage 14 = .ok (.iload_n 2, 1) := by decide +kernel
theorem dX3_countDamage_15 : decode cX3_countDamage 15 = .ok (.aaload, 1) := by decide +kernel
theorem dX3_countDamage_16 : decode cX3_countDamage 16 = .ok (.astore_n 3, 1) := by decide +kernel
theorem dX3_countDamage_17 : decode cX3_countDamage 17 = .ok (.aload_n 3, 1) := by decide +kernel
theorem dX3_countDamage_18 : decode cX3_countDamage 18 = .ok (.invokestatic 148, 3) := by decide +kernel
theorem dX3_countDamage_21 : decode cX3_countDamage 21 = .ok (.aload_n 0, 1) := by decide +kernel
theorem dX3_countDamage_22 : decode cX3_countDamage 22 = .ok (.getfield 25, 3) := by decide +kernel
theorem dX3_countDamage_25 : decode cX3_countDamage 25 = .ok (.iload_n 2, 1) := by decide +kernel
theorem dX3_countDamage_26 : decode cX3_countDamage 26 = .ok (.iaload, 1) := by decide +kernel
theorem dX3_countDamage_27 : decode cX3_countDamage 27 = .ok (.if_icmp .ne 16, 3) := by decide +kernel
theorem dX3_countDamage_30 : decode cX3_countDamage 30 = .ok (.aload_n 3, 1) := by decide +kernel
theorem dX3_countDamage_31 : decode cX3_countDamage 31 = .ok (.invokestatic 192, 3) := by decide +kernel
theorem dX3_countDamage_34 : decode cX3_countDamage 34 = .ok (.aload_n 0, 1) := by decide +kernel
theorem dX3_countDamage_35 : decode cX3_countDamage 35 = .ok (.getfield 29, 3) := by decide +kernel
theorem dX3_countDamage_38 : decode cX3_countDamage 38 = .ok (.iload_n 2, 1) := by decide +kernel
theorem dX3_countDamage_39 : decode cX3_countDamage 39 = .ok (.iaload, 1) := by decide +kernel
theorem dX3_countDamage_40 : decode cX3_countDamage 40 = .ok (.if_icmp .eq 6, 3) := by decide +kernel
theorem dX3_countDamage_43 : decode cX3_countDamage 43 = .ok (.iinc 1 1, 3) := by decide +kernel
theorem dX3_countDamage_46 : decode cX3_countDamage 46 = .ok (.iinc 2 1, 3) := by decide +kernel
theorem dX3_countDamage_49 : decode cX3_countDamage 49 = .ok (.goto (-45), 3) := by decide +kernel
theorem dX3_countDamage_52 : decode cX3_countDamage 52 = .ok (.iload_n 1, 1) := by decide +kernel
theorem dX3_countDamage_53 : decode cX3_countDamage 53 = .ok (.ireturn, 1) := by decide +kernel
set_option maxRecDepth 20000 in
theorem ggX3_rememberScreen_X3_numberOf : GoodIn wsX3_rememberScreen wsX3_numberOf := goodIn_r _ [7, 8, 21, 22, 23, 24, 25, 26, 27, 28, 29, 30] (by decide +kernel) (by decide +kernel)
set_option maxRecDepth 20000 in
theorem gX3_rememberScreen_X3_numberOf : GoodIn wsX3_rememberScreen (va_wsS RX3 148 yX3_numberOf wsX3_numberOf) := goodIn_app (goodIn_of _ (by decide +kernel)) ggX3_rememberScreen_X3_numberOf
set_option maxRecDepth 20000 in
theorem ggX3_rememberScreen_X3_pictureOf : GoodIn wsX3_rememberScreen wsX3_pictureOf := goodIn_r _ [11, 12, 21, 22, 23, 24, 25, 26, 27, 28, 29, 30] (by decide +kernel) (by decide +kernel)
set_option maxRecDepth 20000 in
theorem gX3_rememberScreen_X3_pictureOf : GoodIn wsX3_rememberScreen (va_wsS RX3 192 yX3_pictureOf wsX3_pictureOf) := goodIn_app (goodIn_of _ (by decide +kernel)) ggX3_rememberScreen_X3_pictureOf
theorem dX3_rememberScreen_0 : decode cX3_rememberScreen 0 = .ok (.iconst 0, 1) := by decide +kernel
theorem dX3_rememberScreen_1 : decode cX3_rememberScreen 1 = .ok (.istore_n 1, 1) := by decide +kernel
theorem dX3_rememberScreen_2 : decode cX3_rememberScreen 2 = .ok (.iload_n 1, 1) := by decide +kernel
theorem dX3_rememberScreen_3 : decode cX3_rememberScreen 3 = .ok (.bipush 48, 2) := by decide +kernel
theorem dX3_rememberScreen_5 : decode cX3_rememberScreen 5 = .ok (.if_icmp .ge 36, 3) := by decide +kernel
theorem dX3_rememberScreen_8 : decode cX3_rememberScreen 8 = .ok (.aload_n 0, 1) := by decide +kernel
theorem dX3_rememberScreen_9 : decode cX3_rememberScreen 9 = .ok (.getfield 21, 3) := by decide +kernel
theorem dX3_rememberScreen_12 : decode cX3_rememberScreen 12 = .ok (.iload_n 1, 1) := by decide +kernel
theorem dX3_rememberScreen_13 : decode cX3_rememberScreen 13 = .ok (.aaload, 1) := by decide +kernel
theorem dX3_rememberScreen_14 : decode cX3_rememberScreen 14 = .ok (.astore_n 2, 1) := by decide +kernel
theorem dX3_rememberScreen_15 : decode cX3_rememberScreen 15 = .ok (.aload_n 0, 1) := by decide +kernel
theorem dX3_rememberScreen_16 : decode cX3_rememberScreen 16 = .ok (.getfield 25, 3) := by decide +kernel
theorem dX3_rememberScreen_19 : decode cX3_rememberScreen 19 = .ok (.iload_n 1, 1) := by decide +kernel
theorem dX3_rememberScreen_20 : decode cX3_rememberScreen 20 = .ok (.aload_n 2, 1) := by decide +kernel
theorem dX3_rememberScreen_21 : decode cX3_rememberScreen 21 = .ok (.invokestatic 148, 3) := by decide +kernel
theorem dX3_rememberScreen_24 : decode cX3_rememberScreen 24 = .ok (.iastore, 1) := by decide +kernel
theorem dX3_rememberScreen_25 : decode cX3_rememberScreen 25 = .ok (.aload_n 0, 1) := by decide +kernel
theorem dX3_rememberScreen_26 : decode cX3_rememberScreen 26 = .ok (.getfield 29, 3) := by decide +kernel
theorem dX3_rememberScreen_29 : decode cX3_rememberScreen 29 = .ok (.iload_n 1, 1) := by decide +kernel
theorem dX3_rememberScreen_30 : decode cX3_rememberScreen 30 = .ok (.aload_n 2, 1) := by decide +kernel
theorem dX3_rememberScreen_31 : decode cX3_rememberScreen 31 = .ok (.invokestatic 192, 3) := by decide +kernel
theorem dX3_rememberScreen_34 : decode cX3_rememberScreen 34 = .ok (.iastore, 1) := by decide +kernel
theorem dX3_rememberScreen_35 : decode cX3_rememberScreen 35 = .ok (.iinc 1 1, 3) := by decide +kernel
theorem dX3_rememberScreen_38 : decode cX3_rememberScreen 38 = .ok (.goto (-36), 3) := by decide +kernel
theorem dX3_rememberScreen_41 : decode cX3_rememberScreen 41 = .ok (.return_, 1) := by decide +kernel
set_option maxRecDepth 20000 in
theorem ggX3_putOnTop_X2_addLast : GoodIn wsX3_putOnTop wsX2_addLast := goodIn_r _ [7, 8, 9, 100, 101] (by decide +kernel) (by decide +kernel)
set_option maxRecDepth 20000 in
theorem gX3_putOnTop_X2_addLast : GoodIn wsX3_putOnTop (wsV RX3 82 RX2 yX2_addLast wsX2_addLast) := goodIn_app (goodIn_of _ (by decide +kernel)) ggX3_putOnTop_X2_addLast
set_option maxRecDepth 20000 in
theorem ggX3_putOnTop_X3_lookAtScreen : GoodIn wsX3_putOnTop wsX3_lookAtScreen := goodIn_r _ [14, 1, 15, 16, 17, 18, 19, 6, 20, 8, 21, 22, 23, 24, 9, 25, 26, 27, 28, 29, 30, 31, 32, 33, 34, 35, 36, 37, 38, 39, 82, 83, 84, 85, 86, 87, 88, 89, 90, 91, 92, 93, 94, 95, 96, 97, 98, 99, 100, 101] (by decide +kernel) (by decide +kernel)
set_option maxRecDepth 20000 in
theorem gX3_putOnTop_X3_lookAtScreen : GoodIn wsX3_putOnTop (wsV RX3 186 RX3 yX3_lookAtScreen wsX3_lookAtScreen) := goodIn_app (goodIn_of _ (by decide +kernel)) ggX3_putOnTop_X3_lookAtScreen
set_option maxRecDepth 20000 in
theorem ggX3_putOnTop_X3_lend : GoodIn wsX3_putOnTop wsX3_lend := goodIn_r _ [43, 44, 45, 46, 47, 48, 33, 49, 36, 38, 50, 51, 52, 13, 53, 1, 15, 17, 18, 19, 6, 20, 8, 21, 22, 23, 24, 9, 54, 55, 56, 57, 58, 59, 60, 61, 62, 63, 64, 65, 66, 67, 68, 69, 70, 71, 72, 82, 83, 84, 85, 86, 87, 88, 89, 90, 91, 92, 93, 94, 95, 96, 97, 98, 99, 100, 101, 102, 103, 104, 105, 106, 107, 108, 109, 110] (by decide +kernel) (by decide +kernel)
set_option maxRecDepth 20000 in
theorem gX3_putOnTop_X3_lend : GoodIn wsX3_putOnTop (wsV RX3 195 RX3 yX3_lend wsX3_lend) := goodIn_app (goodIn_of _ (by decide +kernel)) ggX3_putOnTop_X3_lend
set_option maxRecDepth 20000 in
theorem ggX3_putOnTop_X2_remove : GoodIn wsX3_putOnTop wsX2_remove := goodIn_r _ [76, 9, 8, 77, 78, 79, 6, 80, 81, 100, 101, 90, 91, 92, 93, 94, 95, 96, 97, 98, 99] (by decide +kernel) (by decide +kernel)
set_option maxRecDepth 20000 in
theorem gX3_putOnTop_X2_remove : GoodIn wsX3_putOnTop (wsV RX3 96 RX2 yX2_remove wsX2_remove) := goodIn_app (goodIn_of _ (by decide +kernel)) ggX3_putOnTop_X2_remove
theorem dX3_putOnTop_0 : decode cX3_putOnTop 0 = .ok (.aload_n 0, 1) := by decide +kernel
theorem dX3_putOnTop_1 : decode cX3_putOnTop 1 = .ok (.getfield 16, 3) := by decide +kernel
theorem dX3_putOnTop_4 : decode cX3_putOnTop 4 = .ok (.aload_n 1, 1) := by decide +kernel
theorem dX3_putOnTop_5 : decode cX3_putOnTop 5 = .ok (.invokevirtual 82, 3) := by decide +kernel
theorem dX3_putOnTop_8 : decode cX3_putOnTop 8 = .ok (.aload_n 0, 1) := by decide +kernel
theorem dX3_putOnTop_9 : decode cX3_putOnTop 9 = .ok (.invokevirtual 186, 3) := by decide +kernel
theorem dX3_putOnTop_12 : decode cX3_putOnTop 12 = .ok (.aload_n 0, 1) := by decide +kernel
theorem dX3_putOnTop_13 : decode cX3_putOnTop 13 = .ok (.aload_n 1, 1) := by decide +kernel
theorem dX3_putOnTop_14 : decode cX3_putOnTop 14 = .ok (.invokevirtual 195, 3) := by decide +kernel
theorem dX3_putOnTop_17 : decode cX3_putOnTop 17 = .ok (.ifCond .eq 5, 3) := by decide +kernel
theorem dX3_putOnTop_20 : decode cX3_putOnTop 20 = .ok (.iconst 1, 1) := by decide +kernel
theorem dX3_putOnTop_21 : decode cX3_putOnTop 21 = .ok (.ireturn, 1) := by decide +kernel
theorem dX3_putOnTop_22 : decode cX3_putOnTop 22 = .ok (.aload_n 0, 1) := by decide +kernel
theorem dX3_putOnTop_23 : decode cX3_putOnTop 23 = .ok (.getfield 16, 3) := by decide +kernel
theorem dX3_putOnTop_26 : decode cX3_putOnTop 26 = .ok (.aload_n 1, 1) := by decide +kernel
theorem dX3_putOnTop_27 : decode cX3_putOnTop 27 = .ok (.getfield 89, 3) := by decide +kernel
theorem dX3_putOnTop_30 : decode cX3_putOnTop 30 = .ok (.invokevirtual 96, 3) := by decide +kernel
theorem dX3_putOnTop_33 : decode cX3_putOnTop 33 = .ok (.aload_n 0, 1) := by decide +kernel
theorem dX3_putOnTop_34 : decode cX3_putOnTop 34 = .ok (.invokevirtual 186, 3) := by decide +kernel
theorem dX3_putOnTop_37 : decode cX3_putOnTop 37 = .ok (.iconst 0, 1) := by decide +kernel
theorem dX3_putOnTop_38 : decode cX3_putOnTop 38 = .ok (.ireturn, 1) := by decide +kernel
set_option maxRecDepth 20000 in
theorem ggX3_lendToSeen_X2_count : GoodIn wsX3_lendToSeen wsX2_count := goodIn_r _ [8, 9, 69, 70] (by decide +kernel) (by decide +kernel)
set_option maxRecDepth 20000 in
theorem gX3_lendToSeen_X2_count : GoodIn wsX3_lendToSeen (wsV RX3 59 RX2 yX2_count wsX2_count) := goodIn_app (goodIn_of _ (by decide +kernel)) ggX3_lendToSeen_X2_count
set_option maxRecDepth 20000 in
theorem ggX3_lendToSeen_X2_get : GoodIn wsX3_lendToSeen wsX2_get := goodIn_r _ [13, 14, 69, 70] (by decide +kernel) (by decide +kernel)
set_option maxRecDepth 20000 in
theorem gX3_lendToSeen_X2_get : GoodIn wsX3_lendToSeen (wsV RX3 176 RX2 yX2_get wsX2_get) := goodIn_app (goodIn_of _ (by decide +kernel)) ggX3_lendToSeen_X2_get
set_option maxRecDepth 20000 in
theorem ggX3_lendToSeen_X3_lend : GoodIn wsX3_lendToSeen wsX3_lend := goodIn_r _ [19, 20, 3, 21, 22, 23, 24, 25, 26, 27, 28, 29, 30, 18, 31, 1, 2, 4, 5, 6, 7, 8, 9, 10, 11, 12, 13, 14, 32, 33, 34, 35, 36, 37, 38, 39, 40, 41, 42, 43, 44, 45, 46, 47, 48, 49, 50, 51, 52, 53, 54, 55, 56, 57, 58, 59, 60, 61, 62, 63, 64, 65, 66, 67, 68, 69, 70, 71, 72, 73, 74, 75, 76, 77, 78, 79] (by decide +kernel) (by decide +kernel)
set_option maxRecDepth 20000 in
theorem gX3_lendToSeen_X3_lend : GoodIn wsX3_lendToSeen (wsV RX3 195 RX3 yX3_lend wsX3_lend) := goodIn_app (goodIn_of _ (by decide +kernel)) ggX3_lendToSeen_X3_lend
theorem dX3_lendToSeen_0 : decode cX3_lendToSeen 0 = .ok (.aload_n 0, 1) := by decide +kernel
theorem dX3_lendToSeen_1 : decode cX3_lendToSeen 1 = .ok (.getfield 16, 3) := by decide +kernel
theorem dX3_lendToSeen_4 : decode cX3_lendToSeen 4 = .ok (.invokevirtual 59, 3) := by decide +kernel
theorem dX3_lendToSeen_7 : decode cX3_lendToSeen 7 = .ok (.iconst 1, 1) := by decide +kernel
theorem dX3_lendToSeen_8 : decode cX3_lendToSeen 8 = .ok (.isub, 1) := by decide +kernel
theorem dX3_lendToSeen_9 : decode cX3_lendToSeen 9 = .ok (.istore_n 1, 1) := by decide +kernel
theorem dX3_lendToSeen_10 : decode cX3_lendToSeen 10 = .ok (.iload_n 1, 1) := by decide +kernel
theorem dX3_lendToSeen_11 : decode cX3_lendToSeen 11 = .ok (.ifCond .lt 42, 3) := by decide +kernel
theorem dX3_lendToSeen_14 : decode cX3_lendToSeen 14 = .ok (.aload_n 0, 1) := by decide +kernel
theorem dX3_lendToSeen_15 : decode cX3_lendToSeen 15 = .ok (.getfield 16, 3) := by decide +kernel
theorem dX3_lendToSeen_18 : decode cX3_lendToSeen 18 = .ok (.iload_n 1, 1) := by decide +kernel
theorem dX3_lendToSeen_19 : decode cX3_lendToSeen 19 = .ok (.invokevirtual 176, 3) := by decide +kernel
theorem dX3_lendToSeen_22 : decode cX3_lendToSeen 22 = .ok (.astore_n 2, 1) := by decide +kernel
theorem dX3_lendToSeen_23 : decode cX3_lendToSeen 23 = .ok (.aload_n 2, 1) := by decide +kernel
theorem dX3_lendToSeen_24 : decode cX3_lendToSeen 24 = .ok (.ifnull 23, 3) := by decide +kernel
theorem dX3_lendToSeen_27 : decode cX3_lendToSeen 27 = .ok (.aload_n 2, 1) := by decide +kernel
theorem dX3_lendToSeen_28 : decode cX3_lendToSeen 28 = .ok (.getfield 158, 3) := by decide +kernel
theorem dX3_lendToSeen_31 : decode cX3_lendToSeen 31 = .ok (.ifCond .eq 16, 3) := by decide +kernel
theorem dX3_lendToSeen_34 : decode cX3_lendToSeen 34 = .ok (.aload_n 2, 1) := by decide +kernel
theorem dX3_lendToSeen_35 : decode cX3_lendToSeen 35 = .ok (.getfield 137, 3) := by decide +kernel
theorem dX3_lendToSeen_38 : decode cX3_lendToSeen 38 = .ok (.ifCond .ne 9, 3) := by decide +kernel
theorem dX3_lendToSeen_41 : decode cX3_lendToSeen 41 = .ok (.aload_n 0, 1) := by decide +kernel
theorem dX3_lendToSeen_42 : decode cX3_lendToSeen 42 = .ok (.aload_n 2, 1) := by decide +kernel
theorem dX3_lendToSeen_43 : decode cX3_lendToSeen 43 = .ok (.invokevirtual 195, 3) := by decide +kernel
theorem dX3_lendToSeen_46 : decode cX3_lendToSeen 46 = .ok (.pop, 1) := by decide +kernel
theorem dX3_lendToSeen_47 : decode cX3_lendToSeen 47 = .ok (.iinc 1 (-1), 3) := by decide +kernel
theorem dX3_lendToSeen_50 : decode cX3_lendToSeen 50 = .ok (.goto (-40), 3) := by decide +kernel
theorem dX3_lendToSeen_53 : decode cX3_lendToSeen 53 = .ok (.return_, 1) := by decide +kernel
set_option maxRecDepth 20000 in
theorem ggX3_lend_X1_pagesNeeded : GoodIn wsX3_lend wsX1_pagesNeeded := goodIn_r _ [7, 8, 9, 55, 56, 57, 58, 59, 60, 61, 62, 63, 64] (by decide +kernel) (by decide +kernel)
set_option maxRecDepth 20000 in
theorem gX3_lend_X1_pagesNeeded : GoodIn wsX3_lend (wsV RX3 198 RX1 yX1_pagesNeeded wsX1_pagesNeeded) := goodIn_app (goodIn_of _ (by decide +kernel)) ggX3_lend_X1_pagesNeeded
set_option maxRecDepth 20000 in
theorem ggX3_lend_X3_pagesOfUnseen : GoodIn wsX3_lend wsX3_pagesOfUnseen := goodIn_r _ [14, 15, 2, 16, 17, 18, 19, 20, 21, 22, 23, 24, 25, 26, 27, 3, 4, 5, 6, 7, 8, 9, 47, 48, 49, 50, 51, 52, 53, 54, 55, 56, 57, 58, 59, 60, 61, 62, 63, 64, 65, 66] (by decide +kernel) (by decide +kernel)
set_option maxRecDepth 20000 in
theorem gX3_lend_X3_pagesOfUnseen : GoodIn wsX3_lend (wsV RX3 201 RX3 yX3_pagesOfUnseen wsX3_pagesOfUnseen) := goodIn_app (goodIn_of _ (by decide +kernel)) ggX3_lend_X3_pagesOfUnseen
set_option maxRecDepth 20000 in
theorem ggX3_lend_X3_takeBackUntilFree : GoodIn wsX3_lend wsX3_takeBackUntilFree := goodIn_r _ [31, 15, 1, 2, 16, 32, 17, 18, 19, 20, 21, 22, 23, 24, 25, 26, 27, 3, 4, 5, 6, 7, 8, 9, 33, 34, 35, 36, 37, 38, 39, 40, 41, 42, 43, 44, 45, 46, 47, 48, 49, 50, 51, 52, 53, 54, 55, 56, 57, 58, 59, 60, 61, 62, 63, 64, 65, 66, 67, 68, 69, 70, 71, 72, 73, 74, 75] (by decide +kernel) (by decide +kernel)
set_option maxRecDepth 20000 in
theorem gX3_lend_X3_takeBackUntilFree : GoodIn wsX3_lend (wsV RX3 204 RX3 yX3_takeBackUntilFree wsX3_takeBackUntilFree) := goodIn_app (goodIn_of _ (by decide +kernel)) ggX3_lend_X3_takeBackUntilFree
theorem dX3_lend_0 : decode cX3_lend 0 = .ok (.aload_n 1, 1) := by decide +kernel
theorem dX3_lend_1 : decode cX3_lend 1 = .ok (.invokevirtual 198, 3) := by decide +kernel
theorem dX3_lend_4 : decode cX3_lend 4 = .ok (.istore_n 2, 1) := by decide +kernel
theorem dX3_lend_5 : decode cX3_lend 5 = .ok (.aload_n 0, 1) := by decide +kernel
theorem dX3_lend_6 : decode cX3_lend 6 = .ok (.getfield 36, 3) := by decide +kernel
theorem dX3_lend_9 : decode cX3_lend 9 = .ok (.aload_n 0, 1) := by decide +kernel
theorem dX3_lend_10 : decode cX3_lend 10 = .ok (.invokevirtual 201, 3) := by decide +kernel
theorem dX3_lend_13 : decode cX3_lend 13 = .ok (.iadd, 1) := by decide +kernel
theorem dX3_lend_14 : decode cX3_lend 14 = .ok (.iload_n 2, 1) := by decide +kernel
theorem dX3_lend_15 : decode cX3_lend 15 = .ok (.if_icmp .ge 5, 3) := by decide +kernel
theorem dX3_lend_18 : decode cX3_lend 18 = .ok (.iconst 0, 1) := by decide +kernel
theorem dX3_lend_19 : decode cX3_lend 19 = .ok (.ireturn, 1) := by decide +kernel
theorem dX3_lend_20 : decode cX3_lend 20 = .ok (.aload_n 0, 1) := by decide +kernel
theorem dX3_lend_21 : decode cX3_lend 21 = .ok (.iload_n 2, 1) := by decide +kernel
theorem dX3_lend_22 : decode cX3_lend 22 = .ok (.invokevirtual 204, 3) := by decide +kernel
theorem dX3_lend_25 : decode cX3_lend 25 = .ok (.aload_n 0, 1) := by decide +kernel
theorem dX3_lend_26 : decode cX3_lend 26 = .ok (.dup, 1) := by decide +kernel
theorem dX3_lend_27 : decode cX3_lend 27 = .ok (.getfield 36, 3) := by decide +kernel
theorem dX3_lend_30 : decode cX3_lend 30 = .ok (.iload_n 2, 1) := by decide +kernel
theorem dX3_lend_31 : decode cX3_lend 31 = .ok (.isub, 1) := by decide +kernel
theorem dX3_lend_32 : decode cX3_lend 32 = .ok (.putfield 36, 3) := by decide +kernel
theorem dX3_lend_35 : decode cX3_lend 35 = .ok (.aload_n 1, 1) := by decide +kernel
theorem dX3_lend_36 : decode cX3_lend 36 = .ok (.iconst 1, 1) := by decide +kernel
theorem dX3_lend_37 : decode cX3_lend 37 = .ok (.putfield 137, 3) := by decide +kernel
theorem dX3_lend_40 : decode cX3_lend 40 = .ok (.iconst 1, 1) := by decide +kernel
theorem dX3_lend_41 : decode cX3_lend 41 = .ok (.ireturn, 1) := by decide +kernel
set_option maxRecDepth 20000 in
theorem ggX3_pagesOfUnseen_X2_count : GoodIn wsX3_pagesOfUnseen wsX2_count := goodIn_r _ [8, 9, 40, 41] (by decide +kernel) (by decide +kernel)
set_option maxRecDepth 20000 in
theorem gX3_pagesOfUnseen_X2_count : GoodIn wsX3_pagesOfUnseen (wsV RX3 59 RX2 yX2_count wsX2_count) := goodIn_app (goodIn_of _ (by decide +kernel)) ggX3_pagesOfUnseen_X2_count
set_option maxRecDepth 20000 in
theorem ggX3_pagesOfUnseen_X2_get : GoodIn wsX3_pagesOfUnseen wsX2_get := goodIn_r _ [13, 14, 40, 41] (by decide +kernel) (by decide +kernel)
set_option maxRecDepth 20000 in
theorem gX3_pagesOfUnseen_X2_get : GoodIn wsX3_pagesOfUnseen (wsV RX3 176 RX2 yX2_get wsX2_get) := goodIn_app (goodIn_of _ (by decide +kernel)) ggX3_pagesOfUnseen_X2_get
set_option maxRecDepth 20000 in
theorem ggX3_pagesOfUnseen_X1_pagesNeeded : GoodIn wsX3_pagesOfUnseen wsX1_pagesNeeded := goodIn_r _ [19, 20, 21, 30, 31, 32, 33, 34, 35, 36, 37, 38, 39] (by decide +kernel) (by decide +kernel)
set_option maxRecDepth 20000 in
theorem gX3_pagesOfUnseen_X1_pagesNeeded : GoodIn wsX3_pagesOfUnseen (wsV RX3 198 RX1 yX1_pagesNeeded wsX1_pagesNeeded) := goodIn_app (goodIn_of _ (by decide +kernel)) ggX3_pagesOfUnseen_X1_pagesNeeded
theorem dX3_pagesOfUnseen_0 : decode cX3_pagesOfUnseen 0 = .ok (.iconst 0, 1) := by decide +kernel
theorem dX3_pagesOfUnseen_1 : decode cX3_pagesOfUnseen 1 = .ok (.istore_n 1, 1) := by decide +kernel
theorem dX3_pagesOfUnseen_2 : decode cX3_pagesOfUnseen 2 = .ok (.iconst 0, 1) := by decide +kernel
theorem dX3_pagesOfUnseen_3 : decode cX3_pagesOfUnseen 3 = .ok (.istore_n 2, 1) := by decide +kernel
theorem dX3_pagesOfUnseen_4 : decode cX3_pagesOfUnseen 4 = .ok (.iload_n 2, 1) := by decide +kernel
theorem dX3_pagesOfUnseen_5 : decode cX3_pagesOfUnseen 5 = .ok (.aload_n 0, 1) := by decide +kernel
theorem dX3_pagesOfUnseen_6 : decode cX3_pagesOfUnseen 6 = .ok (.getfield 16, 3) := by decide +kernel
theorem dX3_pagesOfUnseen_9 : decode cX3_pagesOfUnseen 9 = .ok (.invokevirtual 59, 3) := by decide +kernel
theorem dX3_pagesOfUnseen_12 : decode cX3_pagesOfUnseen 12 = .ok (.if_icmp .ge 43, 3) := by decide +kernel
theorem dX3_pagesOfUnseen_15 : decode cX3_pagesOfUnseen 15 = .ok (.aload_n 0, 1) := by decide +kernel
theorem dX3_pagesOfUnseen_16 : decode cX3_pagesOfUnseen 16 = .ok (.getfield 16, 3) := by decide +kernel
theorem dX3_pagesOfUnseen_19 : decode cX3_pagesOfUnseen 19 = .ok (.iload_n 2, 1) := by decide +kernel
theorem dX3_pagesOfUnseen_20 : decode cX3_pagesOfUnseen 20 = .ok (.invokevirtual 176, 3) := by decide +kernel
theorem dX3_pagesOfUnseen_23 : decode cX3_pagesOfUnseen 23 = .ok (.astore_n 3, 1) := by decide +kernel
theorem dX3_pagesOfUnseen_24 : decode cX3_pagesOfUnseen 24 = .ok (.aload_n 3, 1) := by decide +kernel
theorem dX3_pagesOfUnseen_25 : decode cX3_pagesOfUnseen 25 = .ok (.ifnull 24, 3) := by decide +kernel
theorem dX3_pagesOfUnseen_28 : decode cX3_pagesOfUnseen 28 = .ok (.aload_n 3, 1) := by decide +kernel
theorem dX3_pagesOfUnseen_29 : decode cX3_pagesOfUnseen 29 = .ok (.getfield 137, 3) := by decide +kernel
theorem dX3_pagesOfUnseen_32 : decode cX3_pagesOfUnseen 32 = .ok (.ifCond .eq 17, 3) := by decide +kernel
theorem dX3_pagesOfUnseen_35 : decode cX3_pagesOfUnseen 35 = .ok (.aload_n 3, 1) := by decide +kernel
theorem dX3_pagesOfUnseen_36 : decode cX3_pagesOfUnseen 36 = .ok (.getfield 158, 3) := by decide +kernel
theorem dX3_pagesOfUnseen_39 : decode cX3_pagesOfUnseen 39 = .ok (.ifCond .ne 10, 3) := by decide +kernel
theorem dX3_pagesOfUnseen_42 : decode cX3_pagesOfUnseen 42 = .ok (.iload_n 1, 1) := by decide +kernel
theorem dX3_pagesOfUnseen_43 : decode cX3_pagesOfUnseen 43 = .ok (.aload_n 3, 1) := by decide +kernel
theorem dX3_pagesOfUnseen_44 : decode cX3_pagesOfUnseen 44 = .ok (.invokevirtual 198, 3) := by decide +kernel
theorem dX3_pagesOfUnseen_47 : decode cX3_pagesOfUnseen 47 = .ok (.iadd, 1) := by decide +kernel
theorem dX3_pagesOfUnseen_48 : decode cX3_pagesOfUnseen 48 = .ok (.istore_n 1, 1) := by decide +kernel
theorem dX3_pagesOfUnseen_49 : decode cX3_pagesOfUnseen 49 = .ok (.iinc 2 1, 3) := by decide +kernel
theorem dX3_pagesOfUnseen_52 : decode cX3_pagesOfUnseen 52 = .ok (.goto (-48), 3) := by decide +kernel
theorem dX3_pagesOfUnseen_55 : decode cX3_pagesOfUnseen 55 = .ok (.iload_n 1, 1) := by decide +kernel
theorem dX3_pagesOfUnseen_56 : decode cX3_pagesOfUnseen 56 = .ok (.ireturn, 1) := by decide +kernel
set_option maxRecDepth 20000 in
theorem ggX3_takeBackUntilFree_X2_count : GoodIn wsX3_takeBackUntilFree wsX2_count := goodIn_r _ [10, 11, 56, 57] (by decide +kernel) (by decide +kernel)
set_option maxRecDepth 20000 in
theorem gX3_takeBackUntilFree_X2_count : GoodIn wsX3_takeBackUntilFree (wsV RX3 59 RX2 yX2_count wsX2_count) := goodIn_app (goodIn_of _ (by decide +kernel)) ggX3_takeBackUntilFree_X2_count
set_option maxRecDepth 20000 in
theorem ggX3_takeBackUntilFree_X2_get : GoodIn wsX3_takeBackUntilFree wsX2_get := goodIn_r _ [15, 16, 56, 57] (by decide +kernel) (by decide +kernel)
set_option maxRecDepth 20000 in
theorem gX3_takeBackUntilFree_X2_get : GoodIn wsX3_takeBackUntilFree (wsV RX3 176 RX2 yX2_get wsX2_get) := goodIn_app (goodIn_of _ (by decide +kernel)) ggX3_takeBackUntilFree_X2_get
set_option maxRecDepth 20000 in
theorem ggX3_takeBackUntilFree_X1_pagesNeeded : GoodIn wsX3_takeBackUntilFree wsX1_pagesNeeded := goodIn_r _ [21, 22, 23, 46, 47, 48, 49, 50, 51, 52, 53, 54, 55] (by decide +kernel) (by decide +kernel)
set_option maxRecDepth 20000 in
theorem gX3_takeBackUntilFree_X1_pagesNeeded : GoodIn wsX3_takeBackUntilFree (wsV RX3 198 RX1 yX1_pagesNeeded wsX1_pagesNeeded) := goodIn_app (goodIn_of _ (by decide +kernel)) ggX3_takeBackUntilFree_X1_pagesNeeded
set_option maxRecDepth 20000 in
theorem ggX3_takeBackUntilFree_X1_loseSurface : GoodIn wsX3_takeBackUntilFree wsX1_loseSurface := goodIn_r _ [27, 28, 29, 30, 31, 32, 33, 34, 35, 36, 37, 46, 47, 48, 49, 50, 51, 52, 53, 54, 55, 58, 59, 60, 61, 62, 63, 64, 65, 66] (by decide +kernel) (by decide +kernel)
set_option maxRecDepth 20000 in
theorem gX3_takeBackUntilFree_X1_loseSurface : GoodIn wsX3_takeBackUntilFree (wsV RX3 207 RX1 yX1_loseSurface wsX1_loseSurface) := goodIn_app (goodIn_of _ (by decide +kernel)) ggX3_takeBackUntilFree_X1_loseSurface
theorem dX3_takeBackUntilFree_0 : decode cX3_takeBackUntilFree 0 = .ok (.iconst 0, 1) := by decide +kernel
theorem dX3_takeBackUntilFree_1 : decode cX3_takeBackUntilFree 1 = .ok (.istore_n 2, 1) := by decide +kernel
theorem dX3_takeBackUntilFree_2 : decode cX3_takeBackUntilFree 2 = .ok (.iload_n 2, 1) := by decide +kernel
theorem dX3_takeBackUntilFree_3 : decode cX3_takeBackUntilFree 3 = .ok (.aload_n 0, 1) := by decide +kernel
theorem dX3_takeBackUntilFree_4 : decode cX3_takeBackUntilFree 4 = .ok (.getfield 16, 3) := by decide +kernel
theorem dX3_takeBackUntilFree_7 : decode cX3_takeBackUntilFree 7 = .ok (.invokevirtual 59, 3) := by decide +kernel
theorem dX3_takeBackUntilFree_10 : decode cX3_takeBackUntilFree 10 = .ok (.if_icmp .ge 65, 3) := by decide +kernel
theorem dX3_takeBackUntilFree_13 : decode cX3_takeBackUntilFree 13 = .ok (.aload_n 0, 1) := by decide +kernel
theorem dX3_takeBackUntilFree_14 : decode cX3_takeBackUntilFree 14 = .ok (.getfield 36, 3) := by decide +kernel
theorem dX3_takeBackUntilFree_17 : decode cX3_takeBackUntilFree 17 = .ok (.iload_n 1, 1) := by decide +kernel
theorem dX3_takeBackUntilFree_18 : decode cX3_takeBackUntilFree 18 = .ok (.if_icmp .ge 57, 3) := by decide +kernel
theorem dX3_takeBackUntilFree_21 : decode cX3_takeBackUntilFree 21 = .ok (.aload_n 0, 1) := by decide +kernel
theorem dX3_takeBackUntilFree_22 : decode cX3_takeBackUntilFree 22 = .ok (.getfield 16, 3) := by decide +kernel
theorem dX3_takeBackUntilFree_25 : decode cX3_takeBackUntilFree 25 = .ok (.iload_n 2, 1) := by decide +kernel
theorem dX3_takeBackUntilFree_26 : decode cX3_takeBackUntilFree 26 = .ok (.invokevirtual 176, 3) := by decide +kernel
theorem dX3_takeBackUntilFree_29 : decode cX3_takeBackUntilFree 29 = .ok (.astore_n 3, 1) := by decide +kernel
theorem dX3_takeBackUntilFree_30 : decode cX3_takeBackUntilFree 30 = .ok (.aload_n 3, 1) := by decide +kernel
theorem dX3_takeBackUntilFree_31 : decode cX3_takeBackUntilFree 31 = .ok (.ifnull 38, 3) := by decide +kernel
theorem dX3_takeBackUntilFree_34 : decode cX3_takeBackUntilFree 34 = .ok (.aload_n 3, 1) := by decide +kernel
theorem dX3_takeBackUntilFree_35 : decode cX3_takeBackUntilFree 35 = .ok (.getfield 137, 3) := by decide +kernel
theorem dX3_takeBackUntilFree_38 : decode cX3_takeBackUntilFree 38 = .ok (.ifCond .eq 31, 3) := by decide +kernel
theorem dX3_takeBackUntilFree_41 : decode cX3_takeBackUntilFree 41 = .ok (.aload_n 3, 1) := by decide +kernel
theorem dX3_takeBackUntilFree_42 : decode cX3_takeBackUntilFree 42 = .ok (.getfield 158, 3) := by decide +kernel
theorem dX3_takeBackUntilFree_45 : decode cX3_takeBackUntilFree 45 = .ok (.ifCond .ne 24, 3) := by decide +kernel
theorem dX3_takeBackUntilFree_48 : decode cX3_takeBackUntilFree 48 = .ok (.aload_n 0, 1) := by decide +kernel
theorem dX3_takeBackUntilFree_49 : decode cX3_takeBackUntilFree 49 = .ok (.dup, 1) := by decide +kernel
theorem dX3_takeBackUntilFree_50 : decode cX3_takeBackUntilFree 50 = .ok (.getfield 36, 3) := by decide +kernel
theorem dX3_takeBackUntilFree_53 : decode cX3_takeBackUntilFree 53 = .ok (.aload_n 3, 1) := by decide +kernel
theorem dX3_takeBackUntilFree_54 : decode cX3_takeBackUntilFree 54 = .ok (.invokevirtual 198, 3) := by decide +kernel
theorem dX3_takeBackUntilFree_57 : decode cX3_takeBackUntilFree 57 = .ok (.iadd, 1) := by decide +kernel
theorem dX3_takeBackUntilFree_58 : decode cX3_takeBackUntilFree 58 = .ok (.putfield 36, 3) := by decide +kernel
theorem dX3_takeBackUntilFree_61 : decode cX3_takeBackUntilFree 61 = .ok (.aload_n 3, 1) := by decide +kernel
theorem dX3_takeBackUntilFree_62 : decode cX3_takeBackUntilFree 62 = .ok (.aload_n 0, 1) := by decide +kernel
theorem dX3_takeBackUntilFree_63 : decode cX3_takeBackUntilFree 63 = .ok (.getfield 39, 3) := by decide +kernel
theorem dX3_takeBackUntilFree_66 : decode cX3_takeBackUntilFree 66 = .ok (.invokevirtual 207, 3) := by decide +kernel
theorem dX3_takeBackUntilFree_69 : decode cX3_takeBackUntilFree 69 = .ok (.iinc 2 1, 3) := by decide +kernel
theorem dX3_takeBackUntilFree_72 : decode cX3_takeBackUntilFree 72 = .ok (.goto (-70), 3) := by decide +kernel
theorem dX3_takeBackUntilFree_75 : decode cX3_takeBackUntilFree 75 = .ok (.return_, 1) := by decide +kernel
set_option maxRecDepth 20000 in
theorem ggX3_passTick_X3_beginFrames : GoodIn wsX3_passTick wsX3_beginFrames := goodIn_r _ [10, 11, 12, 13, 1, 3, 14, 15, 16, 17, 18, 19, 20, 21, 22, 23, 24, 25, 26, 27, 28, 29, 30, 31, 32, 33, 34, 35, 36, 37, 38, 39, 40, 41, 42, 43, 83, 84, 85, 86, 87, 88, 89, 90, 64, 65, 66, 67, 68, 69, 70, 71, 72, 73, 91, 92, 74, 75, 76, 77, 78, 79, 80, 81, 82] (by decide +kernel) (by decide +kernel)
set_option maxRecDepth 20000 in
theorem gX3_passTick_X3_beginFrames : GoodIn wsX3_passTick (wsV RX3 210 RX3 yX3_beginFrames wsX3_beginFrames) := goodIn_app (goodIn_of _ (by decide +kernel)) ggX3_passTick_X3_beginFrames
set_option maxRecDepth 20000 in
theorem ggX3_passTick_X3_mostUrgent : GoodIn wsX3_passTick wsX3_mostUrgent := goodIn_r _ [47, 11, 1, 48, 49, 14, 15, 16, 17, 18, 19, 20, 21, 22, 23, 24, 83, 84, 85, 86, 87, 88, 89, 90, 64, 65, 66, 67, 68, 69, 70, 71, 72, 73, 74, 75, 76, 77, 78, 79, 80, 81, 82, 91, 92] (by decide +kernel) (by decide +kernel)
set_option maxRecDepth 20000 in
theorem gX3_passTick_X3_mostUrgent : GoodIn wsX3_passTick (wsV RX3 213 RX3 yX3_mostUrgent wsX3_mostUrgent) := goodIn_app (goodIn_of _ (by decide +kernel)) ggX3_passTick_X3_mostUrgent
set_option maxRecDepth 20000 in
theorem ggX3_passTick_X0_finish : GoodIn wsX3_passTick wsX0_finish := goodIn_r _ [53, 30, 39, 31, 54, 33, 74, 75, 76, 77, 78, 79, 80, 81, 82] (by decide +kernel) (by decide +kernel)
set_option maxRecDepth 20000 in
theorem gX3_passTick_X0_finish : GoodIn wsX3_passTick (wsV RX3 223 RX0 yX0_finish wsX0_finish) := goodIn_app (goodIn_of _ (by decide +kernel)) ggX3_passTick_X0_finish
set_option maxRecDepth 20000 in
theorem ggX3_passTick_X3_countMisses : GoodIn wsX3_passTick wsX3_countMisses := goodIn_r _ [58, 11, 1, 48, 49, 3, 14, 15, 16, 17, 18, 19, 20, 21, 22, 23, 24, 59, 60, 61, 28, 62, 63, 54, 39, 32, 33, 83, 84, 85, 86, 87, 88, 89, 90, 64, 65, 66, 67, 68, 69, 70, 71, 72, 73, 74, 75, 76, 77, 78, 79, 80, 81, 82, 91, 92] (by decide +kernel) (by decide +kernel)
set_option maxRecDepth 20000 in
theorem gX3_passTick_X3_countMisses : GoodIn wsX3_passTick (wsV RX3 226 RX3 yX3_countMisses wsX3_countMisses) := goodIn_app (goodIn_of _ (by decide +kernel)) ggX3_passTick_X3_countMisses
theorem dX3_passTick_0 : decode cX3_passTick 0 = .ok (.aload_n 0, 1) := by decide +kernel
theorem dX3_passTick_1 : decode cX3_passTick 1 = .ok (.invokevirtual 210, 3) := by decide +kernel
theorem dX3_passTick_4 : decode cX3_passTick 4 = .ok (.aload_n 0, 1) := by decide +kernel
theorem dX3_passTick_5 : decode cX3_passTick 5 = .ok (.invokevirtual 213, 3) := by decide +kernel
theorem dX3_passTick_8 : decode cX3_passTick 8 = .ok (.astore_n 1, 1) := by decide +kernel
theorem dX3_passTick_9 : decode cX3_passTick 9 = .ok (.aload_n 1, 1) := by decide +kernel
theorem dX3_passTick_10 : decode cX3_passTick 10 = .ok (.ifnull 16, 3) := by decide +kernel
theorem dX3_passTick_13 : decode cX3_passTick 13 = .ok (.aload_n 1, 1) := by decide +kernel
theorem dX3_passTick_14 : decode cX3_passTick 14 = .ok (.getfield 141, 3) := by decide +kernel
theorem dX3_passTick_17 : decode cX3_passTick 17 = .ok (.dup, 1) := by decide +kernel
theorem dX3_passTick_18 : decode cX3_passTick 18 = .ok (.getfield 217, 3) := by decide +kernel
theorem dX3_passTick_21 : decode cX3_passTick 21 = .ok (.iconst 1, 1) := by decide +kernel
theorem dX3_passTick_22 : decode cX3_passTick 22 = .ok (.iadd, 1) := by decide +kernel
theorem dX3_passTick_23 : decode cX3_passTick 23 = .ok (.putfield 217, 3) := by decide +kernel
theorem dX3_passTick_26 : decode cX3_passTick 26 = .ok (.aload_n 0, 1) := by decide +kernel
theorem dX3_passTick_27 : decode cX3_passTick 27 = .ok (.dup, 1) := by decide +kernel
theorem dX3_passTick_28 : decode cX3_passTick 28 = .ok (.getfield 39, 3) := by decide +kernel
theorem dX3_passTick_31 : decode cX3_passTick 31 = .ok (.iconst 1, 1) := by decide +kernel
theorem dX3_passTick_32 : decode cX3_passTick 32 = .ok (.iadd, 1) := by decide +kernel
theorem dX3_passTick_33 : decode cX3_passTick 33 = .ok (.putfield 39, 3) := by decide +kernel
theorem dX3_passTick_36 : decode cX3_passTick 36 = .ok (.aload_n 1, 1) := by decide +kernel
theorem dX3_passTick_37 : decode cX3_passTick 37 = .ok (.ifnull 37, 3) := by decide +kernel
theorem dX3_passTick_40 : decode cX3_passTick 40 = .ok (.aload_n 1, 1) := by decide +kernel
theorem dX3_passTick_41 : decode cX3_passTick 41 = .ok (.getfield 141, 3) := by decide +kernel
theorem dX3_passTick_44 : decode cX3_passTick 44 = .ok (.getfield 217, 3) := by decide +kernel
theorem dX3_passTick_47 : decode cX3_passTick 47 = .ok (.aload_n 1, 1) := by decide +kernel
theorem dX3_passTick_48 : decode cX3_passTick 48 = .ok (.getfield 141, 3) := by decide +kernel
theorem dX3_passTick_51 : decode cX3_passTick 51 = .ok (.getfield 220, 3) := by decide +kernel
theorem dX3_passTick_54 : decode cX3_passTick 54 = .ok (.if_icmp .lt 20, 3) := by decide +kernel
theorem dX3_passTick_57 : decode cX3_passTick 57 = .ok (.aload_n 1, 1) := by decide +kernel
theorem dX3_passTick_58 : decode cX3_passTick 58 = .ok (.dup, 1) := by decide +kernel
theorem dX3_passTick_59 : decode cX3_passTick 59 = .ok (.getfield 161, 3) := by decide +kernel
theorem dX3_passTick_62 : decode cX3_passTick 62 = .ok (.iconst 1, 1) := by decide +kernel
theorem dX3_passTick_63 : decode cX3_passTick 63 = .ok (.iadd, 1) := by decide +kernel
theorem dX3_passTick_64 : decode cX3_passTick 64 = .ok (.putfield 161, 3) := by decide +kernel
theorem dX3_passTick_67 : decode cX3_passTick 67 = .ok (.aload_n 1, 1) := by decide +kernel
theorem dX3_passTick_68 : decode cX3_passTick 68 = .ok (.getfield 141, 3) := by decide +kernel
theorem dX3_passTick_71 : decode cX3_passTick 71 = .ok (.invokevirtual 223, 3) := by decide +kernel
theorem dX3_passTick_74 : decode cX3_passTick 74 = .ok (.aload_n 0, 1) := by decide +kernel
theorem dX3_passTick_75 : decode cX3_passTick 75 = .ok (.invokevirtual 226, 3) := by decide +kernel
theorem dX3_passTick_78 : decode cX3_passTick 78 = .ok (.return_, 1) := by decide +kernel
set_option maxRecDepth 20000 in
theorem ggX3_beginFrames_X2_count : GoodIn wsX3_beginFrames wsX2_count := goodIn_r _ [10, 11, 54, 55] (by decide +kernel) (by decide +kernel)
set_option maxRecDepth 20000 in
theorem gX3_beginFrames_X2_count : GoodIn wsX3_beginFrames (wsV RX3 59 RX2 yX2_count wsX2_count) := goodIn_app (goodIn_of _ (by decide +kernel)) ggX3_beginFrames_X2_count
set_option maxRecDepth 20000 in
theorem ggX3_beginFrames_X2_get : GoodIn wsX3_beginFrames wsX2_get := goodIn_r _ [15, 16, 54, 55] (by decide +kernel) (by decide +kernel)
set_option maxRecDepth 20000 in
theorem gX3_beginFrames_X2_get : GoodIn wsX3_beginFrames (wsV RX3 176 RX2 yX2_get wsX2_get) := goodIn_app (goodIn_of _ (by decide +kernel)) ggX3_beginFrames_X2_get
set_option maxRecDepth 20000 in
theorem ggX3_beginFrames_X0_beginIfDue : GoodIn wsX3_beginFrames wsX0_beginIfDue := goodIn_r _ [21, 22, 23, 24, 25, 26, 27, 28, 20, 29, 30, 31, 56, 57, 58, 59, 60, 61, 62, 63, 64] (by decide +kernel) (by decide +kernel)
set_option maxRecDepth 20000 in
theorem gX3_beginFrames_X0_beginIfDue : GoodIn wsX3_beginFrames (wsV RX3 229 RX0 yX0_beginIfDue wsX0_beginIfDue) := goodIn_app (goodIn_of _ (by decide +kernel)) ggX3_beginFrames_X0_beginIfDue
set_option maxRecDepth 20000 in
theorem ggX3_beginFrames_X0_drop : GoodIn wsX3_beginFrames wsX0_drop := goodIn_r _ [35, 22, 23, 56, 57, 58, 59, 60, 61, 62, 63, 64] (by decide +kernel) (by decide +kernel)
set_option maxRecDepth 20000 in
theorem gX3_beginFrames_X0_drop : GoodIn wsX3_beginFrames (wsV RX3 232 RX0 yX0_drop wsX0_drop) := goodIn_app (goodIn_of _ (by decide +kernel)) ggX3_beginFrames_X0_drop
theorem dX3_beginFrames_0 : decode cX3_beginFrames 0 = .ok (.iconst 0, 1) := by decide +kernel
theorem dX3_beginFrames_1 : decode cX3_beginFrames 1 = .ok (.istore_n 1, 1) := by decide +kernel
theorem dX3_beginFrames_2 : decode cX3_beginFrames 2 = .ok (.iload_n 1, 1) := by decide +kernel
theorem dX3_beginFrames_3 : decode cX3_beginFrames 3 = .ok (.aload_n 0, 1) := by decide +kernel
theorem dX3_beginFrames_4 : decode cX3_beginFrames 4 = .ok (.getfield 10, 3) := by decide +kernel
theorem dX3_beginFrames_7 : decode cX3_beginFrames 7 = .ok (.invokevirtual 59, 3) := by decide +kernel
theorem dX3_beginFrames_10 : decode cX3_beginFrames 10 = .ok (.if_icmp .ge 64, 3) := by decide +kernel
theorem dX3_beginFrames_13 : decode cX3_beginFrames 13 = .ok (.aload_n 0, 1) := by decide +kernel
theorem dX3_beginFrames_14 : decode cX3_beginFrames 14 = .ok (.getfield 10, 3) := by decide +kernel
theorem dX3_beginFrames_17 : decode cX3_beginFrames 17 = .ok (.iload_n 1, 1) := by decide +kernel
theorem dX3_beginFrames_18 : decode cX3_beginFrames 18 = .ok (.invokevirtual 176, 3) := by decide +kernel
theorem dX3_beginFrames_21 : decode cX3_beginFrames 21 = .ok (.astore_n 2, 1) := by decide +kernel
theorem dX3_beginFrames_22 : decode cX3_beginFrames 22 = .ok (.aload_n 2, 1) := by decide +kernel
theorem dX3_beginFrames_23 : decode cX3_beginFrames 23 = .ok (.ifnonnull 6, 3) := by decide +kernel
theorem dX3_beginFrames_26 : decode cX3_beginFrames 26 = .ok (.goto 42, 3) := by decide +kernel
theorem dX3_beginFrames_29 : decode cX3_beginFrames 29 = .ok (.aload_n 2, 1) := by decide +kernel
theorem dX3_beginFrames_30 : decode cX3_beginFrames 30 = .ok (.getfield 158, 3) := by decide +kernel
theorem dX3_beginFrames_33 : decode cX3_beginFrames 33 = .ok (.ifCond .eq 24, 3) := by decide +kernel
theorem dX3_beginFrames_36 : decode cX3_beginFrames 36 = .ok (.aload_n 2, 1) := by decide +kernel
theorem dX3_beginFrames_37 : decode cX3_beginFrames 37 = .ok (.getfield 137, 3) := by decide +kernel
theorem dX3_beginFrames_40 : decode cX3_beginFrames 40 = .ok (.ifCond .eq 17, 3) := by decide +kernel
theorem dX3_beginFrames_43 : decode cX3_beginFrames 43 = .ok (.aload_n 2, 1) := by decide +kernel
theorem dX3_beginFrames_44 : decode cX3_beginFrames 44 = .ok (.getfield 141, 3) := by decide +kernel
theorem dX3_beginFrames_47 : decode cX3_beginFrames 47 = .ok (.aload_n 0, 1) := by decide +kernel
theorem dX3_beginFrames_48 : decode cX3_beginFrames 48 = .ok (.getfield 39, 3) := by decide +kernel
theorem dX3_beginFrames_51 : decode cX3_beginFrames 51 = .ok (.invokevirtual 229, 3) := by decide +kernel
theorem dX3_beginFrames_54 : decode cX3_beginFrames 54 = .ok (.goto 14, 3) := by decide +kernel
theorem dX3_beginFrames_57 : decode cX3_beginFrames 57 = .ok (.aload_n 2, 1) := by decide +kernel
theorem dX3_beginFrames_58 : decode cX3_beginFrames 58 = .ok (.getfield 141, 3) := by decide +kernel
theorem dX3_beginFrames_61 : decode cX3_beginFrames 61 = .ok (.aload_n 0, 1) := by decide +kernel
theorem dX3_beginFrames_62 : decode cX3_beginFrames 62 = .ok (.getfield 39, 3) := by decide +kernel
theorem dX3_beginFrames_65 : decode cX3_beginFrames 65 = .ok (.invokevirtual 232, 3) := by decide +kernel
theorem dX3_beginFrames_68 : decode cX3_beginFrames 68 = .ok (.iinc 1 1, 3) := by decide +kernel
theorem dX3_beginFrames_71 : decode cX3_beginFrames 71 = .ok (.goto (-69), 3) := by decide +kernel
theorem dX3_beginFrames_74 : decode cX3_beginFrames 74 = .ok (.return_, 1) := by decide +kernel
set_option maxRecDepth 20000 in
theorem ggX3_mostUrgent_X2_count : GoodIn wsX3_mostUrgent wsX2_count := goodIn_r _ [9, 10, 43, 44] (by decide +kernel) (by decide +kernel)
set_option maxRecDepth 20000 in
theorem gX3_mostUrgent_X2_count : GoodIn wsX3_mostUrgent (wsV RX3 59 RX2 yX2_count wsX2_count) := goodIn_app (goodIn_of _ (by decide +kernel)) ggX3_mostUrgent_X2_count
set_option maxRecDepth 20000 in
theorem ggX3_mostUrgent_X2_get : GoodIn wsX3_mostUrgent wsX2_get := goodIn_r _ [14, 15, 43, 44] (by decide +kernel) (by decide +kernel)
set_option maxRecDepth 20000 in
theorem gX3_mostUrgent_X2_get : GoodIn wsX3_mostUrgent (wsV RX3 176 RX2 yX2_get wsX2_get) := goodIn_app (goodIn_of _ (by decide +kernel)) ggX3_mostUrgent_X2_get
theorem dX3_mostUrgent_0 : decode cX3_mostUrgent 0 = .ok (.aconst_null, 1) := by decide +kernel
theorem dX3_mostUrgent_1 : decode cX3_mostUrgent 1 = .ok (.astore_n 1, 1) := by decide +kernel
theorem dX3_mostUrgent_2 : decode cX3_mostUrgent 2 = .ok (.iconst 0, 1) := by decide +kernel
theorem dX3_mostUrgent_3 : decode cX3_mostUrgent 3 = .ok (.istore_n 2, 1) := by decide +kernel
theorem dX3_mostUrgent_4 : decode cX3_mostUrgent 4 = .ok (.iload_n 2, 1) := by decide +kernel
theorem dX3_mostUrgent_5 : decode cX3_mostUrgent 5 = .ok (.aload_n 0, 1) := by decide +kernel
theorem dX3_mostUrgent_6 : decode cX3_mostUrgent 6 = .ok (.getfield 10, 3) := by decide +kernel
theorem dX3_mostUrgent_9 : decode cX3_mostUrgent 9 = .ok (.invokevirtual 59, 3) := by decide +kernel
theorem dX3_mostUrgent_12 : decode cX3_mostUrgent 12 = .ok (.if_icmp .ge 55, 3) := by decide +kernel
theorem dX3_mostUrgent_15 : decode cX3_mostUrgent 15 = .ok (.aload_n 0, 1) := by decide +kernel
theorem dX3_mostUrgent_16 : decode cX3_mostUrgent 16 = .ok (.getfield 10, 3) := by decide +kernel
theorem dX3_mostUrgent_19 : decode cX3_mostUrgent 19 = .ok (.iload_n 2, 1) := by decide +kernel
theorem dX3_mostUrgent_20 : decode cX3_mostUrgent 20 = .ok (.invokevirtual 176, 3) := by decide +kernel
theorem dX3_mostUrgent_23 : decode cX3_mostUrgent 23 = .ok (.astore_n 3, 1) := by decide +kernel
theorem dX3_mostUrgent_24 : decode cX3_mostUrgent 24 = .ok (.aload_n 3, 1) := by decide +kernel
theorem dX3_mostUrgent_25 : decode cX3_mostUrgent 25 = .ok (.ifnull 36, 3) := by decide +kernel
theorem dX3_mostUrgent_28 : decode cX3_mostUrgent 28 = .ok (.aload_n 3, 1) := by decide +kernel
theorem dX3_mostUrgent_29 : decode cX3_mostUrgent 29 = .ok (.getfield 141, 3) := by decide +kernel
theorem dX3_mostUrgent_32 : decode cX3_mostUrgent 32 = .ok (.getfield 170, 3) := by decide +kernel
theorem dX3_mostUrgent_35 : decode cX3_mostUrgent 35 = .ok (.ifCond .eq 26, 3) := by decide +kernel
theorem dX3_mostUrgent_38 : decode cX3_mostUrgent 38 = .ok (.aload_n 1, 1) := by decide +kernel
theorem dX3_mostUrgent_39 : decode cX3_mostUrgent 39 = .ok (.ifnull 20, 3) := by decide +kernel
theorem dX3_mostUrgent_42 : decode cX3_mostUrgent 42 = .ok (.aload_n 3, 1) := by decide +kernel
theorem dX3_mostUrgent_43 : decode cX3_mostUrgent 43 = .ok (.getfield 141, 3) := by decide +kernel
theorem dX3_mostUrgent_46 : decode cX3_mostUrgent 46 = .ok (.getfield 173, 3) := by decide +kernel
theorem dX3_mostUrgent_49 : decode cX3_mostUrgent 49 = .ok (.aload_n 1, 1) := by decide +kernel
theorem dX3_mostUrgent_50 : decode cX3_mostUrgent 50 = .ok (.getfield 141, 3) := by decide +kernel
theorem dX3_mostUrgent_53 : decode cX3_mostUrgent 53 = .ok (.getfield 173, 3) := by decide +kernel
theorem dX3_mostUrgent_56 : decode cX3_mostUrgent 56 = .ok (.if_icmp .ge 5, 3) := by decide +kernel
theorem dX3_mostUrgent_59 : decode cX3_mostUrgent 59 = .ok (.aload_n 3, 1) := by decide +kernel
theorem dX3_mostUrgent_60 : decode cX3_mostUrgent 60 = .ok (.astore_n 1, 1) := by decide +kernel
theorem dX3_mostUrgent_61 : decode cX3_mostUrgent 61 = .ok (.iinc 2 1, 3) := by decide +kernel
theorem dX3_mostUrgent_64 : decode cX3_mostUrgent 64 = .ok (.goto (-60), 3) := by decide +kernel
theorem dX3_mostUrgent_67 : decode cX3_mostUrgent 67 = .ok (.aload_n 1, 1) := by decide +kernel
theorem dX3_mostUrgent_68 : decode cX3_mostUrgent 68 = .ok (.areturn, 1) := by decide +kernel
set_option maxRecDepth 20000 in
theorem ggX3_countMisses_X2_count : GoodIn wsX3_countMisses wsX2_count := goodIn_r _ [10, 11, 54, 55] (by decide +kernel) (by decide +kernel)
set_option maxRecDepth 20000 in
theorem gX3_countMisses_X2_count : GoodIn wsX3_countMisses (wsV RX3 59 RX2 yX2_count wsX2_count) := goodIn_app (goodIn_of _ (by decide +kernel)) ggX3_countMisses_X2_count
set_option maxRecDepth 20000 in
theorem ggX3_countMisses_X2_get : GoodIn wsX3_countMisses wsX2_get := goodIn_r _ [15, 16, 54, 55] (by decide +kernel) (by decide +kernel)
set_option maxRecDepth 20000 in
theorem gX3_countMisses_X2_get : GoodIn wsX3_countMisses (wsV RX3 176 RX2 yX2_get wsX2_get) := goodIn_app (goodIn_of _ (by decide +kernel)) ggX3_countMisses_X2_get
set_option maxRecDepth 20000 in
theorem ggX3_countMisses_X0_miss : GoodIn wsX3_countMisses wsX0_miss := goodIn_r _ [21, 22, 23, 24, 25, 26, 45, 46, 47, 48, 49, 50, 51, 52, 53] (by decide +kernel) (by decide +kernel)
set_option maxRecDepth 20000 in
theorem gX3_countMisses_X0_miss : GoodIn wsX3_countMisses (wsV RX3 235 RX0 yX0_miss wsX0_miss) := goodIn_app (goodIn_of _ (by decide +kernel)) ggX3_countMisses_X0_miss
theorem dX3_countMisses_0 : decode cX3_countMisses 0 = .ok (.iconst 0, 1) := by decide +kernel
theorem dX3_countMisses_1 : decode cX3_countMisses 1 = .ok (.istore_n 1, 1) := by decide +kernel
theorem dX3_countMisses_2 : decode cX3_countMisses 2 = .ok (.iload_n 1, 1) := by decide +kernel
theorem dX3_countMisses_3 : decode cX3_countMisses 3 = .ok (.aload_n 0, 1) := by decide +kernel
theorem dX3_countMisses_4 : decode cX3_countMisses 4 = .ok (.getfield 10, 3) := by decide +kernel
theorem dX3_countMisses_7 : decode cX3_countMisses 7 = .ok (.invokevirtual 59, 3) := by decide +kernel
theorem dX3_countMisses_10 : decode cX3_countMisses 10 = .ok (.if_icmp .ge 53, 3) := by decide +kernel
theorem dX3_countMisses_13 : decode cX3_countMisses 13 = .ok (.aload_n 0, 1) := by decide +kernel
theorem dX3_countMisses_14 : decode cX3_countMisses 14 = .ok (.getfield 10, 3) := by decide +kernel
theorem dX3_countMisses_17 : decode cX3_countMisses 17 = .ok (.iload_n 1, 1) := by decide +kernel
theorem dX3_countMisses_18 : decode cX3_countMisses 18 = .ok (.invokevirtual 176, 3) := by decide +kernel
theorem dX3_countMisses_21 : decode cX3_countMisses 21 = .ok (.astore_n 2, 1) := by decide +kernel
theorem dX3_countMisses_22 : decode cX3_countMisses 22 = .ok (.aload_n 2, 1) := by decide +kernel
theorem dX3_countMisses_23 : decode cX3_countMisses 23 = .ok (.ifnull 34, 3) := by decide +kernel
theorem dX3_countMisses_26 : decode cX3_countMisses 26 = .ok (.aload_n 2, 1) := by decide +kernel
theorem dX3_countMisses_27 : decode cX3_countMisses 27 = .ok (.getfield 141, 3) := by decide +kernel
theorem dX3_countMisses_30 : decode cX3_countMisses 30 = .ok (.getfield 170, 3) := by decide +kernel
theorem dX3_countMisses_33 : decode cX3_countMisses 33 = .ok (.ifCond .eq 24, 3) := by decide +kernel
theorem dX3_countMisses_36 : decode cX3_countMisses 36 = .ok (.aload_n 2, 1) := by decide +kernel
theorem dX3_countMisses_37 : decode cX3_countMisses 37 = .ok (.getfield 141, 3) := by decide +kernel
theorem dX3_countMisses_40 : decode cX3_countMisses 40 = .ok (.getfield 173, 3) := by decide +kernel
theorem dX3_countMisses_43 : decode cX3_countMisses 43 = .ok (.aload_n 0, 1) := by decide +kernel
theorem dX3_countMisses_44 : decode cX3_countMisses 44 = .ok (.getfield 39, 3) := by decide +kernel
theorem dX3_countMisses_47 : decode cX3_countMisses 47 = .ok (.if_icmp .ne 10, 3) := by decide +kernel
theorem dX3_countMisses_50 : decode cX3_countMisses 50 = .ok (.aload_n 2, 1) := by decide +kernel
theorem dX3_countMisses_51 : decode cX3_countMisses 51 = .ok (.getfield 141, 3) := by decide +kernel
theorem dX3_countMisses_54 : decode cX3_countMisses 54 = .ok (.invokevirtual 235, 3) := by decide +kernel
theorem dX3_countMisses_57 : decode cX3_countMisses 57 = .ok (.iinc 1 1, 3) := by decide +kernel
theorem dX3_countMisses_60 : decode cX3_countMisses 60 = .ok (.goto (-58), 3) := by decide +kernel
theorem dX3_countMisses_63 : decode cX3_countMisses 63 = .ok (.return_, 1) := by decide +kernel
