theorem dX4_init_0 : decode cX4_init 0 = .ok (.aload_n 0, 1) := by decide +kernel
theorem dX4_init_1 : decode cX4_init 1 = .ok (.invokespecial 1, 3) := by decide +kernel
theorem dX4_init_4 : decode cX4_init 4 = .ok (.aload_n 0, 1) := by decide +kernel
theorem dX4_init_5 : decode cX4_init 5 = .ok (.bipush 8, 2) := by decide +kernel
theorem dX4_init_7 : decode cX4_init 7 = .ok (.newarray .int, 2) := by decide +kernel
theorem dX4_init_9 : decode cX4_init 9 = .ok (.putfield 7, 3) := by decide +kernel
theorem dX4_init_12 : decode cX4_init 12 = .ok (.aload_n 0, 1) := by decide +kernel
theorem dX4_init_13 : decode cX4_init 13 = .ok (.bipush 40, 2) := by decide +kernel
theorem dX4_init_15 : decode cX4_init 15 = .ok (.newarray .int, 2) := by decide +kernel
theorem dX4_init_17 : decode cX4_init 17 = .ok (.putfield 13, 3) := by decide +kernel
theorem dX4_init_20 : decode cX4_init 20 = .ok (.aload_n 0, 1) := by decide +kernel
theorem dX4_init_21 : decode cX4_init 21 = .ok (.bipush 40, 2) := by decide +kernel
theorem dX4_init_23 : decode cX4_init 23 = .ok (.newarray .int, 2) := by decide +kernel
theorem dX4_init_25 : decode cX4_init 25 = .ok (.putfield 16, 3) := by decide +kernel
theorem dX4_init_28 : decode cX4_init 28 = .ok (.aload_n 0, 1) := by decide +kernel
theorem dX4_init_29 : decode cX4_init 29 = .ok (.bipush 40, 2) := by decide +kernel
theorem dX4_init_31 : decode cX4_init 31 = .ok (.newarray .int, 2) := by decide +kernel
theorem dX4_init_33 : decode cX4_init 33 = .ok (.putfield 19, 3) := by decide +kernel
theorem dX4_init_36 : decode cX4_init 36 = .ok (.aload_n 0, 1) := by decide +kernel
theorem dX4_init_37 : decode cX4_init 37 = .ok (.bipush 40, 2) := by decide +kernel
theorem dX4_init_39 : decode cX4_init 39 = .ok (.newarray .int, 2) := by decide +kernel
theorem dX4_init_41 : decode cX4_init 41 = .ok (.putfield 22, 3) := by decide +kernel
theorem dX4_init_44 : decode cX4_init 44 = .ok (.aload_n 0, 1) := by decide +kernel
theorem dX4_init_45 : decode cX4_init 45 = .ok (.bipush 40, 2) := by decide +kernel
theorem dX4_init_47 : decode cX4_init 47 = .ok (.newarray .boolean, 2) := by decide +kernel
theorem dX4_init_49 : decode cX4_init 49 = .ok (.putfield 25, 3) := by decide +kernel
theorem dX4_init_52 : decode cX4_init 52 = .ok (.aload_n 0, 1) := by decide +kernel
theorem dX4_init_53 : decode cX4_init 53 = .ok (.bipush 40, 2) := by decide +kernel
theorem dX4_init_55 : decode cX4_init 55 = .ok (.newarray .int, 2) := by decide +kernel
theorem dX4_init_57 : decode cX4_init 57 = .ok (.putfield 29, 3) := by decide +kernel
theorem dX4_init_60 : decode cX4_init 60 = .ok (.aload_n 0, 1) := by decide +kernel
theorem dX4_init_61 : decode cX4_init 61 = .ok (.bipush 40, 2) := by decide +kernel
theorem dX4_init_63 : decode cX4_init 63 = .ok (.newarray .int, 2) := by decide +kernel
theorem dX4_init_65 : decode cX4_init 65 = .ok (.putfield 32, 3) := by decide +kernel
theorem dX4_init_68 : decode cX4_init 68 = .ok (.aload_n 0, 1) := by decide +kernel
theorem dX4_init_69 : decode cX4_init 69 = .ok (.bipush 40, 2) := by decide +kernel
theorem dX4_init_71 : decode cX4_init 71 = .ok (.newarray .boolean, 2) := by decide +kernel
theorem dX4_init_73 : decode cX4_init 73 = .ok (.putfield 35, 3) := by decide +kernel
theorem dX4_init_76 : decode cX4_init 76 = .ok (.aload_n 0, 1) := by decide +kernel
theorem dX4_init_77 : decode cX4_init 77 = .ok (.bipush 40, 2) := by decide +kernel
theorem dX4_init_79 : decode cX4_init 79 = .ok (.newarray .int, 2) := by decide +kernel
theorem dX4_init_81 : decode cX4_init 81 = .ok (.putfield 38, 3) := by decide +kernel
theorem dX4_init_84 : decode cX4_init 84 = .ok (.aload_n 0, 1) := by decide +kernel
theorem dX4_init_85 : decode cX4_init 85 = .ok (.bipush 40, 2) := by decide +kernel
theorem dX4_init_87 : decode cX4_init 87 = .ok (.newarray .int, 2) := by decide +kernel
theorem dX4_init_89 : decode cX4_init 89 = .ok (.putfield 41, 3) := by decide +kernel
theorem dX4_init_92 : decode cX4_init 92 = .ok (.aload_n 0, 1) := by decide +kernel
theorem dX4_init_93 : decode cX4_init 93 = .ok (.bipush 40, 2) := by decide +kernel
theorem dX4_init_95 : decode cX4_init 95 = .ok (.newarray .int, 2) := by decide +kernel
theorem dX4_init_97 : decode cX4_init 97 = .ok (.putfield 44, 3) := by decide +kernel
theorem dX4_init_100 : decode cX4_init 100 = .ok (.aload_n 0, 1) := by decide +kernel
theorem dX4_init_101 : decode cX4_init 101 = .ok (.bipush 40, 2) := by decide +kernel
theorem dX4_init_103 : decode cX4_init 103 = .ok (.newarray .int, 2) := by decide +kernel
theorem dX4_init_105 : decode cX4_init 105 = .ok (.putfield 47, 3) := by decide +kernel
theorem dX4_init_108 : decode cX4_init 108 = .ok (.aload_n 0, 1) := by decide +kernel
theorem dX4_init_109 : decode cX4_init 109 = .ok (.bipush 40, 2) := by decide +kernel
theorem dX4_init_111 : decode cX4_init 111 = .ok (.newarray .int, 2) := by decide +kernel
theorem dX4_init_113 : decode cX4_init 113 = .ok (.putfield 50, 3) := by decide +kernel
theorem dX4_init_116 : decode cX4_init 116 = .ok (.aload_n 0, 1) := by decide +kernel
theorem dX4_init_117 : decode cX4_init 117 = .ok (.bipush 40, 2) := by decide +kernel
theorem dX4_init_119 : decode cX4_init 119 = .ok (.newarray .int, 2) := by decide +kernel
theorem dX4_init_121 : decode cX4_init 121 = .ok (.putfield 53, 3) := by decide +kernel
theorem dX4_init_124 : decode cX4_init 124 = .ok (.aload_n 0, 1) := by decide +kernel
theorem dX4_init_125 : decode cX4_init 125 = .ok (.bipush 40, 2) := by decide +kernel
theorem dX4_init_127 : decode cX4_init 127 = .ok (.newarray .int, 2) := by decide +kernel
theorem dX4_init_129 : decode cX4_init 129 = .ok (.putfield 56, 3) := by decide +kernel
theorem dX4_init_132 : decode cX4_init 132 = .ok (.aload_n 0, 1) := by decide +kernel
theorem dX4_init_133 : decode cX4_init 133 = .ok (.bipush 48, 2) := by decide +kernel
theorem dX4_init_135 : decode cX4_init 135 = .ok (.newarray .int, 2) := by decide +kernel
theorem dX4_init_137 : decode cX4_init 137 = .ok (.putfield 59, 3) := by decide +kernel
theorem dX4_init_140 : decode cX4_init 140 = .ok (.aload_n 0, 1) := by decide +kernel
theorem dX4_init_141 : decode cX4_init 141 = .ok (.bipush 48, 2) := by decide +kernel
theorem dX4_init_143 : decode cX4_init 143 = .ok (.newarray .int, 2) := by decide +kernel
theorem dX4_init_145 : decode cX4_init 145 = .ok (.putfield 62, 3) := by decide +kernel
theorem dX4_init_148 : decode cX4_init 148 = .ok (.iconst 0, 1) := by decide +kernel
theorem dX4_init_149 : decode cX4_init 149 = .ok (.istore_n 1, 1) := by decide +kernel
theorem dX4_init_150 : decode cX4_init 150 = .ok (.iload_n 1, 1) := by decide +kernel
theorem dX4_init_151 : decode cX4_init 151 = .ok (.bipush 48, 2) := by decide +kernel
theorem dX4_init_153 : decode cX4_init 153 = .ok (.if_icmp .ge 16, 3) := by decide +kernel
theorem dX4_init_156 : decode cX4_init 156 = .ok (.aload_n 0, 1) := by decide +kernel
theorem dX4_init_157 : decode cX4_init 157 = .ok (.getfield 59, 3) := by decide +kernel
theorem dX4_init_160 : decode cX4_init 160 = .ok (.iload_n 1, 1) := by decide +kernel
theorem dX4_init_161 : decode cX4_init 161 = .ok (.iconst (-1), 1) := by decide +kernel
theorem dX4_init_162 : decode cX4_init 162 = .ok (.iastore, 1) := by decide +kernel
theorem dX4_init_163 : decode cX4_init 163 = .ok (.iinc 1 1, 3) := by decide +kernel
theorem dX4_init_166 : decode cX4_init 166 = .ok (.goto (-16), 3) := by decide +kernel
theorem dX4_init_169 : decode cX4_init 169 = .ok (.return_, 1) := by decide +kernel
theorem dX4_thrown_0 : decode cX4_thrown 0 = .ok (.aload_n 0, 1) := by decide +kernel
theorem dX4_thrown_1 : decode cX4_thrown 1 = .ok (.getfield 65, 3) := by decide +kernel
theorem dX4_thrown_4 : decode cX4_thrown 4 = .ok (.ireturn, 1) := by decide +kernel
theorem dX4_refused_0 : decode cX4_refused 0 = .ok (.aload_n 0, 1) := by decide +kernel
theorem dX4_refused_1 : decode cX4_refused 1 = .ok (.iload_n 1, 1) := by decide +kernel
theorem dX4_refused_2 : decode cX4_refused 2 = .ok (.putfield 65, 3) := by decide +kernel
theorem dX4_refused_5 : decode cX4_refused 5 = .ok (.iload_n 1, 1) := by decide +kernel
theorem dX4_refused_6 : decode cX4_refused 6 = .ok (.ifCond .eq 7, 3) := by decide +kernel
theorem dX4_refused_9 : decode cX4_refused 9 = .ok (.iconst 1, 1) := by decide +kernel
theorem dX4_refused_10 : decode cX4_refused 10 = .ok (.goto 4, 3) := by decide +kernel
theorem dX4_refused_13 : decode cX4_refused 13 = .ok (.iconst 0, 1) := by decide +kernel
theorem dX4_refused_14 : decode cX4_refused 14 = .ok (.ireturn, 1) := by decide +kernel
theorem dX4_fine_0 : decode cX4_fine 0 = .ok (.aload_n 0, 1) := by decide +kernel
theorem dX4_fine_1 : decode cX4_fine 1 = .ok (.iconst 0, 1) := by decide +kernel
theorem dX4_fine_2 : decode cX4_fine 2 = .ok (.putfield 65, 3) := by decide +kernel
theorem dX4_fine_5 : decode cX4_fine 5 = .ok (.iload_n 1, 1) := by decide +kernel
theorem dX4_fine_6 : decode cX4_fine 6 = .ok (.ireturn, 1) := by decide +kernel
theorem dX4_in_0 : decode cX4_in 0 = .ok (.iload_n 0, 1) := by decide +kernel
theorem dX4_in_1 : decode cX4_in 1 = .ok (.iload_n 1, 1) := by decide +kernel
theorem dX4_in_2 : decode cX4_in 2 = .ok (.if_icmp .lt 12, 3) := by decide +kernel
theorem dX4_in_5 : decode cX4_in 5 = .ok (.iload_n 0, 1) := by decide +kernel
theorem dX4_in_6 : decode cX4_in 6 = .ok (.iload_n 2, 1) := by decide +kernel
theorem dX4_in_7 : decode cX4_in 7 = .ok (.if_icmp .gt 7, 3) := by decide +kernel
theorem dX4_in_10 : decode cX4_in 10 = .ok (.iconst 1, 1) := by decide +kernel
theorem dX4_in_11 : decode cX4_in 11 = .ok (.goto 4, 3) := by decide +kernel
theorem dX4_in_14 : decode cX4_in 14 = .ok (.iconst 0, 1) := by decide +kernel
theorem dX4_in_15 : decode cX4_in 15 = .ok (.ireturn, 1) := by decide +kernel
theorem dX4_placeIn_0 : decode cX4_placeIn 0 = .ok (.iconst 0, 1) := by decide +kernel
theorem dX4_placeIn_1 : decode cX4_placeIn 1 = .ok (.istore_n 2, 1) := by decide +kernel
theorem dX4_placeIn_2 : decode cX4_placeIn 2 = .ok (.iload_n 2, 1) := by decide +kernel
theorem dX4_placeIn_3 : decode cX4_placeIn 3 = .ok (.aload_n 0, 1) := by decide +kernel
theorem dX4_placeIn_4 : decode cX4_placeIn 4 = .ok (.getfield 69, 3) := by decide +kernel
theorem dX4_placeIn_7 : decode cX4_placeIn 7 = .ok (.if_icmp .ge 21, 3) := by decide +kernel
theorem dX4_placeIn_10 : decode cX4_placeIn 10 = .ok (.aload_n 0, 1) := by decide +kernel
theorem dX4_placeIn_11 : decode cX4_placeIn 11 = .ok (.getfield 7, 3) := by decide +kernel
theorem dX4_placeIn_14 : decode cX4_placeIn 14 = .ok (.iload_n 2, 1) := by decide +kernel
theorem dX4_placeIn_15 : decode cX4_placeIn 15 = .ok (.iaload, 1) := by decide +kernel
theorem dX4_placeIn_16 : decode cX4_placeIn 16 = .ok (.iload_n 1, 1) := by decide +kernel
theorem dX4_placeIn_17 : decode cX4_placeIn 17 = .ok (.if_icmp .ne 5, 3) := by decide +kernel
theorem dX4_placeIn_20 : decode cX4_placeIn 20 = .ok (.iload_n 2, 1) := by decide +kernel
theorem dX4_placeIn_21 : decode cX4_placeIn 21 = .ok (.ireturn, 1) := by decide +kernel
theorem dX4_placeIn_22 : decode cX4_placeIn 22 = .ok (.iinc 2 1, 3) := by decide +kernel
theorem dX4_placeIn_25 : decode cX4_placeIn 25 = .ok (.goto (-23), 3) := by decide +kernel
theorem dX4_placeIn_28 : decode cX4_placeIn 28 = .ok (.iconst (-1), 1) := by decide +kernel
theorem dX4_placeIn_29 : decode cX4_placeIn 29 = .ok (.ireturn, 1) := by decide +kernel
set_option maxRecDepth 20000 in
theorem ggX4_noWindow_X4_placeIn : GoodIn wsX4_noWindow wsX4_placeIn := goodIn_r _ [5, 6, 7, 13, 14, 15, 16, 17, 18, 19, 20, 21, 22, 23, 24, 25, 26, 27, 28, 29, 30, 31, 32, 33, 34] (by decide +kernel) (by decide +kernel)
set_option maxRecDepth 20000 in
theorem gX4_noWindow_X4_placeIn : GoodIn wsX4_noWindow (wsV RX4 72 RX4 yX4_placeIn wsX4_placeIn) := goodIn_app (goodIn_of _ (by decide +kernel)) ggX4_noWindow_X4_placeIn
set_option maxRecDepth 20000 in
theorem ggX4_noWindow_X4_refused : GoodIn wsX4_noWindow wsX4_refused := goodIn_r _ [11, 12, 13, 14, 15, 16, 17, 18, 19, 20, 21, 22, 23, 24, 25, 26, 27, 28, 29, 30, 31, 32, 33, 34] (by decide +kernel) (by decide +kernel)
set_option maxRecDepth 20000 in
theorem gX4_noWindow_X4_refused : GoodIn wsX4_noWindow (wsV RX4 76 RX4 yX4_refused wsX4_refused) := goodIn_app (goodIn_of _ (by decide +kernel)) ggX4_noWindow_X4_refused
theorem dX4_noWindow_0 : decode cX4_noWindow 0 = .ok (.aload_n 0, 1) := by decide +kernel
theorem dX4_noWindow_1 : decode cX4_noWindow 1 = .ok (.aload_n 0, 1) := by decide +kernel
theorem dX4_noWindow_2 : decode cX4_noWindow 2 = .ok (.iload_n 1, 1) := by decide +kernel
theorem dX4_noWindow_3 : decode cX4_noWindow 3 = .ok (.invokevirtual 72, 3) := by decide +kernel
theorem dX4_noWindow_6 : decode cX4_noWindow 6 = .ok (.iconst (-1), 1) := by decide +kernel
theorem dX4_noWindow_7 : decode cX4_noWindow 7 = .ok (.if_icmp .ne 7, 3) := by decide +kernel
theorem dX4_noWindow_10 : decode cX4_noWindow 10 = .ok (.iconst 1, 1) := by decide +kernel
theorem dX4_noWindow_11 : decode cX4_noWindow 11 = .ok (.goto 4, 3) := by decide +kernel
theorem dX4_noWindow_14 : decode cX4_noWindow 14 = .ok (.iconst 0, 1) := by decide +kernel
theorem dX4_noWindow_15 : decode cX4_noWindow 15 = .ok (.invokevirtual 76, 3) := by decide +kernel
theorem dX4_noWindow_18 : decode cX4_noWindow 18 = .ok (.ireturn, 1) := by decide +kernel
set_option maxRecDepth 20000 in
theorem ggX4_covers_X4_in : GoodIn wsX4_covers wsX4_in := goodIn_r _ [9] (by decide +kernel) (by decide +kernel)
set_option maxRecDepth 20000 in
theorem gX4_covers_X4_in : GoodIn wsX4_covers (va_wsS RX4 80 yX4_in wsX4_in) := goodIn_app (goodIn_of _ (by decide +kernel)) ggX4_covers_X4_in
theorem dX4_covers_0 : decode cX4_covers 0 = .ok (.iload_n 2, 1) := by decide +kernel
theorem dX4_covers_1 : decode cX4_covers 1 = .ok (.aload_n 0, 1) := by decide +kernel
theorem dX4_covers_2 : decode cX4_covers 2 = .ok (.getfield 13, 3) := by decide +kernel
theorem dX4_covers_5 : decode cX4_covers 5 = .ok (.iload_n 1, 1) := by decide +kernel
theorem dX4_covers_6 : decode cX4_covers 6 = .ok (.iaload, 1) := by decide +kernel
theorem dX4_covers_7 : decode cX4_covers 7 = .ok (.aload_n 0, 1) := by decide +kernel
theorem dX4_covers_8 : decode cX4_covers 8 = .ok (.getfield 13, 3) := by decide +kernel
theorem dX4_covers_11 : decode cX4_covers 11 = .ok (.iload_n 1, 1) := by decide +kernel
theorem dX4_covers_12 : decode cX4_covers 12 = .ok (.iaload, 1) := by decide +kernel
theorem dX4_covers_13 : decode cX4_covers 13 = .ok (.aload_n 0, 1) := by decide +kernel
theorem dX4_covers_14 : decode cX4_covers 14 = .ok (.getfield 19, 3) := by decide +kernel
theorem dX4_covers_17 : decode cX4_covers 17 = .ok (.iload_n 1, 1) := by decide +kernel
theorem dX4_covers_18 : decode cX4_covers 18 = .ok (.iaload, 1) := by decide +kernel
theorem dX4_covers_19 : decode cX4_covers 19 = .ok (.iadd, 1) := by decide +kernel
theorem dX4_covers_20 : decode cX4_covers 20 = .ok (.iconst 1, 1) := by decide +kernel
theorem dX4_covers_21 : decode cX4_covers 21 = .ok (.isub, 1) := by decide +kernel
theorem dX4_covers_22 : decode cX4_covers 22 = .ok (.invokestatic 80, 3) := by decide +kernel
theorem dX4_covers_25 : decode cX4_covers 25 = .ok (.ifCond .eq 35, 3) := by decide +kernel
theorem dX4_covers_28 : decode cX4_covers 28 = .ok (.iload_n 3, 1) := by decide +kernel
theorem dX4_covers_29 : decode cX4_covers 29 = .ok (.aload_n 0, 1) := by decide +kernel
theorem dX4_covers_30 : decode cX4_covers 30 = .ok (.getfield 16, 3) := by decide +kernel
theorem dX4_covers_33 : decode cX4_covers 33 = .ok (.iload_n 1, 1) := by decide +kernel
theorem dX4_covers_34 : decode cX4_covers 34 = .ok (.iaload, 1) := by decide +kernel
theorem dX4_covers_35 : decode cX4_covers 35 = .ok (.aload_n 0, 1) := by decide +kernel
theorem dX4_covers_36 : decode cX4_covers 36 = .ok (.getfield 16, 3) := by decide +kernel
theorem dX4_covers_39 : decode cX4_covers 39 = .ok (.iload_n 1, 1) := by decide +kernel
theorem dX4_covers_40 : decode cX4_covers 40 = .ok (.iaload, 1) := by decide +kernel
theorem dX4_covers_41 : decode cX4_covers 41 = .ok (.aload_n 0, 1) := by decide +kernel
theorem dX4_covers_42 : decode cX4_covers 42 = .ok (.getfield 22, 3) := by decide +kernel
theorem dX4_covers_45 : decode cX4_covers 45 = .ok (.iload_n 1, 1) := by decide +kernel
theorem dX4_covers_46 : decode cX4_covers 46 = .ok (.iaload, 1) := by decide +kernel
theorem dX4_covers_47 : decode cX4_covers 47 = .ok (.iadd, 1) := by decide +kernel
theorem dX4_covers_48 : decode cX4_covers 48 = .ok (.iconst 1, 1) := by decide +kernel
theorem dX4_covers_49 : decode cX4_covers 49 = .ok (.isub, 1) := by decide +kernel
theorem dX4_covers_50 : decode cX4_covers 50 = .ok (.invokestatic 80, 3) := by decide +kernel
theorem dX4_covers_53 : decode cX4_covers 53 = .ok (.ifCond .eq 7, 3) := by decide +kernel
theorem dX4_covers_56 : decode cX4_covers 56 = .ok (.iconst 1, 1) := by decide +kernel
theorem dX4_covers_57 : decode cX4_covers 57 = .ok (.goto 4, 3) := by decide +kernel
theorem dX4_covers_60 : decode cX4_covers 60 = .ok (.iconst 0, 1) := by decide +kernel
theorem dX4_covers_61 : decode cX4_covers 61 = .ok (.istore 4, 2) := by decide +kernel
theorem dX4_covers_63 : decode cX4_covers 63 = .ok (.iload 4, 2) := by decide +kernel
theorem dX4_covers_65 : decode cX4_covers 65 = .ok (.ifCond .eq 24, 3) := by decide +kernel
theorem dX4_covers_68 : decode cX4_covers 68 = .ok (.aload_n 0, 1) := by decide +kernel
theorem dX4_covers_69 : decode cX4_covers 69 = .ok (.getfield 25, 3) := by decide +kernel
theorem dX4_covers_72 : decode cX4_covers 72 = .ok (.iload_n 1, 1) := by decide +kernel
theorem dX4_covers_73 : decode cX4_covers 73 = .ok (.baload, 1) := by decide +kernel
theorem dX4_covers_74 : decode cX4_covers 74 = .ok (.ifCond .eq 11, 3) := by decide +kernel
theorem dX4_covers_77 : decode cX4_covers 77 = .ok (.iload_n 2, 1) := by decide +kernel
theorem dX4_covers_78 : decode cX4_covers 78 = .ok (.iload_n 3, 1) := by decide +kernel
theorem dX4_covers_79 : decode cX4_covers 79 = .ok (.iadd, 1) := by decide +kernel
theorem dX4_covers_80 : decode cX4_covers 80 = .ok (.iconst 2, 1) := by decide +kernel
theorem dX4_covers_81 : decode cX4_covers 81 = .ok (.irem, 1) := by decide +kernel
theorem dX4_covers_82 : decode cX4_covers 82 = .ok (.ifCond .ne 7, 3) := by decide +kernel
theorem dX4_covers_85 : decode cX4_covers 85 = .ok (.iconst 1, 1) := by decide +kernel
theorem dX4_covers_86 : decode cX4_covers 86 = .ok (.goto 4, 3) := by decide +kernel
theorem dX4_covers_89 : decode cX4_covers 89 = .ok (.iconst 0, 1) := by decide +kernel
theorem dX4_covers_90 : decode cX4_covers 90 = .ok (.ireturn, 1) := by decide +kernel
set_option maxRecDepth 20000 in
theorem ggX4_shownAt_X4_covers : GoodIn wsX4_shownAt wsX4_covers := goodIn_r _ [7, 8, 9, 10, 11, 12, 13, 14, 6, 15, 16, 17, 18, 19, 20, 21, 22, 23, 24, 25, 26, 27, 28, 29, 30, 31, 32, 33, 34, 35, 36, 37] (by decide +kernel) (by decide +kernel)
set_option maxRecDepth 20000 in
theorem gX4_shownAt_X4_covers : GoodIn wsX4_shownAt (wsV RX4 84 RX4 yX4_covers wsX4_covers) := goodIn_app (goodIn_of _ (by decide +kernel)) ggX4_shownAt_X4_covers
theorem dX4_shownAt_0 : decode cX4_shownAt 0 = .ok (.aload_n 0, 1) := by decide +kernel
theorem dX4_shownAt_1 : decode cX4_shownAt 1 = .ok (.getfield 69, 3) := by decide +kernel
theorem dX4_shownAt_4 : decode cX4_shownAt 4 = .ok (.iconst 1, 1) := by decide +kernel
theorem dX4_shownAt_5 : decode cX4_shownAt 5 = .ok (.isub, 1) := by decide +kernel
theorem dX4_shownAt_6 : decode cX4_shownAt 6 = .ok (.istore_n 3, 1) := by decide +kernel
theorem dX4_shownAt_7 : decode cX4_shownAt 7 = .ok (.iload_n 3, 1) := by decide +kernel
theorem dX4_shownAt_8 : decode cX4_shownAt 8 = .ok (.ifCond .lt 31, 3) := by decide +kernel
theorem dX4_shownAt_11 : decode cX4_shownAt 11 = .ok (.aload_n 0, 1) := by decide +kernel
theorem dX4_shownAt_12 : decode cX4_shownAt 12 = .ok (.aload_n 0, 1) := by decide +kernel
theorem dX4_shownAt_13 : decode cX4_shownAt 13 = .ok (.getfield 7, 3) := by decide +kernel
theorem dX4_shownAt_16 : decode cX4_shownAt 16 = .ok (.iload_n 3, 1) := by decide +kernel
theorem dX4_shownAt_17 : decode cX4_shownAt 17 = .ok (.iaload, 1) := by decide +kernel
theorem dX4_shownAt_18 : decode cX4_shownAt 18 = .ok (.iload_n 1, 1) := by decide +kernel
theorem dX4_shownAt_19 : decode cX4_shownAt 19 = .ok (.iload_n 2, 1) := by decide +kernel
theorem dX4_shownAt_20 : decode cX4_shownAt 20 = .ok (.invokevirtual 84, 3) := by decide +kernel
theorem dX4_shownAt_23 : decode cX4_shownAt 23 = .ok (.ifCond .eq 10, 3) := by decide +kernel
theorem dX4_shownAt_26 : decode cX4_shownAt 26 = .ok (.aload_n 0, 1) := by decide +kernel
theorem dX4_shownAt_27 : decode cX4_shownAt 27 = .ok (.getfield 7, 3) := by decide +kernel
theorem dX4_shownAt_30 : decode cX4_shownAt 30 = .ok (.iload_n 3, 1) := by decide +kernel
theorem dX4_shownAt_31 : decode cX4_shownAt 31 = .ok (.iaload, 1) := by decide +kernel
theorem dX4_shownAt_32 : decode cX4_shownAt 32 = .ok (.ireturn, 1) := by decide +kernel
theorem dX4_shownAt_33 : decode cX4_shownAt 33 = .ok (.iinc 3 (-1), 3) := by decide +kernel
theorem dX4_shownAt_36 : decode cX4_shownAt 36 = .ok (.goto (-29), 3) := by decide +kernel
theorem dX4_shownAt_39 : decode cX4_shownAt 39 = .ok (.iconst (-1), 1) := by decide +kernel
theorem dX4_shownAt_40 : decode cX4_shownAt 40 = .ok (.ireturn, 1) := by decide +kernel
set_option maxRecDepth 20000 in
theorem ggX4_isShown_X4_shownAt : GoodIn wsX4_isShown wsX4_shownAt := goodIn_r _ [5, 6, 7, 8, 9, 10, 4, 11, 12, 13, 14, 15, 16, 17, 18, 19, 20, 21, 22, 23, 24, 25, 26, 27, 28, 29, 30, 31, 32, 33, 34, 35, 36, 37, 38, 39, 40, 41] (by decide +kernel) (by decide +kernel)
set_option maxRecDepth 20000 in
theorem gX4_isShown_X4_shownAt : GoodIn wsX4_isShown (wsV RX4 87 RX4 yX4_shownAt wsX4_shownAt) := goodIn_app (goodIn_of _ (by decide +kernel)) ggX4_isShown_X4_shownAt
theorem dX4_isShown_0 : decode cX4_isShown 0 = .ok (.iconst 0, 1) := by decide +kernel
theorem dX4_isShown_1 : decode cX4_isShown 1 = .ok (.istore_n 2, 1) := by decide +kernel
theorem dX4_isShown_2 : decode cX4_isShown 2 = .ok (.iconst 0, 1) := by decide +kernel
theorem dX4_isShown_3 : decode cX4_isShown 3 = .ok (.istore_n 3, 1) := by decide +kernel
theorem dX4_isShown_4 : decode cX4_isShown 4 = .ok (.iload_n 3, 1) := by decide +kernel
theorem dX4_isShown_5 : decode cX4_isShown 5 = .ok (.bipush 48, 2) := by decide +kernel
theorem dX4_isShown_7 : decode cX4_isShown 7 = .ok (.if_icmp .ge 35, 3) := by decide +kernel
theorem dX4_isShown_10 : decode cX4_isShown 10 = .ok (.iload_n 2, 1) := by decide +kernel
theorem dX4_isShown_11 : decode cX4_isShown 11 = .ok (.ifCond .ne 19, 3) := by decide +kernel
theorem dX4_isShown_14 : decode cX4_isShown 14 = .ok (.aload_n 0, 1) := by decide +kernel
theorem dX4_isShown_15 : decode cX4_isShown 15 = .ok (.iload_n 3, 1) := by decide +kernel
theorem dX4_isShown_16 : decode cX4_isShown 16 = .ok (.bipush 8, 2) := by decide +kernel
theorem dX4_isShown_18 : decode cX4_isShown 18 = .ok (.irem, 1) := by decide +kernel
theorem dX4_isShown_19 : decode cX4_isShown 19 = .ok (.iload_n 3, 1) := by decide +kernel
theorem dX4_isShown_20 : decode cX4_isShown 20 = .ok (.bipush 8, 2) := by decide +kernel
theorem dX4_isShown_22 : decode cX4_isShown 22 = .ok (.idiv, 1) := by decide +kernel
theorem dX4_isShown_23 : decode cX4_isShown 23 = .ok (.invokevirtual 87, 3) := by decide +kernel
theorem dX4_isShown_26 : decode cX4_isShown 26 = .ok (.iload_n 1, 1) := by decide +kernel
theorem dX4_isShown_27 : decode cX4_isShown 27 = .ok (.if_icmp .ne 7, 3) := by decide +kernel
theorem dX4_isShown_30 : decode cX4_isShown 30 = .ok (.iconst 1, 1) := by decide +kernel
theorem dX4_isShown_31 : decode cX4_isShown 31 = .ok (.goto 4, 3) := by decide +kernel
theorem dX4_isShown_34 : decode cX4_isShown 34 = .ok (.iconst 0, 1) := by decide +kernel
theorem dX4_isShown_35 : decode cX4_isShown 35 = .ok (.istore_n 2, 1) := by decide +kernel
theorem dX4_isShown_36 : decode cX4_isShown 36 = .ok (.iinc 3 1, 3) := by decide +kernel
theorem dX4_isShown_39 : decode cX4_isShown 39 = .ok (.goto (-35), 3) := by decide +kernel
theorem dX4_isShown_42 : decode cX4_isShown 42 = .ok (.iload_n 2, 1) := by decide +kernel
theorem dX4_isShown_43 : decode cX4_isShown 43 = .ok (.ireturn, 1) := by decide +kernel
theorem dX4_need_0 : decode cX4_need 0 = .ok (.aload_n 0, 1) := by decide +kernel
theorem dX4_need_1 : decode cX4_need 1 = .ok (.getfield 19, 3) := by decide +kernel
theorem dX4_need_4 : decode cX4_need 4 = .ok (.iload_n 1, 1) := by decide +kernel
theorem dX4_need_5 : decode cX4_need 5 = .ok (.iaload, 1) := by decide +kernel
theorem dX4_need_6 : decode cX4_need 6 = .ok (.aload_n 0, 1) := by decide +kernel
theorem dX4_need_7 : decode cX4_need 7 = .ok (.getfield 22, 3) := by decide +kernel
theorem dX4_need_10 : decode cX4_need 10 = .ok (.iload_n 1, 1) := by decide +kernel
theorem dX4_need_11 : decode cX4_need 11 = .ok (.iaload, 1) := by decide +kernel
theorem dX4_need_12 : decode cX4_need 12 = .ok (.imul, 1) := by decide +kernel
theorem dX4_need_13 : decode cX4_need 13 = .ok (.iconst 3, 1) := by decide +kernel
theorem dX4_need_14 : decode cX4_need 14 = .ok (.iadd, 1) := by decide +kernel
theorem dX4_need_15 : decode cX4_need 15 = .ok (.iconst 4, 1) := by decide +kernel
theorem dX4_need_16 : decode cX4_need 16 = .ok (.idiv, 1) := by decide +kernel
theorem dX4_need_17 : decode cX4_need 17 = .ok (.ireturn, 1) := by decide +kernel
set_option maxRecDepth 20000 in
theorem ggX4_freePages_X4_need : GoodIn wsX4_freePages wsX4_need := goodIn_r _ [8, 9, 10, 11, 12, 13, 14, 15, 16, 17, 18, 19, 20, 21, 22, 23, 24, 25, 26, 27, 28, 29, 30, 31, 32] (by decide +kernel) (by decide +kernel)
set_option maxRecDepth 20000 in
theorem gX4_freePages_X4_need : GoodIn wsX4_freePages (wsV RX4 91 RX4 yX4_need wsX4_need) := goodIn_app (goodIn_of _ (by decide +kernel)) ggX4_freePages_X4_need
theorem dX4_freePages_0 : decode cX4_freePages 0 = .ok (.bipush 24, 2) := by decide +kernel
theorem dX4_freePages_2 : decode cX4_freePages 2 = .ok (.istore_n 1, 1) := by decide +kernel
theorem dX4_freePages_3 : decode cX4_freePages 3 = .ok (.iconst 0, 1) := by decide +kernel
theorem dX4_freePages_4 : decode cX4_freePages 4 = .ok (.istore_n 2, 1) := by decide +kernel
theorem dX4_freePages_5 : decode cX4_freePages 5 = .ok (.iload_n 2, 1) := by decide +kernel
theorem dX4_freePages_6 : decode cX4_freePages 6 = .ok (.aload_n 0, 1) := by decide +kernel
theorem dX4_freePages_7 : decode cX4_freePages 7 = .ok (.getfield 69, 3) := by decide +kernel
theorem dX4_freePages_10 : decode cX4_freePages 10 = .ok (.if_icmp .ge 40, 3) := by decide +kernel
theorem dX4_freePages_13 : decode cX4_freePages 13 = .ok (.iload_n 1, 1) := by decide +kernel
theorem dX4_freePages_14 : decode cX4_freePages 14 = .ok (.aload_n 0, 1) := by decide +kernel
theorem dX4_freePages_15 : decode cX4_freePages 15 = .ok (.getfield 35, 3) := by decide +kernel
theorem dX4_freePages_18 : decode cX4_freePages 18 = .ok (.aload_n 0, 1) := by decide +kernel
theorem dX4_freePages_19 : decode cX4_freePages 19 = .ok (.getfield 7, 3) := by decide +kernel
theorem dX4_freePages_22 : decode cX4_freePages 22 = .ok (.iload_n 2, 1) := by decide +kernel
theorem dX4_freePages_23 : decode cX4_freePages 23 = .ok (.iaload, 1) := by decide +kernel
theorem dX4_freePages_24 : decode cX4_freePages 24 = .ok (.baload, 1) := by decide +kernel
theorem dX4_freePages_25 : decode cX4_freePages 25 = .ok (.ifCond .eq 16, 3) := by decide +kernel
theorem dX4_freePages_28 : decode cX4_freePages 28 = .ok (.aload_n 0, 1) := by decide +kernel
theorem dX4_freePages_29 : decode cX4_freePages 29 = .ok (.aload_n 0, 1) := by decide +kernel
theorem dX4_freePages_30 : decode cX4_freePages 30 = .ok (.getfield 7, 3) := by decide +kernel
theorem dX4_freePages_33 : decode cX4_freePages 33 = .ok (.iload_n 2, 1) := by decide +kernel
theorem dX4_freePages_34 : decode cX4_freePages 34 = .ok (.iaload, 1) := by decide +kernel
theorem dX4_freePages_35 : decode cX4_freePages 35 = .ok (.invokevirtual 91, 3) := by decide +kernel
theorem dX4_freePages_38 : decode cX4_freePages 38 = .ok (.goto 4, 3) := by decide +kernel
theorem dX4_freePages_41 : decode cX4_freePages 41 = .ok (.iconst 0, 1) := by decide +kernel
theorem dX4_freePages_42 : decode cX4_freePages 42 = .ok (.isub, 1) := by decide +kernel
theorem dX4_freePages_43 : decode cX4_freePages 43 = .ok (.istore_n 1, 1) := by decide +kernel
theorem dX4_freePages_44 : decode cX4_freePages 44 = .ok (.iinc 2 1, 3) := by decide +kernel
theorem dX4_freePages_47 : decode cX4_freePages 47 = .ok (.goto (-42), 3) := by decide +kernel
theorem dX4_freePages_50 : decode cX4_freePages 50 = .ok (.iload_n 1, 1) := by decide +kernel
theorem dX4_freePages_51 : decode cX4_freePages 51 = .ok (.ireturn, 1) := by decide +kernel
theorem dX4_drop_0 : decode cX4_drop 0 = .ok (.aload_n 0, 1) := by decide +kernel
theorem dX4_drop_1 : decode cX4_drop 1 = .ok (.getfield 53, 3) := by decide +kernel
theorem dX4_drop_4 : decode cX4_drop 4 = .ok (.iload_n 1, 1) := by decide +kernel
theorem dX4_drop_5 : decode cX4_drop 5 = .ok (.iaload, 1) := by decide +kernel
theorem dX4_drop_6 : decode cX4_drop 6 = .ok (.iconst (-1), 1) := by decide +kernel
theorem dX4_drop_7 : decode cX4_drop 7 = .ok (.if_icmp .eq 20, 3) := by decide +kernel
theorem dX4_drop_10 : decode cX4_drop 10 = .ok (.aload_n 0, 1) := by decide +kernel
theorem dX4_drop_11 : decode cX4_drop 11 = .ok (.getfield 53, 3) := by decide +kernel
theorem dX4_drop_14 : decode cX4_drop 14 = .ok (.iload_n 1, 1) := by decide +kernel
theorem dX4_drop_15 : decode cX4_drop 15 = .ok (.iconst (-1), 1) := by decide +kernel
theorem dX4_drop_16 : decode cX4_drop 16 = .ok (.iastore, 1) := by decide +kernel
theorem dX4_drop_17 : decode cX4_drop 17 = .ok (.aload_n 0, 1) := by decide +kernel
theorem dX4_drop_18 : decode cX4_drop 18 = .ok (.getfield 50, 3) := by decide +kernel
theorem dX4_drop_21 : decode cX4_drop 21 = .ok (.iload_n 1, 1) := by decide +kernel
theorem dX4_drop_22 : decode cX4_drop 22 = .ok (.aload_n 0, 1) := by decide +kernel
theorem dX4_drop_23 : decode cX4_drop 23 = .ok (.getfield 94, 3) := by decide +kernel
theorem dX4_drop_26 : decode cX4_drop 26 = .ok (.iastore, 1) := by decide +kernel
theorem dX4_drop_27 : decode cX4_drop 27 = .ok (.return_, 1) := by decide +kernel
set_option maxRecDepth 20000 in
theorem ggX4_lose_X4_drop : GoodIn wsX4_lose wsX4_drop := goodIn_r _ [7, 8, 9, 10, 11, 12, 13, 14, 15, 16, 17, 18, 19, 20, 21, 22, 23, 24, 25, 26, 27, 28, 29, 30, 31, 32] (by decide +kernel) (by decide +kernel)
set_option maxRecDepth 20000 in
theorem gX4_lose_X4_drop : GoodIn wsX4_lose (wsV RX4 97 RX4 yX4_drop wsX4_drop) := goodIn_app (goodIn_of _ (by decide +kernel)) ggX4_lose_X4_drop
theorem dX4_lose_0 : decode cX4_lose 0 = .ok (.aload_n 0, 1) := by decide +kernel
theorem dX4_lose_1 : decode cX4_lose 1 = .ok (.getfield 35, 3) := by decide +kernel
theorem dX4_lose_4 : decode cX4_lose 4 = .ok (.iload_n 1, 1) := by decide +kernel
theorem dX4_lose_5 : decode cX4_lose 5 = .ok (.iconst 0, 1) := by decide +kernel
theorem dX4_lose_6 : decode cX4_lose 6 = .ok (.bastore, 1) := by decide +kernel
theorem dX4_lose_7 : decode cX4_lose 7 = .ok (.aload_n 0, 1) := by decide +kernel
theorem dX4_lose_8 : decode cX4_lose 8 = .ok (.getfield 38, 3) := by decide +kernel
theorem dX4_lose_11 : decode cX4_lose 11 = .ok (.iload_n 1, 1) := by decide +kernel
theorem dX4_lose_12 : decode cX4_lose 12 = .ok (.iconst 0, 1) := by decide +kernel
theorem dX4_lose_13 : decode cX4_lose 13 = .ok (.iastore, 1) := by decide +kernel
theorem dX4_lose_14 : decode cX4_lose 14 = .ok (.aload_n 0, 1) := by decide +kernel
theorem dX4_lose_15 : decode cX4_lose 15 = .ok (.iload_n 1, 1) := by decide +kernel
theorem dX4_lose_16 : decode cX4_lose 16 = .ok (.invokevirtual 97, 3) := by decide +kernel
theorem dX4_lose_19 : decode cX4_lose 19 = .ok (.return_, 1) := by decide +kernel
set_option maxRecDepth 20000 in
theorem ggX4_canLose_X4_isShown : GoodIn wsX4_canLose wsX4_isShown := goodIn_r _ [6, 7, 8, 9, 5, 10, 11, 12, 13, 14, 15, 16, 17, 18, 19, 20, 21, 22, 23, 24, 25, 26, 27, 28, 29, 30, 31, 32, 33, 34, 35, 36, 37, 38, 39, 40, 41, 42, 43, 44, 45, 46] (by decide +kernel) (by decide +kernel)
set_option maxRecDepth 20000 in
theorem gX4_canLose_X4_isShown : GoodIn wsX4_canLose (wsV RX4 101 RX4 yX4_isShown wsX4_isShown) := goodIn_app (goodIn_of _ (by decide +kernel)) ggX4_canLose_X4_isShown
theorem dX4_canLose_0 : decode cX4_canLose 0 = .ok (.iload_n 1, 1) := by decide +kernel
theorem dX4_canLose_1 : decode cX4_canLose 1 = .ok (.iload_n 2, 1) := by decide +kernel
theorem dX4_canLose_2 : decode cX4_canLose 2 = .ok (.if_icmp .eq 24, 3) := by decide +kernel
theorem dX4_canLose_5 : decode cX4_canLose 5 = .ok (.aload_n 0, 1) := by decide +kernel
theorem dX4_canLose_6 : decode cX4_canLose 6 = .ok (.getfield 35, 3) := by decide +kernel
theorem dX4_canLose_9 : decode cX4_canLose 9 = .ok (.iload_n 1, 1) := by decide +kernel
theorem dX4_canLose_10 : decode cX4_canLose 10 = .ok (.baload, 1) := by decide +kernel
theorem dX4_canLose_11 : decode cX4_canLose 11 = .ok (.ifCond .eq 15, 3) := by decide +kernel
theorem dX4_canLose_14 : decode cX4_canLose 14 = .ok (.aload_n 0, 1) := by decide +kernel
theorem dX4_canLose_15 : decode cX4_canLose 15 = .ok (.iload_n 1, 1) := by decide +kernel
theorem dX4_canLose_16 : decode cX4_canLose 16 = .ok (.invokevirtual 101, 3) := by decide +kernel
theorem dX4_canLose_19 : decode cX4_canLose 19 = .ok (.ifCond .ne 7, 3) := by decide +kernel
theorem dX4_canLose_22 : decode cX4_canLose 22 = .ok (.iconst 1, 1) := by decide +kernel
theorem dX4_canLose_23 : decode cX4_canLose 23 = .ok (.goto 4, 3) := by decide +kernel
theorem dX4_canLose_26 : decode cX4_canLose 26 = .ok (.iconst 0, 1) := by decide +kernel
theorem dX4_canLose_27 : decode cX4_canLose 27 = .ok (.ireturn, 1) := by decide +kernel
set_option maxRecDepth 20000 in
theorem ggX4_lend_X4_freePages : GoodIn wsX4_lend wsX4_freePages := goodIn_r _ [8, 1, 3, 2, 9, 10, 11, 7, 12, 13, 14, 49, 50, 51, 52, 53, 54, 55, 56, 57, 58, 59, 60, 61, 62, 63, 64, 65, 66, 67, 68, 69, 70] (by decide +kernel) (by decide +kernel)
set_option maxRecDepth 20000 in
theorem gX4_lend_X4_freePages : GoodIn wsX4_lend (wsV RX4 104 RX4 yX4_freePages wsX4_freePages) := goodIn_app (goodIn_of _ (by decide +kernel)) ggX4_lend_X4_freePages
set_option maxRecDepth 20000 in
theorem ggX4_lend_X4_canLose : GoodIn wsX4_lend wsX4_canLose := goodIn_r _ [18, 3, 19, 20, 21, 7, 22, 23, 24, 25, 26, 1, 2, 27, 28, 29, 30, 31, 13, 32, 14, 33, 34, 35, 36, 49, 50, 51, 52, 53, 54, 55, 56, 57, 58, 59, 60, 61, 62, 63, 64, 65, 66, 67, 68, 69, 70] (by decide +kernel) (by decide +kernel)
set_option maxRecDepth 20000 in
theorem gX4_lend_X4_canLose : GoodIn wsX4_lend (wsV RX4 108 RX4 yX4_canLose wsX4_canLose) := goodIn_app (goodIn_of _ (by decide +kernel)) ggX4_lend_X4_canLose
set_option maxRecDepth 20000 in
theorem ggX4_lend_X4_need : GoodIn wsX4_lend wsX4_need := goodIn_r _ [12, 13, 14, 49, 50, 51, 52, 53, 54, 55, 56, 57, 58, 59, 60, 61, 62, 63, 64, 65, 66, 67, 68, 69, 70] (by decide +kernel) (by decide +kernel)
set_option maxRecDepth 20000 in
theorem gX4_lend_X4_need : GoodIn wsX4_lend (wsV RX4 91 RX4 yX4_need wsX4_need) := goodIn_app (goodIn_of _ (by decide +kernel)) ggX4_lend_X4_need
set_option maxRecDepth 20000 in
theorem ggX4_lend_X4_lose : GoodIn wsX4_lend wsX4_lose := goodIn_r _ [40, 3, 41, 42, 43, 44, 7, 45, 46, 47, 48, 49, 50, 51, 52, 53, 54, 55, 56, 57, 58, 59, 60, 61, 62, 63, 64, 65, 66, 67, 68, 69, 70] (by decide +kernel) (by decide +kernel)
set_option maxRecDepth 20000 in
theorem gX4_lend_X4_lose : GoodIn wsX4_lend (wsV RX4 112 RX4 yX4_lose wsX4_lose) := goodIn_app (goodIn_of _ (by decide +kernel)) ggX4_lend_X4_lose
theorem dX4_lend_0 : decode cX4_lend 0 = .ok (.aload_n 0, 1) := by decide +kernel
theorem dX4_lend_1 : decode cX4_lend 1 = .ok (.invokevirtual 104, 3) := by decide +kernel
theorem dX4_lend_4 : decode cX4_lend 4 = .ok (.istore_n 2, 1) := by decide +kernel
theorem dX4_lend_5 : decode cX4_lend 5 = .ok (.iconst 0, 1) := by decide +kernel
theorem dX4_lend_6 : decode cX4_lend 6 = .ok (.istore_n 3, 1) := by decide +kernel
theorem dX4_lend_7 : decode cX4_lend 7 = .ok (.iload_n 3, 1) := by decide +kernel
theorem dX4_lend_8 : decode cX4_lend 8 = .ok (.aload_n 0, 1) := by decide +kernel
theorem dX4_lend_9 : decode cX4_lend 9 = .ok (.getfield 69, 3) := by decide +kernel
theorem dX4_lend_12 : decode cX4_lend 12 = .ok (.if_icmp .ge 40, 3) := by decide +kernel
theorem dX4_lend_15 : decode cX4_lend 15 = .ok (.iload_n 2, 1) := by decide +kernel
theorem dX4_lend_16 : decode cX4_lend 16 = .ok (.aload_n 0, 1) := by decide +kernel
theorem dX4_lend_17 : decode cX4_lend 17 = .ok (.aload_n 0, 1) := by decide +kernel
theorem dX4_lend_18 : decode cX4_lend 18 = .ok (.getfield 7, 3) := by decide +kernel
theorem dX4_lend_21 : decode cX4_lend 21 = .ok (.iload_n 3, 1) := by decide +kernel
theorem dX4_lend_22 : decode cX4_lend 22 = .ok (.iaload, 1) := by decide +kernel
theorem dX4_lend_23 : decode cX4_lend 23 = .ok (.iload_n 1, 1) := by decide +kernel
theorem dX4_lend_24 : decode cX4_lend 24 = .ok (.invokevirtual 108, 3) := by decide +kernel
theorem dX4_lend_27 : decode cX4_lend 27 = .ok (.ifCond .eq 16, 3) := by decide +kernel
theorem dX4_lend_30 : decode cX4_lend 30 = .ok (.aload_n 0, 1) := by decide +kernel
theorem dX4_lend_31 : decode cX4_lend 31 = .ok (.aload_n 0, 1) := by decide +kernel
theorem dX4_lend_32 : decode cX4_lend 32 = .ok (.getfield 7, 3) := by decide +kernel
theorem dX4_lend_35 : decode cX4_lend 35 = .ok (.iload_n 3, 1) := by decide +kernel
theorem dX4_lend_36 : decode cX4_lend 36 = .ok (.iaload, 1) := by decide +kernel
theorem dX4_lend_37 : decode cX4_lend 37 = .ok (.invokevirtual 91, 3) := by decide +kernel
theorem dX4_lend_40 : decode cX4_lend 40 = .ok (.goto 4, 3) := by decide +kernel
theorem dX4_lend_43 : decode cX4_lend 43 = .ok (.iconst 0, 1) := by decide +kernel
theorem dX4_lend_44 : decode cX4_lend 44 = .ok (.iadd, 1) := by decide +kernel
theorem dX4_lend_45 : decode cX4_lend 45 = .ok (.istore_n 2, 1) := by decide +kernel
theorem dX4_lend_46 : decode cX4_lend 46 = .ok (.iinc 3 1, 3) := by decide +kernel
theorem dX4_lend_49 : decode cX4_lend 49 = .ok (.goto (-42), 3) := by decide +kernel
theorem dX4_lend_52 : decode cX4_lend 52 = .ok (.iload_n 2, 1) := by decide +kernel
theorem dX4_lend_53 : decode cX4_lend 53 = .ok (.aload_n 0, 1) := by decide +kernel
theorem dX4_lend_54 : decode cX4_lend 54 = .ok (.iload_n 1, 1) := by decide +kernel
theorem dX4_lend_55 : decode cX4_lend 55 = .ok (.invokevirtual 91, 3) := by decide +kernel
theorem dX4_lend_58 : decode cX4_lend 58 = .ok (.if_icmp .ge 5, 3) := by decide +kernel
theorem dX4_lend_61 : decode cX4_lend 61 = .ok (.iconst 0, 1) := by decide +kernel
theorem dX4_lend_62 : decode cX4_lend 62 = .ok (.ireturn, 1) := by decide +kernel
theorem dX4_lend_63 : decode cX4_lend 63 = .ok (.iconst 0, 1) := by decide +kernel
theorem dX4_lend_64 : decode cX4_lend 64 = .ok (.istore_n 3, 1) := by decide +kernel
theorem dX4_lend_65 : decode cX4_lend 65 = .ok (.iload_n 3, 1) := by decide +kernel
theorem dX4_lend_66 : decode cX4_lend 66 = .ok (.aload_n 0, 1) := by decide +kernel
theorem dX4_lend_67 : decode cX4_lend 67 = .ok (.getfield 69, 3) := by decide +kernel
theorem dX4_lend_70 : decode cX4_lend 70 = .ok (.if_icmp .ge 45, 3) := by decide +kernel
theorem dX4_lend_73 : decode cX4_lend 73 = .ok (.aload_n 0, 1) := by decide +kernel
theorem dX4_lend_74 : decode cX4_lend 74 = .ok (.invokevirtual 104, 3) := by decide +kernel
theorem dX4_lend_77 : decode cX4_lend 77 = .ok (.aload_n 0, 1) := by decide +kernel
theorem dX4_lend_78 : decode cX4_lend 78 = .ok (.iload_n 1, 1) := by decide +kernel
theorem dX4_lend_79 : decode cX4_lend 79 = .ok (.invokevirtual 91, 3) := by decide +kernel
theorem dX4_lend_82 : decode cX4_lend 82 = .ok (.if_icmp .ge 33, 3) := by decide +kernel
theorem dX4_lend_85 : decode cX4_lend 85 = .ok (.aload_n 0, 1) := by decide +kernel
theorem dX4_lend_86 : decode cX4_lend 86 = .ok (.aload_n 0, 1) := by decide +kernel
theorem dX4_lend_87 : decode cX4_lend 87 = .ok (.getfield 7, 3) := by decide +kernel
theorem dX4_lend_90 : decode cX4_lend 90 = .ok (.iload_n 3, 1) := by decide +kernel
theorem dX4_lend_91 : decode cX4_lend 91 = .ok (.iaload, 1) := by decide +kernel
theorem dX4_lend_92 : decode cX4_lend 92 = .ok (.iload_n 1, 1) := by decide +kernel
theorem dX4_lend_93 : decode cX4_lend 93 = .ok (.invokevirtual 108, 3) := by decide +kernel
theorem dX4_lend_96 : decode cX4_lend 96 = .ok (.ifCond .eq 13, 3) := by decide +kernel
theorem dX4_lend_99 : decode cX4_lend 99 = .ok (.aload_n 0, 1) := by decide +kernel
theorem dX4_lend_100 : decode cX4_lend 100 = .ok (.aload_n 0, 1) := by decide +kernel
theorem dX4_lend_101 : decode cX4_lend 101 = .ok (.getfield 7, 3) := by decide +kernel
theorem dX4_lend_104 : decode cX4_lend 104 = .ok (.iload_n 3, 1) := by decide +kernel
theorem dX4_lend_105 : decode cX4_lend 105 = .ok (.iaload, 1) := by decide +kernel
theorem dX4_lend_106 : decode cX4_lend 106 = .ok (.invokevirtual 112, 3) := by decide +kernel
theorem dX4_lend_109 : decode cX4_lend 109 = .ok (.iinc 3 1, 3) := by decide +kernel
theorem dX4_lend_112 : decode cX4_lend 112 = .ok (.goto (-47), 3) := by decide +kernel
theorem dX4_lend_115 : decode cX4_lend 115 = .ok (.aload_n 0, 1) := by decide +kernel
theorem dX4_lend_116 : decode cX4_lend 116 = .ok (.getfield 35, 3) := by decide +kernel
theorem dX4_lend_119 : decode cX4_lend 119 = .ok (.iload_n 1, 1) := by decide +kernel
theorem dX4_lend_120 : decode cX4_lend 120 = .ok (.iconst 1, 1) := by decide +kernel
theorem dX4_lend_121 : decode cX4_lend 121 = .ok (.bastore, 1) := by decide +kernel
theorem dX4_lend_122 : decode cX4_lend 122 = .ok (.iconst 1, 1) := by decide +kernel
theorem dX4_lend_123 : decode cX4_lend 123 = .ok (.ireturn, 1) := by decide +kernel
set_option maxRecDepth 20000 in
theorem ggX4_lendAll_X4_isShown : GoodIn wsX4_lendAll wsX4_isShown := goodIn_r _ [8, 9, 10, 11, 7, 12, 1, 3, 13, 14, 15, 16, 17, 18, 19, 20, 21, 22, 23, 24, 53, 54, 55, 56, 57, 58, 59, 60, 61, 62, 63, 64, 65, 66, 67, 68, 69, 70, 71, 72, 73, 74] (by decide +kernel) (by decide +kernel)
set_option maxRecDepth 20000 in
theorem gX4_lendAll_X4_isShown : GoodIn wsX4_lendAll (wsV RX4 101 RX4 yX4_isShown wsX4_isShown) := goodIn_app (goodIn_of _ (by decide +kernel)) ggX4_lendAll_X4_isShown
set_option maxRecDepth 20000 in
theorem ggX4_lendAll_X4_lend : GoodIn wsX4_lendAll wsX4_lend := goodIn_r _ [28, 1, 3, 2, 29, 30, 31, 7, 32, 33, 34, 35, 36, 18, 20, 37, 38, 39, 40, 4, 5, 6, 8, 9, 10, 11, 12, 13, 14, 15, 16, 17, 19, 21, 22, 23, 24, 41, 42, 43, 44, 45, 46, 47, 48, 49, 50, 51, 52, 53, 54, 55, 56, 57, 58, 59, 60, 61, 62, 63, 64, 65, 66, 67, 68, 69, 70, 71, 72, 73, 74] (by decide +kernel) (by decide +kernel)
set_option maxRecDepth 20000 in
theorem gX4_lendAll_X4_lend : GoodIn wsX4_lendAll (wsV RX4 115 RX4 yX4_lend wsX4_lend) := goodIn_app (goodIn_of _ (by decide +kernel)) ggX4_lendAll_X4_lend
theorem dX4_lendAll_0 : decode cX4_lendAll 0 = .ok (.aload_n 0, 1) := by decide +kernel
theorem dX4_lendAll_1 : decode cX4_lendAll 1 = .ok (.getfield 69, 3) := by decide +kernel
theorem dX4_lendAll_4 : decode cX4_lendAll 4 = .ok (.iconst 1, 1) := by decide +kernel
theorem dX4_lendAll_5 : decode cX4_lendAll 5 = .ok (.isub, 1) := by decide +kernel
theorem dX4_lendAll_6 : decode cX4_lendAll 6 = .ok (.istore_n 1, 1) := by decide +kernel
theorem dX4_lendAll_7 : decode cX4_lendAll 7 = .ok (.iload_n 1, 1) := by decide +kernel
theorem dX4_lendAll_8 : decode cX4_lendAll 8 = .ok (.ifCond .lt 47, 3) := by decide +kernel
theorem dX4_lendAll_11 : decode cX4_lendAll 11 = .ok (.aload_n 0, 1) := by decide +kernel
theorem dX4_lendAll_12 : decode cX4_lendAll 12 = .ok (.getfield 35, 3) := by decide +kernel
theorem dX4_lendAll_15 : decode cX4_lendAll 15 = .ok (.aload_n 0, 1) := by decide +kernel
theorem dX4_lendAll_16 : decode cX4_lendAll 16 = .ok (.getfield 7, 3) := by decide +kernel
theorem dX4_lendAll_19 : decode cX4_lendAll 19 = .ok (.iload_n 1, 1) := by decide +kernel
theorem dX4_lendAll_20 : decode cX4_lendAll 20 = .ok (.iaload, 1) := by decide +kernel
theorem dX4_lendAll_21 : decode cX4_lendAll 21 = .ok (.baload, 1) := by decide +kernel
theorem dX4_lendAll_22 : decode cX4_lendAll 22 = .ok (.ifCond .ne 27, 3) := by decide +kernel
theorem dX4_lendAll_25 : decode cX4_lendAll 25 = .ok (.aload_n 0, 1) := by decide +kernel
theorem dX4_lendAll_26 : decode cX4_lendAll 26 = .ok (.aload_n 0, 1) := by decide +kernel
theorem dX4_lendAll_27 : decode cX4_lendAll 27 = .ok (.getfield 7, 3) := by decide +kernel
theorem dX4_lendAll_30 : decode cX4_lendAll 30 = .ok (.iload_n 1, 1) := by decide +kernel
theorem dX4_lendAll_31 : decode cX4_lendAll 31 = .ok (.iaload, 1) := by decide +kernel
theorem dX4_lendAll_32 : decode cX4_lendAll 32 = .ok (.invokevirtual 101, 3) := by decide +kernel
theorem dX4_lendAll_35 : decode cX4_lendAll 35 = .ok (.ifCond .eq 14, 3) := by decide +kernel
theorem dX4_lendAll_38 : decode cX4_lendAll 38 = .ok (.aload_n 0, 1) := by decide +kernel
theorem dX4_lendAll_39 : decode cX4_lendAll 39 = .ok (.aload_n 0, 1) := by decide +kernel
theorem dX4_lendAll_40 : decode cX4_lendAll 40 = .ok (.getfield 7, 3) := by decide +kernel
theorem dX4_lendAll_43 : decode cX4_lendAll 43 = .ok (.iload_n 1, 1) := by decide +kernel
theorem dX4_lendAll_44 : decode cX4_lendAll 44 = .ok (.iaload, 1) := by decide +kernel
theorem dX4_lendAll_45 : decode cX4_lendAll 45 = .ok (.invokevirtual 115, 3) := by decide +kernel
theorem dX4_lendAll_48 : decode cX4_lendAll 48 = .ok (.pop, 1) := by decide +kernel
theorem dX4_lendAll_49 : decode cX4_lendAll 49 = .ok (.iinc 1 (-1), 3) := by decide +kernel
theorem dX4_lendAll_52 : decode cX4_lendAll 52 = .ok (.goto (-45), 3) := by decide +kernel
theorem dX4_lendAll_55 : decode cX4_lendAll 55 = .ok (.return_, 1) := by decide +kernel
set_option maxRecDepth 20000 in
theorem ggX4_open_X4_in : GoodIn wsX4_open wsX4_in := goodIn_r _ [14] (by decide +kernel) (by decide +kernel)
set_option maxRecDepth 20000 in
theorem gX4_open_X4_in : GoodIn wsX4_open (va_wsS RX4 80 yX4_in wsX4_in) := goodIn_app (goodIn_of _ (by decide +kernel)) ggX4_open_X4_in
set_option maxRecDepth 20000 in
theorem ggX4_open_X4_frame : GoodIn wsX4_open wsX4_frame := goodIn_r _ [18, 19, 2, 20, 21, 22, 70, 71, 72, 73, 74, 75, 76, 77, 78, 79, 80, 81, 82, 83, 84, 85, 86, 87, 88, 89, 90, 91] (by decide +kernel) (by decide +kernel)
set_option maxRecDepth 20000 in
theorem gX4_open_X4_frame : GoodIn wsX4_open (wsV RX4 121 RX4 yX4_frame wsX4_frame) := goodIn_app (goodIn_of _ (by decide +kernel)) ggX4_open_X4_frame
set_option maxRecDepth 20000 in
theorem ggX4_open_X4_lend : GoodIn wsX4_open wsX4_lend := goodIn_r _ [26, 1, 4, 27, 28, 29, 30, 13, 31, 32, 33, 34, 35, 21, 22, 36, 37, 38, 39, 40, 41, 42, 43, 44, 45, 46, 47, 48, 49, 50, 51, 19, 20, 3, 11, 12, 14, 52, 53, 54, 55, 56, 57, 58, 59, 60, 10, 8, 9, 70, 71, 72, 73, 74, 75, 76, 77, 78, 79, 80, 81, 82, 83, 84, 85, 86, 87, 88, 89, 90, 91] (by decide +kernel) (by decide +kernel)
set_option maxRecDepth 20000 in
theorem gX4_open_X4_lend : GoodIn wsX4_open (wsV RX4 115 RX4 yX4_lend wsX4_lend) := goodIn_app (goodIn_of _ (by decide +kernel)) ggX4_open_X4_lend
set_option maxRecDepth 20000 in
theorem ggX4_open_X4_refused : GoodIn wsX4_open wsX4_refused := goodIn_r _ [64, 65, 70, 71, 72, 73, 74, 75, 76, 77, 78, 79, 80, 81, 82, 83, 84, 85, 86, 87, 88, 89, 90, 91] (by decide +kernel) (by decide +kernel)
set_option maxRecDepth 20000 in
theorem gX4_open_X4_refused : GoodIn wsX4_open (wsV RX4 76 RX4 yX4_refused wsX4_refused) := goodIn_app (goodIn_of _ (by decide +kernel)) ggX4_open_X4_refused
set_option maxRecDepth 20000 in
theorem ggX4_open_X4_lendAll : GoodIn wsX4_open wsX4_lendAll := goodIn_r _ [69, 1, 27, 4, 40, 41, 42, 13, 43, 44, 45, 46, 47, 48, 49, 50, 51, 19, 21, 20, 22, 3, 11, 12, 14, 23, 24, 25, 26, 28, 29, 30, 31, 32, 33, 34, 35, 36, 37, 38, 39, 52, 53, 54, 55, 56, 57, 58, 59, 60, 10, 8, 9, 70, 71, 72, 73, 74, 75, 76, 77, 78, 79, 80, 81, 82, 83, 84, 85, 86, 87, 88, 89, 90, 91] (by decide +kernel) (by decide +kernel)
set_option maxRecDepth 20000 in
theorem gX4_open_X4_lendAll : GoodIn wsX4_open (wsV RX4 125 RX4 yX4_lendAll wsX4_lendAll) := goodIn_app (goodIn_of _ (by decide +kernel)) ggX4_open_X4_lendAll
theorem dX4_open_0 : decode cX4_open 0 = .ok (.iload_n 1, 1) := by decide +kernel
theorem dX4_open_1 : decode cX4_open 1 = .ok (.iconst 0, 1) := by decide +kernel
theorem dX4_open_2 : decode cX4_open 2 = .ok (.bipush 7, 2) := by decide +kernel
theorem dX4_open_4 : decode cX4_open 4 = .ok (.invokestatic 80, 3) := by decide +kernel
theorem dX4_open_7 : decode cX4_open 7 = .ok (.ifCond .eq 16, 3) := by decide +kernel
theorem dX4_open_10 : decode cX4_open 10 = .ok (.iload_n 2, 1) := by decide +kernel
theorem dX4_open_11 : decode cX4_open 11 = .ok (.iconst 0, 1) := by decide +kernel
theorem dX4_open_12 : decode cX4_open 12 = .ok (.iconst 5, 1) := by decide +kernel
theorem dX4_open_13 : decode cX4_open 13 = .ok (.invokestatic 80, 3) := by decide +kernel
theorem dX4_open_16 : decode cX4_open 16 = .ok (.ifCond .eq 7, 3) := by decide +kernel
theorem dX4_open_19 : decode cX4_open 19 = .ok (.iconst 1, 1) := by decide +kernel
theorem dX4_open_20 : decode cX4_open 20 = .ok (.goto 4, 3) := by decide +kernel
theorem dX4_open_23 : decode cX4_open 23 = .ok (.iconst 0, 1) := by decide +kernel
theorem dX4_open_24 : decode cX4_open 24 = .ok (.istore 8, 2) := by decide +kernel
theorem dX4_open_26 : decode cX4_open 26 = .ok (.iload 8, 2) := by decide +kernel
theorem dX4_open_28 : decode cX4_open 28 = .ok (.ifCond .eq 54, 3) := by decide +kernel
theorem dX4_open_31 : decode cX4_open 31 = .ok (.iload_n 3, 1) := by decide +kernel
theorem dX4_open_32 : decode cX4_open 32 = .ok (.iconst 1, 1) := by decide +kernel
theorem dX4_open_33 : decode cX4_open 33 = .ok (.bipush 8, 2) := by decide +kernel
theorem dX4_open_35 : decode cX4_open 35 = .ok (.iload_n 1, 1) := by decide +kernel
theorem dX4_open_36 : decode cX4_open 36 = .ok (.isub, 1) := by decide +kernel
theorem dX4_open_37 : decode cX4_open 37 = .ok (.invokestatic 80, 3) := by decide +kernel
theorem dX4_open_40 : decode cX4_open 40 = .ok (.ifCond .eq 42, 3) := by decide +kernel
theorem dX4_open_43 : decode cX4_open 43 = .ok (.iload 4, 2) := by decide +kernel
theorem dX4_open_45 : decode cX4_open 45 = .ok (.iconst 1, 1) := by decide +kernel
theorem dX4_open_46 : decode cX4_open 46 = .ok (.bipush 6, 2) := by decide +kernel
theorem dX4_open_48 : decode cX4_open 48 = .ok (.iload_n 2, 1) := by decide +kernel
theorem dX4_open_49 : decode cX4_open 49 = .ok (.isub, 1) := by decide +kernel
theorem dX4_open_50 : decode cX4_open 50 = .ok (.invokestatic 80, 3) := by decide +kernel
theorem dX4_open_53 : decode cX4_open 53 = .ok (.ifCond .eq 29, 3) := by decide +kernel
theorem dX4_open_56 : decode cX4_open 56 = .ok (.iload 6, 2) := by decide +kernel
theorem dX4_open_58 : decode cX4_open 58 = .ok (.iconst 1, 1) := by decide +kernel
theorem dX4_open_59 : decode cX4_open 59 = .ok (.bipush 100, 2) := by decide +kernel
theorem dX4_open_61 : decode cX4_open 61 = .ok (.invokestatic 80, 3) := by decide +kernel
theorem dX4_open_64 : decode cX4_open 64 = .ok (.ifCond .eq 18, 3) := by decide +kernel
theorem dX4_open_67 : decode cX4_open 67 = .ok (.iload 7, 2) := by decide +kernel
theorem dX4_open_69 : decode cX4_open 69 = .ok (.iconst 1, 1) := by decide +kernel
theorem dX4_open_70 : decode cX4_open 70 = .ok (.bipush 20, 2) := by decide +kernel
theorem dX4_open_72 : decode cX4_open 72 = .ok (.invokestatic 80, 3) := by decide +kernel
theorem dX4_open_75 : decode cX4_open 75 = .ok (.ifCond .eq 7, 3) := by decide +kernel
theorem dX4_open_78 : decode cX4_open 78 = .ok (.iconst 1, 1) := by decide +kernel
theorem dX4_open_79 : decode cX4_open 79 = .ok (.goto 4, 3) := by decide +kernel
theorem dX4_open_82 : decode cX4_open 82 = .ok (.iconst 0, 1) := by decide +kernel
theorem dX4_open_83 : decode cX4_open 83 = .ok (.istore 9, 2) := by decide +kernel
theorem dX4_open_85 : decode cX4_open 85 = .ok (.iload 9, 2) := by decide +kernel
theorem dX4_open_87 : decode cX4_open 87 = .ok (.ifCond .eq 25, 3) := by decide +kernel
theorem dX4_open_90 : decode cX4_open 90 = .ok (.aload_n 0, 1) := by decide +kernel
theorem dX4_open_91 : decode cX4_open 91 = .ok (.getfield 69, 3) := by decide +kernel
theorem dX4_open_94 : decode cX4_open 94 = .ok (.bipush 8, 2) := by decide +kernel
theorem dX4_open_96 : decode cX4_open 96 = .ok (.if_icmp .ge 16, 3) := by decide +kernel
theorem dX4_open_99 : decode cX4_open 99 = .ok (.aload_n 0, 1) := by decide +kernel
theorem dX4_open_100 : decode cX4_open 100 = .ok (.getfield 118, 3) := by decide +kernel
theorem dX4_open_103 : decode cX4_open 103 = .ok (.bipush 40, 2) := by decide +kernel
theorem dX4_open_105 : decode cX4_open 105 = .ok (.if_icmp .ge 7, 3) := by decide +kernel
theorem dX4_open_108 : decode cX4_open 108 = .ok (.iconst 1, 1) := by decide +kernel
theorem dX4_open_109 : decode cX4_open 109 = .ok (.goto 4, 3) := by decide +kernel
theorem dX4_open_112 : decode cX4_open 112 = .ok (.iconst 0, 1) := by decide +kernel
theorem dX4_open_113 : decode cX4_open 113 = .ok (.istore 10, 2) := by decide +kernel
theorem dX4_open_115 : decode cX4_open 115 = .ok (.iload 10, 2) := by decide +kernel
theorem dX4_open_117 : decode cX4_open 117 = .ok (.ifCond .eq 75, 3) := by decide +kernel
theorem dX4_open_120 : decode cX4_open 120 = .ok (.aload_n 0, 1) := by decide +kernel
theorem dX4_open_121 : decode cX4_open 121 = .ok (.iload_n 1, 1) := by decide +kernel
theorem dX4_open_122 : decode cX4_open 122 = .ok (.iload_n 2, 1) := by decide +kernel
theorem dX4_open_123 : decode cX4_open 123 = .ok (.iload_n 3, 1) := by decide +kernel
theorem dX4_open_124 : decode cX4_open 124 = .ok (.iload 4, 2) := by decide +kernel
theorem dX4_open_126 : decode cX4_open 126 = .ok (.invokevirtual 121, 3) := by decide +kernel
theorem dX4_open_129 : decode cX4_open 129 = .ok (.aload_n 0, 1) := by decide +kernel
theorem dX4_open_130 : decode cX4_open 130 = .ok (.getfield 25, 3) := by decide +kernel
theorem dX4_open_133 : decode cX4_open 133 = .ok (.aload_n 0, 1) := by decide +kernel
theorem dX4_open_134 : decode cX4_open 134 = .ok (.getfield 118, 3) := by decide +kernel
theorem dX4_open_137 : decode cX4_open 137 = .ok (.iload 5, 2) := by decide +kernel
theorem dX4_open_139 : decode cX4_open 139 = .ok (.bastore, 1) := by decide +kernel
theorem dX4_open_140 : decode cX4_open 140 = .ok (.aload_n 0, 1) := by decide +kernel
theorem dX4_open_141 : decode cX4_open 141 = .ok (.getfield 7, 3) := by decide +kernel
theorem dX4_open_144 : decode cX4_open 144 = .ok (.aload_n 0, 1) := by decide +kernel
theorem dX4_open_145 : decode cX4_open 145 = .ok (.getfield 69, 3) := by decide +kernel
theorem dX4_open_148 : decode cX4_open 148 = .ok (.aload_n 0, 1) := by decide +kernel
theorem dX4_open_149 : decode cX4_open 149 = .ok (.getfield 118, 3) := by decide +kernel
theorem dX4_open_152 : decode cX4_open 152 = .ok (.iastore, 1) := by decide +kernel
theorem dX4_open_153 : decode cX4_open 153 = .ok (.aload_n 0, 1) := by decide +kernel
theorem dX4_open_154 : decode cX4_open 154 = .ok (.dup, 1) := by decide +kernel
theorem dX4_open_155 : decode cX4_open 155 = .ok (.getfield 69, 3) := by decide +kernel
theorem dX4_open_158 : decode cX4_open 158 = .ok (.iconst 1, 1) := by decide +kernel
theorem dX4_open_159 : decode cX4_open 159 = .ok (.iadd, 1) := by decide +kernel
theorem dX4_open_160 : decode cX4_open 160 = .ok (.putfield 69, 3) := by decide +kernel
theorem dX4_open_163 : decode cX4_open 163 = .ok (.aload_n 0, 1) := by decide +kernel
theorem dX4_open_164 : decode cX4_open 164 = .ok (.aload_n 0, 1) := by decide +kernel
theorem dX4_open_165 : decode cX4_open 165 = .ok (.getfield 118, 3) := by decide +kernel
theorem dX4_open_168 : decode cX4_open 168 = .ok (.invokevirtual 115, 3) := by decide +kernel
theorem dX4_open_171 : decode cX4_open 171 = .ok (.istore 10, 2) := by decide +kernel
theorem dX4_open_173 : decode cX4_open 173 = .ok (.aload_n 0, 1) := by decide +kernel
theorem dX4_open_174 : decode cX4_open 174 = .ok (.dup, 1) := by decide +kernel
theorem dX4_open_175 : decode cX4_open 175 = .ok (.getfield 69, 3) := by decide +kernel
theorem dX4_open_178 : decode cX4_open 178 = .ok (.iload 10, 2) := by decide +kernel
theorem dX4_open_180 : decode cX4_open 180 = .ok (.ifCond .eq 7, 3) := by decide +kernel
theorem dX4_open_183 : decode cX4_open 183 = .ok (.iconst 0, 1) := by decide +kernel
theorem dX4_open_184 : decode cX4_open 184 = .ok (.goto 4, 3) := by decide +kernel
theorem dX4_open_187 : decode cX4_open 187 = .ok (.iconst 1, 1) := by decide +kernel
theorem dX4_open_188 : decode cX4_open 188 = .ok (.isub, 1) := by decide +kernel
theorem dX4_open_189 : decode cX4_open 189 = .ok (.putfield 69, 3) := by decide +kernel
theorem dX4_open_192 : decode cX4_open 192 = .ok (.aload_n 0, 1) := by decide +kernel
theorem dX4_open_193 : decode cX4_open 193 = .ok (.iload 9, 2) := by decide +kernel
theorem dX4_open_195 : decode cX4_open 195 = .ok (.ifCond .ne 7, 3) := by decide +kernel
theorem dX4_open_198 : decode cX4_open 198 = .ok (.iconst 1, 1) := by decide +kernel
theorem dX4_open_199 : decode cX4_open 199 = .ok (.goto 13, 3) := by decide +kernel
theorem dX4_open_202 : decode cX4_open 202 = .ok (.iload 10, 2) := by decide +kernel
theorem dX4_open_204 : decode cX4_open 204 = .ok (.ifCond .eq 7, 3) := by decide +kernel
theorem dX4_open_207 : decode cX4_open 207 = .ok (.iconst 0, 1) := by decide +kernel
theorem dX4_open_208 : decode cX4_open 208 = .ok (.goto 4, 3) := by decide +kernel
theorem dX4_open_211 : decode cX4_open 211 = .ok (.iconst 2, 1) := by decide +kernel
theorem dX4_open_212 : decode cX4_open 212 = .ok (.invokevirtual 76, 3) := by decide +kernel
theorem dX4_open_215 : decode cX4_open 215 = .ok (.ifCond .eq 5, 3) := by decide +kernel
theorem dX4_open_218 : decode cX4_open 218 = .ok (.iconst 0, 1) := by decide +kernel
theorem dX4_open_219 : decode cX4_open 219 = .ok (.ireturn, 1) := by decide +kernel
theorem dX4_open_220 : decode cX4_open 220 = .ok (.aload_n 0, 1) := by decide +kernel
theorem dX4_open_221 : decode cX4_open 221 = .ok (.getfield 29, 3) := by decide +kernel
theorem dX4_open_224 : decode cX4_open 224 = .ok (.aload_n 0, 1) := by decide +kernel
theorem dX4_open_225 : decode cX4_open 225 = .ok (.getfield 118, 3) := by decide +kernel
theorem dX4_open_228 : decode cX4_open 228 = .ok (.iload 6, 2) := by decide +kernel
theorem dX4_open_230 : decode cX4_open 230 = .ok (.iastore, 1) := by decide +kernel
theorem dX4_open_231 : decode cX4_open 231 = .ok (.aload_n 0, 1) := by decide +kernel
theorem dX4_open_232 : decode cX4_open 232 = .ok (.getfield 32, 3) := by decide +kernel
theorem dX4_open_235 : decode cX4_open 235 = .ok (.aload_n 0, 1) := by decide +kernel
theorem dX4_open_236 : decode cX4_open 236 = .ok (.getfield 118, 3) := by decide +kernel
theorem dX4_open_239 : decode cX4_open 239 = .ok (.iload 7, 2) := by decide +kernel
theorem dX4_open_241 : decode cX4_open 241 = .ok (.iastore, 1) := by decide +kernel
theorem dX4_open_242 : decode cX4_open 242 = .ok (.aload_n 0, 1) := by decide +kernel
theorem dX4_open_243 : decode cX4_open 243 = .ok (.getfield 41, 3) := by decide +kernel
theorem dX4_open_246 : decode cX4_open 246 = .ok (.aload_n 0, 1) := by decide +kernel
theorem dX4_open_247 : decode cX4_open 247 = .ok (.getfield 118, 3) := by decide +kernel
theorem dX4_open_250 : decode cX4_open 250 = .ok (.iconst 1, 1) := by decide +kernel
theorem dX4_open_251 : decode cX4_open 251 = .ok (.iastore, 1) := by decide +kernel
theorem dX4_open_252 : decode cX4_open 252 = .ok (.aload_n 0, 1) := by decide +kernel
theorem dX4_open_253 : decode cX4_open 253 = .ok (.getfield 50, 3) := by decide +kernel
theorem dX4_open_256 : decode cX4_open 256 = .ok (.aload_n 0, 1) := by decide +kernel
theorem dX4_open_257 : decode cX4_open 257 = .ok (.getfield 118, 3) := by decide +kernel
theorem dX4_open_260 : decode cX4_open 260 = .ok (.aload_n 0, 1) := by decide +kernel
theorem dX4_open_261 : decode cX4_open 261 = .ok (.getfield 94, 3) := by decide +kernel
theorem dX4_open_264 : decode cX4_open 264 = .ok (.iastore, 1) := by decide +kernel
theorem dX4_open_265 : decode cX4_open 265 = .ok (.aload_n 0, 1) := by decide +kernel
theorem dX4_open_266 : decode cX4_open 266 = .ok (.getfield 53, 3) := by decide +kernel
theorem dX4_open_269 : decode cX4_open 269 = .ok (.aload_n 0, 1) := by decide +kernel
theorem dX4_open_270 : decode cX4_open 270 = .ok (.getfield 118, 3) := by decide +kernel
theorem dX4_open_273 : decode cX4_open 273 = .ok (.iconst (-1), 1) := by decide +kernel
theorem dX4_open_274 : decode cX4_open 274 = .ok (.iastore, 1) := by decide +kernel
theorem dX4_open_275 : decode cX4_open 275 = .ok (.aload_n 0, 1) := by decide +kernel
theorem dX4_open_276 : decode cX4_open 276 = .ok (.dup, 1) := by decide +kernel
theorem dX4_open_277 : decode cX4_open 277 = .ok (.getfield 118, 3) := by decide +kernel
theorem dX4_open_280 : decode cX4_open 280 = .ok (.iconst 1, 1) := by decide +kernel
theorem dX4_open_281 : decode cX4_open 281 = .ok (.iadd, 1) := by decide +kernel
theorem dX4_open_282 : decode cX4_open 282 = .ok (.putfield 118, 3) := by decide +kernel
theorem dX4_open_285 : decode cX4_open 285 = .ok (.aload_n 0, 1) := by decide +kernel
theorem dX4_open_286 : decode cX4_open 286 = .ok (.invokevirtual 125, 3) := by decide +kernel
theorem dX4_open_289 : decode cX4_open 289 = .ok (.aload_n 0, 1) := by decide +kernel
theorem dX4_open_290 : decode cX4_open 290 = .ok (.getfield 118, 3) := by decide +kernel
theorem dX4_open_293 : decode cX4_open 293 = .ok (.iconst 1, 1) := by decide +kernel
theorem dX4_open_294 : decode cX4_open 294 = .ok (.isub, 1) := by decide +kernel
theorem dX4_open_295 : decode cX4_open 295 = .ok (.ireturn, 1) := by decide +kernel
theorem dX4_frame_0 : decode cX4_frame 0 = .ok (.aload_n 0, 1) := by decide +kernel
theorem dX4_frame_1 : decode cX4_frame 1 = .ok (.getfield 13, 3) := by decide +kernel
theorem dX4_frame_4 : decode cX4_frame 4 = .ok (.aload_n 0, 1) := by decide +kernel
theorem dX4_frame_5 : decode cX4_frame 5 = .ok (.getfield 118, 3) := by decide +kernel
theorem dX4_frame_8 : decode cX4_frame 8 = .ok (.iload_n 1, 1) := by decide +kernel
theorem dX4_frame_9 : decode cX4_frame 9 = .ok (.iastore, 1) := by decide +kernel
theorem dX4_frame_10 : decode cX4_frame 10 = .ok (.aload_n 0, 1) := by decide +kernel
theorem dX4_frame_11 : decode cX4_frame 11 = .ok (.getfield 16, 3) := by decide +kernel
theorem dX4_frame_14 : decode cX4_frame 14 = .ok (.aload_n 0, 1) := by decide +kernel
theorem dX4_frame_15 : decode cX4_frame 15 = .ok (.getfield 118, 3) := by decide +kernel
theorem dX4_frame_18 : decode cX4_frame 18 = .ok (.iload_n 2, 1) := by decide +kernel
theorem dX4_frame_19 : decode cX4_frame 19 = .ok (.iastore, 1) := by decide +kernel
theorem dX4_frame_20 : decode cX4_frame 20 = .ok (.aload_n 0, 1) := by decide +kernel
theorem dX4_frame_21 : decode cX4_frame 21 = .ok (.getfield 19, 3) := by decide +kernel
theorem dX4_frame_24 : decode cX4_frame 24 = .ok (.aload_n 0, 1) := by decide +kernel
theorem dX4_frame_25 : decode cX4_frame 25 = .ok (.getfield 118, 3) := by decide +kernel
theorem dX4_frame_28 : decode cX4_frame 28 = .ok (.iload_n 3, 1) := by decide +kernel
theorem dX4_frame_29 : decode cX4_frame 29 = .ok (.iastore, 1) := by decide +kernel
theorem dX4_frame_30 : decode cX4_frame 30 = .ok (.aload_n 0, 1) := by decide +kernel
theorem dX4_frame_31 : decode cX4_frame 31 = .ok (.getfield 22, 3) := by decide +kernel
theorem dX4_frame_34 : decode cX4_frame 34 = .ok (.aload_n 0, 1) := by decide +kernel
theorem dX4_frame_35 : decode cX4_frame 35 = .ok (.getfield 118, 3) := by decide +kernel
theorem dX4_frame_38 : decode cX4_frame 38 = .ok (.iload 4, 2) := by decide +kernel
theorem dX4_frame_40 : decode cX4_frame 40 = .ok (.iastore, 1) := by decide +kernel
theorem dX4_frame_41 : decode cX4_frame 41 = .ok (.return_, 1) := by decide +kernel
set_option maxRecDepth 20000 in
theorem ggX4_close_X4_noWindow : GoodIn wsX4_close wsX4_noWindow := goodIn_r _ [7, 8, 9, 10, 6, 11, 1, 2, 12, 13, 14, 15, 16, 70, 71, 72, 73, 74, 75, 76, 77, 78, 79, 80, 81, 82, 83, 84, 85, 86, 87, 88, 89, 90, 91] (by decide +kernel) (by decide +kernel)
set_option maxRecDepth 20000 in
theorem gX4_close_X4_noWindow : GoodIn wsX4_close (wsV RX4 128 RX4 yX4_noWindow wsX4_noWindow) := goodIn_app (goodIn_of _ (by decide +kernel)) ggX4_close_X4_noWindow
set_option maxRecDepth 20000 in
theorem ggX4_close_X4_placeIn : GoodIn wsX4_close wsX4_placeIn := goodIn_r _ [11, 1, 2, 70, 71, 72, 73, 74, 75, 76, 77, 78, 79, 80, 81, 82, 83, 84, 85, 86, 87, 88, 89, 90, 91] (by decide +kernel) (by decide +kernel)
set_option maxRecDepth 20000 in
theorem gX4_close_X4_placeIn : GoodIn wsX4_close (wsV RX4 72 RX4 yX4_placeIn wsX4_placeIn) := goodIn_app (goodIn_of _ (by decide +kernel)) ggX4_close_X4_placeIn
set_option maxRecDepth 20000 in
theorem ggX4_close_X4_lendAll : GoodIn wsX4_close wsX4_lendAll := goodIn_r _ [20, 1, 21, 2, 22, 23, 24, 6, 25, 26, 27, 28, 29, 30, 31, 32, 33, 34, 35, 36, 37, 38, 39, 40, 41, 42, 43, 44, 45, 46, 47, 48, 49, 50, 51, 52, 53, 54, 55, 56, 57, 58, 59, 60, 61, 62, 63, 64, 65, 66, 67, 68, 69, 70, 71, 72, 73, 74, 75, 76, 77, 78, 79, 80, 81, 82, 83, 84, 85, 86, 87, 88, 89, 90, 91] (by decide +kernel) (by decide +kernel)
set_option maxRecDepth 20000 in
theorem gX4_close_X4_lendAll : GoodIn wsX4_close (wsV RX4 125 RX4 yX4_lendAll wsX4_lendAll) := goodIn_app (goodIn_of _ (by decide +kernel)) ggX4_close_X4_lendAll
theorem dX4_close_0 : decode cX4_close 0 = .ok (.aload_n 0, 1) := by decide +kernel
theorem dX4_close_1 : decode cX4_close 1 = .ok (.iload_n 1, 1) := by decide +kernel
theorem dX4_close_2 : decode cX4_close 2 = .ok (.invokevirtual 128, 3) := by decide +kernel
theorem dX4_close_5 : decode cX4_close 5 = .ok (.ifCond .eq 5, 3) := by decide +kernel
theorem dX4_close_8 : decode cX4_close 8 = .ok (.iconst 0, 1) := by decide +kernel
theorem dX4_close_9 : decode cX4_close 9 = .ok (.ireturn, 1) := by decide +kernel
theorem dX4_close_10 : decode cX4_close 10 = .ok (.aload_n 0, 1) := by decide +kernel
theorem dX4_close_11 : decode cX4_close 11 = .ok (.iload_n 1, 1) := by decide +kernel
theorem dX4_close_12 : decode cX4_close 12 = .ok (.invokevirtual 72, 3) := by decide +kernel
theorem dX4_close_15 : decode cX4_close 15 = .ok (.istore_n 2, 1) := by decide +kernel
theorem dX4_close_16 : decode cX4_close 16 = .ok (.iload_n 2, 1) := by decide +kernel
theorem dX4_close_17 : decode cX4_close 17 = .ok (.iconst 1, 1) := by decide +kernel
theorem dX4_close_18 : decode cX4_close 18 = .ok (.iadd, 1) := by decide +kernel
theorem dX4_close_19 : decode cX4_close 19 = .ok (.aload_n 0, 1) := by decide +kernel
theorem dX4_close_20 : decode cX4_close 20 = .ok (.getfield 69, 3) := by decide +kernel
theorem dX4_close_23 : decode cX4_close 23 = .ok (.if_icmp .ge 23, 3) := by decide +kernel
theorem dX4_close_26 : decode cX4_close 26 = .ok (.aload_n 0, 1) := by decide +kernel
theorem dX4_close_27 : decode cX4_close 27 = .ok (.getfield 7, 3) := by decide +kernel
theorem dX4_close_30 : decode cX4_close 30 = .ok (.iload_n 2, 1) := by decide +kernel
theorem dX4_close_31 : decode cX4_close 31 = .ok (.aload_n 0, 1) := by decide +kernel
theorem dX4_close_32 : decode cX4_close 32 = .ok (.getfield 7, 3) := by decide +kernel
theorem dX4_close_35 : decode cX4_close 35 = .ok (.iload_n 2, 1) := by decide +kernel
theorem dX4_close_36 : decode cX4_close 36 = .ok (.iconst 1, 1) := by decide +kernel
theorem dX4_close_37 : decode cX4_close 37 = .ok (.iadd, 1) := by decide +kernel
theorem dX4_close_38 : decode cX4_close 38 = .ok (.iaload, 1) := by decide +kernel
theorem dX4_close_39 : decode cX4_close 39 = .ok (.iastore, 1) := by decide +kernel
theorem dX4_close_40 : decode cX4_close 40 = .ok (.iinc 2 1, 3) := by decide +kernel
theorem dX4_close_43 : decode cX4_close 43 = .ok (.goto (-27), 3) := by decide +kernel
theorem dX4_close_46 : decode cX4_close 46 = .ok (.aload_n 0, 1) := by decide +kernel
theorem dX4_close_47 : decode cX4_close 47 = .ok (.dup, 1) := by decide +kernel
theorem dX4_close_48 : decode cX4_close 48 = .ok (.getfield 69, 3) := by decide +kernel
theorem dX4_close_51 : decode cX4_close 51 = .ok (.iconst 1, 1) := by decide +kernel
theorem dX4_close_52 : decode cX4_close 52 = .ok (.isub, 1) := by decide +kernel
theorem dX4_close_53 : decode cX4_close 53 = .ok (.putfield 69, 3) := by decide +kernel
theorem dX4_close_56 : decode cX4_close 56 = .ok (.aload_n 0, 1) := by decide +kernel
theorem dX4_close_57 : decode cX4_close 57 = .ok (.invokevirtual 125, 3) := by decide +kernel
theorem dX4_close_60 : decode cX4_close 60 = .ok (.aload_n 0, 1) := by decide +kernel
theorem dX4_close_61 : decode cX4_close 61 = .ok (.getfield 69, 3) := by decide +kernel
theorem dX4_close_64 : decode cX4_close 64 = .ok (.ireturn, 1) := by decide +kernel
set_option maxRecDepth 20000 in
theorem ggX4_move_X4_placeIn : GoodIn wsX4_move wsX4_placeIn := goodIn_r _ [9, 10, 11, 66, 67, 68, 69, 70, 71, 72, 73, 74, 75, 76, 77, 78, 79, 80, 81, 82, 83, 84, 85, 86, 87] (by decide +kernel) (by decide +kernel)
set_option maxRecDepth 20000 in
theorem gX4_move_X4_placeIn : GoodIn wsX4_move (wsV RX4 72 RX4 yX4_placeIn wsX4_placeIn) := goodIn_app (goodIn_of _ (by decide +kernel)) ggX4_move_X4_placeIn
set_option maxRecDepth 20000 in
theorem ggX4_move_X4_in : GoodIn wsX4_move wsX4_in := goodIn_r _ [14] (by decide +kernel) (by decide +kernel)
set_option maxRecDepth 20000 in
theorem gX4_move_X4_in : GoodIn wsX4_move (va_wsS RX4 80 yX4_in wsX4_in) := goodIn_app (goodIn_of _ (by decide +kernel)) ggX4_move_X4_in
set_option maxRecDepth 20000 in
theorem ggX4_move_X4_refused : GoodIn wsX4_move wsX4_refused := goodIn_r _ [18, 19, 66, 67, 68, 69, 70, 71, 72, 73, 74, 75, 76, 77, 78, 79, 80, 81, 82, 83, 84, 85, 86, 87] (by decide +kernel) (by decide +kernel)
set_option maxRecDepth 20000 in
theorem gX4_move_X4_refused : GoodIn wsX4_move (wsV RX4 76 RX4 yX4_refused wsX4_refused) := goodIn_app (goodIn_of _ (by decide +kernel)) ggX4_move_X4_refused
set_option maxRecDepth 20000 in
theorem ggX4_move_X4_lendAll : GoodIn wsX4_move wsX4_lendAll := goodIn_r _ [23, 10, 24, 11, 25, 26, 27, 8, 28, 29, 30, 31, 32, 33, 34, 35, 36, 3, 1, 4, 2, 37, 12, 13, 14, 38, 39, 40, 41, 42, 43, 44, 45, 46, 47, 48, 49, 50, 51, 52, 53, 54, 55, 56, 57, 58, 59, 60, 61, 62, 63, 64, 65, 66, 67, 68, 69, 70, 71, 72, 73, 74, 75, 76, 77, 78, 79, 80, 81, 82, 83, 84, 85, 86, 87] (by decide +kernel) (by decide +kernel)
set_option maxRecDepth 20000 in
theorem gX4_move_X4_lendAll : GoodIn wsX4_move (wsV RX4 125 RX4 yX4_lendAll wsX4_lendAll) := goodIn_app (goodIn_of _ (by decide +kernel)) ggX4_move_X4_lendAll
theorem dX4_move_0 : decode cX4_move 0 = .ok (.aload_n 0, 1) := by decide +kernel
theorem dX4_move_1 : decode cX4_move 1 = .ok (.iload_n 1, 1) := by decide +kernel
theorem dX4_move_2 : decode cX4_move 2 = .ok (.invokevirtual 72, 3) := by decide +kernel
theorem dX4_move_5 : decode cX4_move 5 = .ok (.iconst (-1), 1) := by decide +kernel
theorem dX4_move_6 : decode cX4_move 6 = .ok (.if_icmp .eq 7, 3) := by decide +kernel
theorem dX4_move_9 : decode cX4_move 9 = .ok (.iconst 1, 1) := by decide +kernel
theorem dX4_move_10 : decode cX4_move 10 = .ok (.goto 4, 3) := by decide +kernel
theorem dX4_move_13 : decode cX4_move 13 = .ok (.iconst 0, 1) := by decide +kernel
theorem dX4_move_14 : decode cX4_move 14 = .ok (.istore 4, 2) := by decide +kernel
theorem dX4_move_16 : decode cX4_move 16 = .ok (.iload 4, 2) := by decide +kernel
theorem dX4_move_18 : decode cX4_move 18 = .ok (.ifCond .eq 41, 3) := by decide +kernel
theorem dX4_move_21 : decode cX4_move 21 = .ok (.iload_n 2, 1) := by decide +kernel
theorem dX4_move_22 : decode cX4_move 22 = .ok (.iconst 0, 1) := by decide +kernel
theorem dX4_move_23 : decode cX4_move 23 = .ok (.bipush 8, 2) := by decide +kernel
theorem dX4_move_25 : decode cX4_move 25 = .ok (.aload_n 0, 1) := by decide +kernel
theorem dX4_move_26 : decode cX4_move 26 = .ok (.getfield 19, 3) := by decide +kernel
theorem dX4_move_29 : decode cX4_move 29 = .ok (.iload_n 1, 1) := by decide +kernel
theorem dX4_move_30 : decode cX4_move 30 = .ok (.iaload, 1) := by decide +kernel
theorem dX4_move_31 : decode cX4_move 31 = .ok (.isub, 1) := by decide +kernel
theorem dX4_move_32 : decode cX4_move 32 = .ok (.invokestatic 80, 3) := by decide +kernel
theorem dX4_move_35 : decode cX4_move 35 = .ok (.ifCond .eq 24, 3) := by decide +kernel
theorem dX4_move_38 : decode cX4_move 38 = .ok (.iload_n 3, 1) := by decide +kernel
theorem dX4_move_39 : decode cX4_move 39 = .ok (.iconst 0, 1) := by decide +kernel
theorem dX4_move_40 : decode cX4_move 40 = .ok (.bipush 6, 2) := by decide +kernel
theorem dX4_move_42 : decode cX4_move 42 = .ok (.aload_n 0, 1) := by decide +kernel
theorem dX4_move_43 : decode cX4_move 43 = .ok (.getfield 22, 3) := by decide +kernel
theorem dX4_move_46 : decode cX4_move 46 = .ok (.iload_n 1, 1) := by decide +kernel
theorem dX4_move_47 : decode cX4_move 47 = .ok (.iaload, 1) := by decide +kernel
theorem dX4_move_48 : decode cX4_move 48 = .ok (.isub, 1) := by decide +kernel
theorem dX4_move_49 : decode cX4_move 49 = .ok (.invokestatic 80, 3) := by decide +kernel
theorem dX4_move_52 : decode cX4_move 52 = .ok (.ifCond .eq 7, 3) := by decide +kernel
theorem dX4_move_55 : decode cX4_move 55 = .ok (.iconst 1, 1) := by decide +kernel
theorem dX4_move_56 : decode cX4_move 56 = .ok (.goto 4, 3) := by decide +kernel
theorem dX4_move_59 : decode cX4_move 59 = .ok (.iconst 0, 1) := by decide +kernel
theorem dX4_move_60 : decode cX4_move 60 = .ok (.istore 5, 2) := by decide +kernel
theorem dX4_move_62 : decode cX4_move 62 = .ok (.aload_n 0, 1) := by decide +kernel
theorem dX4_move_63 : decode cX4_move 63 = .ok (.iload 4, 2) := by decide +kernel
theorem dX4_move_65 : decode cX4_move 65 = .ok (.ifCond .ne 7, 3) := by decide +kernel
theorem dX4_move_68 : decode cX4_move 68 = .ok (.iconst 1, 1) := by decide +kernel
theorem dX4_move_69 : decode cX4_move 69 = .ok (.goto 13, 3) := by decide +kernel
theorem dX4_move_72 : decode cX4_move 72 = .ok (.iload 5, 2) := by decide +kernel
theorem dX4_move_74 : decode cX4_move 74 = .ok (.ifCond .eq 7, 3) := by decide +kernel
theorem dX4_move_77 : decode cX4_move 77 = .ok (.iconst 0, 1) := by decide +kernel
theorem dX4_move_78 : decode cX4_move 78 = .ok (.goto 4, 3) := by decide +kernel
theorem dX4_move_81 : decode cX4_move 81 = .ok (.iconst 2, 1) := by decide +kernel
theorem dX4_move_82 : decode cX4_move 82 = .ok (.invokevirtual 76, 3) := by decide +kernel
theorem dX4_move_85 : decode cX4_move 85 = .ok (.ifCond .ne 21, 3) := by decide +kernel
theorem dX4_move_88 : decode cX4_move 88 = .ok (.aload_n 0, 1) := by decide +kernel
theorem dX4_move_89 : decode cX4_move 89 = .ok (.getfield 13, 3) := by decide +kernel
theorem dX4_move_92 : decode cX4_move 92 = .ok (.iload_n 1, 1) := by decide +kernel
theorem dX4_move_93 : decode cX4_move 93 = .ok (.iload_n 2, 1) := by decide +kernel
theorem dX4_move_94 : decode cX4_move 94 = .ok (.iastore, 1) := by decide +kernel
theorem dX4_move_95 : decode cX4_move 95 = .ok (.aload_n 0, 1) := by decide +kernel
theorem dX4_move_96 : decode cX4_move 96 = .ok (.getfield 16, 3) := by decide +kernel
theorem dX4_move_99 : decode cX4_move 99 = .ok (.iload_n 1, 1) := by decide +kernel
theorem dX4_move_100 : decode cX4_move 100 = .ok (.iload_n 3, 1) := by decide +kernel
theorem dX4_move_101 : decode cX4_move 101 = .ok (.iastore, 1) := by decide +kernel
theorem dX4_move_102 : decode cX4_move 102 = .ok (.aload_n 0, 1) := by decide +kernel
theorem dX4_move_103 : decode cX4_move 103 = .ok (.invokevirtual 125, 3) := by decide +kernel
theorem dX4_move_106 : decode cX4_move 106 = .ok (.return_, 1) := by decide +kernel
set_option maxRecDepth 20000 in
theorem ggX4_lay_X4_noWindow : GoodIn wsX4_lay wsX4_noWindow := goodIn_r _ [7, 8, 9, 10, 6, 11, 1, 2, 12, 13, 14, 15, 16, 70, 71, 72, 73, 74, 75, 76, 77, 78, 79, 80, 81, 82, 83, 84, 85, 86, 87, 88, 89, 90, 91] (by decide +kernel) (by decide +kernel)
set_option maxRecDepth 20000 in
theorem gX4_lay_X4_noWindow : GoodIn wsX4_lay (wsV RX4 128 RX4 yX4_noWindow wsX4_noWindow) := goodIn_app (goodIn_of _ (by decide +kernel)) ggX4_lay_X4_noWindow
set_option maxRecDepth 20000 in
theorem ggX4_lay_X4_placeIn : GoodIn wsX4_lay wsX4_placeIn := goodIn_r _ [11, 1, 2, 70, 71, 72, 73, 74, 75, 76, 77, 78, 79, 80, 81, 82, 83, 84, 85, 86, 87, 88, 89, 90, 91] (by decide +kernel) (by decide +kernel)
set_option maxRecDepth 20000 in
theorem gX4_lay_X4_placeIn : GoodIn wsX4_lay (wsV RX4 72 RX4 yX4_placeIn wsX4_placeIn) := goodIn_app (goodIn_of _ (by decide +kernel)) ggX4_lay_X4_placeIn
set_option maxRecDepth 20000 in
theorem ggX4_lay_X4_lendAll : GoodIn wsX4_lay wsX4_lendAll := goodIn_r _ [20, 1, 21, 2, 22, 23, 24, 6, 25, 26, 27, 28, 29, 30, 31, 32, 33, 34, 35, 36, 37, 38, 39, 40, 41, 42, 43, 44, 45, 46, 47, 48, 49, 50, 51, 52, 53, 54, 55, 56, 57, 58, 59, 60, 61, 62, 63, 64, 65, 66, 67, 68, 69, 70, 71, 72, 73, 74, 75, 76, 77, 78, 79, 80, 81, 82, 83, 84, 85, 86, 87, 88, 89, 90, 91] (by decide +kernel) (by decide +kernel)
set_option maxRecDepth 20000 in
theorem gX4_lay_X4_lendAll : GoodIn wsX4_lay (wsV RX4 125 RX4 yX4_lendAll wsX4_lendAll) := goodIn_app (goodIn_of _ (by decide +kernel)) ggX4_lay_X4_lendAll
theorem dX4_lay_0 : decode cX4_lay 0 = .ok (.aload_n 0, 1) := by decide +kernel
theorem dX4_lay_1 : decode cX4_lay 1 = .ok (.iload_n 1, 1) := by decide +kernel
theorem dX4_lay_2 : decode cX4_lay 2 = .ok (.invokevirtual 128, 3) := by decide +kernel
theorem dX4_lay_5 : decode cX4_lay 5 = .ok (.ifCond .eq 5, 3) := by decide +kernel
theorem dX4_lay_8 : decode cX4_lay 8 = .ok (.iconst 0, 1) := by decide +kernel
theorem dX4_lay_9 : decode cX4_lay 9 = .ok (.ireturn, 1) := by decide +kernel
theorem dX4_lay_10 : decode cX4_lay 10 = .ok (.aload_n 0, 1) := by decide +kernel
theorem dX4_lay_11 : decode cX4_lay 11 = .ok (.iload_n 1, 1) := by decide +kernel
theorem dX4_lay_12 : decode cX4_lay 12 = .ok (.invokevirtual 72, 3) := by decide +kernel
theorem dX4_lay_15 : decode cX4_lay 15 = .ok (.istore_n 3, 1) := by decide +kernel
theorem dX4_lay_16 : decode cX4_lay 16 = .ok (.iload_n 2, 1) := by decide +kernel
theorem dX4_lay_17 : decode cX4_lay 17 = .ok (.ifCond .eq 12, 3) := by decide +kernel
theorem dX4_lay_20 : decode cX4_lay 20 = .ok (.aload_n 0, 1) := by decide +kernel
theorem dX4_lay_21 : decode cX4_lay 21 = .ok (.getfield 69, 3) := by decide +kernel
theorem dX4_lay_24 : decode cX4_lay 24 = .ok (.iconst 1, 1) := by decide +kernel
theorem dX4_lay_25 : decode cX4_lay 25 = .ok (.isub, 1) := by decide +kernel
theorem dX4_lay_26 : decode cX4_lay 26 = .ok (.goto 4, 3) := by decide +kernel
theorem dX4_lay_29 : decode cX4_lay 29 = .ok (.iconst 0, 1) := by decide +kernel
theorem dX4_lay_30 : decode cX4_lay 30 = .ok (.istore 4, 2) := by decide +kernel
theorem dX4_lay_32 : decode cX4_lay 32 = .ok (.iload_n 2, 1) := by decide +kernel
theorem dX4_lay_33 : decode cX4_lay 33 = .ok (.ifCond .eq 7, 3) := by decide +kernel
theorem dX4_lay_36 : decode cX4_lay 36 = .ok (.iconst 1, 1) := by decide +kernel
theorem dX4_lay_37 : decode cX4_lay 37 = .ok (.goto 4, 3) := by decide +kernel
theorem dX4_lay_40 : decode cX4_lay 40 = .ok (.iconst (-1), 1) := by decide +kernel
theorem dX4_lay_41 : decode cX4_lay 41 = .ok (.istore 5, 2) := by decide +kernel
theorem dX4_lay_43 : decode cX4_lay 43 = .ok (.iload_n 3, 1) := by decide +kernel
theorem dX4_lay_44 : decode cX4_lay 44 = .ok (.istore 6, 2) := by decide +kernel
theorem dX4_lay_46 : decode cX4_lay 46 = .ok (.iload 6, 2) := by decide +kernel
theorem dX4_lay_48 : decode cX4_lay 48 = .ok (.iload 4, 2) := by decide +kernel
theorem dX4_lay_50 : decode cX4_lay 50 = .ok (.if_icmp .eq 30, 3) := by decide +kernel
theorem dX4_lay_53 : decode cX4_lay 53 = .ok (.aload_n 0, 1) := by decide +kernel
theorem dX4_lay_54 : decode cX4_lay 54 = .ok (.getfield 7, 3) := by decide +kernel
theorem dX4_lay_57 : decode cX4_lay 57 = .ok (.iload 6, 2) := by decide +kernel
theorem dX4_lay_59 : decode cX4_lay 59 = .ok (.aload_n 0, 1) := by decide +kernel
theorem dX4_lay_60 : decode cX4_lay 60 = .ok (.getfield 7, 3) := by decide +kernel
theorem dX4_lay_63 : decode cX4_lay 63 = .ok (.iload 6, 2) := by decide +kernel
theorem dX4_lay_65 : decode cX4_lay 65 = .ok (.iload 5, 2) := by decide +kernel
theorem dX4_lay_67 : decode cX4_lay 67 = .ok (.iadd, 1) := by decide +kernel
theorem dX4_lay_68 : decode cX4_lay 68 = .ok (.iaload, 1) := by decide +kernel
theorem dX4_lay_69 : decode cX4_lay 69 = .ok (.iastore, 1) := by decide +kernel
theorem dX4_lay_70 : decode cX4_lay 70 = .ok (.iload 6, 2) := by decide +kernel
theorem dX4_lay_72 : decode cX4_lay 72 = .ok (.iload 5, 2) := by decide +kernel
theorem dX4_lay_74 : decode cX4_lay 74 = .ok (.iadd, 1) := by decide +kernel
theorem dX4_lay_75 : decode cX4_lay 75 = .ok (.istore 6, 2) := by decide +kernel
theorem dX4_lay_77 : decode cX4_lay 77 = .ok (.goto (-31), 3) := by decide +kernel
theorem dX4_lay_80 : decode cX4_lay 80 = .ok (.aload_n 0, 1) := by decide +kernel
theorem dX4_lay_81 : decode cX4_lay 81 = .ok (.getfield 7, 3) := by decide +kernel
theorem dX4_lay_84 : decode cX4_lay 84 = .ok (.iload 4, 2) := by decide +kernel
theorem dX4_lay_86 : decode cX4_lay 86 = .ok (.iload_n 1, 1) := by decide +kernel
theorem dX4_lay_87 : decode cX4_lay 87 = .ok (.iastore, 1) := by decide +kernel
theorem dX4_lay_88 : decode cX4_lay 88 = .ok (.aload_n 0, 1) := by decide +kernel
theorem dX4_lay_89 : decode cX4_lay 89 = .ok (.invokevirtual 125, 3) := by decide +kernel
theorem dX4_lay_92 : decode cX4_lay 92 = .ok (.iload_n 3, 1) := by decide +kernel
theorem dX4_lay_93 : decode cX4_lay 93 = .ok (.ireturn, 1) := by decide +kernel
theorem dX4_begin_0 : decode cX4_begin 0 = .ok (.aload_n 0, 1) := by decide +kernel
theorem dX4_begin_1 : decode cX4_begin 1 = .ok (.getfield 56, 3) := by decide +kernel
theorem dX4_begin_4 : decode cX4_begin 4 = .ok (.iload_n 1, 1) := by decide +kernel
theorem dX4_begin_5 : decode cX4_begin 5 = .ok (.iconst 0, 1) := by decide +kernel
theorem dX4_begin_6 : decode cX4_begin 6 = .ok (.iastore, 1) := by decide +kernel
theorem dX4_begin_7 : decode cX4_begin 7 = .ok (.aload_n 0, 1) := by decide +kernel
theorem dX4_begin_8 : decode cX4_begin 8 = .ok (.getfield 53, 3) := by decide +kernel
theorem dX4_begin_11 : decode cX4_begin 11 = .ok (.iload_n 1, 1) := by decide +kernel
theorem dX4_begin_12 : decode cX4_begin 12 = .ok (.iload_n 2, 1) := by decide +kernel
theorem dX4_begin_13 : decode cX4_begin 13 = .ok (.iastore, 1) := by decide +kernel
theorem dX4_begin_14 : decode cX4_begin 14 = .ok (.return_, 1) := by decide +kernel
set_option maxRecDepth 20000 in
theorem ggX4_start_X4_placeIn : GoodIn wsX4_start wsX4_placeIn := goodIn_r _ [12, 13, 14, 44, 45, 46, 47, 48, 49, 50, 51, 52, 53, 54, 55, 56, 57, 58, 59, 60, 61, 62, 63, 64, 65] (by decide +kernel) (by decide +kernel)
set_option maxRecDepth 20000 in
theorem gX4_start_X4_placeIn : GoodIn wsX4_start (wsV RX4 72 RX4 yX4_placeIn wsX4_placeIn) := goodIn_app (goodIn_of _ (by decide +kernel)) ggX4_start_X4_placeIn
set_option maxRecDepth 20000 in
theorem ggX4_start_X4_isShown : GoodIn wsX4_start wsX4_isShown := goodIn_r _ [18, 19, 20, 21, 11, 22, 13, 14, 23, 24, 25, 26, 27, 28, 29, 30, 31, 32, 33, 34, 44, 45, 46, 47, 48, 49, 50, 51, 52, 53, 54, 55, 56, 57, 58, 59, 60, 61, 62, 63, 64, 65] (by decide +kernel) (by decide +kernel)
set_option maxRecDepth 20000 in
theorem gX4_start_X4_isShown : GoodIn wsX4_start (wsV RX4 101 RX4 yX4_isShown wsX4_isShown) := goodIn_app (goodIn_of _ (by decide +kernel)) ggX4_start_X4_isShown
set_option maxRecDepth 20000 in
theorem ggX4_start_X4_drop : GoodIn wsX4_start wsX4_drop := goodIn_r _ [38, 3, 4, 5, 44, 45, 46, 47, 48, 49, 50, 51, 52, 53, 54, 55, 56, 57, 58, 59, 60, 61, 62, 63, 64, 65] (by decide +kernel) (by decide +kernel)
set_option maxRecDepth 20000 in
theorem gX4_start_X4_drop : GoodIn wsX4_start (wsV RX4 97 RX4 yX4_drop wsX4_drop) := goodIn_app (goodIn_of _ (by decide +kernel)) ggX4_start_X4_drop
set_option maxRecDepth 20000 in
theorem ggX4_start_X4_begin : GoodIn wsX4_start wsX4_begin := goodIn_r _ [42, 43, 3, 44, 45, 46, 47, 48, 49, 50, 51, 52, 53, 54, 55, 56, 57, 58, 59, 60, 61, 62, 63, 64, 65] (by decide +kernel) (by decide +kernel)
set_option maxRecDepth 20000 in
theorem gX4_start_X4_begin : GoodIn wsX4_start (wsV RX4 131 RX4 yX4_begin wsX4_begin) := goodIn_app (goodIn_of _ (by decide +kernel)) ggX4_start_X4_begin
theorem dX4_start_0 : decode cX4_start 0 = .ok (.iconst 0, 1) := by decide +kernel
theorem dX4_start_1 : decode cX4_start 1 = .ok (.istore_n 1, 1) := by decide +kernel
theorem dX4_start_2 : decode cX4_start 2 = .ok (.iload_n 1, 1) := by decide +kernel
theorem dX4_start_3 : decode cX4_start 3 = .ok (.aload_n 0, 1) := by decide +kernel
theorem dX4_start_4 : decode cX4_start 4 = .ok (.getfield 118, 3) := by decide +kernel
theorem dX4_start_7 : decode cX4_start 7 = .ok (.if_icmp .ge 89, 3) := by decide +kernel
theorem dX4_start_10 : decode cX4_start 10 = .ok (.aload_n 0, 1) := by decide +kernel
theorem dX4_start_11 : decode cX4_start 11 = .ok (.iload_n 1, 1) := by decide +kernel
theorem dX4_start_12 : decode cX4_start 12 = .ok (.invokevirtual 72, 3) := by decide +kernel
theorem dX4_start_15 : decode cX4_start 15 = .ok (.iconst (-1), 1) := by decide +kernel
theorem dX4_start_16 : decode cX4_start 16 = .ok (.if_icmp .eq 74, 3) := by decide +kernel
theorem dX4_start_19 : decode cX4_start 19 = .ok (.aload_n 0, 1) := by decide +kernel
theorem dX4_start_20 : decode cX4_start 20 = .ok (.getfield 35, 3) := by decide +kernel
theorem dX4_start_23 : decode cX4_start 23 = .ok (.iload_n 1, 1) := by decide +kernel
theorem dX4_start_24 : decode cX4_start 24 = .ok (.baload, 1) := by decide +kernel
theorem dX4_start_25 : decode cX4_start 25 = .ok (.ifCond .eq 11, 3) := by decide +kernel
theorem dX4_start_28 : decode cX4_start 28 = .ok (.aload_n 0, 1) := by decide +kernel
theorem dX4_start_29 : decode cX4_start 29 = .ok (.iload_n 1, 1) := by decide +kernel
theorem dX4_start_30 : decode cX4_start 30 = .ok (.invokevirtual 101, 3) := by decide +kernel
theorem dX4_start_33 : decode cX4_start 33 = .ok (.ifCond .ne 11, 3) := by decide +kernel
theorem dX4_start_36 : decode cX4_start 36 = .ok (.aload_n 0, 1) := by decide +kernel
theorem dX4_start_37 : decode cX4_start 37 = .ok (.iload_n 1, 1) := by decide +kernel
theorem dX4_start_38 : decode cX4_start 38 = .ok (.invokevirtual 97, 3) := by decide +kernel
theorem dX4_start_41 : decode cX4_start 41 = .ok (.goto 49, 3) := by decide +kernel
theorem dX4_start_44 : decode cX4_start 44 = .ok (.aload_n 0, 1) := by decide +kernel
theorem dX4_start_45 : decode cX4_start 45 = .ok (.getfield 53, 3) := by decide +kernel
theorem dX4_start_48 : decode cX4_start 48 = .ok (.iload_n 1, 1) := by decide +kernel
theorem dX4_start_49 : decode cX4_start 49 = .ok (.iaload, 1) := by decide +kernel
theorem dX4_start_50 : decode cX4_start 50 = .ok (.iconst (-1), 1) := by decide +kernel
theorem dX4_start_51 : decode cX4_start 51 = .ok (.if_icmp .ne 39, 3) := by decide +kernel
theorem dX4_start_54 : decode cX4_start 54 = .ok (.aload_n 0, 1) := by decide +kernel
theorem dX4_start_55 : decode cX4_start 55 = .ok (.getfield 50, 3) := by decide +kernel
theorem dX4_start_58 : decode cX4_start 58 = .ok (.iload_n 1, 1) := by decide +kernel
theorem dX4_start_59 : decode cX4_start 59 = .ok (.iaload, 1) := by decide +kernel
theorem dX4_start_60 : decode cX4_start 60 = .ok (.aload_n 0, 1) := by decide +kernel
theorem dX4_start_61 : decode cX4_start 61 = .ok (.getfield 94, 3) := by decide +kernel
theorem dX4_start_64 : decode cX4_start 64 = .ok (.if_icmp .gt 26, 3) := by decide +kernel
theorem dX4_start_67 : decode cX4_start 67 = .ok (.aload_n 0, 1) := by decide +kernel
theorem dX4_start_68 : decode cX4_start 68 = .ok (.iload_n 1, 1) := by decide +kernel
theorem dX4_start_69 : decode cX4_start 69 = .ok (.aload_n 0, 1) := by decide +kernel
theorem dX4_start_70 : decode cX4_start 70 = .ok (.getfield 94, 3) := by decide +kernel
theorem dX4_start_73 : decode cX4_start 73 = .ok (.aload_n 0, 1) := by decide +kernel
theorem dX4_start_74 : decode cX4_start 74 = .ok (.getfield 29, 3) := by decide +kernel
theorem dX4_start_77 : decode cX4_start 77 = .ok (.iload_n 1, 1) := by decide +kernel
theorem dX4_start_78 : decode cX4_start 78 = .ok (.iaload, 1) := by decide +kernel
theorem dX4_start_79 : decode cX4_start 79 = .ok (.aload_n 0, 1) := by decide +kernel
theorem dX4_start_80 : decode cX4_start 80 = .ok (.getfield 41, 3) := by decide +kernel
theorem dX4_start_83 : decode cX4_start 83 = .ok (.iload_n 1, 1) := by decide +kernel
theorem dX4_start_84 : decode cX4_start 84 = .ok (.iaload, 1) := by decide +kernel
theorem dX4_start_85 : decode cX4_start 85 = .ok (.imul, 1) := by decide +kernel
theorem dX4_start_86 : decode cX4_start 86 = .ok (.iadd, 1) := by decide +kernel
theorem dX4_start_87 : decode cX4_start 87 = .ok (.invokevirtual 131, 3) := by decide +kernel
theorem dX4_start_90 : decode cX4_start 90 = .ok (.iinc 1 1, 3) := by decide +kernel
theorem dX4_start_93 : decode cX4_start 93 = .ok (.goto (-91), 3) := by decide +kernel
theorem dX4_start_96 : decode cX4_start 96 = .ok (.return_, 1) := by decide +kernel
set_option maxRecDepth 20000 in
theorem ggX4_earliest_X4_placeIn : GoodIn wsX4_earliest wsX4_placeIn := goodIn_r _ [7, 8, 9, 10, 11, 12, 13, 14, 15, 16, 17, 18, 19, 20, 21, 22, 23, 24, 25, 26, 27, 28, 29, 30, 31] (by decide +kernel) (by decide +kernel)
set_option maxRecDepth 20000 in
theorem gX4_earliest_X4_placeIn : GoodIn wsX4_earliest (wsV RX4 72 RX4 yX4_placeIn wsX4_placeIn) := goodIn_app (goodIn_of _ (by decide +kernel)) ggX4_earliest_X4_placeIn
theorem dX4_earliest_0 : decode cX4_earliest 0 = .ok (.iconst (-1), 1) := by decide +kernel
theorem dX4_earliest_1 : decode cX4_earliest 1 = .ok (.istore_n 1, 1) := by decide +kernel
theorem dX4_earliest_2 : decode cX4_earliest 2 = .ok (.iconst 0, 1) := by decide +kernel
theorem dX4_earliest_3 : decode cX4_earliest 3 = .ok (.istore_n 2, 1) := by decide +kernel
theorem dX4_earliest_4 : decode cX4_earliest 4 = .ok (.iload_n 2, 1) := by decide +kernel
theorem dX4_earliest_5 : decode cX4_earliest 5 = .ok (.aload_n 0, 1) := by decide +kernel
theorem dX4_earliest_6 : decode cX4_earliest 6 = .ok (.getfield 118, 3) := by decide +kernel
theorem dX4_earliest_9 : decode cX4_earliest 9 = .ok (.if_icmp .ge 64, 3) := by decide +kernel
theorem dX4_earliest_12 : decode cX4_earliest 12 = .ok (.aload_n 0, 1) := by decide +kernel
theorem dX4_earliest_13 : decode cX4_earliest 13 = .ok (.iload_n 2, 1) := by decide +kernel
theorem dX4_earliest_14 : decode cX4_earliest 14 = .ok (.invokevirtual 72, 3) := by decide +kernel
theorem dX4_earliest_17 : decode cX4_earliest 17 = .ok (.iconst (-1), 1) := by decide +kernel
theorem dX4_earliest_18 : decode cX4_earliest 18 = .ok (.if_icmp .eq 17, 3) := by decide +kernel
theorem dX4_earliest_21 : decode cX4_earliest 21 = .ok (.aload_n 0, 1) := by decide +kernel
theorem dX4_earliest_22 : decode cX4_earliest 22 = .ok (.getfield 53, 3) := by decide +kernel
theorem dX4_earliest_25 : decode cX4_earliest 25 = .ok (.iload_n 2, 1) := by decide +kernel
theorem dX4_earliest_26 : decode cX4_earliest 26 = .ok (.iaload, 1) := by decide +kernel
theorem dX4_earliest_27 : decode cX4_earliest 27 = .ok (.iconst (-1), 1) := by decide +kernel
theorem dX4_earliest_28 : decode cX4_earliest 28 = .ok (.if_icmp .eq 7, 3) := by decide +kernel
theorem dX4_earliest_31 : decode cX4_earliest 31 = .ok (.iconst 1, 1) := by decide +kernel
theorem dX4_earliest_32 : decode cX4_earliest 32 = .ok (.goto 4, 3) := by decide +kernel
theorem dX4_earliest_35 : decode cX4_earliest 35 = .ok (.iconst 0, 1) := by decide +kernel
theorem dX4_earliest_36 : decode cX4_earliest 36 = .ok (.istore_n 3, 1) := by decide +kernel
theorem dX4_earliest_37 : decode cX4_earliest 37 = .ok (.iload_n 3, 1) := by decide +kernel
theorem dX4_earliest_38 : decode cX4_earliest 38 = .ok (.ifCond .eq 27, 3) := by decide +kernel
theorem dX4_earliest_41 : decode cX4_earliest 41 = .ok (.iload_n 1, 1) := by decide +kernel
theorem dX4_earliest_42 : decode cX4_earliest 42 = .ok (.iconst (-1), 1) := by decide +kernel
theorem dX4_earliest_43 : decode cX4_earliest 43 = .ok (.if_icmp .eq 18, 3) := by decide +kernel
theorem dX4_earliest_46 : decode cX4_earliest 46 = .ok (.aload_n 0, 1) := by decide +kernel
theorem dX4_earliest_47 : decode cX4_earliest 47 = .ok (.getfield 53, 3) := by decide +kernel
theorem dX4_earliest_50 : decode cX4_earliest 50 = .ok (.iload_n 2, 1) := by decide +kernel
theorem dX4_earliest_51 : decode cX4_earliest 51 = .ok (.iaload, 1) := by decide +kernel
theorem dX4_earliest_52 : decode cX4_earliest 52 = .ok (.aload_n 0, 1) := by decide +kernel
theorem dX4_earliest_53 : decode cX4_earliest 53 = .ok (.getfield 53, 3) := by decide +kernel
theorem dX4_earliest_56 : decode cX4_earliest 56 = .ok (.iload_n 1, 1) := by decide +kernel
theorem dX4_earliest_57 : decode cX4_earliest 57 = .ok (.iaload, 1) := by decide +kernel
theorem dX4_earliest_58 : decode cX4_earliest 58 = .ok (.if_icmp .ge 7, 3) := by decide +kernel
theorem dX4_earliest_61 : decode cX4_earliest 61 = .ok (.iload_n 2, 1) := by decide +kernel
theorem dX4_earliest_62 : decode cX4_earliest 62 = .ok (.goto 4, 3) := by decide +kernel
theorem dX4_earliest_65 : decode cX4_earliest 65 = .ok (.iload_n 1, 1) := by decide +kernel
theorem dX4_earliest_66 : decode cX4_earliest 66 = .ok (.istore_n 1, 1) := by decide +kernel
theorem dX4_earliest_67 : decode cX4_earliest 67 = .ok (.iinc 2 1, 3) := by decide +kernel
theorem dX4_earliest_70 : decode cX4_earliest 70 = .ok (.goto (-66), 3) := by decide +kernel
theorem dX4_earliest_73 : decode cX4_earliest 73 = .ok (.iload_n 1, 1) := by decide +kernel
theorem dX4_earliest_74 : decode cX4_earliest 74 = .ok (.ireturn, 1) := by decide +kernel
theorem dX4_finish_0 : decode cX4_finish 0 = .ok (.aload_n 0, 1) := by decide +kernel
theorem dX4_finish_1 : decode cX4_finish 1 = .ok (.getfield 38, 3) := by decide +kernel
theorem dX4_finish_4 : decode cX4_finish 4 = .ok (.iload_n 1, 1) := by decide +kernel
theorem dX4_finish_5 : decode cX4_finish 5 = .ok (.dup2, 1) := by decide +kernel
theorem dX4_finish_6 : decode cX4_finish 6 = .ok (.iaload, 1) := by decide +kernel
theorem dX4_finish_7 : decode cX4_finish 7 = .ok (.iconst 1, 1) := by decide +kernel
theorem dX4_finish_8 : decode cX4_finish 8 = .ok (.iadd, 1) := by decide +kernel
theorem dX4_finish_9 : decode cX4_finish 9 = .ok (.iastore, 1) := by decide +kernel
theorem dX4_finish_10 : decode cX4_finish 10 = .ok (.aload_n 0, 1) := by decide +kernel
theorem dX4_finish_11 : decode cX4_finish 11 = .ok (.getfield 50, 3) := by decide +kernel
theorem dX4_finish_14 : decode cX4_finish 14 = .ok (.iload_n 1, 1) := by decide +kernel
theorem dX4_finish_15 : decode cX4_finish 15 = .ok (.aload_n 0, 1) := by decide +kernel
theorem dX4_finish_16 : decode cX4_finish 16 = .ok (.getfield 53, 3) := by decide +kernel
theorem dX4_finish_19 : decode cX4_finish 19 = .ok (.iload_n 1, 1) := by decide +kernel
theorem dX4_finish_20 : decode cX4_finish 20 = .ok (.iaload, 1) := by decide +kernel
theorem dX4_finish_21 : decode cX4_finish 21 = .ok (.iastore, 1) := by decide +kernel
theorem dX4_finish_22 : decode cX4_finish 22 = .ok (.aload_n 0, 1) := by decide +kernel
theorem dX4_finish_23 : decode cX4_finish 23 = .ok (.getfield 47, 3) := by decide +kernel
theorem dX4_finish_26 : decode cX4_finish 26 = .ok (.iload_n 1, 1) := by decide +kernel
theorem dX4_finish_27 : decode cX4_finish 27 = .ok (.aload_n 0, 1) := by decide +kernel
theorem dX4_finish_28 : decode cX4_finish 28 = .ok (.getfield 53, 3) := by decide +kernel
theorem dX4_finish_31 : decode cX4_finish 31 = .ok (.iload_n 1, 1) := by decide +kernel
theorem dX4_finish_32 : decode cX4_finish 32 = .ok (.iaload, 1) := by decide +kernel
theorem dX4_finish_33 : decode cX4_finish 33 = .ok (.aload_n 0, 1) := by decide +kernel
theorem dX4_finish_34 : decode cX4_finish 34 = .ok (.getfield 94, 3) := by decide +kernel
theorem dX4_finish_37 : decode cX4_finish 37 = .ok (.if_icmp .lt 14, 3) := by decide +kernel
theorem dX4_finish_40 : decode cX4_finish 40 = .ok (.aload_n 0, 1) := by decide +kernel
theorem dX4_finish_41 : decode cX4_finish 41 = .ok (.getfield 47, 3) := by decide +kernel
theorem dX4_finish_44 : decode cX4_finish 44 = .ok (.iload_n 1, 1) := by decide +kernel
theorem dX4_finish_45 : decode cX4_finish 45 = .ok (.iaload, 1) := by decide +kernel
theorem dX4_finish_46 : decode cX4_finish 46 = .ok (.iconst 1, 1) := by decide +kernel
theorem dX4_finish_47 : decode cX4_finish 47 = .ok (.iadd, 1) := by decide +kernel
theorem dX4_finish_48 : decode cX4_finish 48 = .ok (.goto 4, 3) := by decide +kernel
theorem dX4_finish_51 : decode cX4_finish 51 = .ok (.iconst 0, 1) := by decide +kernel
theorem dX4_finish_52 : decode cX4_finish 52 = .ok (.iastore, 1) := by decide +kernel
theorem dX4_finish_53 : decode cX4_finish 53 = .ok (.aload_n 0, 1) := by decide +kernel
theorem dX4_finish_54 : decode cX4_finish 54 = .ok (.getfield 53, 3) := by decide +kernel
theorem dX4_finish_57 : decode cX4_finish 57 = .ok (.iload_n 1, 1) := by decide +kernel
theorem dX4_finish_58 : decode cX4_finish 58 = .ok (.iconst (-1), 1) := by decide +kernel
theorem dX4_finish_59 : decode cX4_finish 59 = .ok (.iastore, 1) := by decide +kernel
theorem dX4_finish_60 : decode cX4_finish 60 = .ok (.aload_n 0, 1) := by decide +kernel
theorem dX4_finish_61 : decode cX4_finish 61 = .ok (.getfield 47, 3) := by decide +kernel
theorem dX4_finish_64 : decode cX4_finish 64 = .ok (.iload_n 1, 1) := by decide +kernel
theorem dX4_finish_65 : decode cX4_finish 65 = .ok (.iaload, 1) := by decide +kernel
theorem dX4_finish_66 : decode cX4_finish 66 = .ok (.iconst 3, 1) := by decide +kernel
theorem dX4_finish_67 : decode cX4_finish 67 = .ok (.if_icmp .ne 38, 3) := by decide +kernel
theorem dX4_finish_70 : decode cX4_finish 70 = .ok (.aload_n 0, 1) := by decide +kernel
theorem dX4_finish_71 : decode cX4_finish 71 = .ok (.getfield 41, 3) := by decide +kernel
theorem dX4_finish_74 : decode cX4_finish 74 = .ok (.iload_n 1, 1) := by decide +kernel
theorem dX4_finish_75 : decode cX4_finish 75 = .ok (.aload_n 0, 1) := by decide +kernel
theorem dX4_finish_76 : decode cX4_finish 76 = .ok (.getfield 41, 3) := by decide +kernel
theorem dX4_finish_79 : decode cX4_finish 79 = .ok (.iload_n 1, 1) := by decide +kernel
theorem dX4_finish_80 : decode cX4_finish 80 = .ok (.iaload, 1) := by decide +kernel
theorem dX4_finish_81 : decode cX4_finish 81 = .ok (.iconst 1, 1) := by decide +kernel
theorem dX4_finish_82 : decode cX4_finish 82 = .ok (.if_icmp .le 14, 3) := by decide +kernel
theorem dX4_finish_85 : decode cX4_finish 85 = .ok (.aload_n 0, 1) := by decide +kernel
theorem dX4_finish_86 : decode cX4_finish 86 = .ok (.getfield 41, 3) := by decide +kernel
theorem dX4_finish_89 : decode cX4_finish 89 = .ok (.iload_n 1, 1) := by decide +kernel
theorem dX4_finish_90 : decode cX4_finish 90 = .ok (.iaload, 1) := by decide +kernel
theorem dX4_finish_91 : decode cX4_finish 91 = .ok (.iconst 2, 1) := by decide +kernel
theorem dX4_finish_92 : decode cX4_finish 92 = .ok (.idiv, 1) := by decide +kernel
theorem dX4_finish_93 : decode cX4_finish 93 = .ok (.goto 4, 3) := by decide +kernel
theorem dX4_finish_96 : decode cX4_finish 96 = .ok (.iconst 1, 1) := by decide +kernel
theorem dX4_finish_97 : decode cX4_finish 97 = .ok (.iastore, 1) := by decide +kernel
theorem dX4_finish_98 : decode cX4_finish 98 = .ok (.aload_n 0, 1) := by decide +kernel
theorem dX4_finish_99 : decode cX4_finish 99 = .ok (.getfield 47, 3) := by decide +kernel
theorem dX4_finish_102 : decode cX4_finish 102 = .ok (.iload_n 1, 1) := by decide +kernel
theorem dX4_finish_103 : decode cX4_finish 103 = .ok (.iconst 0, 1) := by decide +kernel
theorem dX4_finish_104 : decode cX4_finish 104 = .ok (.iastore, 1) := by decide +kernel
theorem dX4_finish_105 : decode cX4_finish 105 = .ok (.return_, 1) := by decide +kernel
theorem dX4_miss_0 : decode cX4_miss 0 = .ok (.aload_n 0, 1) := by decide +kernel
theorem dX4_miss_1 : decode cX4_miss 1 = .ok (.getfield 44, 3) := by decide +kernel
theorem dX4_miss_4 : decode cX4_miss 4 = .ok (.iload_n 1, 1) := by decide +kernel
theorem dX4_miss_5 : decode cX4_miss 5 = .ok (.dup2, 1) := by decide +kernel
theorem dX4_miss_6 : decode cX4_miss 6 = .ok (.iaload, 1) := by decide +kernel
theorem dX4_miss_7 : decode cX4_miss 7 = .ok (.iconst 1, 1) := by decide +kernel
theorem dX4_miss_8 : decode cX4_miss 8 = .ok (.iadd, 1) := by decide +kernel
theorem dX4_miss_9 : decode cX4_miss 9 = .ok (.iastore, 1) := by decide +kernel
theorem dX4_miss_10 : decode cX4_miss 10 = .ok (.aload_n 0, 1) := by decide +kernel
theorem dX4_miss_11 : decode cX4_miss 11 = .ok (.getfield 47, 3) := by decide +kernel
theorem dX4_miss_14 : decode cX4_miss 14 = .ok (.iload_n 1, 1) := by decide +kernel
theorem dX4_miss_15 : decode cX4_miss 15 = .ok (.iconst 0, 1) := by decide +kernel
theorem dX4_miss_16 : decode cX4_miss 16 = .ok (.iastore, 1) := by decide +kernel
theorem dX4_miss_17 : decode cX4_miss 17 = .ok (.aload_n 0, 1) := by decide +kernel
theorem dX4_miss_18 : decode cX4_miss 18 = .ok (.getfield 53, 3) := by decide +kernel
theorem dX4_miss_21 : decode cX4_miss 21 = .ok (.iload_n 1, 1) := by decide +kernel
theorem dX4_miss_22 : decode cX4_miss 22 = .ok (.dup2, 1) := by decide +kernel
theorem dX4_miss_23 : decode cX4_miss 23 = .ok (.iaload, 1) := by decide +kernel
theorem dX4_miss_24 : decode cX4_miss 24 = .ok (.aload_n 0, 1) := by decide +kernel
theorem dX4_miss_25 : decode cX4_miss 25 = .ok (.getfield 29, 3) := by decide +kernel
theorem dX4_miss_28 : decode cX4_miss 28 = .ok (.iload_n 1, 1) := by decide +kernel
theorem dX4_miss_29 : decode cX4_miss 29 = .ok (.iaload, 1) := by decide +kernel
theorem dX4_miss_30 : decode cX4_miss 30 = .ok (.aload_n 0, 1) := by decide +kernel
theorem dX4_miss_31 : decode cX4_miss 31 = .ok (.getfield 41, 3) := by decide +kernel
theorem dX4_miss_34 : decode cX4_miss 34 = .ok (.iload_n 1, 1) := by decide +kernel
theorem dX4_miss_35 : decode cX4_miss 35 = .ok (.iaload, 1) := by decide +kernel
theorem dX4_miss_36 : decode cX4_miss 36 = .ok (.imul, 1) := by decide +kernel
theorem dX4_miss_37 : decode cX4_miss 37 = .ok (.iadd, 1) := by decide +kernel
theorem dX4_miss_38 : decode cX4_miss 38 = .ok (.iastore, 1) := by decide +kernel
theorem dX4_miss_39 : decode cX4_miss 39 = .ok (.aload_n 0, 1) := by decide +kernel
theorem dX4_miss_40 : decode cX4_miss 40 = .ok (.getfield 41, 3) := by decide +kernel
theorem dX4_miss_43 : decode cX4_miss 43 = .ok (.iload_n 1, 1) := by decide +kernel
theorem dX4_miss_44 : decode cX4_miss 44 = .ok (.iconst 2, 1) := by decide +kernel
theorem dX4_miss_45 : decode cX4_miss 45 = .ok (.aload_n 0, 1) := by decide +kernel
theorem dX4_miss_46 : decode cX4_miss 46 = .ok (.getfield 41, 3) := by decide +kernel
theorem dX4_miss_49 : decode cX4_miss 49 = .ok (.iload_n 1, 1) := by decide +kernel
theorem dX4_miss_50 : decode cX4_miss 50 = .ok (.iaload, 1) := by decide +kernel
theorem dX4_miss_51 : decode cX4_miss 51 = .ok (.imul, 1) := by decide +kernel
theorem dX4_miss_52 : decode cX4_miss 52 = .ok (.bipush 8, 2) := by decide +kernel
theorem dX4_miss_54 : decode cX4_miss 54 = .ok (.if_icmp .ge 14, 3) := by decide +kernel
theorem dX4_miss_57 : decode cX4_miss 57 = .ok (.iconst 2, 1) := by decide +kernel
theorem dX4_miss_58 : decode cX4_miss 58 = .ok (.aload_n 0, 1) := by decide +kernel
theorem dX4_miss_59 : decode cX4_miss 59 = .ok (.getfield 41, 3) := by decide +kernel
theorem dX4_miss_62 : decode cX4_miss 62 = .ok (.iload_n 1, 1) := by decide +kernel
theorem dX4_miss_63 : decode cX4_miss 63 = .ok (.iaload, 1) := by decide +kernel
theorem dX4_miss_64 : decode cX4_miss 64 = .ok (.imul, 1) := by decide +kernel
theorem dX4_miss_65 : decode cX4_miss 65 = .ok (.goto 5, 3) := by decide +kernel
theorem dX4_miss_68 : decode cX4_miss 68 = .ok (.bipush 8, 2) := by decide +kernel
theorem dX4_miss_70 : decode cX4_miss 70 = .ok (.iastore, 1) := by decide +kernel
theorem dX4_miss_71 : decode cX4_miss 71 = .ok (.return_, 1) := by decide +kernel
set_option maxRecDepth 20000 in
theorem ggX4_pass_X4_start : GoodIn wsX4_pass wsX4_start := goodIn_r _ [11, 12, 13, 5, 14, 2, 15, 16, 17, 18, 19, 10, 20, 4, 6, 21, 22, 23, 24, 25, 26, 27, 28, 29, 30, 31, 32, 33, 34, 35, 36, 37, 38, 39, 40, 41, 42, 43, 44, 45, 46, 47, 48, 1, 64, 65, 66, 67, 68, 69, 70, 71, 72, 73, 74, 75, 76, 77, 78, 79, 80, 81, 82, 83, 84, 85] (by decide +kernel) (by decide +kernel)
set_option maxRecDepth 20000 in
theorem gX4_pass_X4_start : GoodIn wsX4_pass (wsV RX4 135 RX4 yX4_start wsX4_start) := goodIn_app (goodIn_of _ (by decide +kernel)) ggX4_pass_X4_start
set_option maxRecDepth 20000 in
theorem ggX4_pass_X4_earliest : GoodIn wsX4_pass wsX4_earliest := goodIn_r _ [52, 12, 5, 17, 18, 19, 10, 20, 4, 6, 64, 65, 66, 67, 68, 69, 70, 71, 72, 73, 74, 75, 76, 77, 78, 79, 80, 81, 82, 83, 84, 85] (by decide +kernel) (by decide +kernel)
set_option maxRecDepth 20000 in
theorem gX4_pass_X4_earliest : GoodIn wsX4_pass (wsV RX4 138 RX4 yX4_earliest wsX4_earliest) := goodIn_app (goodIn_of _ (by decide +kernel)) ggX4_pass_X4_earliest
set_option maxRecDepth 20000 in
theorem ggX4_pass_X4_finish : GoodIn wsX4_pass wsX4_finish := goodIn_r _ [56, 57, 14, 5, 58, 2, 16, 64, 65, 66, 67, 68, 69, 70, 71, 72, 73, 74, 75, 76, 77, 78, 79, 80, 81, 82, 83, 84, 85] (by decide +kernel) (by decide +kernel)
set_option maxRecDepth 20000 in
theorem gX4_pass_X4_finish : GoodIn wsX4_pass (wsV RX4 141 RX4 yX4_finish wsX4_finish) := goodIn_app (goodIn_of _ (by decide +kernel)) ggX4_pass_X4_finish
set_option maxRecDepth 20000 in
theorem ggX4_pass_X4_miss : GoodIn wsX4_pass wsX4_miss := goodIn_r _ [62, 63, 58, 5, 15, 16, 64, 65, 66, 67, 68, 69, 70, 71, 72, 73, 74, 75, 76, 77, 78, 79, 80, 81, 82, 83, 84, 85] (by decide +kernel) (by decide +kernel)
set_option maxRecDepth 20000 in
theorem gX4_pass_X4_miss : GoodIn wsX4_pass (wsV RX4 144 RX4 yX4_miss wsX4_miss) := goodIn_app (goodIn_of _ (by decide +kernel)) ggX4_pass_X4_miss
theorem dX4_pass_0 : decode cX4_pass 0 = .ok (.aload_n 0, 1) := by decide +kernel
theorem dX4_pass_1 : decode cX4_pass 1 = .ok (.invokevirtual 135, 3) := by decide +kernel
theorem dX4_pass_4 : decode cX4_pass 4 = .ok (.aload_n 0, 1) := by decide +kernel
theorem dX4_pass_5 : decode cX4_pass 5 = .ok (.invokevirtual 138, 3) := by decide +kernel
theorem dX4_pass_8 : decode cX4_pass 8 = .ok (.istore_n 1, 1) := by decide +kernel
theorem dX4_pass_9 : decode cX4_pass 9 = .ok (.aload_n 0, 1) := by decide +kernel
theorem dX4_pass_10 : decode cX4_pass 10 = .ok (.getfield 56, 3) := by decide +kernel
theorem dX4_pass_13 : decode cX4_pass 13 = .ok (.iload_n 1, 1) := by decide +kernel
theorem dX4_pass_14 : decode cX4_pass 14 = .ok (.iconst (-1), 1) := by decide +kernel
theorem dX4_pass_15 : decode cX4_pass 15 = .ok (.if_icmp .ne 7, 3) := by decide +kernel
theorem dX4_pass_18 : decode cX4_pass 18 = .ok (.iconst 0, 1) := by decide +kernel
theorem dX4_pass_19 : decode cX4_pass 19 = .ok (.goto 4, 3) := by decide +kernel
theorem dX4_pass_22 : decode cX4_pass 22 = .ok (.iload_n 1, 1) := by decide +kernel
theorem dX4_pass_23 : decode cX4_pass 23 = .ok (.dup2, 1) := by decide +kernel
theorem dX4_pass_24 : decode cX4_pass 24 = .ok (.iaload, 1) := by decide +kernel
theorem dX4_pass_25 : decode cX4_pass 25 = .ok (.iload_n 1, 1) := by decide +kernel
theorem dX4_pass_26 : decode cX4_pass 26 = .ok (.iconst (-1), 1) := by decide +kernel
theorem dX4_pass_27 : decode cX4_pass 27 = .ok (.if_icmp .ne 7, 3) := by decide +kernel
theorem dX4_pass_30 : decode cX4_pass 30 = .ok (.iconst 0, 1) := by decide +kernel
theorem dX4_pass_31 : decode cX4_pass 31 = .ok (.goto 4, 3) := by decide +kernel
theorem dX4_pass_34 : decode cX4_pass 34 = .ok (.iconst 1, 1) := by decide +kernel
theorem dX4_pass_35 : decode cX4_pass 35 = .ok (.iadd, 1) := by decide +kernel
theorem dX4_pass_36 : decode cX4_pass 36 = .ok (.iastore, 1) := by decide +kernel
theorem dX4_pass_37 : decode cX4_pass 37 = .ok (.aload_n 0, 1) := by decide +kernel
theorem dX4_pass_38 : decode cX4_pass 38 = .ok (.dup, 1) := by decide +kernel
theorem dX4_pass_39 : decode cX4_pass 39 = .ok (.getfield 94, 3) := by decide +kernel
theorem dX4_pass_42 : decode cX4_pass 42 = .ok (.iconst 1, 1) := by decide +kernel
theorem dX4_pass_43 : decode cX4_pass 43 = .ok (.iadd, 1) := by decide +kernel
theorem dX4_pass_44 : decode cX4_pass 44 = .ok (.putfield 94, 3) := by decide +kernel
theorem dX4_pass_47 : decode cX4_pass 47 = .ok (.iload_n 1, 1) := by decide +kernel
theorem dX4_pass_48 : decode cX4_pass 48 = .ok (.iconst (-1), 1) := by decide +kernel
theorem dX4_pass_49 : decode cX4_pass 49 = .ok (.if_icmp .eq 23, 3) := by decide +kernel
theorem dX4_pass_52 : decode cX4_pass 52 = .ok (.aload_n 0, 1) := by decide +kernel
theorem dX4_pass_53 : decode cX4_pass 53 = .ok (.getfield 56, 3) := by decide +kernel
theorem dX4_pass_56 : decode cX4_pass 56 = .ok (.iload_n 1, 1) := by decide +kernel
theorem dX4_pass_57 : decode cX4_pass 57 = .ok (.iaload, 1) := by decide +kernel
theorem dX4_pass_58 : decode cX4_pass 58 = .ok (.aload_n 0, 1) := by decide +kernel
theorem dX4_pass_59 : decode cX4_pass 59 = .ok (.getfield 32, 3) := by decide +kernel
theorem dX4_pass_62 : decode cX4_pass 62 = .ok (.iload_n 1, 1) := by decide +kernel
theorem dX4_pass_63 : decode cX4_pass 63 = .ok (.iaload, 1) := by decide +kernel
theorem dX4_pass_64 : decode cX4_pass 64 = .ok (.if_icmp .ne 8, 3) := by decide +kernel
theorem dX4_pass_67 : decode cX4_pass 67 = .ok (.aload_n 0, 1) := by decide +kernel
theorem dX4_pass_68 : decode cX4_pass 68 = .ok (.iload_n 1, 1) := by decide +kernel
theorem dX4_pass_69 : decode cX4_pass 69 = .ok (.invokevirtual 141, 3) := by decide +kernel
theorem dX4_pass_72 : decode cX4_pass 72 = .ok (.iconst 0, 1) := by decide +kernel
theorem dX4_pass_73 : decode cX4_pass 73 = .ok (.istore_n 2, 1) := by decide +kernel
theorem dX4_pass_74 : decode cX4_pass 74 = .ok (.iload_n 2, 1) := by decide +kernel
theorem dX4_pass_75 : decode cX4_pass 75 = .ok (.aload_n 0, 1) := by decide +kernel
theorem dX4_pass_76 : decode cX4_pass 76 = .ok (.getfield 69, 3) := by decide +kernel
theorem dX4_pass_79 : decode cX4_pass 79 = .ok (.if_icmp .ge 37, 3) := by decide +kernel
theorem dX4_pass_82 : decode cX4_pass 82 = .ok (.aload_n 0, 1) := by decide +kernel
theorem dX4_pass_83 : decode cX4_pass 83 = .ok (.getfield 53, 3) := by decide +kernel
theorem dX4_pass_86 : decode cX4_pass 86 = .ok (.aload_n 0, 1) := by decide +kernel
theorem dX4_pass_87 : decode cX4_pass 87 = .ok (.getfield 7, 3) := by decide +kernel
theorem dX4_pass_90 : decode cX4_pass 90 = .ok (.iload_n 2, 1) := by decide +kernel
theorem dX4_pass_91 : decode cX4_pass 91 = .ok (.iaload, 1) := by decide +kernel
theorem dX4_pass_92 : decode cX4_pass 92 = .ok (.iaload, 1) := by decide +kernel
theorem dX4_pass_93 : decode cX4_pass 93 = .ok (.aload_n 0, 1) := by decide +kernel
theorem dX4_pass_94 : decode cX4_pass 94 = .ok (.getfield 94, 3) := by decide +kernel
theorem dX4_pass_97 : decode cX4_pass 97 = .ok (.if_icmp .ne 13, 3) := by decide +kernel
theorem dX4_pass_100 : decode cX4_pass 100 = .ok (.aload_n 0, 1) := by decide +kernel
theorem dX4_pass_101 : decode cX4_pass 101 = .ok (.aload_n 0, 1) := by decide +kernel
theorem dX4_pass_102 : decode cX4_pass 102 = .ok (.getfield 7, 3) := by decide +kernel
theorem dX4_pass_105 : decode cX4_pass 105 = .ok (.iload_n 2, 1) := by decide +kernel
theorem dX4_pass_106 : decode cX4_pass 106 = .ok (.iaload, 1) := by decide +kernel
theorem dX4_pass_107 : decode cX4_pass 107 = .ok (.invokevirtual 144, 3) := by decide +kernel
theorem dX4_pass_110 : decode cX4_pass 110 = .ok (.iinc 2 1, 3) := by decide +kernel
theorem dX4_pass_113 : decode cX4_pass 113 = .ok (.goto (-39), 3) := by decide +kernel
theorem dX4_pass_116 : decode cX4_pass 116 = .ok (.return_, 1) := by decide +kernel
set_option maxRecDepth 20000 in
theorem ggX4_advance_X4_in : GoodIn wsX4_advance wsX4_in := goodIn_r _ [6] (by decide +kernel) (by decide +kernel)
set_option maxRecDepth 20000 in
theorem gX4_advance_X4_in : GoodIn wsX4_advance (va_wsS RX4 80 yX4_in wsX4_in) := goodIn_app (goodIn_of _ (by decide +kernel)) ggX4_advance_X4_in
set_option maxRecDepth 20000 in
theorem ggX4_advance_X4_refused : GoodIn wsX4_advance wsX4_refused := goodIn_r _ [10, 11, 74, 75, 76, 77, 78, 79, 80, 81, 82, 83, 84, 85, 86, 87, 88, 89, 90, 91, 92, 93, 94, 95] (by decide +kernel) (by decide +kernel)
set_option maxRecDepth 20000 in
theorem gX4_advance_X4_refused : GoodIn wsX4_advance (wsV RX4 76 RX4 yX4_refused wsX4_refused) := goodIn_app (goodIn_of _ (by decide +kernel)) ggX4_advance_X4_refused
set_option maxRecDepth 20000 in
theorem ggX4_advance_X4_pass : GoodIn wsX4_advance wsX4_pass := goodIn_r _ [15, 16, 1, 17, 18, 19, 20, 21, 22, 23, 5, 24, 25, 26, 27, 28, 29, 30, 31, 32, 33, 34, 35, 36, 37, 38, 39, 40, 41, 42, 43, 44, 45, 46, 47, 48, 49, 50, 3, 4, 6, 51, 52, 53, 54, 55, 56, 57, 58, 59, 60, 61, 62, 63, 64, 65, 66, 67, 68, 69, 70, 71, 72, 73, 74, 75, 76, 77, 78, 79, 80, 81, 82, 83, 84, 85, 86, 87, 88, 89, 90, 91, 92, 93, 94, 95] (by decide +kernel) (by decide +kernel)
set_option maxRecDepth 20000 in
theorem gX4_advance_X4_pass : GoodIn wsX4_advance (wsV RX4 148 RX4 yX4_pass wsX4_pass) := goodIn_app (goodIn_of _ (by decide +kernel)) ggX4_advance_X4_pass
theorem dX4_advance_0 : decode cX4_advance 0 = .ok (.aload_n 0, 1) := by decide +kernel
theorem dX4_advance_1 : decode cX4_advance 1 = .ok (.iload_n 1, 1) := by decide +kernel
theorem dX4_advance_2 : decode cX4_advance 2 = .ok (.iconst 1, 1) := by decide +kernel
theorem dX4_advance_3 : decode cX4_advance 3 = .ok (.sipush 200, 3) := by decide +kernel
theorem dX4_advance_6 : decode cX4_advance 6 = .ok (.invokestatic 80, 3) := by decide +kernel
theorem dX4_advance_9 : decode cX4_advance 9 = .ok (.ifCond .ne 7, 3) := by decide +kernel
theorem dX4_advance_12 : decode cX4_advance 12 = .ok (.iconst 1, 1) := by decide +kernel
theorem dX4_advance_13 : decode cX4_advance 13 = .ok (.goto 19, 3) := by decide +kernel
theorem dX4_advance_16 : decode cX4_advance 16 = .ok (.aload_n 0, 1) := by decide +kernel
theorem dX4_advance_17 : decode cX4_advance 17 = .ok (.getfield 94, 3) := by decide +kernel
theorem dX4_advance_20 : decode cX4_advance 20 = .ok (.iload_n 1, 1) := by decide +kernel
theorem dX4_advance_21 : decode cX4_advance 21 = .ok (.iadd, 1) := by decide +kernel
theorem dX4_advance_22 : decode cX4_advance 22 = .ok (.ldc 147, 2) := by decide +kernel
theorem dX4_advance_24 : decode cX4_advance 24 = .ok (.if_icmp .le 7, 3) := by decide +kernel
theorem dX4_advance_27 : decode cX4_advance 27 = .ok (.iconst 2, 1) := by decide +kernel
theorem dX4_advance_28 : decode cX4_advance 28 = .ok (.goto 4, 3) := by decide +kernel
theorem dX4_advance_31 : decode cX4_advance 31 = .ok (.iconst 0, 1) := by decide +kernel
theorem dX4_advance_32 : decode cX4_advance 32 = .ok (.invokevirtual 76, 3) := by decide +kernel
theorem dX4_advance_35 : decode cX4_advance 35 = .ok (.ifCond .eq 5, 3) := by decide +kernel
theorem dX4_advance_38 : decode cX4_advance 38 = .ok (.iconst 0, 1) := by decide +kernel
theorem dX4_advance_39 : decode cX4_advance 39 = .ok (.ireturn, 1) := by decide +kernel
theorem dX4_advance_40 : decode cX4_advance 40 = .ok (.iconst 0, 1) := by decide +kernel
theorem dX4_advance_41 : decode cX4_advance 41 = .ok (.istore_n 2, 1) := by decide +kernel
theorem dX4_advance_42 : decode cX4_advance 42 = .ok (.iload_n 2, 1) := by decide +kernel
theorem dX4_advance_43 : decode cX4_advance 43 = .ok (.iload_n 1, 1) := by decide +kernel
theorem dX4_advance_44 : decode cX4_advance 44 = .ok (.if_icmp .ge 13, 3) := by decide +kernel
theorem dX4_advance_47 : decode cX4_advance 47 = .ok (.aload_n 0, 1) := by decide +kernel
theorem dX4_advance_48 : decode cX4_advance 48 = .ok (.invokevirtual 148, 3) := by decide +kernel
theorem dX4_advance_51 : decode cX4_advance 51 = .ok (.iinc 2 1, 3) := by decide +kernel
theorem dX4_advance_54 : decode cX4_advance 54 = .ok (.goto (-12), 3) := by decide +kernel
theorem dX4_advance_57 : decode cX4_advance 57 = .ok (.aload_n 0, 1) := by decide +kernel
theorem dX4_advance_58 : decode cX4_advance 58 = .ok (.getfield 94, 3) := by decide +kernel
theorem dX4_advance_61 : decode cX4_advance 61 = .ok (.ireturn, 1) := by decide +kernel
set_option maxRecDepth 20000 in
theorem ggX4_noCell_X4_in : GoodIn wsX4_noCell wsX4_in := goodIn_r _ [4] (by decide +kernel) (by decide +kernel)
set_option maxRecDepth 20000 in
theorem gX4_noCell_X4_in : GoodIn wsX4_noCell (va_wsS RX4 80 yX4_in wsX4_in) := goodIn_app (goodIn_of _ (by decide +kernel)) ggX4_noCell_X4_in
set_option maxRecDepth 20000 in
theorem ggX4_noCell_X4_refused : GoodIn wsX4_noCell wsX4_refused := goodIn_r _ [8, 9, 10, 11, 12, 13, 14, 15, 16, 17, 18, 19, 20, 21, 22, 23, 24, 25, 26, 27, 28, 29, 30, 31] (by decide +kernel) (by decide +kernel)
set_option maxRecDepth 20000 in
theorem gX4_noCell_X4_refused : GoodIn wsX4_noCell (wsV RX4 76 RX4 yX4_refused wsX4_refused) := goodIn_app (goodIn_of _ (by decide +kernel)) ggX4_noCell_X4_refused
theorem dX4_noCell_0 : decode cX4_noCell 0 = .ok (.aload_n 0, 1) := by decide +kernel
theorem dX4_noCell_1 : decode cX4_noCell 1 = .ok (.iload_n 1, 1) := by decide +kernel
theorem dX4_noCell_2 : decode cX4_noCell 2 = .ok (.iconst 0, 1) := by decide +kernel
theorem dX4_noCell_3 : decode cX4_noCell 3 = .ok (.bipush 7, 2) := by decide +kernel
theorem dX4_noCell_5 : decode cX4_noCell 5 = .ok (.invokestatic 80, 3) := by decide +kernel
theorem dX4_noCell_8 : decode cX4_noCell 8 = .ok (.ifCond .eq 16, 3) := by decide +kernel
theorem dX4_noCell_11 : decode cX4_noCell 11 = .ok (.iload_n 2, 1) := by decide +kernel
theorem dX4_noCell_12 : decode cX4_noCell 12 = .ok (.iconst 0, 1) := by decide +kernel
theorem dX4_noCell_13 : decode cX4_noCell 13 = .ok (.iconst 5, 1) := by decide +kernel
theorem dX4_noCell_14 : decode cX4_noCell 14 = .ok (.invokestatic 80, 3) := by decide +kernel
theorem dX4_noCell_17 : decode cX4_noCell 17 = .ok (.ifCond .eq 7, 3) := by decide +kernel
theorem dX4_noCell_20 : decode cX4_noCell 20 = .ok (.iconst 0, 1) := by decide +kernel
theorem dX4_noCell_21 : decode cX4_noCell 21 = .ok (.goto 4, 3) := by decide +kernel
theorem dX4_noCell_24 : decode cX4_noCell 24 = .ok (.iconst 1, 1) := by decide +kernel
theorem dX4_noCell_25 : decode cX4_noCell 25 = .ok (.invokevirtual 76, 3) := by decide +kernel
theorem dX4_noCell_28 : decode cX4_noCell 28 = .ok (.ireturn, 1) := by decide +kernel
set_option maxRecDepth 20000 in
theorem ggX4_input_X4_noCell : GoodIn wsX4_input wsX4_noCell := goodIn_r _ [9, 10, 11, 8, 12, 13, 14, 15, 16, 17, 38, 39, 40, 41, 42, 43, 44, 45, 46, 47, 48, 49, 50, 51, 52, 53, 54, 55, 56, 57, 58, 59] (by decide +kernel) (by decide +kernel)
set_option maxRecDepth 20000 in
theorem gX4_input_X4_noCell : GoodIn wsX4_input (wsV RX4 151 RX4 yX4_noCell wsX4_noCell) := goodIn_app (goodIn_of _ (by decide +kernel)) ggX4_input_X4_noCell
set_option maxRecDepth 20000 in
theorem ggX4_input_X4_shownAt : GoodIn wsX4_input wsX4_shownAt := goodIn_r _ [21, 22, 23, 24, 25, 26, 8, 27, 28, 29, 30, 31, 32, 10, 11, 12, 38, 39, 40, 41, 42, 43, 44, 45, 46, 47, 48, 49, 50, 51, 52, 53, 54, 55, 56, 57, 58, 59] (by decide +kernel) (by decide +kernel)
set_option maxRecDepth 20000 in
theorem gX4_input_X4_shownAt : GoodIn wsX4_input (wsV RX4 87 RX4 yX4_shownAt wsX4_shownAt) := goodIn_app (goodIn_of _ (by decide +kernel)) ggX4_input_X4_shownAt
set_option maxRecDepth 20000 in
theorem ggX4_input_X4_begin : GoodIn wsX4_input wsX4_begin := goodIn_r _ [36, 37, 4, 38, 39, 40, 41, 42, 43, 44, 45, 46, 47, 48, 49, 50, 51, 52, 53, 54, 55, 56, 57, 58, 59] (by decide +kernel) (by decide +kernel)
set_option maxRecDepth 20000 in
theorem gX4_input_X4_begin : GoodIn wsX4_input (wsV RX4 131 RX4 yX4_begin wsX4_begin) := goodIn_app (goodIn_of _ (by decide +kernel)) ggX4_input_X4_begin
theorem dX4_input_0 : decode cX4_input 0 = .ok (.aload_n 0, 1) := by decide +kernel
theorem dX4_input_1 : decode cX4_input 1 = .ok (.iload_n 1, 1) := by decide +kernel
theorem dX4_input_2 : decode cX4_input 2 = .ok (.iload_n 2, 1) := by decide +kernel
theorem dX4_input_3 : decode cX4_input 3 = .ok (.invokevirtual 151, 3) := by decide +kernel
theorem dX4_input_6 : decode cX4_input 6 = .ok (.ifCond .eq 5, 3) := by decide +kernel
theorem dX4_input_9 : decode cX4_input 9 = .ok (.iconst 0, 1) := by decide +kernel
theorem dX4_input_10 : decode cX4_input 10 = .ok (.ireturn, 1) := by decide +kernel
theorem dX4_input_11 : decode cX4_input 11 = .ok (.aload_n 0, 1) := by decide +kernel
theorem dX4_input_12 : decode cX4_input 12 = .ok (.iload_n 1, 1) := by decide +kernel
theorem dX4_input_13 : decode cX4_input 13 = .ok (.iload_n 2, 1) := by decide +kernel
theorem dX4_input_14 : decode cX4_input 14 = .ok (.invokevirtual 87, 3) := by decide +kernel
theorem dX4_input_17 : decode cX4_input 17 = .ok (.istore_n 3, 1) := by decide +kernel
theorem dX4_input_18 : decode cX4_input 18 = .ok (.iload_n 3, 1) := by decide +kernel
theorem dX4_input_19 : decode cX4_input 19 = .ok (.iconst (-1), 1) := by decide +kernel
theorem dX4_input_20 : decode cX4_input 20 = .ok (.if_icmp .eq 68, 3) := by decide +kernel
theorem dX4_input_23 : decode cX4_input 23 = .ok (.aload_n 0, 1) := by decide +kernel
theorem dX4_input_24 : decode cX4_input 24 = .ok (.getfield 35, 3) := by decide +kernel
theorem dX4_input_27 : decode cX4_input 27 = .ok (.iload_n 3, 1) := by decide +kernel
theorem dX4_input_28 : decode cX4_input 28 = .ok (.baload, 1) := by decide +kernel
theorem dX4_input_29 : decode cX4_input 29 = .ok (.ifCond .eq 59, 3) := by decide +kernel
theorem dX4_input_32 : decode cX4_input 32 = .ok (.aload_n 0, 1) := by decide +kernel
theorem dX4_input_33 : decode cX4_input 33 = .ok (.getfield 94, 3) := by decide +kernel
theorem dX4_input_36 : decode cX4_input 36 = .ok (.aload_n 0, 1) := by decide +kernel
theorem dX4_input_37 : decode cX4_input 37 = .ok (.getfield 29, 3) := by decide +kernel
theorem dX4_input_40 : decode cX4_input 40 = .ok (.iload_n 3, 1) := by decide +kernel
theorem dX4_input_41 : decode cX4_input 41 = .ok (.iaload, 1) := by decide +kernel
theorem dX4_input_42 : decode cX4_input 42 = .ok (.iconst 1, 1) := by decide +kernel
theorem dX4_input_43 : decode cX4_input 43 = .ok (.iadd, 1) := by decide +kernel
theorem dX4_input_44 : decode cX4_input 44 = .ok (.iconst 2, 1) := by decide +kernel
theorem dX4_input_45 : decode cX4_input 45 = .ok (.idiv, 1) := by decide +kernel
theorem dX4_input_46 : decode cX4_input 46 = .ok (.iadd, 1) := by decide +kernel
theorem dX4_input_47 : decode cX4_input 47 = .ok (.istore 4, 2) := by decide +kernel
theorem dX4_input_49 : decode cX4_input 49 = .ok (.aload_n 0, 1) := by decide +kernel
theorem dX4_input_50 : decode cX4_input 50 = .ok (.getfield 53, 3) := by decide +kernel
theorem dX4_input_53 : decode cX4_input 53 = .ok (.iload_n 3, 1) := by decide +kernel
theorem dX4_input_54 : decode cX4_input 54 = .ok (.iaload, 1) := by decide +kernel
theorem dX4_input_55 : decode cX4_input 55 = .ok (.iconst (-1), 1) := by decide +kernel
theorem dX4_input_56 : decode cX4_input 56 = .ok (.if_icmp .ne 13, 3) := by decide +kernel
theorem dX4_input_59 : decode cX4_input 59 = .ok (.aload_n 0, 1) := by decide +kernel
theorem dX4_input_60 : decode cX4_input 60 = .ok (.iload_n 3, 1) := by decide +kernel
theorem dX4_input_61 : decode cX4_input 61 = .ok (.iload 4, 2) := by decide +kernel
theorem dX4_input_63 : decode cX4_input 63 = .ok (.invokevirtual 131, 3) := by decide +kernel
theorem dX4_input_66 : decode cX4_input 66 = .ok (.goto 22, 3) := by decide +kernel
theorem dX4_input_69 : decode cX4_input 69 = .ok (.iload 4, 2) := by decide +kernel
theorem dX4_input_71 : decode cX4_input 71 = .ok (.aload_n 0, 1) := by decide +kernel
theorem dX4_input_72 : decode cX4_input 72 = .ok (.getfield 53, 3) := by decide +kernel
theorem dX4_input_75 : decode cX4_input 75 = .ok (.iload_n 3, 1) := by decide +kernel
theorem dX4_input_76 : decode cX4_input 76 = .ok (.iaload, 1) := by decide +kernel
theorem dX4_input_77 : decode cX4_input 77 = .ok (.if_icmp .ge 11, 3) := by decide +kernel
theorem dX4_input_80 : decode cX4_input 80 = .ok (.aload_n 0, 1) := by decide +kernel
theorem dX4_input_81 : decode cX4_input 81 = .ok (.getfield 53, 3) := by decide +kernel
theorem dX4_input_84 : decode cX4_input 84 = .ok (.iload_n 3, 1) := by decide +kernel
theorem dX4_input_85 : decode cX4_input 85 = .ok (.iload 4, 2) := by decide +kernel
theorem dX4_input_87 : decode cX4_input 87 = .ok (.iastore, 1) := by decide +kernel
theorem dX4_input_88 : decode cX4_input 88 = .ok (.iload_n 3, 1) := by decide +kernel
theorem dX4_input_89 : decode cX4_input 89 = .ok (.ireturn, 1) := by decide +kernel
set_option maxRecDepth 20000 in
theorem ggX4_countDamage_X4_shownAt : GoodIn wsX4_countDamage wsX4_shownAt := goodIn_r _ [8, 9, 10, 11, 12, 13, 7, 14, 15, 16, 17, 18, 19, 20, 21, 22, 23, 24, 25, 26, 27, 28, 29, 30, 31, 32, 33, 34, 35, 36, 37, 38, 39, 40, 41, 42, 43, 44] (by decide +kernel) (by decide +kernel)
set_option maxRecDepth 20000 in
theorem gX4_countDamage_X4_shownAt : GoodIn wsX4_countDamage (wsV RX4 87 RX4 yX4_shownAt wsX4_shownAt) := goodIn_app (goodIn_of _ (by decide +kernel)) ggX4_countDamage_X4_shownAt
theorem dX4_countDamage_0 : decode cX4_countDamage 0 = .ok (.iconst 0, 1) := by decide +kernel
theorem dX4_countDamage_1 : decode cX4_countDamage 1 = .ok (.istore_n 1, 1) := by decide +kernel
theorem dX4_countDamage_2 : decode cX4_countDamage 2 = .ok (.iconst 0, 1) := by decide +kernel
theorem dX4_countDamage_3 : decode cX4_countDamage 3 = .ok (.istore_n 2, 1) := by decide +kernel
theorem dX4_countDamage_4 : decode cX4_countDamage 4 = .ok (.iload_n 2, 1) := by decide +kernel
theorem dX4_countDamage_5 : decode cX4_countDamage 5 = .ok (.bipush 48, 2) := by decide +kernel
theorem dX4_countDamage_7 : decode cX4_countDamage 7 = .ok (.if_icmp .ge 72, 3) := by decide +kernel
theorem dX4_countDamage_10 : decode cX4_countDamage 10 = .ok (.aload_n 0, 1) := by decide +kernel
theorem dX4_countDamage_11 : decode cX4_countDamage 11 = .ok (.iload_n 2, 1) := by decide +kernel
theorem dX4_countDamage_12 : decode cX4_countDamage 12 = .ok (.bipush 8, 2) := by decide +kernel
theorem dX4_countDamage_14 : decode cX4_countDamage 14 = .ok (.irem, 1) := by decide +kernel
theorem dX4_countDamage_15 : decode cX4_countDamage 15 = .ok (.iload_n 2, 1) := by decide +kernel
theorem dX4_countDamage_16 : decode cX4_countDamage 16 = .ok (.bipush 8, 2) := by decide +kernel
theorem dX4_countDamage_18 : decode cX4_countDamage 18 = .ok (.idiv, 1) := by decide +kernel
theorem dX4_countDamage_19 : decode cX4_countDamage 19 = .ok (.invokevirtual 87, 3) := by decide +kernel
theorem dX4_countDamage_22 : decode cX4_countDamage 22 = .ok (.istore_n 3, 1) := by decide +kernel
theorem dX4_countDamage_23 : decode cX4_countDamage 23 = .ok (.iload_n 3, 1) := by decide +kernel
theorem dX4_countDamage_24 : decode cX4_countDamage 24 = .ok (.aload_n 0, 1) := by decide +kernel
theorem dX4_countDamage_25 : decode cX4_countDamage 25 = .ok (.getfield 59, 3) := by decide +kernel
theorem dX4_countDamage_28 : decode cX4_countDamage 28 = .ok (.iload_n 2, 1) := by decide +kernel
theorem dX4_countDamage_29 : decode cX4_countDamage 29 = .ok (.iaload, 1) := by decide +kernel
theorem dX4_countDamage_30 : decode cX4_countDamage 30 = .ok (.if_icmp .ne 27, 3) := by decide +kernel
theorem dX4_countDamage_33 : decode cX4_countDamage 33 = .ok (.iload_n 3, 1) := by decide +kernel
theorem dX4_countDamage_34 : decode cX4_countDamage 34 = .ok (.iconst (-1), 1) := by decide +kernel
theorem dX4_countDamage_35 : decode cX4_countDamage 35 = .ok (.if_icmp .eq 18, 3) := by decide +kernel
theorem dX4_countDamage_38 : decode cX4_countDamage 38 = .ok (.aload_n 0, 1) := by decide +kernel
theorem dX4_countDamage_39 : decode cX4_countDamage 39 = .ok (.getfield 38, 3) := by decide +kernel
theorem dX4_countDamage_42 : decode cX4_countDamage 42 = .ok (.iload_n 3, 1) := by decide +kernel
theorem dX4_countDamage_43 : decode cX4_countDamage 43 = .ok (.iaload, 1) := by decide +kernel
theorem dX4_countDamage_44 : decode cX4_countDamage 44 = .ok (.aload_n 0, 1) := by decide +kernel
theorem dX4_countDamage_45 : decode cX4_countDamage 45 = .ok (.getfield 62, 3) := by decide +kernel
theorem dX4_countDamage_48 : decode cX4_countDamage 48 = .ok (.iload_n 2, 1) := by decide +kernel
theorem dX4_countDamage_49 : decode cX4_countDamage 49 = .ok (.iaload, 1) := by decide +kernel
theorem dX4_countDamage_50 : decode cX4_countDamage 50 = .ok (.if_icmp .ne 7, 3) := by decide +kernel
theorem dX4_countDamage_53 : decode cX4_countDamage 53 = .ok (.iconst 1, 1) := by decide +kernel
theorem dX4_countDamage_54 : decode cX4_countDamage 54 = .ok (.goto 4, 3) := by decide +kernel
theorem dX4_countDamage_57 : decode cX4_countDamage 57 = .ok (.iconst 0, 1) := by decide +kernel
theorem dX4_countDamage_58 : decode cX4_countDamage 58 = .ok (.istore 4, 2) := by decide +kernel
theorem dX4_countDamage_60 : decode cX4_countDamage 60 = .ok (.iload_n 1, 1) := by decide +kernel
theorem dX4_countDamage_61 : decode cX4_countDamage 61 = .ok (.iload 4, 2) := by decide +kernel
theorem dX4_countDamage_63 : decode cX4_countDamage 63 = .ok (.ifCond .eq 7, 3) := by decide +kernel
theorem dX4_countDamage_66 : decode cX4_countDamage 66 = .ok (.iconst 0, 1) := by decide +kernel
theorem dX4_countDamage_67 : decode cX4_countDamage 67 = .ok (.goto 4, 3) := by decide +kernel
theorem dX4_countDamage_70 : decode cX4_countDamage 70 = .ok (.iconst 1, 1) := by decide +kernel
theorem dX4_countDamage_71 : decode cX4_countDamage 71 = .ok (.iadd, 1) := by decide +kernel
theorem dX4_countDamage_72 : decode cX4_countDamage 72 = .ok (.istore_n 1, 1) := by decide +kernel
theorem dX4_countDamage_73 : decode cX4_countDamage 73 = .ok (.iinc 2 1, 3) := by decide +kernel
theorem dX4_countDamage_76 : decode cX4_countDamage 76 = .ok (.goto (-72), 3) := by decide +kernel
theorem dX4_countDamage_79 : decode cX4_countDamage 79 = .ok (.iload_n 1, 1) := by decide +kernel
theorem dX4_countDamage_80 : decode cX4_countDamage 80 = .ok (.ireturn, 1) := by decide +kernel
set_option maxRecDepth 20000 in
theorem ggX4_show_X4_countDamage : GoodIn wsX4_show wsX4_countDamage := goodIn_r _ [8, 1, 3, 2, 9, 10, 11, 7, 12, 13, 14, 15, 16, 17, 18, 19, 20, 21, 22, 23, 24, 25, 26, 32, 33, 34, 35, 36, 37, 38, 39, 40, 41, 42, 43, 44, 45, 46, 47, 48, 49, 50, 51, 52, 53] (by decide +kernel) (by decide +kernel)
set_option maxRecDepth 20000 in
theorem gX4_show_X4_countDamage : GoodIn wsX4_show (wsV RX4 154 RX4 yX4_countDamage wsX4_countDamage) := goodIn_app (goodIn_of _ (by decide +kernel)) ggX4_show_X4_countDamage
set_option maxRecDepth 20000 in
theorem ggX4_show_X4_shownAt : GoodIn wsX4_show wsX4_shownAt := goodIn_r _ [12, 13, 14, 15, 16, 17, 7, 18, 19, 20, 21, 22, 23, 24, 25, 26, 32, 33, 34, 35, 36, 37, 38, 39, 40, 41, 42, 43, 44, 45, 46, 47, 48, 49, 50, 51, 52, 53] (by decide +kernel) (by decide +kernel)
set_option maxRecDepth 20000 in
theorem gX4_show_X4_shownAt : GoodIn wsX4_show (wsV RX4 87 RX4 yX4_shownAt wsX4_shownAt) := goodIn_app (goodIn_of _ (by decide +kernel)) ggX4_show_X4_shownAt
set_option maxRecDepth 20000 in
theorem ggX4_show_X4_fine : GoodIn wsX4_show wsX4_fine := goodIn_r _ [30, 31, 32, 33, 34, 35, 36, 37, 38, 39, 40, 41, 42, 43, 44, 45, 46, 47, 48, 49, 50, 51, 52, 53] (by decide +kernel) (by decide +kernel)
set_option maxRecDepth 20000 in
theorem gX4_show_X4_fine : GoodIn wsX4_show (wsV RX4 157 RX4 yX4_fine wsX4_fine) := goodIn_app (goodIn_of _ (by decide +kernel)) ggX4_show_X4_fine
theorem dX4_show_0 : decode cX4_show 0 = .ok (.aload_n 0, 1) := by decide +kernel
theorem dX4_show_1 : decode cX4_show 1 = .ok (.invokevirtual 154, 3) := by decide +kernel
theorem dX4_show_4 : decode cX4_show 4 = .ok (.istore_n 1, 1) := by decide +kernel
theorem dX4_show_5 : decode cX4_show 5 = .ok (.iconst 0, 1) := by decide +kernel
theorem dX4_show_6 : decode cX4_show 6 = .ok (.istore_n 2, 1) := by decide +kernel
theorem dX4_show_7 : decode cX4_show 7 = .ok (.iload_n 2, 1) := by decide +kernel
theorem dX4_show_8 : decode cX4_show 8 = .ok (.bipush 48, 2) := by decide +kernel
theorem dX4_show_10 : decode cX4_show 10 = .ok (.if_icmp .ge 50, 3) := by decide +kernel
theorem dX4_show_13 : decode cX4_show 13 = .ok (.aload_n 0, 1) := by decide +kernel
theorem dX4_show_14 : decode cX4_show 14 = .ok (.iload_n 2, 1) := by decide +kernel
theorem dX4_show_15 : decode cX4_show 15 = .ok (.bipush 8, 2) := by decide +kernel
theorem dX4_show_17 : decode cX4_show 17 = .ok (.irem, 1) := by decide +kernel
theorem dX4_show_18 : decode cX4_show 18 = .ok (.iload_n 2, 1) := by decide +kernel
theorem dX4_show_19 : decode cX4_show 19 = .ok (.bipush 8, 2) := by decide +kernel
theorem dX4_show_21 : decode cX4_show 21 = .ok (.idiv, 1) := by decide +kernel
theorem dX4_show_22 : decode cX4_show 22 = .ok (.invokevirtual 87, 3) := by decide +kernel
theorem dX4_show_25 : decode cX4_show 25 = .ok (.istore_n 3, 1) := by decide +kernel
theorem dX4_show_26 : decode cX4_show 26 = .ok (.aload_n 0, 1) := by decide +kernel
theorem dX4_show_27 : decode cX4_show 27 = .ok (.getfield 59, 3) := by decide +kernel
theorem dX4_show_30 : decode cX4_show 30 = .ok (.iload_n 2, 1) := by decide +kernel
theorem dX4_show_31 : decode cX4_show 31 = .ok (.iload_n 3, 1) := by decide +kernel
theorem dX4_show_32 : decode cX4_show 32 = .ok (.iastore, 1) := by decide +kernel
theorem dX4_show_33 : decode cX4_show 33 = .ok (.aload_n 0, 1) := by decide +kernel
theorem dX4_show_34 : decode cX4_show 34 = .ok (.getfield 62, 3) := by decide +kernel
theorem dX4_show_37 : decode cX4_show 37 = .ok (.iload_n 2, 1) := by decide +kernel
theorem dX4_show_38 : decode cX4_show 38 = .ok (.iload_n 3, 1) := by decide +kernel
theorem dX4_show_39 : decode cX4_show 39 = .ok (.iconst (-1), 1) := by decide +kernel
theorem dX4_show_40 : decode cX4_show 40 = .ok (.if_icmp .ne 7, 3) := by decide +kernel
theorem dX4_show_43 : decode cX4_show 43 = .ok (.iconst 0, 1) := by decide +kernel
theorem dX4_show_44 : decode cX4_show 44 = .ok (.goto 9, 3) := by decide +kernel
theorem dX4_show_47 : decode cX4_show 47 = .ok (.aload_n 0, 1) := by decide +kernel
theorem dX4_show_48 : decode cX4_show 48 = .ok (.getfield 38, 3) := by decide +kernel
theorem dX4_show_51 : decode cX4_show 51 = .ok (.iload_n 3, 1) := by decide +kernel
theorem dX4_show_52 : decode cX4_show 52 = .ok (.iaload, 1) := by decide +kernel
theorem dX4_show_53 : decode cX4_show 53 = .ok (.iastore, 1) := by decide +kernel
theorem dX4_show_54 : decode cX4_show 54 = .ok (.iinc 2 1, 3) := by decide +kernel
theorem dX4_show_57 : decode cX4_show 57 = .ok (.goto (-50), 3) := by decide +kernel
theorem dX4_show_60 : decode cX4_show 60 = .ok (.aload_n 0, 1) := by decide +kernel
theorem dX4_show_61 : decode cX4_show 61 = .ok (.iload_n 1, 1) := by decide +kernel
theorem dX4_show_62 : decode cX4_show 62 = .ok (.invokevirtual 157, 3) := by decide +kernel
theorem dX4_show_65 : decode cX4_show 65 = .ok (.ireturn, 1) := by decide +kernel
set_option maxRecDepth 20000 in
theorem ggX4_tick_X4_fine : GoodIn wsX4_tick wsX4_fine := goodIn_r _ [6, 7, 8, 9, 10, 11, 12, 13, 14, 15, 16, 17, 18, 19, 20, 21, 22, 23, 24, 25, 26, 27, 28, 29] (by decide +kernel) (by decide +kernel)
set_option maxRecDepth 20000 in
theorem gX4_tick_X4_fine : GoodIn wsX4_tick (wsV RX4 157 RX4 yX4_fine wsX4_fine) := goodIn_app (goodIn_of _ (by decide +kernel)) ggX4_tick_X4_fine
theorem dX4_tick_0 : decode cX4_tick 0 = .ok (.aload_n 0, 1) := by decide +kernel
theorem dX4_tick_1 : decode cX4_tick 1 = .ok (.aload_n 0, 1) := by decide +kernel
theorem dX4_tick_2 : decode cX4_tick 2 = .ok (.getfield 94, 3) := by decide +kernel
theorem dX4_tick_5 : decode cX4_tick 5 = .ok (.invokevirtual 157, 3) := by decide +kernel
theorem dX4_tick_8 : decode cX4_tick 8 = .ok (.ireturn, 1) := by decide +kernel
set_option maxRecDepth 20000 in
theorem ggX4_windows_X4_fine : GoodIn wsX4_windows wsX4_fine := goodIn_r _ [6, 7, 8, 9, 10, 11, 12, 13, 14, 15, 16, 17, 18, 19, 20, 21, 22, 23, 24, 25, 26, 27, 28, 29] (by decide +kernel) (by decide +kernel)
set_option maxRecDepth 20000 in
theorem gX4_windows_X4_fine : GoodIn wsX4_windows (wsV RX4 157 RX4 yX4_fine wsX4_fine) := goodIn_app (goodIn_of _ (by decide +kernel)) ggX4_windows_X4_fine
theorem dX4_windows_0 : decode cX4_windows 0 = .ok (.aload_n 0, 1) := by decide +kernel
theorem dX4_windows_1 : decode cX4_windows 1 = .ok (.aload_n 0, 1) := by decide +kernel
theorem dX4_windows_2 : decode cX4_windows 2 = .ok (.getfield 69, 3) := by decide +kernel
theorem dX4_windows_5 : decode cX4_windows 5 = .ok (.invokevirtual 157, 3) := by decide +kernel
theorem dX4_windows_8 : decode cX4_windows 8 = .ok (.ireturn, 1) := by decide +kernel
set_option maxRecDepth 20000 in
theorem ggX4_free_X4_freePages : GoodIn wsX4_free wsX4_freePages := goodIn_r _ [5, 6, 7, 8, 9, 10, 11, 4, 12, 13, 14, 20, 21, 22, 23, 24, 25, 26, 27, 28, 29, 30, 31, 32, 33, 34, 35, 36, 37, 38, 39, 40, 41] (by decide +kernel) (by decide +kernel)
set_option maxRecDepth 20000 in
theorem gX4_free_X4_freePages : GoodIn wsX4_free (wsV RX4 104 RX4 yX4_freePages wsX4_freePages) := goodIn_app (goodIn_of _ (by decide +kernel)) ggX4_free_X4_freePages
set_option maxRecDepth 20000 in
theorem ggX4_free_X4_fine : GoodIn wsX4_free wsX4_fine := goodIn_r _ [18, 19, 20, 21, 22, 23, 24, 25, 26, 27, 28, 29, 30, 31, 32, 33, 34, 35, 36, 37, 38, 39, 40, 41] (by decide +kernel) (by decide +kernel)
set_option maxRecDepth 20000 in
theorem gX4_free_X4_fine : GoodIn wsX4_free (wsV RX4 157 RX4 yX4_fine wsX4_fine) := goodIn_app (goodIn_of _ (by decide +kernel)) ggX4_free_X4_fine
theorem dX4_free_0 : decode cX4_free 0 = .ok (.aload_n 0, 1) := by decide +kernel
theorem dX4_free_1 : decode cX4_free 1 = .ok (.aload_n 0, 1) := by decide +kernel
theorem dX4_free_2 : decode cX4_free 2 = .ok (.invokevirtual 104, 3) := by decide +kernel
theorem dX4_free_5 : decode cX4_free 5 = .ok (.invokevirtual 157, 3) := by decide +kernel
theorem dX4_free_8 : decode cX4_free 8 = .ok (.ireturn, 1) := by decide +kernel
set_option maxRecDepth 20000 in
theorem ggX4_damage_X4_countDamage : GoodIn wsX4_damage wsX4_countDamage := goodIn_r _ [5, 6, 7, 8, 9, 10, 11, 4, 12, 13, 14, 15, 16, 17, 18, 19, 20, 21, 22, 23, 24, 25, 26, 32, 33, 34, 35, 36, 37, 38, 39, 40, 41, 42, 43, 44, 45, 46, 47, 48, 49, 50, 51, 52, 53] (by decide +kernel) (by decide +kernel)
set_option maxRecDepth 20000 in
theorem gX4_damage_X4_countDamage : GoodIn wsX4_damage (wsV RX4 154 RX4 yX4_countDamage wsX4_countDamage) := goodIn_app (goodIn_of _ (by decide +kernel)) ggX4_damage_X4_countDamage
set_option maxRecDepth 20000 in
theorem ggX4_damage_X4_fine : GoodIn wsX4_damage wsX4_fine := goodIn_r _ [30, 31, 32, 33, 34, 35, 36, 37, 38, 39, 40, 41, 42, 43, 44, 45, 46, 47, 48, 49, 50, 51, 52, 53] (by decide +kernel) (by decide +kernel)
set_option maxRecDepth 20000 in
theorem gX4_damage_X4_fine : GoodIn wsX4_damage (wsV RX4 157 RX4 yX4_fine wsX4_fine) := goodIn_app (goodIn_of _ (by decide +kernel)) ggX4_damage_X4_fine
theorem dX4_damage_0 : decode cX4_damage 0 = .ok (.aload_n 0, 1) := by decide +kernel
theorem dX4_damage_1 : decode cX4_damage 1 = .ok (.aload_n 0, 1) := by decide +kernel
theorem dX4_damage_2 : decode cX4_damage 2 = .ok (.invokevirtual 154, 3) := by decide +kernel
theorem dX4_damage_5 : decode cX4_damage 5 = .ok (.invokevirtual 157, 3) := by decide +kernel
theorem dX4_damage_8 : decode cX4_damage 8 = .ok (.ireturn, 1) := by decide +kernel
set_option maxRecDepth 20000 in
theorem ggX4_at_X4_noCell : GoodIn wsX4_at wsX4_noCell := goodIn_r _ [5, 6, 7, 4, 8, 9, 10, 11, 12, 13, 29, 30, 31, 32, 33, 34, 35, 36, 37, 38, 39, 40, 41, 42, 43, 44, 45, 46, 47, 48, 49, 50] (by decide +kernel) (by decide +kernel)
set_option maxRecDepth 20000 in
theorem gX4_at_X4_noCell : GoodIn wsX4_at (wsV RX4 151 RX4 yX4_noCell wsX4_noCell) := goodIn_app (goodIn_of _ (by decide +kernel)) ggX4_at_X4_noCell
set_option maxRecDepth 20000 in
theorem ggX4_at_X4_shownAt : GoodIn wsX4_at wsX4_shownAt := goodIn_r _ [17, 18, 19, 20, 21, 22, 4, 23, 24, 25, 26, 27, 28, 6, 7, 8, 29, 30, 31, 32, 33, 34, 35, 36, 37, 38, 39, 40, 41, 42, 43, 44, 45, 46, 47, 48, 49, 50] (by decide +kernel) (by decide +kernel)
set_option maxRecDepth 20000 in
theorem gX4_at_X4_shownAt : GoodIn wsX4_at (wsV RX4 87 RX4 yX4_shownAt wsX4_shownAt) := goodIn_app (goodIn_of _ (by decide +kernel)) ggX4_at_X4_shownAt
theorem dX4_at_0 : decode cX4_at 0 = .ok (.aload_n 0, 1) := by decide +kernel
theorem dX4_at_1 : decode cX4_at 1 = .ok (.iload_n 1, 1) := by decide +kernel
theorem dX4_at_2 : decode cX4_at 2 = .ok (.iload_n 2, 1) := by decide +kernel
theorem dX4_at_3 : decode cX4_at 3 = .ok (.invokevirtual 151, 3) := by decide +kernel
theorem dX4_at_6 : decode cX4_at 6 = .ok (.ifCond .eq 7, 3) := by decide +kernel
theorem dX4_at_9 : decode cX4_at 9 = .ok (.iconst 0, 1) := by decide +kernel
theorem dX4_at_10 : decode cX4_at 10 = .ok (.goto 9, 3) := by decide +kernel
theorem dX4_at_13 : decode cX4_at 13 = .ok (.aload_n 0, 1) := by decide +kernel
theorem dX4_at_14 : decode cX4_at 14 = .ok (.iload_n 1, 1) := by decide +kernel
theorem dX4_at_15 : decode cX4_at 15 = .ok (.iload_n 2, 1) := by decide +kernel
theorem dX4_at_16 : decode cX4_at 16 = .ok (.invokevirtual 87, 3) := by decide +kernel
theorem dX4_at_19 : decode cX4_at 19 = .ok (.ireturn, 1) := by decide +kernel
set_option maxRecDepth 20000 in
theorem ggX4_placeOf_X4_noWindow : GoodIn wsX4_placeOf wsX4_noWindow := goodIn_r _ [5, 6, 7, 8, 4, 9, 10, 11, 12, 13, 14, 15, 16, 17, 18, 19, 20, 21, 22, 23, 24, 25, 26, 27, 28, 29, 30, 31, 32, 33, 34, 35, 36, 37, 38] (by decide +kernel) (by decide +kernel)
set_option maxRecDepth 20000 in
theorem gX4_placeOf_X4_noWindow : GoodIn wsX4_placeOf (wsV RX4 128 RX4 yX4_noWindow wsX4_noWindow) := goodIn_app (goodIn_of _ (by decide +kernel)) ggX4_placeOf_X4_noWindow
set_option maxRecDepth 20000 in
theorem ggX4_placeOf_X4_placeIn : GoodIn wsX4_placeOf wsX4_placeIn := goodIn_r _ [9, 10, 11, 17, 18, 19, 20, 21, 22, 23, 24, 25, 26, 27, 28, 29, 30, 31, 32, 33, 34, 35, 36, 37, 38] (by decide +kernel) (by decide +kernel)
set_option maxRecDepth 20000 in
theorem gX4_placeOf_X4_placeIn : GoodIn wsX4_placeOf (wsV RX4 72 RX4 yX4_placeIn wsX4_placeIn) := goodIn_app (goodIn_of _ (by decide +kernel)) ggX4_placeOf_X4_placeIn
theorem dX4_placeOf_0 : decode cX4_placeOf 0 = .ok (.aload_n 0, 1) := by decide +kernel
theorem dX4_placeOf_1 : decode cX4_placeOf 1 = .ok (.iload_n 1, 1) := by decide +kernel
theorem dX4_placeOf_2 : decode cX4_placeOf 2 = .ok (.invokevirtual 128, 3) := by decide +kernel
theorem dX4_placeOf_5 : decode cX4_placeOf 5 = .ok (.ifCond .eq 7, 3) := by decide +kernel
theorem dX4_placeOf_8 : decode cX4_placeOf 8 = .ok (.iconst 0, 1) := by decide +kernel
theorem dX4_placeOf_9 : decode cX4_placeOf 9 = .ok (.goto 8, 3) := by decide +kernel
theorem dX4_placeOf_12 : decode cX4_placeOf 12 = .ok (.aload_n 0, 1) := by decide +kernel
theorem dX4_placeOf_13 : decode cX4_placeOf 13 = .ok (.iload_n 1, 1) := by decide +kernel
theorem dX4_placeOf_14 : decode cX4_placeOf 14 = .ok (.invokevirtual 72, 3) := by decide +kernel
theorem dX4_placeOf_17 : decode cX4_placeOf 17 = .ok (.ireturn, 1) := by decide +kernel
set_option maxRecDepth 20000 in
theorem ggX4_isSeen_X4_noWindow : GoodIn wsX4_isSeen wsX4_noWindow := goodIn_r _ [5, 6, 7, 8, 4, 9, 10, 11, 12, 13, 14, 15, 16, 37, 38, 39, 40, 41, 42, 43, 44, 45, 46, 47, 48, 49, 50, 51, 52, 53, 54, 55, 56, 57, 58] (by decide +kernel) (by decide +kernel)
set_option maxRecDepth 20000 in
theorem gX4_isSeen_X4_noWindow : GoodIn wsX4_isSeen (wsV RX4 128 RX4 yX4_noWindow wsX4_noWindow) := goodIn_app (goodIn_of _ (by decide +kernel)) ggX4_isSeen_X4_noWindow
set_option maxRecDepth 20000 in
theorem ggX4_isSeen_X4_isShown : GoodIn wsX4_isSeen wsX4_isShown := goodIn_r _ [20, 21, 22, 23, 4, 24, 10, 11, 25, 26, 27, 28, 29, 30, 31, 32, 33, 34, 35, 36, 37, 38, 39, 40, 41, 42, 43, 44, 45, 46, 47, 48, 49, 50, 51, 52, 53, 54, 55, 56, 57, 58] (by decide +kernel) (by decide +kernel)
set_option maxRecDepth 20000 in
theorem gX4_isSeen_X4_isShown : GoodIn wsX4_isSeen (wsV RX4 101 RX4 yX4_isShown wsX4_isShown) := goodIn_app (goodIn_of _ (by decide +kernel)) ggX4_isSeen_X4_isShown
theorem dX4_isSeen_0 : decode cX4_isSeen 0 = .ok (.aload_n 0, 1) := by decide +kernel
theorem dX4_isSeen_1 : decode cX4_isSeen 1 = .ok (.iload_n 1, 1) := by decide +kernel
theorem dX4_isSeen_2 : decode cX4_isSeen 2 = .ok (.invokevirtual 128, 3) := by decide +kernel
theorem dX4_isSeen_5 : decode cX4_isSeen 5 = .ok (.ifCond .ne 15, 3) := by decide +kernel
theorem dX4_isSeen_8 : decode cX4_isSeen 8 = .ok (.aload_n 0, 1) := by decide +kernel
theorem dX4_isSeen_9 : decode cX4_isSeen 9 = .ok (.iload_n 1, 1) := by decide +kernel
theorem dX4_isSeen_10 : decode cX4_isSeen 10 = .ok (.invokevirtual 101, 3) := by decide +kernel
theorem dX4_isSeen_13 : decode cX4_isSeen 13 = .ok (.ifCond .eq 7, 3) := by decide +kernel
theorem dX4_isSeen_16 : decode cX4_isSeen 16 = .ok (.iconst 1, 1) := by decide +kernel
theorem dX4_isSeen_17 : decode cX4_isSeen 17 = .ok (.goto 4, 3) := by decide +kernel
theorem dX4_isSeen_20 : decode cX4_isSeen 20 = .ok (.iconst 0, 1) := by decide +kernel
theorem dX4_isSeen_21 : decode cX4_isSeen 21 = .ok (.ireturn, 1) := by decide +kernel
set_option maxRecDepth 20000 in
theorem ggX4_pagesOf_X4_noWindow : GoodIn wsX4_pagesOf wsX4_noWindow := goodIn_r _ [6, 7, 8, 9, 5, 10, 11, 12, 13, 14, 15, 16, 17, 24, 25, 26, 27, 28, 29, 30, 31, 32, 33, 34, 35, 36, 37, 38, 39, 40, 41, 42, 43, 44, 45] (by decide +kernel) (by decide +kernel)
set_option maxRecDepth 20000 in
theorem gX4_pagesOf_X4_noWindow : GoodIn wsX4_pagesOf (wsV RX4 128 RX4 yX4_noWindow wsX4_noWindow) := goodIn_app (goodIn_of _ (by decide +kernel)) ggX4_pagesOf_X4_noWindow
set_option maxRecDepth 20000 in
theorem ggX4_pagesOf_X4_need : GoodIn wsX4_pagesOf wsX4_need := goodIn_r _ [21, 22, 23, 24, 25, 26, 27, 28, 29, 30, 31, 32, 33, 34, 35, 36, 37, 38, 39, 40, 41, 42, 43, 44, 45] (by decide +kernel) (by decide +kernel)
set_option maxRecDepth 20000 in
theorem gX4_pagesOf_X4_need : GoodIn wsX4_pagesOf (wsV RX4 91 RX4 yX4_need wsX4_need) := goodIn_app (goodIn_of _ (by decide +kernel)) ggX4_pagesOf_X4_need
theorem dX4_pagesOf_0 : decode cX4_pagesOf 0 = .ok (.aload_n 0, 1) := by decide +kernel
theorem dX4_pagesOf_1 : decode cX4_pagesOf 1 = .ok (.iload_n 1, 1) := by decide +kernel
theorem dX4_pagesOf_2 : decode cX4_pagesOf 2 = .ok (.invokevirtual 128, 3) := by decide +kernel
theorem dX4_pagesOf_5 : decode cX4_pagesOf 5 = .ok (.ifCond .ne 12, 3) := by decide +kernel
theorem dX4_pagesOf_8 : decode cX4_pagesOf 8 = .ok (.aload_n 0, 1) := by decide +kernel
theorem dX4_pagesOf_9 : decode cX4_pagesOf 9 = .ok (.getfield 35, 3) := by decide +kernel
theorem dX4_pagesOf_12 : decode cX4_pagesOf 12 = .ok (.iload_n 1, 1) := by decide +kernel
theorem dX4_pagesOf_13 : decode cX4_pagesOf 13 = .ok (.baload, 1) := by decide +kernel
theorem dX4_pagesOf_14 : decode cX4_pagesOf 14 = .ok (.ifCond .ne 7, 3) := by decide +kernel
theorem dX4_pagesOf_17 : decode cX4_pagesOf 17 = .ok (.iconst 0, 1) := by decide +kernel
theorem dX4_pagesOf_18 : decode cX4_pagesOf 18 = .ok (.goto 8, 3) := by decide +kernel
theorem dX4_pagesOf_21 : decode cX4_pagesOf 21 = .ok (.aload_n 0, 1) := by decide +kernel
theorem dX4_pagesOf_22 : decode cX4_pagesOf 22 = .ok (.iload_n 1, 1) := by decide +kernel
theorem dX4_pagesOf_23 : decode cX4_pagesOf 23 = .ok (.invokevirtual 91, 3) := by decide +kernel
theorem dX4_pagesOf_26 : decode cX4_pagesOf 26 = .ok (.ireturn, 1) := by decide +kernel
set_option maxRecDepth 20000 in
theorem ggX4_picture_X4_noWindow : GoodIn wsX4_picture wsX4_noWindow := goodIn_r _ [6, 7, 8, 9, 5, 10, 11, 12, 13, 14, 15, 16, 17, 18, 19, 20, 21, 22, 23, 24, 25, 26, 27, 28, 29, 30, 31, 32, 33, 34, 35, 36, 37, 38, 39] (by decide +kernel) (by decide +kernel)
set_option maxRecDepth 20000 in
theorem gX4_picture_X4_noWindow : GoodIn wsX4_picture (wsV RX4 128 RX4 yX4_noWindow wsX4_noWindow) := goodIn_app (goodIn_of _ (by decide +kernel)) ggX4_picture_X4_noWindow
theorem dX4_picture_0 : decode cX4_picture 0 = .ok (.aload_n 0, 1) := by decide +kernel
theorem dX4_picture_1 : decode cX4_picture 1 = .ok (.iload_n 1, 1) := by decide +kernel
theorem dX4_picture_2 : decode cX4_picture 2 = .ok (.invokevirtual 128, 3) := by decide +kernel
theorem dX4_picture_5 : decode cX4_picture 5 = .ok (.ifCond .eq 7, 3) := by decide +kernel
theorem dX4_picture_8 : decode cX4_picture 8 = .ok (.iconst 0, 1) := by decide +kernel
theorem dX4_picture_9 : decode cX4_picture 9 = .ok (.goto 9, 3) := by decide +kernel
theorem dX4_picture_12 : decode cX4_picture 12 = .ok (.aload_n 0, 1) := by decide +kernel
theorem dX4_picture_13 : decode cX4_picture 13 = .ok (.getfield 38, 3) := by decide +kernel
theorem dX4_picture_16 : decode cX4_picture 16 = .ok (.iload_n 1, 1) := by decide +kernel
theorem dX4_picture_17 : decode cX4_picture 17 = .ok (.iaload, 1) := by decide +kernel
theorem dX4_picture_18 : decode cX4_picture 18 = .ok (.ireturn, 1) := by decide +kernel
set_option maxRecDepth 20000 in
theorem ggX4_pace_X4_noWindow : GoodIn wsX4_pace wsX4_noWindow := goodIn_r _ [6, 7, 8, 9, 5, 10, 11, 12, 13, 14, 15, 16, 17, 18, 19, 20, 21, 22, 23, 24, 25, 26, 27, 28, 29, 30, 31, 32, 33, 34, 35, 36, 37, 38, 39] (by decide +kernel) (by decide +kernel)
set_option maxRecDepth 20000 in
theorem gX4_pace_X4_noWindow : GoodIn wsX4_pace (wsV RX4 128 RX4 yX4_noWindow wsX4_noWindow) := goodIn_app (goodIn_of _ (by decide +kernel)) ggX4_pace_X4_noWindow
theorem dX4_pace_0 : decode cX4_pace 0 = .ok (.aload_n 0, 1) := by decide +kernel
theorem dX4_pace_1 : decode cX4_pace 1 = .ok (.iload_n 1, 1) := by decide +kernel
theorem dX4_pace_2 : decode cX4_pace 2 = .ok (.invokevirtual 128, 3) := by decide +kernel
theorem dX4_pace_5 : decode cX4_pace 5 = .ok (.ifCond .eq 7, 3) := by decide +kernel
theorem dX4_pace_8 : decode cX4_pace 8 = .ok (.iconst 0, 1) := by decide +kernel
theorem dX4_pace_9 : decode cX4_pace 9 = .ok (.goto 9, 3) := by decide +kernel
theorem dX4_pace_12 : decode cX4_pace 12 = .ok (.aload_n 0, 1) := by decide +kernel
theorem dX4_pace_13 : decode cX4_pace 13 = .ok (.getfield 41, 3) := by decide +kernel
theorem dX4_pace_16 : decode cX4_pace 16 = .ok (.iload_n 1, 1) := by decide +kernel
theorem dX4_pace_17 : decode cX4_pace 17 = .ok (.iaload, 1) := by decide +kernel
theorem dX4_pace_18 : decode cX4_pace 18 = .ok (.ireturn, 1) := by decide +kernel
set_option maxRecDepth 20000 in
theorem ggX4_misses_X4_noWindow : GoodIn wsX4_misses wsX4_noWindow := goodIn_r _ [6, 7, 8, 9, 5, 10, 11, 12, 13, 14, 15, 16, 17, 18, 19, 20, 21, 22, 23, 24, 25, 26, 27, 28, 29, 30, 31, 32, 33, 34, 35, 36, 37, 38, 39] (by decide +kernel) (by decide +kernel)
set_option maxRecDepth 20000 in
theorem gX4_misses_X4_noWindow : GoodIn wsX4_misses (wsV RX4 128 RX4 yX4_noWindow wsX4_noWindow) := goodIn_app (goodIn_of _ (by decide +kernel)) ggX4_misses_X4_noWindow
theorem dX4_misses_0 : decode cX4_misses 0 = .ok (.aload_n 0, 1) := by decide +kernel
theorem dX4_misses_1 : decode cX4_misses 1 = .ok (.iload_n 1, 1) := by decide +kernel
theorem dX4_misses_2 : decode cX4_misses 2 = .ok (.invokevirtual 128, 3) := by decide +kernel
theorem dX4_misses_5 : decode cX4_misses 5 = .ok (.ifCond .eq 7, 3) := by decide +kernel
theorem dX4_misses_8 : decode cX4_misses 8 = .ok (.iconst 0, 1) := by decide +kernel
theorem dX4_misses_9 : decode cX4_misses 9 = .ok (.goto 9, 3) := by decide +kernel
theorem dX4_misses_12 : decode cX4_misses 12 = .ok (.aload_n 0, 1) := by decide +kernel
theorem dX4_misses_13 : decode cX4_misses 13 = .ok (.getfield 44, 3) := by decide +kernel
theorem dX4_misses_16 : decode cX4_misses 16 = .ok (.iload_n 1, 1) := by decide +kernel
theorem dX4_misses_17 : decode cX4_misses 17 = .ok (.iaload, 1) := by decide +kernel
theorem dX4_misses_18 : decode cX4_misses 18 = .ok (.ireturn, 1) := by decide +kernel
set_option maxRecDepth 20000 in
theorem ggX4_deadline_X4_noWindow : GoodIn wsX4_deadline wsX4_noWindow := goodIn_r _ [6, 7, 8, 9, 5, 10, 11, 12, 13, 14, 15, 16, 17, 18, 19, 20, 21, 22, 23, 24, 25, 26, 27, 28, 29, 30, 31, 32, 33, 34, 35, 36, 37, 38, 39] (by decide +kernel) (by decide +kernel)
set_option maxRecDepth 20000 in
theorem gX4_deadline_X4_noWindow : GoodIn wsX4_deadline (wsV RX4 128 RX4 yX4_noWindow wsX4_noWindow) := goodIn_app (goodIn_of _ (by decide +kernel)) ggX4_deadline_X4_noWindow
theorem dX4_deadline_0 : decode cX4_deadline 0 = .ok (.aload_n 0, 1) := by decide +kernel
theorem dX4_deadline_1 : decode cX4_deadline 1 = .ok (.iload_n 1, 1) := by decide +kernel
theorem dX4_deadline_2 : decode cX4_deadline 2 = .ok (.invokevirtual 128, 3) := by decide +kernel
theorem dX4_deadline_5 : decode cX4_deadline 5 = .ok (.ifCond .eq 7, 3) := by decide +kernel
theorem dX4_deadline_8 : decode cX4_deadline 8 = .ok (.iconst 0, 1) := by decide +kernel
theorem dX4_deadline_9 : decode cX4_deadline 9 = .ok (.goto 9, 3) := by decide +kernel
theorem dX4_deadline_12 : decode cX4_deadline 12 = .ok (.aload_n 0, 1) := by decide +kernel
theorem dX4_deadline_13 : decode cX4_deadline 13 = .ok (.getfield 53, 3) := by decide +kernel
theorem dX4_deadline_16 : decode cX4_deadline 16 = .ok (.iload_n 1, 1) := by decide +kernel
theorem dX4_deadline_17 : decode cX4_deadline 17 = .ok (.iaload, 1) := by decide +kernel
theorem dX4_deadline_18 : decode cX4_deadline 18 = .ok (.ireturn, 1) := by decide +kernel
