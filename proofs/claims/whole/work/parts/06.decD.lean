theorem dX4_fair_0 : decode cX4_fair 0 = .ok (.aload_n 0, 1) := by decide +kernel
theorem dX4_fair_1 : decode cX4_fair 1 = .ok (.iload_n 1, 1) := by decide +kernel
theorem dX4_fair_2 : decode cX4_fair 2 = .ok (.invokevirtual 135, 3) := by decide +kernel
theorem dX4_fair_5 : decode cX4_fair 5 = .ok (.ifCond .ne 13, 3) := by decide +kernel
theorem dX4_fair_8 : decode cX4_fair 8 = .ok (.iload_n 2, 1) := by decide +kernel
theorem dX4_fair_9 : decode cX4_fair 9 = .ok (.i2l, 1) := by decide +kernel
theorem dX4_fair_10 : decode cX4_fair 10 = .ok (.lconst 0, 1) := by decide +kernel
theorem dX4_fair_11 : decode cX4_fair 11 = .ok (.lconst 1, 1) := by decide +kernel
theorem dX4_fair_12 : decode cX4_fair 12 = .ok (.invokestatic 68, 3) := by decide +kernel
theorem dX4_fair_15 : decode cX4_fair 15 = .ok (.ifCond .ne 7, 3) := by decide +kernel
theorem dX4_fair_18 : decode cX4_fair 18 = .ok (.invokestatic 61, 3) := by decide +kernel
theorem dX4_fair_21 : decode cX4_fair 21 = .ok (.lreturn, 1) := by decide +kernel
theorem dX4_fair_22 : decode cX4_fair 22 = .ok (.lconst 0, 1) := by decide +kernel
theorem dX4_fair_23 : decode cX4_fair 23 = .ok (.lstore_n 3, 1) := by decide +kernel
theorem dX4_fair_24 : decode cX4_fair 24 = .ok (.iconst 0, 1) := by decide +kernel
theorem dX4_fair_25 : decode cX4_fair 25 = .ok (.istore 5, 2) := by decide +kernel
theorem dX4_fair_27 : decode cX4_fair 27 = .ok (.iload 5, 2) := by decide +kernel
theorem dX4_fair_29 : decode cX4_fair 29 = .ok (.aload_n 0, 1) := by decide +kernel
theorem dX4_fair_30 : decode cX4_fair 30 = .ok (.getfield 65, 3) := by decide +kernel
theorem dX4_fair_33 : decode cX4_fair 33 = .ok (.if_icmp .ge 52, 3) := by decide +kernel
theorem dX4_fair_36 : decode cX4_fair 36 = .ok (.lload_n 3, 1) := by decide +kernel
theorem dX4_fair_37 : decode cX4_fair 37 = .ok (.aload_n 0, 1) := by decide +kernel
theorem dX4_fair_38 : decode cX4_fair 38 = .ok (.getfield 19, 3) := by decide +kernel
theorem dX4_fair_41 : decode cX4_fair 41 = .ok (.iload_n 1, 1) := by decide +kernel
theorem dX4_fair_42 : decode cX4_fair 42 = .ok (.iaload, 1) := by decide +kernel
theorem dX4_fair_43 : decode cX4_fair 43 = .ok (.iload 5, 2) := by decide +kernel
theorem dX4_fair_45 : decode cX4_fair 45 = .ok (.invokestatic 188, 3) := by decide +kernel
theorem dX4_fair_48 : decode cX4_fair 48 = .ok (.ifCond .eq 28, 3) := by decide +kernel
theorem dX4_fair_51 : decode cX4_fair 51 = .ok (.aload_n 0, 1) := by decide +kernel
theorem dX4_fair_52 : decode cX4_fair 52 = .ok (.iload_n 1, 1) := by decide +kernel
theorem dX4_fair_53 : decode cX4_fair 53 = .ok (.invokevirtual 141, 3) := by decide +kernel
theorem dX4_fair_56 : decode cX4_fair 56 = .ok (.ifCond .ne 20, 3) := by decide +kernel
theorem dX4_fair_59 : decode cX4_fair 59 = .ok (.aload_n 0, 1) := by decide +kernel
theorem dX4_fair_60 : decode cX4_fair 60 = .ok (.iload_n 1, 1) := by decide +kernel
theorem dX4_fair_61 : decode cX4_fair 61 = .ok (.invokevirtual 138, 3) := by decide +kernel
theorem dX4_fair_64 : decode cX4_fair 64 = .ok (.aload_n 0, 1) := by decide +kernel
theorem dX4_fair_65 : decode cX4_fair 65 = .ok (.getfield 7, 3) := by decide +kernel
theorem dX4_fair_68 : decode cX4_fair 68 = .ok (.iload 5, 2) := by decide +kernel
theorem dX4_fair_70 : decode cX4_fair 70 = .ok (.iaload, 1) := by decide +kernel
theorem dX4_fair_71 : decode cX4_fair 71 = .ok (.imul, 1) := by decide +kernel
theorem dX4_fair_72 : decode cX4_fair 72 = .ok (.i2l, 1) := by decide +kernel
theorem dX4_fair_73 : decode cX4_fair 73 = .ok (.goto 4, 3) := by decide +kernel
theorem dX4_fair_76 : decode cX4_fair 76 = .ok (.lconst 0, 1) := by decide +kernel
theorem dX4_fair_77 : decode cX4_fair 77 = .ok (.ladd, 1) := by decide +kernel
theorem dX4_fair_78 : decode cX4_fair 78 = .ok (.lstore_n 3, 1) := by decide +kernel
theorem dX4_fair_79 : decode cX4_fair 79 = .ok (.iinc 5 1, 3) := by decide +kernel
theorem dX4_fair_82 : decode cX4_fair 82 = .ok (.goto (-55), 3) := by decide +kernel
theorem dX4_fair_85 : decode cX4_fair 85 = .ok (.lload_n 3, 1) := by decide +kernel
theorem dX4_fair_86 : decode cX4_fair 86 = .ok (.ldc2_w 175, 3) := by decide +kernel
theorem dX4_fair_89 : decode cX4_fair 89 = .ok (.iload_n 2, 1) := by decide +kernel
theorem dX4_fair_90 : decode cX4_fair 90 = .ok (.invokestatic 191, 3) := by decide +kernel
theorem dX4_fair_93 : decode cX4_fair 93 = .ok (.lreturn, 1) := by decide +kernel
set_option maxRecDepth 20000 in
theorem ggX4_safe_X4_noProphet : GoodIn wsX4_safe wsX4_noProphet := goodIn_r _ [5, 6, 7, 8, 4, 9, 33, 34, 35, 36, 37, 38, 39, 40, 41, 42, 43, 44, 45, 46, 47, 48, 49, 50, 51, 52, 53, 54, 55, 56, 57, 58, 59] (by decide +kernel) (by decide +kernel)
set_option maxRecDepth 20000 in
theorem gX4_safe_X4_noProphet : GoodIn wsX4_safe (wsV RX4 135 RX4 yX4_noProphet wsX4_noProphet) := goodIn_app (goodIn_of _ (by decide +kernel)) ggX4_safe_X4_noProphet
set_option maxRecDepth 20000 in
theorem ggX4_safe_X4_allEvents : GoodIn wsX4_safe wsX4_allEvents := goodIn_r _ [13, 14, 33, 34, 35, 36, 37, 38, 39, 40, 41, 42, 43, 44, 45, 46, 47, 48, 49, 50, 51, 52, 53, 54, 55, 56, 57, 58, 59] (by decide +kernel) (by decide +kernel)
set_option maxRecDepth 20000 in
theorem gX4_safe_X4_allEvents : GoodIn wsX4_safe (wsV RX4 75 RX4 yX4_allEvents wsX4_allEvents) := goodIn_app (goodIn_of _ (by decide +kernel)) ggX4_safe_X4_allEvents
set_option maxRecDepth 20000 in
theorem ggX4_safe_X4_paidTo : GoodIn wsX4_safe wsX4_paidTo := goodIn_r _ [18, 19, 20, 21, 22, 4, 23, 10, 11, 12, 13, 14, 24, 25, 26, 27, 28, 29, 30, 31, 32, 33, 34, 35, 36, 37, 38, 39, 40, 41, 42, 43, 44, 45, 46, 47, 48, 49, 50, 51, 52, 53, 54, 55, 56, 57, 58, 59] (by decide +kernel) (by decide +kernel)
set_option maxRecDepth 20000 in
theorem gX4_safe_X4_paidTo : GoodIn wsX4_safe (wsV RX4 149 RX4 yX4_paidTo wsX4_paidTo) := goodIn_app (goodIn_of _ (by decide +kernel)) ggX4_safe_X4_paidTo
theorem dX4_safe_0 : decode cX4_safe 0 = .ok (.aload_n 0, 1) := by decide +kernel
theorem dX4_safe_1 : decode cX4_safe 1 = .ok (.iload_n 1, 1) := by decide +kernel
theorem dX4_safe_2 : decode cX4_safe 2 = .ok (.invokevirtual 135, 3) := by decide +kernel
theorem dX4_safe_5 : decode cX4_safe 5 = .ok (.ifCond .eq 7, 3) := by decide +kernel
theorem dX4_safe_8 : decode cX4_safe 8 = .ok (.iconst (-1), 1) := by decide +kernel
theorem dX4_safe_9 : decode cX4_safe 9 = .ok (.goto 12, 3) := by decide +kernel
theorem dX4_safe_12 : decode cX4_safe 12 = .ok (.aload_n 0, 1) := by decide +kernel
theorem dX4_safe_13 : decode cX4_safe 13 = .ok (.iload_n 1, 1) := by decide +kernel
theorem dX4_safe_14 : decode cX4_safe 14 = .ok (.aload_n 0, 1) := by decide +kernel
theorem dX4_safe_15 : decode cX4_safe 15 = .ok (.invokevirtual 75, 3) := by decide +kernel
theorem dX4_safe_18 : decode cX4_safe 18 = .ok (.invokevirtual 149, 3) := by decide +kernel
theorem dX4_safe_21 : decode cX4_safe 21 = .ok (.ireturn, 1) := by decide +kernel
set_option maxRecDepth 20000 in
theorem ggX4_weightOf_X4_isIn : GoodIn wsX4_weightOf wsX4_isIn := goodIn_r _ [6] (by decide +kernel) (by decide +kernel)
set_option maxRecDepth 20000 in
theorem gX4_weightOf_X4_isIn : GoodIn wsX4_weightOf (va_wsS RX4 188 yX4_isIn wsX4_isIn) := goodIn_app (goodIn_of _ (by decide +kernel)) ggX4_weightOf_X4_isIn
theorem dX4_weightOf_0 : decode cX4_weightOf 0 = .ok (.lconst 1, 1) := by decide +kernel
theorem dX4_weightOf_1 : decode cX4_weightOf 1 = .ok (.lstore_n 2, 1) := by decide +kernel
theorem dX4_weightOf_2 : decode cX4_weightOf 2 = .ok (.iconst 0, 1) := by decide +kernel
theorem dX4_weightOf_3 : decode cX4_weightOf 3 = .ok (.istore 4, 2) := by decide +kernel
theorem dX4_weightOf_5 : decode cX4_weightOf 5 = .ok (.iload 4, 2) := by decide +kernel
theorem dX4_weightOf_7 : decode cX4_weightOf 7 = .ok (.aload_n 0, 1) := by decide +kernel
theorem dX4_weightOf_8 : decode cX4_weightOf 8 = .ok (.getfield 65, 3) := by decide +kernel
theorem dX4_weightOf_11 : decode cX4_weightOf 11 = .ok (.if_icmp .ge 43, 3) := by decide +kernel
theorem dX4_weightOf_14 : decode cX4_weightOf 14 = .ok (.lload_n 2, 1) := by decide +kernel
theorem dX4_weightOf_15 : decode cX4_weightOf 15 = .ok (.iload_n 1, 1) := by decide +kernel
theorem dX4_weightOf_16 : decode cX4_weightOf 16 = .ok (.iload 4, 2) := by decide +kernel
theorem dX4_weightOf_18 : decode cX4_weightOf 18 = .ok (.invokestatic 188, 3) := by decide +kernel
theorem dX4_weightOf_21 : decode cX4_weightOf 21 = .ok (.ifCond .eq 14, 3) := by decide +kernel
theorem dX4_weightOf_24 : decode cX4_weightOf 24 = .ok (.aload_n 0, 1) := by decide +kernel
theorem dX4_weightOf_25 : decode cX4_weightOf 25 = .ok (.getfield 7, 3) := by decide +kernel
theorem dX4_weightOf_28 : decode cX4_weightOf 28 = .ok (.iload 4, 2) := by decide +kernel
theorem dX4_weightOf_30 : decode cX4_weightOf 30 = .ok (.iaload, 1) := by decide +kernel
theorem dX4_weightOf_31 : decode cX4_weightOf 31 = .ok (.i2l, 1) := by decide +kernel
theorem dX4_weightOf_32 : decode cX4_weightOf 32 = .ok (.goto 14, 3) := by decide +kernel
theorem dX4_weightOf_35 : decode cX4_weightOf 35 = .ok (.bipush 10, 2) := by decide +kernel
theorem dX4_weightOf_37 : decode cX4_weightOf 37 = .ok (.aload_n 0, 1) := by decide +kernel
theorem dX4_weightOf_38 : decode cX4_weightOf 38 = .ok (.getfield 7, 3) := by decide +kernel
theorem dX4_weightOf_41 : decode cX4_weightOf 41 = .ok (.iload 4, 2) := by decide +kernel
theorem dX4_weightOf_43 : decode cX4_weightOf 43 = .ok (.iaload, 1) := by decide +kernel
theorem dX4_weightOf_44 : decode cX4_weightOf 44 = .ok (.isub, 1) := by decide +kernel
theorem dX4_weightOf_45 : decode cX4_weightOf 45 = .ok (.i2l, 1) := by decide +kernel
theorem dX4_weightOf_46 : decode cX4_weightOf 46 = .ok (.lmul, 1) := by decide +kernel
theorem dX4_weightOf_47 : decode cX4_weightOf 47 = .ok (.lstore_n 2, 1) := by decide +kernel
theorem dX4_weightOf_48 : decode cX4_weightOf 48 = .ok (.iinc 4 1, 3) := by decide +kernel
theorem dX4_weightOf_51 : decode cX4_weightOf 51 = .ok (.goto (-46), 3) := by decide +kernel
theorem dX4_weightOf_54 : decode cX4_weightOf 54 = .ok (.lload_n 2, 1) := by decide +kernel
theorem dX4_weightOf_55 : decode cX4_weightOf 55 = .ok (.lreturn, 1) := by decide +kernel
theorem dX4_weightOfAll_0 : decode cX4_weightOfAll 0 = .ok (.lconst 1, 1) := by decide +kernel
theorem dX4_weightOfAll_1 : decode cX4_weightOfAll 1 = .ok (.lstore_n 1, 1) := by decide +kernel
theorem dX4_weightOfAll_2 : decode cX4_weightOfAll 2 = .ok (.iconst 0, 1) := by decide +kernel
theorem dX4_weightOfAll_3 : decode cX4_weightOfAll 3 = .ok (.istore_n 3, 1) := by decide +kernel
theorem dX4_weightOfAll_4 : decode cX4_weightOfAll 4 = .ok (.iload_n 3, 1) := by decide +kernel
theorem dX4_weightOfAll_5 : decode cX4_weightOfAll 5 = .ok (.aload_n 0, 1) := by decide +kernel
theorem dX4_weightOfAll_6 : decode cX4_weightOfAll 6 = .ok (.getfield 65, 3) := by decide +kernel
theorem dX4_weightOfAll_9 : decode cX4_weightOfAll 9 = .ok (.if_icmp .ge 15, 3) := by decide +kernel
theorem dX4_weightOfAll_12 : decode cX4_weightOfAll 12 = .ok (.lload_n 1, 1) := by decide +kernel
theorem dX4_weightOfAll_13 : decode cX4_weightOfAll 13 = .ok (.ldc2_w 175, 3) := by decide +kernel
theorem dX4_weightOfAll_16 : decode cX4_weightOfAll 16 = .ok (.lmul, 1) := by decide +kernel
theorem dX4_weightOfAll_17 : decode cX4_weightOfAll 17 = .ok (.lstore_n 1, 1) := by decide +kernel
theorem dX4_weightOfAll_18 : decode cX4_weightOfAll 18 = .ok (.iinc 3 1, 3) := by decide +kernel
theorem dX4_weightOfAll_21 : decode cX4_weightOfAll 21 = .ok (.goto (-17), 3) := by decide +kernel
theorem dX4_weightOfAll_24 : decode cX4_weightOfAll 24 = .ok (.lload_n 1, 1) := by decide +kernel
theorem dX4_weightOfAll_25 : decode cX4_weightOfAll 25 = .ok (.lreturn, 1) := by decide +kernel
set_option maxRecDepth 20000 in
theorem ggX4_weightFrom_X4_allEvents : GoodIn wsX4_weightFrom wsX4_allEvents := goodIn_r _ [5, 6, 38, 39, 40, 41, 42, 43, 44, 45, 46, 47, 48, 49, 50, 51, 52, 53, 54, 55, 56, 57, 58, 59, 60, 61, 62, 63, 64] (by decide +kernel) (by decide +kernel)
set_option maxRecDepth 20000 in
theorem gX4_weightFrom_X4_allEvents : GoodIn wsX4_weightFrom (wsV RX4 75 RX4 yX4_allEvents wsX4_allEvents) := goodIn_app (goodIn_of _ (by decide +kernel)) ggX4_weightFrom_X4_allEvents
set_option maxRecDepth 20000 in
theorem ggX4_weightFrom_X4_paidToAll : GoodIn wsX4_weightFrom wsX4_paidToAll := goodIn_r _ [10, 11, 12, 13, 14, 4, 15, 16, 17, 18, 19, 20, 1, 2, 3, 5, 6, 21, 22, 23, 24, 25, 26, 27, 28, 29, 38, 39, 40, 41, 42, 43, 44, 45, 46, 47, 48, 49, 50, 51, 52, 53, 54, 55, 56, 57, 58, 59, 60, 61, 62, 63, 64] (by decide +kernel) (by decide +kernel)
set_option maxRecDepth 20000 in
theorem gX4_weightFrom_X4_paidToAll : GoodIn wsX4_weightFrom (wsV RX4 155 RX4 yX4_paidToAll wsX4_paidToAll) := goodIn_app (goodIn_of _ (by decide +kernel)) ggX4_weightFrom_X4_paidToAll
set_option maxRecDepth 20000 in
theorem ggX4_weightFrom_X4_weightOf : GoodIn wsX4_weightFrom wsX4_weightOf := goodIn_r _ [33, 6, 34, 35, 36, 4, 37, 38, 39, 40, 41, 42, 43, 44, 45, 46, 47, 48, 49, 50, 51, 52, 53, 54, 55, 56, 57, 58, 59, 60, 61, 62, 63, 64] (by decide +kernel) (by decide +kernel)
set_option maxRecDepth 20000 in
theorem gX4_weightFrom_X4_weightOf : GoodIn wsX4_weightFrom (wsV RX4 195 RX4 yX4_weightOf wsX4_weightOf) := goodIn_app (goodIn_of _ (by decide +kernel)) ggX4_weightFrom_X4_weightOf
theorem dX4_weightFrom_0 : decode cX4_weightFrom 0 = .ok (.lconst 0, 1) := by decide +kernel
theorem dX4_weightFrom_1 : decode cX4_weightFrom 1 = .ok (.lstore_n 2, 1) := by decide +kernel
theorem dX4_weightFrom_2 : decode cX4_weightFrom 2 = .ok (.iconst 0, 1) := by decide +kernel
theorem dX4_weightFrom_3 : decode cX4_weightFrom 3 = .ok (.istore 4, 2) := by decide +kernel
theorem dX4_weightFrom_5 : decode cX4_weightFrom 5 = .ok (.iload 4, 2) := by decide +kernel
theorem dX4_weightFrom_7 : decode cX4_weightFrom 7 = .ok (.aload_n 0, 1) := by decide +kernel
theorem dX4_weightFrom_8 : decode cX4_weightFrom 8 = .ok (.invokevirtual 75, 3) := by decide +kernel
theorem dX4_weightFrom_11 : decode cX4_weightFrom 11 = .ok (.if_icmp .gt 32, 3) := by decide +kernel
theorem dX4_weightFrom_14 : decode cX4_weightFrom 14 = .ok (.lload_n 2, 1) := by decide +kernel
theorem dX4_weightFrom_15 : decode cX4_weightFrom 15 = .ok (.aload_n 0, 1) := by decide +kernel
theorem dX4_weightFrom_16 : decode cX4_weightFrom 16 = .ok (.iload 4, 2) := by decide +kernel
theorem dX4_weightFrom_18 : decode cX4_weightFrom 18 = .ok (.invokevirtual 155, 3) := by decide +kernel
theorem dX4_weightFrom_21 : decode cX4_weightFrom 21 = .ok (.iload_n 1, 1) := by decide +kernel
theorem dX4_weightFrom_22 : decode cX4_weightFrom 22 = .ok (.if_icmp .lt 12, 3) := by decide +kernel
theorem dX4_weightFrom_25 : decode cX4_weightFrom 25 = .ok (.aload_n 0, 1) := by decide +kernel
theorem dX4_weightFrom_26 : decode cX4_weightFrom 26 = .ok (.iload 4, 2) := by decide +kernel
theorem dX4_weightFrom_28 : decode cX4_weightFrom 28 = .ok (.invokevirtual 195, 3) := by decide +kernel
theorem dX4_weightFrom_31 : decode cX4_weightFrom 31 = .ok (.goto 4, 3) := by decide +kernel
theorem dX4_weightFrom_34 : decode cX4_weightFrom 34 = .ok (.lconst 0, 1) := by decide +kernel
theorem dX4_weightFrom_35 : decode cX4_weightFrom 35 = .ok (.ladd, 1) := by decide +kernel
theorem dX4_weightFrom_36 : decode cX4_weightFrom 36 = .ok (.lstore_n 2, 1) := by decide +kernel
theorem dX4_weightFrom_37 : decode cX4_weightFrom 37 = .ok (.iinc 4 1, 3) := by decide +kernel
theorem dX4_weightFrom_40 : decode cX4_weightFrom 40 = .ok (.goto (-35), 3) := by decide +kernel
theorem dX4_weightFrom_43 : decode cX4_weightFrom 43 = .ok (.lload_n 2, 1) := by decide +kernel
theorem dX4_weightFrom_44 : decode cX4_weightFrom 44 = .ok (.lreturn, 1) := by decide +kernel
set_option maxRecDepth 20000 in
theorem ggX4_hold_X4_in : GoodIn wsX4_hold wsX4_in := goodIn_r _ [6] (by decide +kernel) (by decide +kernel)
set_option maxRecDepth 20000 in
theorem gX4_hold_X4_in : GoodIn wsX4_hold (va_wsS RX4 68 yX4_in wsX4_in) := goodIn_app (goodIn_of _ (by decide +kernel)) ggX4_hold_X4_in
set_option maxRecDepth 20000 in
theorem ggX4_hold_X4_weightOfAll : GoodIn wsX4_hold wsX4_weightOfAll := goodIn_r _ [10, 11, 1, 50, 51, 52, 53, 54, 55, 56, 57, 58, 59, 60, 61, 62, 63, 64, 65, 66, 67, 68, 69, 70, 71, 72, 73, 74, 75, 76] (by decide +kernel) (by decide +kernel)
set_option maxRecDepth 20000 in
theorem gX4_hold_X4_weightOfAll : GoodIn wsX4_hold (wsV RX4 199 RX4 yX4_weightOfAll wsX4_weightOfAll) := goodIn_app (goodIn_of _ (by decide +kernel)) ggX4_hold_X4_weightOfAll
set_option maxRecDepth 20000 in
theorem ggX4_hold_X4_weightFrom : GoodIn wsX4_hold wsX4_weightFrom := goodIn_r _ [15, 16, 17, 18, 5, 19, 11, 20, 21, 22, 23, 2, 24, 25, 26, 27, 28, 29, 30, 31, 32, 33, 34, 35, 36, 37, 38, 39, 40, 41, 42, 43, 44, 45, 46, 47, 48, 49, 50, 51, 52, 53, 54, 55, 56, 57, 58, 59, 60, 61, 62, 63, 64, 65, 66, 67, 68, 69, 70, 71, 72, 73, 74, 75, 76] (by decide +kernel) (by decide +kernel)
set_option maxRecDepth 20000 in
theorem gX4_hold_X4_weightFrom : GoodIn wsX4_hold (wsV RX4 202 RX4 yX4_weightFrom wsX4_weightFrom) := goodIn_app (goodIn_of _ (by decide +kernel)) ggX4_hold_X4_weightFrom
theorem dX4_hold_0 : decode cX4_hold 0 = .ok (.iload_n 1, 1) := by decide +kernel
theorem dX4_hold_1 : decode cX4_hold 1 = .ok (.i2l, 1) := by decide +kernel
theorem dX4_hold_2 : decode cX4_hold 2 = .ok (.lconst 0, 1) := by decide +kernel
theorem dX4_hold_3 : decode cX4_hold 3 = .ok (.ldc2_w 175, 3) := by decide +kernel
theorem dX4_hold_6 : decode cX4_hold 6 = .ok (.invokestatic 68, 3) := by decide +kernel
theorem dX4_hold_9 : decode cX4_hold 9 = .ok (.ifCond .ne 6, 3) := by decide +kernel
theorem dX4_hold_12 : decode cX4_hold 12 = .ok (.bipush (-2), 2) := by decide +kernel
theorem dX4_hold_14 : decode cX4_hold 14 = .ok (.ireturn, 1) := by decide +kernel
theorem dX4_hold_15 : decode cX4_hold 15 = .ok (.aload_n 0, 1) := by decide +kernel
theorem dX4_hold_16 : decode cX4_hold 16 = .ok (.getfield 72, 3) := by decide +kernel
theorem dX4_hold_19 : decode cX4_hold 19 = .ok (.ifCond .ne 6, 3) := by decide +kernel
theorem dX4_hold_22 : decode cX4_hold 22 = .ok (.bipush (-3), 2) := by decide +kernel
theorem dX4_hold_24 : decode cX4_hold 24 = .ok (.ireturn, 1) := by decide +kernel
theorem dX4_hold_25 : decode cX4_hold 25 = .ok (.iconst 0, 1) := by decide +kernel
theorem dX4_hold_26 : decode cX4_hold 26 = .ok (.istore_n 2, 1) := by decide +kernel
theorem dX4_hold_27 : decode cX4_hold 27 = .ok (.ldc2_w 175, 3) := by decide +kernel
theorem dX4_hold_30 : decode cX4_hold 30 = .ok (.aload_n 0, 1) := by decide +kernel
theorem dX4_hold_31 : decode cX4_hold 31 = .ok (.invokevirtual 199, 3) := by decide +kernel
theorem dX4_hold_34 : decode cX4_hold 34 = .ok (.aload_n 0, 1) := by decide +kernel
theorem dX4_hold_35 : decode cX4_hold 35 = .ok (.iload_n 2, 1) := by decide +kernel
theorem dX4_hold_36 : decode cX4_hold 36 = .ok (.iconst 1, 1) := by decide +kernel
theorem dX4_hold_37 : decode cX4_hold 37 = .ok (.iadd, 1) := by decide +kernel
theorem dX4_hold_38 : decode cX4_hold 38 = .ok (.invokevirtual 202, 3) := by decide +kernel
theorem dX4_hold_41 : decode cX4_hold 41 = .ok (.lsub, 1) := by decide +kernel
theorem dX4_hold_42 : decode cX4_hold 42 = .ok (.lmul, 1) := by decide +kernel
theorem dX4_hold_43 : decode cX4_hold 43 = .ok (.iload_n 1, 1) := by decide +kernel
theorem dX4_hold_44 : decode cX4_hold 44 = .ok (.i2l, 1) := by decide +kernel
theorem dX4_hold_45 : decode cX4_hold 45 = .ok (.aload_n 0, 1) := by decide +kernel
theorem dX4_hold_46 : decode cX4_hold 46 = .ok (.invokevirtual 199, 3) := by decide +kernel
theorem dX4_hold_49 : decode cX4_hold 49 = .ok (.lmul, 1) := by decide +kernel
theorem dX4_hold_50 : decode cX4_hold 50 = .ok (.lcmp, 1) := by decide +kernel
theorem dX4_hold_51 : decode cX4_hold 51 = .ok (.ifCond .ge 9, 3) := by decide +kernel
theorem dX4_hold_54 : decode cX4_hold 54 = .ok (.iinc 2 1, 3) := by decide +kernel
theorem dX4_hold_57 : decode cX4_hold 57 = .ok (.goto (-30), 3) := by decide +kernel
theorem dX4_hold_60 : decode cX4_hold 60 = .ok (.iload_n 2, 1) := by decide +kernel
theorem dX4_hold_61 : decode cX4_hold 61 = .ok (.ireturn, 1) := by decide +kernel
set_option maxRecDepth 20000 in
theorem ggX4_best_X4_noProphet : GoodIn wsX4_best wsX4_noProphet := goodIn_r _ [8, 9, 10, 11, 7, 12, 26, 27, 28, 29, 30, 31, 32, 33, 34, 35, 36, 37, 38, 39, 40, 41, 42, 43, 44, 45, 46, 47, 48, 49, 50, 51, 52] (by decide +kernel) (by decide +kernel)
set_option maxRecDepth 20000 in
theorem gX4_best_X4_noProphet : GoodIn wsX4_best (wsV RX4 135 RX4 yX4_noProphet wsX4_noProphet) := goodIn_app (goodIn_of _ (by decide +kernel)) ggX4_best_X4_noProphet
set_option maxRecDepth 20000 in
theorem ggX4_best_X4_in : GoodIn wsX4_best wsX4_in := goodIn_r _ [12] (by decide +kernel) (by decide +kernel)
set_option maxRecDepth 20000 in
theorem gX4_best_X4_in : GoodIn wsX4_best (va_wsS RX4 68 yX4_in wsX4_in) := goodIn_app (goodIn_of _ (by decide +kernel)) ggX4_best_X4_in
set_option maxRecDepth 20000 in
theorem ggX4_best_X4_allEvents : GoodIn wsX4_best wsX4_allEvents := goodIn_r _ [16, 2, 26, 27, 28, 29, 30, 31, 32, 33, 34, 35, 36, 37, 38, 39, 40, 41, 42, 43, 44, 45, 46, 47, 48, 49, 50, 51, 52] (by decide +kernel) (by decide +kernel)
set_option maxRecDepth 20000 in
theorem gX4_best_X4_allEvents : GoodIn wsX4_best (wsV RX4 75 RX4 yX4_allEvents wsX4_allEvents) := goodIn_app (goodIn_of _ (by decide +kernel)) ggX4_best_X4_allEvents
set_option maxRecDepth 20000 in
theorem ggX4_best_X4_isIn : GoodIn wsX4_best wsX4_isIn := goodIn_r _ [19] (by decide +kernel) (by decide +kernel)
set_option maxRecDepth 20000 in
theorem gX4_best_X4_isIn : GoodIn wsX4_best (va_wsS RX4 188 yX4_isIn wsX4_isIn) := goodIn_app (goodIn_of _ (by decide +kernel)) ggX4_best_X4_isIn
set_option maxRecDepth 20000 in
theorem ggX4_best_X4_paysOf : GoodIn wsX4_best wsX4_paysOf := goodIn_r _ [23, 24, 25, 26, 27, 28, 29, 30, 31, 32, 33, 34, 35, 36, 37, 38, 39, 40, 41, 42, 43, 44, 45, 46, 47, 48, 49, 50, 51, 52] (by decide +kernel) (by decide +kernel)
set_option maxRecDepth 20000 in
theorem gX4_best_X4_paysOf : GoodIn wsX4_best (wsV RX4 138 RX4 yX4_paysOf wsX4_paysOf) := goodIn_app (goodIn_of _ (by decide +kernel)) ggX4_best_X4_paysOf
theorem dX4_best_0 : decode cX4_best 0 = .ok (.aload_n 0, 1) := by decide +kernel
theorem dX4_best_1 : decode cX4_best 1 = .ok (.iload_n 1, 1) := by decide +kernel
theorem dX4_best_2 : decode cX4_best 2 = .ok (.invokevirtual 135, 3) := by decide +kernel
theorem dX4_best_5 : decode cX4_best 5 = .ok (.ifCond .eq 5, 3) := by decide +kernel
theorem dX4_best_8 : decode cX4_best 8 = .ok (.iconst (-1), 1) := by decide +kernel
theorem dX4_best_9 : decode cX4_best 9 = .ok (.ireturn, 1) := by decide +kernel
theorem dX4_best_10 : decode cX4_best 10 = .ok (.iload_n 2, 1) := by decide +kernel
theorem dX4_best_11 : decode cX4_best 11 = .ok (.i2l, 1) := by decide +kernel
theorem dX4_best_12 : decode cX4_best 12 = .ok (.lconst 0, 1) := by decide +kernel
theorem dX4_best_13 : decode cX4_best 13 = .ok (.ldc2_w 133, 3) := by decide +kernel
theorem dX4_best_16 : decode cX4_best 16 = .ok (.invokestatic 68, 3) := by decide +kernel
theorem dX4_best_19 : decode cX4_best 19 = .ok (.ifCond .ne 6, 3) := by decide +kernel
theorem dX4_best_22 : decode cX4_best 22 = .ok (.bipush (-2), 2) := by decide +kernel
theorem dX4_best_24 : decode cX4_best 24 = .ok (.ireturn, 1) := by decide +kernel
theorem dX4_best_25 : decode cX4_best 25 = .ok (.iconst 0, 1) := by decide +kernel
theorem dX4_best_26 : decode cX4_best 26 = .ok (.istore_n 3, 1) := by decide +kernel
theorem dX4_best_27 : decode cX4_best 27 = .ok (.iconst 0, 1) := by decide +kernel
theorem dX4_best_28 : decode cX4_best 28 = .ok (.istore 4, 2) := by decide +kernel
theorem dX4_best_30 : decode cX4_best 30 = .ok (.iconst 0, 1) := by decide +kernel
theorem dX4_best_31 : decode cX4_best 31 = .ok (.istore 5, 2) := by decide +kernel
theorem dX4_best_33 : decode cX4_best 33 = .ok (.iload 5, 2) := by decide +kernel
theorem dX4_best_35 : decode cX4_best 35 = .ok (.aload_n 0, 1) := by decide +kernel
theorem dX4_best_36 : decode cX4_best 36 = .ok (.invokevirtual 75, 3) := by decide +kernel
theorem dX4_best_39 : decode cX4_best 39 = .ok (.if_icmp .ge 97, 3) := by decide +kernel
theorem dX4_best_42 : decode cX4_best 42 = .ok (.iconst 0, 1) := by decide +kernel
theorem dX4_best_43 : decode cX4_best 43 = .ok (.istore 6, 2) := by decide +kernel
theorem dX4_best_45 : decode cX4_best 45 = .ok (.iconst 0, 1) := by decide +kernel
theorem dX4_best_46 : decode cX4_best 46 = .ok (.istore 7, 2) := by decide +kernel
theorem dX4_best_48 : decode cX4_best 48 = .ok (.iload 7, 2) := by decide +kernel
theorem dX4_best_50 : decode cX4_best 50 = .ok (.aload_n 0, 1) := by decide +kernel
theorem dX4_best_51 : decode cX4_best 51 = .ok (.getfield 65, 3) := by decide +kernel
theorem dX4_best_54 : decode cX4_best 54 = .ok (.if_icmp .ge 46, 3) := by decide +kernel
theorem dX4_best_57 : decode cX4_best 57 = .ok (.iload 6, 2) := by decide +kernel
theorem dX4_best_59 : decode cX4_best 59 = .ok (.iload 5, 2) := by decide +kernel
theorem dX4_best_61 : decode cX4_best 61 = .ok (.iload 7, 2) := by decide +kernel
theorem dX4_best_63 : decode cX4_best 63 = .ok (.invokestatic 188, 3) := by decide +kernel
theorem dX4_best_66 : decode cX4_best 66 = .ok (.ifCond .eq 24, 3) := by decide +kernel
theorem dX4_best_69 : decode cX4_best 69 = .ok (.aload_n 0, 1) := by decide +kernel
theorem dX4_best_70 : decode cX4_best 70 = .ok (.iload_n 1, 1) := by decide +kernel
theorem dX4_best_71 : decode cX4_best 71 = .ok (.invokevirtual 138, 3) := by decide +kernel
theorem dX4_best_74 : decode cX4_best 74 = .ok (.aload_n 0, 1) := by decide +kernel
theorem dX4_best_75 : decode cX4_best 75 = .ok (.getfield 7, 3) := by decide +kernel
theorem dX4_best_78 : decode cX4_best 78 = .ok (.iload 7, 2) := by decide +kernel
theorem dX4_best_80 : decode cX4_best 80 = .ok (.iaload, 1) := by decide +kernel
theorem dX4_best_81 : decode cX4_best 81 = .ok (.imul, 1) := by decide +kernel
theorem dX4_best_82 : decode cX4_best 82 = .ok (.bipush 10, 2) := by decide +kernel
theorem dX4_best_84 : decode cX4_best 84 = .ok (.iload_n 2, 1) := by decide +kernel
theorem dX4_best_85 : decode cX4_best 85 = .ok (.imul, 1) := by decide +kernel
theorem dX4_best_86 : decode cX4_best 86 = .ok (.isub, 1) := by decide +kernel
theorem dX4_best_87 : decode cX4_best 87 = .ok (.goto 4, 3) := by decide +kernel
theorem dX4_best_90 : decode cX4_best 90 = .ok (.iconst 0, 1) := by decide +kernel
theorem dX4_best_91 : decode cX4_best 91 = .ok (.iadd, 1) := by decide +kernel
theorem dX4_best_92 : decode cX4_best 92 = .ok (.istore 6, 2) := by decide +kernel
theorem dX4_best_94 : decode cX4_best 94 = .ok (.iinc 7 1, 3) := by decide +kernel
theorem dX4_best_97 : decode cX4_best 97 = .ok (.goto (-49), 3) := by decide +kernel
theorem dX4_best_100 : decode cX4_best 100 = .ok (.iload 6, 2) := by decide +kernel
theorem dX4_best_102 : decode cX4_best 102 = .ok (.iload 4, 2) := by decide +kernel
theorem dX4_best_104 : decode cX4_best 104 = .ok (.if_icmp .le 8, 3) := by decide +kernel
theorem dX4_best_107 : decode cX4_best 107 = .ok (.iload 5, 2) := by decide +kernel
theorem dX4_best_109 : decode cX4_best 109 = .ok (.goto 4, 3) := by decide +kernel
theorem dX4_best_112 : decode cX4_best 112 = .ok (.iload_n 3, 1) := by decide +kernel
theorem dX4_best_113 : decode cX4_best 113 = .ok (.istore_n 3, 1) := by decide +kernel
theorem dX4_best_114 : decode cX4_best 114 = .ok (.iload 6, 2) := by decide +kernel
theorem dX4_best_116 : decode cX4_best 116 = .ok (.iload 4, 2) := by decide +kernel
theorem dX4_best_118 : decode cX4_best 118 = .ok (.if_icmp .le 8, 3) := by decide +kernel
theorem dX4_best_121 : decode cX4_best 121 = .ok (.iload 6, 2) := by decide +kernel
theorem dX4_best_123 : decode cX4_best 123 = .ok (.goto 5, 3) := by decide +kernel
theorem dX4_best_126 : decode cX4_best 126 = .ok (.iload 4, 2) := by decide +kernel
theorem dX4_best_128 : decode cX4_best 128 = .ok (.istore 4, 2) := by decide +kernel
theorem dX4_best_130 : decode cX4_best 130 = .ok (.iinc 5 1, 3) := by decide +kernel
theorem dX4_best_133 : decode cX4_best 133 = .ok (.goto (-100), 3) := by decide +kernel
theorem dX4_best_136 : decode cX4_best 136 = .ok (.iload_n 3, 1) := by decide +kernel
theorem dX4_best_137 : decode cX4_best 137 = .ok (.ireturn, 1) := by decide +kernel
set_option maxRecDepth 20000 in
theorem ggX4_came_X4_in : GoodIn wsX4_came wsX4_in := goodIn_r _ [6] (by decide +kernel) (by decide +kernel)
set_option maxRecDepth 20000 in
theorem gX4_came_X4_in : GoodIn wsX4_came (va_wsS RX4 68 yX4_in wsX4_in) := goodIn_app (goodIn_of _ (by decide +kernel)) ggX4_came_X4_in
set_option maxRecDepth 20000 in
theorem ggX4_came_X4_allEvents : GoodIn wsX4_came wsX4_allEvents := goodIn_r _ [10, 11, 34, 35, 36, 37, 38, 39, 40, 41, 42, 43, 44, 45, 46, 47, 48, 49, 50, 51, 52, 53, 54, 55, 56, 57, 58, 59, 60] (by decide +kernel) (by decide +kernel)
set_option maxRecDepth 20000 in
theorem gX4_came_X4_allEvents : GoodIn wsX4_came (wsV RX4 75 RX4 yX4_allEvents wsX4_allEvents) := goodIn_app (goodIn_of _ (by decide +kernel)) ggX4_came_X4_allEvents
set_option maxRecDepth 20000 in
theorem ggX4_came_X4_paidToAll : GoodIn wsX4_came wsX4_paidToAll := goodIn_r _ [15, 2, 16, 17, 18, 5, 19, 20, 21, 22, 23, 24, 7, 8, 9, 10, 11, 25, 26, 27, 28, 29, 30, 31, 32, 33, 34, 35, 36, 37, 38, 39, 40, 41, 42, 43, 44, 45, 46, 47, 48, 49, 50, 51, 52, 53, 54, 55, 56, 57, 58, 59, 60] (by decide +kernel) (by decide +kernel)
set_option maxRecDepth 20000 in
theorem gX4_came_X4_paidToAll : GoodIn wsX4_came (wsV RX4 155 RX4 yX4_paidToAll wsX4_paidToAll) := goodIn_app (goodIn_of _ (by decide +kernel)) ggX4_came_X4_paidToAll
theorem dX4_came_0 : decode cX4_came 0 = .ok (.iload_n 1, 1) := by decide +kernel
theorem dX4_came_1 : decode cX4_came 1 = .ok (.i2l, 1) := by decide +kernel
theorem dX4_came_2 : decode cX4_came 2 = .ok (.lconst 0, 1) := by decide +kernel
theorem dX4_came_3 : decode cX4_came 3 = .ok (.ldc2_w 205, 3) := by decide +kernel
theorem dX4_came_6 : decode cX4_came 6 = .ok (.invokestatic 68, 3) := by decide +kernel
theorem dX4_came_9 : decode cX4_came 9 = .ok (.ifCond .eq 13, 3) := by decide +kernel
theorem dX4_came_12 : decode cX4_came 12 = .ok (.iload_n 2, 1) := by decide +kernel
theorem dX4_came_13 : decode cX4_came 13 = .ok (.i2l, 1) := by decide +kernel
theorem dX4_came_14 : decode cX4_came 14 = .ok (.lconst 0, 1) := by decide +kernel
theorem dX4_came_15 : decode cX4_came 15 = .ok (.lconst 1, 1) := by decide +kernel
theorem dX4_came_16 : decode cX4_came 16 = .ok (.invokestatic 68, 3) := by decide +kernel
theorem dX4_came_19 : decode cX4_came 19 = .ok (.ifCond .ne 6, 3) := by decide +kernel
theorem dX4_came_22 : decode cX4_came 22 = .ok (.bipush (-2), 2) := by decide +kernel
theorem dX4_came_24 : decode cX4_came 24 = .ok (.ireturn, 1) := by decide +kernel
theorem dX4_came_25 : decode cX4_came 25 = .ok (.aload_n 0, 1) := by decide +kernel
theorem dX4_came_26 : decode cX4_came 26 = .ok (.getfield 72, 3) := by decide +kernel
theorem dX4_came_29 : decode cX4_came 29 = .ok (.ifCond .ne 6, 3) := by decide +kernel
theorem dX4_came_32 : decode cX4_came 32 = .ok (.bipush (-3), 2) := by decide +kernel
theorem dX4_came_34 : decode cX4_came 34 = .ok (.ireturn, 1) := by decide +kernel
theorem dX4_came_35 : decode cX4_came 35 = .ok (.iconst 0, 1) := by decide +kernel
theorem dX4_came_36 : decode cX4_came 36 = .ok (.istore_n 3, 1) := by decide +kernel
theorem dX4_came_37 : decode cX4_came 37 = .ok (.bipush (-9), 2) := by decide +kernel
theorem dX4_came_39 : decode cX4_came 39 = .ok (.istore 4, 2) := by decide +kernel
theorem dX4_came_41 : decode cX4_came 41 = .ok (.aload_n 0, 1) := by decide +kernel
theorem dX4_came_42 : decode cX4_came 42 = .ok (.invokevirtual 75, 3) := by decide +kernel
theorem dX4_came_45 : decode cX4_came 45 = .ok (.istore 5, 2) := by decide +kernel
theorem dX4_came_47 : decode cX4_came 47 = .ok (.iload 5, 2) := by decide +kernel
theorem dX4_came_49 : decode cX4_came 49 = .ok (.ifCond .lt 53, 3) := by decide +kernel
theorem dX4_came_52 : decode cX4_came 52 = .ok (.aload_n 0, 1) := by decide +kernel
theorem dX4_came_53 : decode cX4_came 53 = .ok (.iload 5, 2) := by decide +kernel
theorem dX4_came_55 : decode cX4_came 55 = .ok (.invokevirtual 155, 3) := by decide +kernel
theorem dX4_came_58 : decode cX4_came 58 = .ok (.iload_n 1, 1) := by decide +kernel
theorem dX4_came_59 : decode cX4_came 59 = .ok (.if_icmp .ne 7, 3) := by decide +kernel
theorem dX4_came_62 : decode cX4_came 62 = .ok (.iconst 1, 1) := by decide +kernel
theorem dX4_came_63 : decode cX4_came 63 = .ok (.goto 4, 3) := by decide +kernel
theorem dX4_came_66 : decode cX4_came 66 = .ok (.iconst 0, 1) := by decide +kernel
theorem dX4_came_67 : decode cX4_came 67 = .ok (.istore 6, 2) := by decide +kernel
theorem dX4_came_69 : decode cX4_came 69 = .ok (.iload_n 3, 1) := by decide +kernel
theorem dX4_came_70 : decode cX4_came 70 = .ok (.iload 6, 2) := by decide +kernel
theorem dX4_came_72 : decode cX4_came 72 = .ok (.ifCond .eq 7, 3) := by decide +kernel
theorem dX4_came_75 : decode cX4_came 75 = .ok (.iconst 1, 1) := by decide +kernel
theorem dX4_came_76 : decode cX4_came 76 = .ok (.goto 4, 3) := by decide +kernel
theorem dX4_came_79 : decode cX4_came 79 = .ok (.iconst 0, 1) := by decide +kernel
theorem dX4_came_80 : decode cX4_came 80 = .ok (.iadd, 1) := by decide +kernel
theorem dX4_came_81 : decode cX4_came 81 = .ok (.istore_n 3, 1) := by decide +kernel
theorem dX4_came_82 : decode cX4_came 82 = .ok (.iload 6, 2) := by decide +kernel
theorem dX4_came_84 : decode cX4_came 84 = .ok (.ifCond .eq 8, 3) := by decide +kernel
theorem dX4_came_87 : decode cX4_came 87 = .ok (.iload 5, 2) := by decide +kernel
theorem dX4_came_89 : decode cX4_came 89 = .ok (.goto 5, 3) := by decide +kernel
theorem dX4_came_92 : decode cX4_came 92 = .ok (.iload 4, 2) := by decide +kernel
theorem dX4_came_94 : decode cX4_came 94 = .ok (.istore 4, 2) := by decide +kernel
theorem dX4_came_96 : decode cX4_came 96 = .ok (.iinc 5 (-1), 3) := by decide +kernel
theorem dX4_came_99 : decode cX4_came 99 = .ok (.goto (-52), 3) := by decide +kernel
theorem dX4_came_102 : decode cX4_came 102 = .ok (.iload_n 2, 1) := by decide +kernel
theorem dX4_came_103 : decode cX4_came 103 = .ok (.ifCond .ne 7, 3) := by decide +kernel
theorem dX4_came_106 : decode cX4_came 106 = .ok (.iload_n 3, 1) := by decide +kernel
theorem dX4_came_107 : decode cX4_came 107 = .ok (.goto 5, 3) := by decide +kernel
theorem dX4_came_110 : decode cX4_came 110 = .ok (.iload 4, 2) := by decide +kernel
theorem dX4_came_112 : decode cX4_came 112 = .ok (.ireturn, 1) := by decide +kernel
set_option maxRecDepth 20000 in
theorem ggX4_reading_X4_noProphet : GoodIn wsX4_reading wsX4_noProphet := goodIn_r _ [10, 11, 12, 13, 9, 14, 24, 25, 26, 27, 28, 29, 30, 31, 32, 33, 34, 35, 36, 37, 38, 39, 40, 41, 42, 43, 44, 45, 46, 47, 48, 49, 50] (by decide +kernel) (by decide +kernel)
set_option maxRecDepth 20000 in
theorem gX4_reading_X4_noProphet : GoodIn wsX4_reading (wsV RX4 135 RX4 yX4_noProphet wsX4_noProphet) := goodIn_app (goodIn_of _ (by decide +kernel)) ggX4_reading_X4_noProphet
set_option maxRecDepth 20000 in
theorem ggX4_reading_X4_noSet : GoodIn wsX4_reading wsX4_noSet := goodIn_r _ [18, 19, 20, 21, 9, 22, 23, 12, 13, 14, 24, 25, 26, 27, 28, 29, 30, 31, 32, 33, 34, 35, 36, 37, 38, 39, 40, 41, 42, 43, 44, 45, 46, 47, 48, 49, 50] (by decide +kernel) (by decide +kernel)
set_option maxRecDepth 20000 in
theorem gX4_reading_X4_noSet : GoodIn wsX4_reading (wsV RX4 152 RX4 yX4_noSet wsX4_noSet) := goodIn_app (goodIn_of _ (by decide +kernel)) ggX4_reading_X4_noSet
set_option maxRecDepth 20000 in
theorem ggX4_reading_X4_in : GoodIn wsX4_reading wsX4_in := goodIn_r _ [14] (by decide +kernel) (by decide +kernel)
set_option maxRecDepth 20000 in
theorem gX4_reading_X4_in : GoodIn wsX4_reading (va_wsS RX4 68 yX4_in wsX4_in) := goodIn_app (goodIn_of _ (by decide +kernel)) ggX4_reading_X4_in
theorem dX4_reading_0 : decode cX4_reading 0 = .ok (.aload_n 0, 1) := by decide +kernel
theorem dX4_reading_1 : decode cX4_reading 1 = .ok (.iload_n 1, 1) := by decide +kernel
theorem dX4_reading_2 : decode cX4_reading 2 = .ok (.invokevirtual 135, 3) := by decide +kernel
theorem dX4_reading_5 : decode cX4_reading 5 = .ok (.ifCond .eq 5, 3) := by decide +kernel
theorem dX4_reading_8 : decode cX4_reading 8 = .ok (.iconst (-1), 1) := by decide +kernel
theorem dX4_reading_9 : decode cX4_reading 9 = .ok (.ireturn, 1) := by decide +kernel
theorem dX4_reading_10 : decode cX4_reading 10 = .ok (.aload_n 0, 1) := by decide +kernel
theorem dX4_reading_11 : decode cX4_reading 11 = .ok (.iload_n 2, 1) := by decide +kernel
theorem dX4_reading_12 : decode cX4_reading 12 = .ok (.invokevirtual 152, 3) := by decide +kernel
theorem dX4_reading_15 : decode cX4_reading 15 = .ok (.ifCond .ne 15, 3) := by decide +kernel
theorem dX4_reading_18 : decode cX4_reading 18 = .ok (.iload_n 3, 1) := by decide +kernel
theorem dX4_reading_19 : decode cX4_reading 19 = .ok (.i2l, 1) := by decide +kernel
theorem dX4_reading_20 : decode cX4_reading 20 = .ok (.lconst 0, 1) := by decide +kernel
theorem dX4_reading_21 : decode cX4_reading 21 = .ok (.ldc2_w 205, 3) := by decide +kernel
theorem dX4_reading_24 : decode cX4_reading 24 = .ok (.invokestatic 68, 3) := by decide +kernel
theorem dX4_reading_27 : decode cX4_reading 27 = .ok (.ifCond .ne 6, 3) := by decide +kernel
theorem dX4_reading_30 : decode cX4_reading 30 = .ok (.bipush (-2), 2) := by decide +kernel
theorem dX4_reading_32 : decode cX4_reading 32 = .ok (.ireturn, 1) := by decide +kernel
theorem dX4_reading_33 : decode cX4_reading 33 = .ok (.aload_n 0, 1) := by decide +kernel
theorem dX4_reading_34 : decode cX4_reading 34 = .ok (.getfield 127, 3) := by decide +kernel
theorem dX4_reading_37 : decode cX4_reading 37 = .ok (.bipush 8, 2) := by decide +kernel
theorem dX4_reading_39 : decode cX4_reading 39 = .ok (.if_icmp .ne 6, 3) := by decide +kernel
theorem dX4_reading_42 : decode cX4_reading 42 = .ok (.bipush (-4), 2) := by decide +kernel
theorem dX4_reading_44 : decode cX4_reading 44 = .ok (.ireturn, 1) := by decide +kernel
theorem dX4_reading_45 : decode cX4_reading 45 = .ok (.aload_n 0, 1) := by decide +kernel
theorem dX4_reading_46 : decode cX4_reading 46 = .ok (.getfield 34, 3) := by decide +kernel
theorem dX4_reading_49 : decode cX4_reading 49 = .ok (.aload_n 0, 1) := by decide +kernel
theorem dX4_reading_50 : decode cX4_reading 50 = .ok (.getfield 127, 3) := by decide +kernel
theorem dX4_reading_53 : decode cX4_reading 53 = .ok (.iload_n 1, 1) := by decide +kernel
theorem dX4_reading_54 : decode cX4_reading 54 = .ok (.iastore, 1) := by decide +kernel
theorem dX4_reading_55 : decode cX4_reading 55 = .ok (.aload_n 0, 1) := by decide +kernel
theorem dX4_reading_56 : decode cX4_reading 56 = .ok (.getfield 37, 3) := by decide +kernel
theorem dX4_reading_59 : decode cX4_reading 59 = .ok (.aload_n 0, 1) := by decide +kernel
theorem dX4_reading_60 : decode cX4_reading 60 = .ok (.getfield 127, 3) := by decide +kernel
theorem dX4_reading_63 : decode cX4_reading 63 = .ok (.iload_n 2, 1) := by decide +kernel
theorem dX4_reading_64 : decode cX4_reading 64 = .ok (.iastore, 1) := by decide +kernel
theorem dX4_reading_65 : decode cX4_reading 65 = .ok (.aload_n 0, 1) := by decide +kernel
theorem dX4_reading_66 : decode cX4_reading 66 = .ok (.getfield 40, 3) := by decide +kernel
theorem dX4_reading_69 : decode cX4_reading 69 = .ok (.aload_n 0, 1) := by decide +kernel
theorem dX4_reading_70 : decode cX4_reading 70 = .ok (.getfield 127, 3) := by decide +kernel
theorem dX4_reading_73 : decode cX4_reading 73 = .ok (.iload_n 3, 1) := by decide +kernel
theorem dX4_reading_74 : decode cX4_reading 74 = .ok (.iastore, 1) := by decide +kernel
theorem dX4_reading_75 : decode cX4_reading 75 = .ok (.aload_n 0, 1) := by decide +kernel
theorem dX4_reading_76 : decode cX4_reading 76 = .ok (.dup, 1) := by decide +kernel
theorem dX4_reading_77 : decode cX4_reading 77 = .ok (.getfield 127, 3) := by decide +kernel
theorem dX4_reading_80 : decode cX4_reading 80 = .ok (.iconst 1, 1) := by decide +kernel
theorem dX4_reading_81 : decode cX4_reading 81 = .ok (.iadd, 1) := by decide +kernel
theorem dX4_reading_82 : decode cX4_reading 82 = .ok (.putfield 127, 3) := by decide +kernel
theorem dX4_reading_85 : decode cX4_reading 85 = .ok (.aload_n 0, 1) := by decide +kernel
theorem dX4_reading_86 : decode cX4_reading 86 = .ok (.getfield 127, 3) := by decide +kernel
theorem dX4_reading_89 : decode cX4_reading 89 = .ok (.iconst 1, 1) := by decide +kernel
theorem dX4_reading_90 : decode cX4_reading 90 = .ok (.isub, 1) := by decide +kernel
theorem dX4_reading_91 : decode cX4_reading 91 = .ok (.ireturn, 1) := by decide +kernel
set_option maxRecDepth 20000 in
theorem ggX4_back_X4_in : GoodIn wsX4_back wsX4_in := goodIn_r _ [5] (by decide +kernel) (by decide +kernel)
set_option maxRecDepth 20000 in
theorem gX4_back_X4_in : GoodIn wsX4_back (va_wsS RX4 68 yX4_in wsX4_in) := goodIn_app (goodIn_of _ (by decide +kernel)) ggX4_back_X4_in
theorem dX4_back_0 : decode cX4_back 0 = .ok (.iload_n 1, 1) := by decide +kernel
theorem dX4_back_1 : decode cX4_back 1 = .ok (.i2l, 1) := by decide +kernel
theorem dX4_back_2 : decode cX4_back 2 = .ok (.lconst 0, 1) := by decide +kernel
theorem dX4_back_3 : decode cX4_back 3 = .ok (.aload_n 0, 1) := by decide +kernel
theorem dX4_back_4 : decode cX4_back 4 = .ok (.getfield 127, 3) := by decide +kernel
theorem dX4_back_7 : decode cX4_back 7 = .ok (.i2l, 1) := by decide +kernel
theorem dX4_back_8 : decode cX4_back 8 = .ok (.invokestatic 68, 3) := by decide +kernel
theorem dX4_back_11 : decode cX4_back 11 = .ok (.ifCond .ne 6, 3) := by decide +kernel
theorem dX4_back_14 : decode cX4_back 14 = .ok (.bipush (-2), 2) := by decide +kernel
theorem dX4_back_16 : decode cX4_back 16 = .ok (.ireturn, 1) := by decide +kernel
theorem dX4_back_17 : decode cX4_back 17 = .ok (.aload_n 0, 1) := by decide +kernel
theorem dX4_back_18 : decode cX4_back 18 = .ok (.dup, 1) := by decide +kernel
theorem dX4_back_19 : decode cX4_back 19 = .ok (.getfield 127, 3) := by decide +kernel
theorem dX4_back_22 : decode cX4_back 22 = .ok (.iload_n 1, 1) := by decide +kernel
theorem dX4_back_23 : decode cX4_back 23 = .ok (.isub, 1) := by decide +kernel
theorem dX4_back_24 : decode cX4_back 24 = .ok (.putfield 127, 3) := by decide +kernel
theorem dX4_back_27 : decode cX4_back 27 = .ok (.aload_n 0, 1) := by decide +kernel
theorem dX4_back_28 : decode cX4_back 28 = .ok (.getfield 127, 3) := by decide +kernel
theorem dX4_back_31 : decode cX4_back 31 = .ok (.ireturn, 1) := by decide +kernel
set_option maxRecDepth 20000 in
theorem ggX4_areSo_X4_paidTo : GoodIn wsX4_areSo wsX4_paidTo := goodIn_r _ [9, 10, 11, 12, 13, 8, 14, 15, 16, 17, 18, 19, 20, 21, 22, 23, 24, 25, 26, 27, 28, 29, 30, 31, 32, 33, 34, 35, 36, 37, 38, 39, 40, 41, 42, 43, 44, 45, 46, 47, 48, 49, 50, 51, 52, 53, 54, 55] (by decide +kernel) (by decide +kernel)
set_option maxRecDepth 20000 in
theorem gX4_areSo_X4_paidTo : GoodIn wsX4_areSo (wsV RX4 149 RX4 yX4_paidTo wsX4_paidTo) := goodIn_app (goodIn_of _ (by decide +kernel)) ggX4_areSo_X4_paidTo
theorem dX4_areSo_0 : decode cX4_areSo 0 = .ok (.iconst 1, 1) := by decide +kernel
theorem dX4_areSo_1 : decode cX4_areSo 1 = .ok (.istore_n 1, 1) := by decide +kernel
theorem dX4_areSo_2 : decode cX4_areSo 2 = .ok (.iconst 0, 1) := by decide +kernel
theorem dX4_areSo_3 : decode cX4_areSo 3 = .ok (.istore_n 2, 1) := by decide +kernel
theorem dX4_areSo_4 : decode cX4_areSo 4 = .ok (.iload_n 2, 1) := by decide +kernel
theorem dX4_areSo_5 : decode cX4_areSo 5 = .ok (.aload_n 0, 1) := by decide +kernel
theorem dX4_areSo_6 : decode cX4_areSo 6 = .ok (.getfield 127, 3) := by decide +kernel
theorem dX4_areSo_9 : decode cX4_areSo 9 = .ok (.if_icmp .ge 44, 3) := by decide +kernel
theorem dX4_areSo_12 : decode cX4_areSo 12 = .ok (.iload_n 1, 1) := by decide +kernel
theorem dX4_areSo_13 : decode cX4_areSo 13 = .ok (.ifCond .eq 32, 3) := by decide +kernel
theorem dX4_areSo_16 : decode cX4_areSo 16 = .ok (.aload_n 0, 1) := by decide +kernel
theorem dX4_areSo_17 : decode cX4_areSo 17 = .ok (.aload_n 0, 1) := by decide +kernel
theorem dX4_areSo_18 : decode cX4_areSo 18 = .ok (.getfield 34, 3) := by decide +kernel
theorem dX4_areSo_21 : decode cX4_areSo 21 = .ok (.iload_n 2, 1) := by decide +kernel
theorem dX4_areSo_22 : decode cX4_areSo 22 = .ok (.iaload, 1) := by decide +kernel
theorem dX4_areSo_23 : decode cX4_areSo 23 = .ok (.aload_n 0, 1) := by decide +kernel
theorem dX4_areSo_24 : decode cX4_areSo 24 = .ok (.getfield 37, 3) := by decide +kernel
theorem dX4_areSo_27 : decode cX4_areSo 27 = .ok (.iload_n 2, 1) := by decide +kernel
theorem dX4_areSo_28 : decode cX4_areSo 28 = .ok (.iaload, 1) := by decide +kernel
theorem dX4_areSo_29 : decode cX4_areSo 29 = .ok (.invokevirtual 149, 3) := by decide +kernel
theorem dX4_areSo_32 : decode cX4_areSo 32 = .ok (.aload_n 0, 1) := by decide +kernel
theorem dX4_areSo_33 : decode cX4_areSo 33 = .ok (.getfield 40, 3) := by decide +kernel
theorem dX4_areSo_36 : decode cX4_areSo 36 = .ok (.iload_n 2, 1) := by decide +kernel
theorem dX4_areSo_37 : decode cX4_areSo 37 = .ok (.iaload, 1) := by decide +kernel
theorem dX4_areSo_38 : decode cX4_areSo 38 = .ok (.if_icmp .ne 7, 3) := by decide +kernel
theorem dX4_areSo_41 : decode cX4_areSo 41 = .ok (.iconst 1, 1) := by decide +kernel
theorem dX4_areSo_42 : decode cX4_areSo 42 = .ok (.goto 4, 3) := by decide +kernel
theorem dX4_areSo_45 : decode cX4_areSo 45 = .ok (.iconst 0, 1) := by decide +kernel
theorem dX4_areSo_46 : decode cX4_areSo 46 = .ok (.istore_n 1, 1) := by decide +kernel
theorem dX4_areSo_47 : decode cX4_areSo 47 = .ok (.iinc 2 1, 3) := by decide +kernel
theorem dX4_areSo_50 : decode cX4_areSo 50 = .ok (.goto (-46), 3) := by decide +kernel
theorem dX4_areSo_53 : decode cX4_areSo 53 = .ok (.iload_n 1, 1) := by decide +kernel
theorem dX4_areSo_54 : decode cX4_areSo 54 = .ok (.ireturn, 1) := by decide +kernel
set_option maxRecDepth 20000 in
theorem ggX4_covers_X4_noProphet : GoodIn wsX4_covers wsX4_noProphet := goodIn_r _ [6, 7, 8, 9, 5, 10, 41, 42, 43, 44, 45, 46, 47, 48, 49, 50, 51, 52, 53, 54, 55, 56, 57, 58, 59, 60, 61, 62, 63, 64, 65, 66, 67] (by decide +kernel) (by decide +kernel)
set_option maxRecDepth 20000 in
theorem gX4_covers_X4_noProphet : GoodIn wsX4_covers (wsV RX4 135 RX4 yX4_noProphet wsX4_noProphet) := goodIn_app (goodIn_of _ (by decide +kernel)) ggX4_covers_X4_noProphet
set_option maxRecDepth 20000 in
theorem ggX4_covers_X4_areSo : GoodIn wsX4_covers wsX4_areSo := goodIn_r _ [14, 15, 16, 17, 18, 19, 20, 21, 5, 22, 23, 24, 25, 26, 27, 28, 29, 30, 31, 32, 33, 34, 35, 36, 1, 37, 38, 39, 40, 41, 42, 43, 44, 45, 46, 47, 48, 49, 50, 51, 52, 53, 54, 55, 56, 57, 58, 59, 60, 61, 62, 63, 64, 65, 66, 67] (by decide +kernel) (by decide +kernel)
set_option maxRecDepth 20000 in
theorem gX4_covers_X4_areSo : GoodIn wsX4_covers (wsV RX4 207 RX4 yX4_areSo wsX4_areSo) := goodIn_app (goodIn_of _ (by decide +kernel)) ggX4_covers_X4_areSo
theorem dX4_covers_0 : decode cX4_covers 0 = .ok (.aload_n 0, 1) := by decide +kernel
theorem dX4_covers_1 : decode cX4_covers 1 = .ok (.iload_n 1, 1) := by decide +kernel
theorem dX4_covers_2 : decode cX4_covers 2 = .ok (.invokevirtual 135, 3) := by decide +kernel
theorem dX4_covers_5 : decode cX4_covers 5 = .ok (.ifCond .eq 5, 3) := by decide +kernel
theorem dX4_covers_8 : decode cX4_covers 8 = .ok (.iconst (-1), 1) := by decide +kernel
theorem dX4_covers_9 : decode cX4_covers 9 = .ok (.ireturn, 1) := by decide +kernel
theorem dX4_covers_10 : decode cX4_covers 10 = .ok (.aload_n 0, 1) := by decide +kernel
theorem dX4_covers_11 : decode cX4_covers 11 = .ok (.getfield 16, 3) := by decide +kernel
theorem dX4_covers_14 : decode cX4_covers 14 = .ok (.iload_n 1, 1) := by decide +kernel
theorem dX4_covers_15 : decode cX4_covers 15 = .ok (.iaload, 1) := by decide +kernel
theorem dX4_covers_16 : decode cX4_covers 16 = .ok (.istore_n 2, 1) := by decide +kernel
theorem dX4_covers_17 : decode cX4_covers 17 = .ok (.iconst 0, 1) := by decide +kernel
theorem dX4_covers_18 : decode cX4_covers 18 = .ok (.istore_n 3, 1) := by decide +kernel
theorem dX4_covers_19 : decode cX4_covers 19 = .ok (.iconst 0, 1) := by decide +kernel
theorem dX4_covers_20 : decode cX4_covers 20 = .ok (.istore 4, 2) := by decide +kernel
theorem dX4_covers_22 : decode cX4_covers 22 = .ok (.iload 4, 2) := by decide +kernel
theorem dX4_covers_24 : decode cX4_covers 24 = .ok (.bipush 10, 2) := by decide +kernel
theorem dX4_covers_26 : decode cX4_covers 26 = .ok (.if_icmp .ge 35, 3) := by decide +kernel
theorem dX4_covers_29 : decode cX4_covers 29 = .ok (.aload_n 0, 1) := by decide +kernel
theorem dX4_covers_30 : decode cX4_covers 30 = .ok (.getfield 16, 3) := by decide +kernel
theorem dX4_covers_33 : decode cX4_covers 33 = .ok (.iload_n 1, 1) := by decide +kernel
theorem dX4_covers_34 : decode cX4_covers 34 = .ok (.iload 4, 2) := by decide +kernel
theorem dX4_covers_36 : decode cX4_covers 36 = .ok (.iastore, 1) := by decide +kernel
theorem dX4_covers_37 : decode cX4_covers 37 = .ok (.iload_n 3, 1) := by decide +kernel
theorem dX4_covers_38 : decode cX4_covers 38 = .ok (.aload_n 0, 1) := by decide +kernel
theorem dX4_covers_39 : decode cX4_covers 39 = .ok (.invokevirtual 207, 3) := by decide +kernel
theorem dX4_covers_42 : decode cX4_covers 42 = .ok (.ifCond .eq 10, 3) := by decide +kernel
theorem dX4_covers_45 : decode cX4_covers 45 = .ok (.iconst 1, 1) := by decide +kernel
theorem dX4_covers_46 : decode cX4_covers 46 = .ok (.iload 4, 2) := by decide +kernel
theorem dX4_covers_48 : decode cX4_covers 48 = .ok (.ishl, 1) := by decide +kernel
theorem dX4_covers_49 : decode cX4_covers 49 = .ok (.goto 4, 3) := by decide +kernel
theorem dX4_covers_52 : decode cX4_covers 52 = .ok (.iconst 0, 1) := by decide +kernel
theorem dX4_covers_53 : decode cX4_covers 53 = .ok (.ior, 1) := by decide +kernel
theorem dX4_covers_54 : decode cX4_covers 54 = .ok (.istore_n 3, 1) := by decide +kernel
theorem dX4_covers_55 : decode cX4_covers 55 = .ok (.iinc 4 1, 3) := by decide +kernel
theorem dX4_covers_58 : decode cX4_covers 58 = .ok (.goto (-36), 3) := by decide +kernel
theorem dX4_covers_61 : decode cX4_covers 61 = .ok (.aload_n 0, 1) := by decide +kernel
theorem dX4_covers_62 : decode cX4_covers 62 = .ok (.getfield 16, 3) := by decide +kernel
theorem dX4_covers_65 : decode cX4_covers 65 = .ok (.iload_n 1, 1) := by decide +kernel
theorem dX4_covers_66 : decode cX4_covers 66 = .ok (.iload_n 2, 1) := by decide +kernel
theorem dX4_covers_67 : decode cX4_covers 67 = .ok (.iastore, 1) := by decide +kernel
theorem dX4_covers_68 : decode cX4_covers 68 = .ok (.iload_n 3, 1) := by decide +kernel
theorem dX4_covers_69 : decode cX4_covers 69 = .ok (.ireturn, 1) := by decide +kernel
set_option maxRecDepth 20000 in
theorem ggX4_kinds_X4_noProphet : GoodIn wsX4_kinds wsX4_noProphet := goodIn_r _ [6, 7, 8, 9, 5, 10, 41, 42, 43, 44, 45, 46, 47, 48, 49, 50, 51, 52, 53, 54, 55, 56, 57, 58, 59, 60, 61, 62, 63, 64, 65, 66, 67] (by decide +kernel) (by decide +kernel)
set_option maxRecDepth 20000 in
theorem gX4_kinds_X4_noProphet : GoodIn wsX4_kinds (wsV RX4 135 RX4 yX4_noProphet wsX4_noProphet) := goodIn_app (goodIn_of _ (by decide +kernel)) ggX4_kinds_X4_noProphet
set_option maxRecDepth 20000 in
theorem ggX4_kinds_X4_areSo : GoodIn wsX4_kinds wsX4_areSo := goodIn_r _ [14, 15, 16, 17, 18, 19, 20, 21, 5, 22, 23, 24, 25, 26, 27, 28, 29, 30, 31, 32, 33, 34, 35, 36, 37, 1, 38, 39, 40, 41, 42, 43, 44, 45, 46, 47, 48, 49, 50, 51, 52, 53, 54, 55, 56, 57, 58, 59, 60, 61, 62, 63, 64, 65, 66, 67] (by decide +kernel) (by decide +kernel)
set_option maxRecDepth 20000 in
theorem gX4_kinds_X4_areSo : GoodIn wsX4_kinds (wsV RX4 207 RX4 yX4_areSo wsX4_areSo) := goodIn_app (goodIn_of _ (by decide +kernel)) ggX4_kinds_X4_areSo
theorem dX4_kinds_0 : decode cX4_kinds 0 = .ok (.aload_n 0, 1) := by decide +kernel
theorem dX4_kinds_1 : decode cX4_kinds 1 = .ok (.iload_n 1, 1) := by decide +kernel
theorem dX4_kinds_2 : decode cX4_kinds 2 = .ok (.invokevirtual 135, 3) := by decide +kernel
theorem dX4_kinds_5 : decode cX4_kinds 5 = .ok (.ifCond .eq 5, 3) := by decide +kernel
theorem dX4_kinds_8 : decode cX4_kinds 8 = .ok (.iconst (-1), 1) := by decide +kernel
theorem dX4_kinds_9 : decode cX4_kinds 9 = .ok (.ireturn, 1) := by decide +kernel
theorem dX4_kinds_10 : decode cX4_kinds 10 = .ok (.aload_n 0, 1) := by decide +kernel
theorem dX4_kinds_11 : decode cX4_kinds 11 = .ok (.getfield 13, 3) := by decide +kernel
theorem dX4_kinds_14 : decode cX4_kinds 14 = .ok (.iload_n 1, 1) := by decide +kernel
theorem dX4_kinds_15 : decode cX4_kinds 15 = .ok (.iaload, 1) := by decide +kernel
theorem dX4_kinds_16 : decode cX4_kinds 16 = .ok (.istore_n 2, 1) := by decide +kernel
theorem dX4_kinds_17 : decode cX4_kinds 17 = .ok (.iconst 0, 1) := by decide +kernel
theorem dX4_kinds_18 : decode cX4_kinds 18 = .ok (.istore_n 3, 1) := by decide +kernel
theorem dX4_kinds_19 : decode cX4_kinds 19 = .ok (.iconst 0, 1) := by decide +kernel
theorem dX4_kinds_20 : decode cX4_kinds 20 = .ok (.istore 4, 2) := by decide +kernel
theorem dX4_kinds_22 : decode cX4_kinds 22 = .ok (.iload 4, 2) := by decide +kernel
theorem dX4_kinds_24 : decode cX4_kinds 24 = .ok (.iconst 3, 1) := by decide +kernel
theorem dX4_kinds_25 : decode cX4_kinds 25 = .ok (.if_icmp .ge 35, 3) := by decide +kernel
theorem dX4_kinds_28 : decode cX4_kinds 28 = .ok (.aload_n 0, 1) := by decide +kernel
theorem dX4_kinds_29 : decode cX4_kinds 29 = .ok (.getfield 13, 3) := by decide +kernel
theorem dX4_kinds_32 : decode cX4_kinds 32 = .ok (.iload_n 1, 1) := by decide +kernel
theorem dX4_kinds_33 : decode cX4_kinds 33 = .ok (.iload 4, 2) := by decide +kernel
theorem dX4_kinds_35 : decode cX4_kinds 35 = .ok (.iastore, 1) := by decide +kernel
theorem dX4_kinds_36 : decode cX4_kinds 36 = .ok (.iload_n 3, 1) := by decide +kernel
theorem dX4_kinds_37 : decode cX4_kinds 37 = .ok (.aload_n 0, 1) := by decide +kernel
theorem dX4_kinds_38 : decode cX4_kinds 38 = .ok (.invokevirtual 207, 3) := by decide +kernel
theorem dX4_kinds_41 : decode cX4_kinds 41 = .ok (.ifCond .eq 10, 3) := by decide +kernel
theorem dX4_kinds_44 : decode cX4_kinds 44 = .ok (.iconst 1, 1) := by decide +kernel
theorem dX4_kinds_45 : decode cX4_kinds 45 = .ok (.iload 4, 2) := by decide +kernel
theorem dX4_kinds_47 : decode cX4_kinds 47 = .ok (.ishl, 1) := by decide +kernel
theorem dX4_kinds_48 : decode cX4_kinds 48 = .ok (.goto 4, 3) := by decide +kernel
theorem dX4_kinds_51 : decode cX4_kinds 51 = .ok (.iconst 0, 1) := by decide +kernel
theorem dX4_kinds_52 : decode cX4_kinds 52 = .ok (.ior, 1) := by decide +kernel
theorem dX4_kinds_53 : decode cX4_kinds 53 = .ok (.istore_n 3, 1) := by decide +kernel
theorem dX4_kinds_54 : decode cX4_kinds 54 = .ok (.iinc 4 1, 3) := by decide +kernel
theorem dX4_kinds_57 : decode cX4_kinds 57 = .ok (.goto (-35), 3) := by decide +kernel
theorem dX4_kinds_60 : decode cX4_kinds 60 = .ok (.aload_n 0, 1) := by decide +kernel
theorem dX4_kinds_61 : decode cX4_kinds 61 = .ok (.getfield 13, 3) := by decide +kernel
theorem dX4_kinds_64 : decode cX4_kinds 64 = .ok (.iload_n 1, 1) := by decide +kernel
theorem dX4_kinds_65 : decode cX4_kinds 65 = .ok (.iload_n 2, 1) := by decide +kernel
theorem dX4_kinds_66 : decode cX4_kinds 66 = .ok (.iastore, 1) := by decide +kernel
theorem dX4_kinds_67 : decode cX4_kinds 67 = .ok (.iload_n 3, 1) := by decide +kernel
theorem dX4_kinds_68 : decode cX4_kinds 68 = .ok (.ireturn, 1) := by decide +kernel
set_option maxRecDepth 20000 in
theorem ggX4_sayings_X4_noProphet : GoodIn wsX4_sayings wsX4_noProphet := goodIn_r _ [6, 7, 8, 9, 5, 10, 45, 46, 47, 48, 49, 50, 51, 52, 53, 54, 55, 56, 57, 58, 59, 60, 61, 62, 63, 64, 65, 66, 67, 68, 69, 70, 71] (by decide +kernel) (by decide +kernel)
set_option maxRecDepth 20000 in
theorem gX4_sayings_X4_noProphet : GoodIn wsX4_sayings (wsV RX4 135 RX4 yX4_noProphet wsX4_noProphet) := goodIn_app (goodIn_of _ (by decide +kernel)) ggX4_sayings_X4_noProphet
set_option maxRecDepth 20000 in
theorem ggX4_sayings_X4_noEvent : GoodIn wsX4_sayings wsX4_noEvent := goodIn_r _ [14, 15, 8, 9, 5, 10, 45, 46, 47, 48, 49, 50, 51, 52, 53, 54, 55, 56, 57, 58, 59, 60, 61, 62, 63, 64, 65, 66, 67, 68, 69, 70, 71] (by decide +kernel) (by decide +kernel)
set_option maxRecDepth 20000 in
theorem gX4_sayings_X4_noEvent : GoodIn wsX4_sayings (wsV RX4 130 RX4 yX4_noEvent wsX4_noEvent) := goodIn_app (goodIn_of _ (by decide +kernel)) ggX4_sayings_X4_noEvent
set_option maxRecDepth 20000 in
theorem ggX4_sayings_X4_areSo : GoodIn wsX4_sayings wsX4_areSo := goodIn_r _ [19, 20, 21, 22, 23, 24, 25, 26, 5, 27, 1, 28, 29, 30, 31, 32, 33, 34, 35, 15, 36, 37, 38, 39, 40, 41, 42, 43, 44, 45, 46, 47, 48, 49, 50, 51, 52, 53, 54, 55, 56, 57, 58, 59, 60, 61, 62, 63, 64, 65, 66, 67, 68, 69, 70, 71] (by decide +kernel) (by decide +kernel)
set_option maxRecDepth 20000 in
theorem gX4_sayings_X4_areSo : GoodIn wsX4_sayings (wsV RX4 207 RX4 yX4_areSo wsX4_areSo) := goodIn_app (goodIn_of _ (by decide +kernel)) ggX4_sayings_X4_areSo
theorem dX4_sayings_0 : decode cX4_sayings 0 = .ok (.aload_n 0, 1) := by decide +kernel
theorem dX4_sayings_1 : decode cX4_sayings 1 = .ok (.iload_n 1, 1) := by decide +kernel
theorem dX4_sayings_2 : decode cX4_sayings 2 = .ok (.invokevirtual 135, 3) := by decide +kernel
theorem dX4_sayings_5 : decode cX4_sayings 5 = .ok (.ifCond .ne 11, 3) := by decide +kernel
theorem dX4_sayings_8 : decode cX4_sayings 8 = .ok (.aload_n 0, 1) := by decide +kernel
theorem dX4_sayings_9 : decode cX4_sayings 9 = .ok (.iload_n 2, 1) := by decide +kernel
theorem dX4_sayings_10 : decode cX4_sayings 10 = .ok (.invokevirtual 130, 3) := by decide +kernel
theorem dX4_sayings_13 : decode cX4_sayings 13 = .ok (.ifCond .eq 5, 3) := by decide +kernel
theorem dX4_sayings_16 : decode cX4_sayings 16 = .ok (.iconst (-1), 1) := by decide +kernel
theorem dX4_sayings_17 : decode cX4_sayings 17 = .ok (.ireturn, 1) := by decide +kernel
theorem dX4_sayings_18 : decode cX4_sayings 18 = .ok (.aload_n 0, 1) := by decide +kernel
theorem dX4_sayings_19 : decode cX4_sayings 19 = .ok (.getfield 19, 3) := by decide +kernel
theorem dX4_sayings_22 : decode cX4_sayings 22 = .ok (.iload_n 1, 1) := by decide +kernel
theorem dX4_sayings_23 : decode cX4_sayings 23 = .ok (.iaload, 1) := by decide +kernel
theorem dX4_sayings_24 : decode cX4_sayings 24 = .ok (.istore_n 3, 1) := by decide +kernel
theorem dX4_sayings_25 : decode cX4_sayings 25 = .ok (.iconst 0, 1) := by decide +kernel
theorem dX4_sayings_26 : decode cX4_sayings 26 = .ok (.istore 4, 2) := by decide +kernel
theorem dX4_sayings_28 : decode cX4_sayings 28 = .ok (.iconst 0, 1) := by decide +kernel
theorem dX4_sayings_29 : decode cX4_sayings 29 = .ok (.istore 5, 2) := by decide +kernel
theorem dX4_sayings_31 : decode cX4_sayings 31 = .ok (.iload 5, 2) := by decide +kernel
theorem dX4_sayings_33 : decode cX4_sayings 33 = .ok (.iconst 2, 1) := by decide +kernel
theorem dX4_sayings_34 : decode cX4_sayings 34 = .ok (.if_icmp .ge 47, 3) := by decide +kernel
theorem dX4_sayings_37 : decode cX4_sayings 37 = .ok (.aload_n 0, 1) := by decide +kernel
theorem dX4_sayings_38 : decode cX4_sayings 38 = .ok (.getfield 19, 3) := by decide +kernel
theorem dX4_sayings_41 : decode cX4_sayings 41 = .ok (.iload_n 1, 1) := by decide +kernel
theorem dX4_sayings_42 : decode cX4_sayings 42 = .ok (.iload_n 3, 1) := by decide +kernel
theorem dX4_sayings_43 : decode cX4_sayings 43 = .ok (.iconst 1, 1) := by decide +kernel
theorem dX4_sayings_44 : decode cX4_sayings 44 = .ok (.iload_n 2, 1) := by decide +kernel
theorem dX4_sayings_45 : decode cX4_sayings 45 = .ok (.ishl, 1) := by decide +kernel
theorem dX4_sayings_46 : decode cX4_sayings 46 = .ok (.iconst (-1), 1) := by decide +kernel
theorem dX4_sayings_47 : decode cX4_sayings 47 = .ok (.ixor, 1) := by decide +kernel
theorem dX4_sayings_48 : decode cX4_sayings 48 = .ok (.iand, 1) := by decide +kernel
theorem dX4_sayings_49 : decode cX4_sayings 49 = .ok (.iload 5, 2) := by decide +kernel
theorem dX4_sayings_51 : decode cX4_sayings 51 = .ok (.iload_n 2, 1) := by decide +kernel
theorem dX4_sayings_52 : decode cX4_sayings 52 = .ok (.ishl, 1) := by decide +kernel
theorem dX4_sayings_53 : decode cX4_sayings 53 = .ok (.ior, 1) := by decide +kernel
theorem dX4_sayings_54 : decode cX4_sayings 54 = .ok (.iastore, 1) := by decide +kernel
theorem dX4_sayings_55 : decode cX4_sayings 55 = .ok (.iload 4, 2) := by decide +kernel
theorem dX4_sayings_57 : decode cX4_sayings 57 = .ok (.aload_n 0, 1) := by decide +kernel
theorem dX4_sayings_58 : decode cX4_sayings 58 = .ok (.invokevirtual 207, 3) := by decide +kernel
theorem dX4_sayings_61 : decode cX4_sayings 61 = .ok (.ifCond .eq 10, 3) := by decide +kernel
theorem dX4_sayings_64 : decode cX4_sayings 64 = .ok (.iconst 1, 1) := by decide +kernel
theorem dX4_sayings_65 : decode cX4_sayings 65 = .ok (.iload 5, 2) := by decide +kernel
theorem dX4_sayings_67 : decode cX4_sayings 67 = .ok (.ishl, 1) := by decide +kernel
theorem dX4_sayings_68 : decode cX4_sayings 68 = .ok (.goto 4, 3) := by decide +kernel
theorem dX4_sayings_71 : decode cX4_sayings 71 = .ok (.iconst 0, 1) := by decide +kernel
theorem dX4_sayings_72 : decode cX4_sayings 72 = .ok (.ior, 1) := by decide +kernel
theorem dX4_sayings_73 : decode cX4_sayings 73 = .ok (.istore 4, 2) := by decide +kernel
theorem dX4_sayings_75 : decode cX4_sayings 75 = .ok (.iinc 5 1, 3) := by decide +kernel
theorem dX4_sayings_78 : decode cX4_sayings 78 = .ok (.goto (-47), 3) := by decide +kernel
theorem dX4_sayings_81 : decode cX4_sayings 81 = .ok (.aload_n 0, 1) := by decide +kernel
theorem dX4_sayings_82 : decode cX4_sayings 82 = .ok (.getfield 19, 3) := by decide +kernel
theorem dX4_sayings_85 : decode cX4_sayings 85 = .ok (.iload_n 1, 1) := by decide +kernel
theorem dX4_sayings_86 : decode cX4_sayings 86 = .ok (.iload_n 3, 1) := by decide +kernel
theorem dX4_sayings_87 : decode cX4_sayings 87 = .ok (.iastore, 1) := by decide +kernel
theorem dX4_sayings_88 : decode cX4_sayings 88 = .ok (.iload 4, 2) := by decide +kernel
theorem dX4_sayings_90 : decode cX4_sayings 90 = .ok (.ireturn, 1) := by decide +kernel
set_option maxRecDepth 20000 in
theorem ggX4_odds_X4_in : GoodIn wsX4_odds wsX4_in := goodIn_r _ [6] (by decide +kernel) (by decide +kernel)
set_option maxRecDepth 20000 in
theorem gX4_odds_X4_in : GoodIn wsX4_odds (va_wsS RX4 68 yX4_in wsX4_in) := goodIn_app (goodIn_of _ (by decide +kernel)) ggX4_odds_X4_in
set_option maxRecDepth 20000 in
theorem ggX4_odds_X4_lost : GoodIn wsX4_odds wsX4_lost := goodIn_r _ [9, 10] (by decide +kernel) (by decide +kernel)
set_option maxRecDepth 20000 in
theorem gX4_odds_X4_lost : GoodIn wsX4_odds (va_wsS RX4 61 yX4_lost wsX4_lost) := goodIn_app (goodIn_of _ (by decide +kernel)) ggX4_odds_X4_lost
set_option maxRecDepth 20000 in
theorem ggX4_odds_X4_weightFrom : GoodIn wsX4_odds wsX4_weightFrom := goodIn_r _ [14, 15, 16, 17, 5, 18, 19, 20, 21, 22, 23, 1, 24, 25, 26, 27, 28, 29, 30, 31, 32, 33, 34, 35, 36, 37, 38, 39, 40, 41, 42, 43, 44, 45, 46, 47, 48, 49, 58, 59, 60, 61, 62, 63, 64, 65, 66, 67, 68, 69, 70, 71, 72, 73, 74, 75, 76, 77, 78, 79, 80, 81, 82, 83, 84] (by decide +kernel) (by decide +kernel)
set_option maxRecDepth 20000 in
theorem gX4_odds_X4_weightFrom : GoodIn wsX4_odds (wsV RX4 202 RX4 yX4_weightFrom wsX4_weightFrom) := goodIn_app (goodIn_of _ (by decide +kernel)) ggX4_odds_X4_weightFrom
set_option maxRecDepth 20000 in
theorem ggX4_odds_X4_weightOfAll : GoodIn wsX4_odds wsX4_weightOfAll := goodIn_r _ [53, 19, 54, 58, 59, 60, 61, 62, 63, 64, 65, 66, 67, 68, 69, 70, 71, 72, 73, 74, 75, 76, 77, 78, 79, 80, 81, 82, 83, 84] (by decide +kernel) (by decide +kernel)
set_option maxRecDepth 20000 in
theorem gX4_odds_X4_weightOfAll : GoodIn wsX4_odds (wsV RX4 199 RX4 yX4_weightOfAll wsX4_weightOfAll) := goodIn_app (goodIn_of _ (by decide +kernel)) ggX4_odds_X4_weightOfAll
set_option maxRecDepth 20000 in
theorem ggX4_odds_X4_share : GoodIn wsX4_odds wsX4_share := goodIn_r _ [57] (by decide +kernel) (by decide +kernel)
set_option maxRecDepth 20000 in
theorem gX4_odds_X4_share : GoodIn wsX4_odds (va_wsS RX4 191 yX4_share wsX4_share) := goodIn_app (goodIn_of _ (by decide +kernel)) ggX4_odds_X4_share
theorem dX4_odds_0 : decode cX4_odds 0 = .ok (.aload_n 0, 1) := by decide +kernel
theorem dX4_odds_1 : decode cX4_odds 1 = .ok (.getfield 72, 3) := by decide +kernel
theorem dX4_odds_4 : decode cX4_odds 4 = .ok (.ifCond .eq 25, 3) := by decide +kernel
theorem dX4_odds_7 : decode cX4_odds 7 = .ok (.iload_n 1, 1) := by decide +kernel
theorem dX4_odds_8 : decode cX4_odds 8 = .ok (.i2l, 1) := by decide +kernel
theorem dX4_odds_9 : decode cX4_odds 9 = .ok (.lconst 0, 1) := by decide +kernel
theorem dX4_odds_10 : decode cX4_odds 10 = .ok (.ldc2_w 205, 3) := by decide +kernel
theorem dX4_odds_13 : decode cX4_odds 13 = .ok (.invokestatic 68, 3) := by decide +kernel
theorem dX4_odds_16 : decode cX4_odds 16 = .ok (.ifCond .eq 13, 3) := by decide +kernel
theorem dX4_odds_19 : decode cX4_odds 19 = .ok (.iload_n 2, 1) := by decide +kernel
theorem dX4_odds_20 : decode cX4_odds 20 = .ok (.i2l, 1) := by decide +kernel
theorem dX4_odds_21 : decode cX4_odds 21 = .ok (.lconst 0, 1) := by decide +kernel
theorem dX4_odds_22 : decode cX4_odds 22 = .ok (.lconst 1, 1) := by decide +kernel
theorem dX4_odds_23 : decode cX4_odds 23 = .ok (.invokestatic 68, 3) := by decide +kernel
theorem dX4_odds_26 : decode cX4_odds 26 = .ok (.ifCond .ne 7, 3) := by decide +kernel
theorem dX4_odds_29 : decode cX4_odds 29 = .ok (.invokestatic 61, 3) := by decide +kernel
theorem dX4_odds_32 : decode cX4_odds 32 = .ok (.lreturn, 1) := by decide +kernel
theorem dX4_odds_33 : decode cX4_odds 33 = .ok (.aload_n 0, 1) := by decide +kernel
theorem dX4_odds_34 : decode cX4_odds 34 = .ok (.iload_n 1, 1) := by decide +kernel
theorem dX4_odds_35 : decode cX4_odds 35 = .ok (.invokevirtual 202, 3) := by decide +kernel
theorem dX4_odds_38 : decode cX4_odds 38 = .ok (.aload_n 0, 1) := by decide +kernel
theorem dX4_odds_39 : decode cX4_odds 39 = .ok (.invokevirtual 199, 3) := by decide +kernel
theorem dX4_odds_42 : decode cX4_odds 42 = .ok (.iload_n 2, 1) := by decide +kernel
theorem dX4_odds_43 : decode cX4_odds 43 = .ok (.invokestatic 191, 3) := by decide +kernel
theorem dX4_odds_46 : decode cX4_odds 46 = .ok (.lreturn, 1) := by decide +kernel
set_option maxRecDepth 20000 in
theorem ggX4_noSheet_X4_in : GoodIn wsX4_noSheet wsX4_in := goodIn_r _ [5] (by decide +kernel) (by decide +kernel)
set_option maxRecDepth 20000 in
theorem gX4_noSheet_X4_in : GoodIn wsX4_noSheet (va_wsS RX4 68 yX4_in wsX4_in) := goodIn_app (goodIn_of _ (by decide +kernel)) ggX4_noSheet_X4_in
theorem dX4_noSheet_0 : decode cX4_noSheet 0 = .ok (.iload_n 0, 1) := by decide +kernel
theorem dX4_noSheet_1 : decode cX4_noSheet 1 = .ok (.i2l, 1) := by decide +kernel
theorem dX4_noSheet_2 : decode cX4_noSheet 2 = .ok (.lconst 0, 1) := by decide +kernel
theorem dX4_noSheet_3 : decode cX4_noSheet 3 = .ok (.ldc2_w 173, 3) := by decide +kernel
theorem dX4_noSheet_6 : decode cX4_noSheet 6 = .ok (.invokestatic 68, 3) := by decide +kernel
theorem dX4_noSheet_9 : decode cX4_noSheet 9 = .ok (.ifCond .ne 7, 3) := by decide +kernel
theorem dX4_noSheet_12 : decode cX4_noSheet 12 = .ok (.iconst 1, 1) := by decide +kernel
theorem dX4_noSheet_13 : decode cX4_noSheet 13 = .ok (.goto 4, 3) := by decide +kernel
theorem dX4_noSheet_16 : decode cX4_noSheet 16 = .ok (.iconst 0, 1) := by decide +kernel
theorem dX4_noSheet_17 : decode cX4_noSheet 17 = .ok (.ireturn, 1) := by decide +kernel
set_option maxRecDepth 20000 in
theorem ggX4_sheet_X4_noSheet : GoodIn wsX4_sheet wsX4_noSheet := goodIn_r _ [8, 9, 10, 11, 7, 12] (by decide +kernel) (by decide +kernel)
set_option maxRecDepth 20000 in
theorem gX4_sheet_X4_noSheet : GoodIn wsX4_sheet (va_wsS RX4 111 yX4_noSheet wsX4_noSheet) := goodIn_app (goodIn_of _ (by decide +kernel)) ggX4_sheet_X4_noSheet
set_option maxRecDepth 20000 in
theorem ggX4_sheet_X4_refused : GoodIn wsX4_sheet wsX4_refused := goodIn_r _ [16, 17, 22, 23, 24, 25, 26, 27, 28, 29, 30, 31, 32, 33, 34, 35, 36, 37, 38, 39, 40, 41, 42, 43, 44, 45, 46, 47, 48] (by decide +kernel) (by decide +kernel)
set_option maxRecDepth 20000 in
theorem gX4_sheet_X4_refused : GoodIn wsX4_sheet (wsV RX4 115 RX4 yX4_refused wsX4_refused) := goodIn_app (goodIn_of _ (by decide +kernel)) ggX4_sheet_X4_refused
set_option maxRecDepth 20000 in
theorem ggX4_sheet_X4_in : GoodIn wsX4_sheet wsX4_in := goodIn_r _ [12] (by decide +kernel) (by decide +kernel)
set_option maxRecDepth 20000 in
theorem gX4_sheet_X4_in : GoodIn wsX4_sheet (va_wsS RX4 68 yX4_in wsX4_in) := goodIn_app (goodIn_of _ (by decide +kernel)) ggX4_sheet_X4_in
set_option maxRecDepth 20000 in
theorem ggX4_sheet_X4_failed : GoodIn wsX4_sheet wsX4_failed := goodIn_r _ [21, 17, 22, 23, 24, 25, 26, 27, 28, 29, 30, 31, 32, 33, 34, 35, 36, 37, 38, 39, 40, 41, 42, 43, 44, 45, 46, 47, 48] (by decide +kernel) (by decide +kernel)
set_option maxRecDepth 20000 in
theorem gX4_sheet_X4_failed : GoodIn wsX4_sheet (wsV RX4 103 RX4 yX4_failed wsX4_failed) := goodIn_app (goodIn_of _ (by decide +kernel)) ggX4_sheet_X4_failed
theorem dX4_sheet_0 : decode cX4_sheet 0 = .ok (.iload_n 1, 1) := by decide +kernel
theorem dX4_sheet_1 : decode cX4_sheet 1 = .ok (.invokestatic 111, 3) := by decide +kernel
theorem dX4_sheet_4 : decode cX4_sheet 4 = .ok (.ifCond .eq 9, 3) := by decide +kernel
theorem dX4_sheet_7 : decode cX4_sheet 7 = .ok (.aload_n 0, 1) := by decide +kernel
theorem dX4_sheet_8 : decode cX4_sheet 8 = .ok (.iconst (-1), 1) := by decide +kernel
theorem dX4_sheet_9 : decode cX4_sheet 9 = .ok (.invokevirtual 115, 3) := by decide +kernel
theorem dX4_sheet_12 : decode cX4_sheet 12 = .ok (.ireturn, 1) := by decide +kernel
theorem dX4_sheet_13 : decode cX4_sheet 13 = .ok (.iload_n 2, 1) := by decide +kernel
theorem dX4_sheet_14 : decode cX4_sheet 14 = .ok (.i2l, 1) := by decide +kernel
theorem dX4_sheet_15 : decode cX4_sheet 15 = .ok (.lconst 0, 1) := by decide +kernel
theorem dX4_sheet_16 : decode cX4_sheet 16 = .ok (.ldc2_w 118, 3) := by decide +kernel
theorem dX4_sheet_19 : decode cX4_sheet 19 = .ok (.invokestatic 68, 3) := by decide +kernel
theorem dX4_sheet_22 : decode cX4_sheet 22 = .ok (.ifCond .eq 9, 3) := by decide +kernel
theorem dX4_sheet_25 : decode cX4_sheet 25 = .ok (.iload_n 3, 1) := by decide +kernel
theorem dX4_sheet_26 : decode cX4_sheet 26 = .ok (.bipush 60, 2) := by decide +kernel
theorem dX4_sheet_28 : decode cX4_sheet 28 = .ok (.if_icmp .le 10, 3) := by decide +kernel
theorem dX4_sheet_31 : decode cX4_sheet 31 = .ok (.aload_n 0, 1) := by decide +kernel
theorem dX4_sheet_32 : decode cX4_sheet 32 = .ok (.bipush (-2), 2) := by decide +kernel
theorem dX4_sheet_34 : decode cX4_sheet 34 = .ok (.invokevirtual 115, 3) := by decide +kernel
theorem dX4_sheet_37 : decode cX4_sheet 37 = .ok (.ireturn, 1) := by decide +kernel
theorem dX4_sheet_38 : decode cX4_sheet 38 = .ok (.iload_n 3, 1) := by decide +kernel
theorem dX4_sheet_39 : decode cX4_sheet 39 = .ok (.ifCond .ge 9, 3) := by decide +kernel
theorem dX4_sheet_42 : decode cX4_sheet 42 = .ok (.aload_n 0, 1) := by decide +kernel
theorem dX4_sheet_43 : decode cX4_sheet 43 = .ok (.iconst 4, 1) := by decide +kernel
theorem dX4_sheet_44 : decode cX4_sheet 44 = .ok (.invokevirtual 103, 3) := by decide +kernel
theorem dX4_sheet_47 : decode cX4_sheet 47 = .ok (.ireturn, 1) := by decide +kernel
theorem dX4_sheet_48 : decode cX4_sheet 48 = .ok (.aload_n 0, 1) := by decide +kernel
theorem dX4_sheet_49 : decode cX4_sheet 49 = .ok (.getfield 43, 3) := by decide +kernel
theorem dX4_sheet_52 : decode cX4_sheet 52 = .ok (.iload_n 1, 1) := by decide +kernel
theorem dX4_sheet_53 : decode cX4_sheet 53 = .ok (.iload_n 3, 1) := by decide +kernel
theorem dX4_sheet_54 : decode cX4_sheet 54 = .ok (.iastore, 1) := by decide +kernel
theorem dX4_sheet_55 : decode cX4_sheet 55 = .ok (.aload_n 0, 1) := by decide +kernel
theorem dX4_sheet_56 : decode cX4_sheet 56 = .ok (.getfield 46, 3) := by decide +kernel
theorem dX4_sheet_59 : decode cX4_sheet 59 = .ok (.iload_n 1, 1) := by decide +kernel
theorem dX4_sheet_60 : decode cX4_sheet 60 = .ok (.iload_n 2, 1) := by decide +kernel
theorem dX4_sheet_61 : decode cX4_sheet 61 = .ok (.iastore, 1) := by decide +kernel
theorem dX4_sheet_62 : decode cX4_sheet 62 = .ok (.iconst 0, 1) := by decide +kernel
theorem dX4_sheet_63 : decode cX4_sheet 63 = .ok (.istore 4, 2) := by decide +kernel
theorem dX4_sheet_65 : decode cX4_sheet 65 = .ok (.iload 4, 2) := by decide +kernel
theorem dX4_sheet_67 : decode cX4_sheet 67 = .ok (.iload_n 3, 1) := by decide +kernel
theorem dX4_sheet_68 : decode cX4_sheet 68 = .ok (.if_icmp .ge 22, 3) := by decide +kernel
theorem dX4_sheet_71 : decode cX4_sheet 71 = .ok (.aload_n 0, 1) := by decide +kernel
theorem dX4_sheet_72 : decode cX4_sheet 72 = .ok (.getfield 49, 3) := by decide +kernel
theorem dX4_sheet_75 : decode cX4_sheet 75 = .ok (.bipush 60, 2) := by decide +kernel
theorem dX4_sheet_77 : decode cX4_sheet 77 = .ok (.iload_n 1, 1) := by decide +kernel
theorem dX4_sheet_78 : decode cX4_sheet 78 = .ok (.imul, 1) := by decide +kernel
theorem dX4_sheet_79 : decode cX4_sheet 79 = .ok (.iload 4, 2) := by decide +kernel
theorem dX4_sheet_81 : decode cX4_sheet 81 = .ok (.iadd, 1) := by decide +kernel
theorem dX4_sheet_82 : decode cX4_sheet 82 = .ok (.iconst 0, 1) := by decide +kernel
theorem dX4_sheet_83 : decode cX4_sheet 83 = .ok (.iastore, 1) := by decide +kernel
theorem dX4_sheet_84 : decode cX4_sheet 84 = .ok (.iinc 4 1, 3) := by decide +kernel
theorem dX4_sheet_87 : decode cX4_sheet 87 = .ok (.goto (-22), 3) := by decide +kernel
theorem dX4_sheet_90 : decode cX4_sheet 90 = .ok (.aload_n 0, 1) := by decide +kernel
theorem dX4_sheet_91 : decode cX4_sheet 91 = .ok (.iconst 1, 1) := by decide +kernel
theorem dX4_sheet_92 : decode cX4_sheet 92 = .ok (.invokevirtual 115, 3) := by decide +kernel
theorem dX4_sheet_95 : decode cX4_sheet 95 = .ok (.ireturn, 1) := by decide +kernel
set_option maxRecDepth 20000 in
theorem ggX4_lose_X4_noSheet : GoodIn wsX4_lose wsX4_noSheet := goodIn_r _ [5, 6, 7, 8, 4, 9] (by decide +kernel) (by decide +kernel)
set_option maxRecDepth 20000 in
theorem gX4_lose_X4_noSheet : GoodIn wsX4_lose (va_wsS RX4 111 yX4_noSheet wsX4_noSheet) := goodIn_app (goodIn_of _ (by decide +kernel)) ggX4_lose_X4_noSheet
theorem dX4_lose_0 : decode cX4_lose 0 = .ok (.iload_n 1, 1) := by decide +kernel
theorem dX4_lose_1 : decode cX4_lose 1 = .ok (.invokestatic 111, 3) := by decide +kernel
theorem dX4_lose_4 : decode cX4_lose 4 = .ok (.ifCond .eq 5, 3) := by decide +kernel
theorem dX4_lose_7 : decode cX4_lose 7 = .ok (.iconst (-1), 1) := by decide +kernel
theorem dX4_lose_8 : decode cX4_lose 8 = .ok (.ireturn, 1) := by decide +kernel
theorem dX4_lose_9 : decode cX4_lose 9 = .ok (.aload_n 0, 1) := by decide +kernel
theorem dX4_lose_10 : decode cX4_lose 10 = .ok (.getfield 43, 3) := by decide +kernel
theorem dX4_lose_13 : decode cX4_lose 13 = .ok (.iload_n 1, 1) := by decide +kernel
theorem dX4_lose_14 : decode cX4_lose 14 = .ok (.iaload, 1) := by decide +kernel
theorem dX4_lose_15 : decode cX4_lose 15 = .ok (.ifCond .ge 7, 3) := by decide +kernel
theorem dX4_lose_18 : decode cX4_lose 18 = .ok (.iconst 0, 1) := by decide +kernel
theorem dX4_lose_19 : decode cX4_lose 19 = .ok (.goto 4, 3) := by decide +kernel
theorem dX4_lose_22 : decode cX4_lose 22 = .ok (.iconst 1, 1) := by decide +kernel
theorem dX4_lose_23 : decode cX4_lose 23 = .ok (.istore_n 2, 1) := by decide +kernel
theorem dX4_lose_24 : decode cX4_lose 24 = .ok (.aload_n 0, 1) := by decide +kernel
theorem dX4_lose_25 : decode cX4_lose 25 = .ok (.getfield 43, 3) := by decide +kernel
theorem dX4_lose_28 : decode cX4_lose 28 = .ok (.iload_n 1, 1) := by decide +kernel
theorem dX4_lose_29 : decode cX4_lose 29 = .ok (.iconst (-1), 1) := by decide +kernel
theorem dX4_lose_30 : decode cX4_lose 30 = .ok (.iastore, 1) := by decide +kernel
theorem dX4_lose_31 : decode cX4_lose 31 = .ok (.iload_n 2, 1) := by decide +kernel
theorem dX4_lose_32 : decode cX4_lose 32 = .ok (.ireturn, 1) := by decide +kernel
set_option maxRecDepth 20000 in
theorem ggX4_noCell_X4_in : GoodIn wsX4_noCell wsX4_in := goodIn_r _ [5] (by decide +kernel) (by decide +kernel)
set_option maxRecDepth 20000 in
theorem gX4_noCell_X4_in : GoodIn wsX4_noCell (va_wsS RX4 68 yX4_in wsX4_in) := goodIn_app (goodIn_of _ (by decide +kernel)) ggX4_noCell_X4_in
theorem dX4_noCell_0 : decode cX4_noCell 0 = .ok (.aload_n 0, 1) := by decide +kernel
theorem dX4_noCell_1 : decode cX4_noCell 1 = .ok (.getfield 43, 3) := by decide +kernel
theorem dX4_noCell_4 : decode cX4_noCell 4 = .ok (.iload_n 1, 1) := by decide +kernel
theorem dX4_noCell_5 : decode cX4_noCell 5 = .ok (.iaload, 1) := by decide +kernel
theorem dX4_noCell_6 : decode cX4_noCell 6 = .ok (.ifCond .ge 7, 3) := by decide +kernel
theorem dX4_noCell_9 : decode cX4_noCell 9 = .ok (.iconst 1, 1) := by decide +kernel
theorem dX4_noCell_10 : decode cX4_noCell 10 = .ok (.goto 26, 3) := by decide +kernel
theorem dX4_noCell_13 : decode cX4_noCell 13 = .ok (.iload_n 2, 1) := by decide +kernel
theorem dX4_noCell_14 : decode cX4_noCell 14 = .ok (.i2l, 1) := by decide +kernel
theorem dX4_noCell_15 : decode cX4_noCell 15 = .ok (.lconst 0, 1) := by decide +kernel
theorem dX4_noCell_16 : decode cX4_noCell 16 = .ok (.aload_n 0, 1) := by decide +kernel
theorem dX4_noCell_17 : decode cX4_noCell 17 = .ok (.getfield 43, 3) := by decide +kernel
theorem dX4_noCell_20 : decode cX4_noCell 20 = .ok (.iload_n 1, 1) := by decide +kernel
theorem dX4_noCell_21 : decode cX4_noCell 21 = .ok (.iaload, 1) := by decide +kernel
theorem dX4_noCell_22 : decode cX4_noCell 22 = .ok (.i2l, 1) := by decide +kernel
theorem dX4_noCell_23 : decode cX4_noCell 23 = .ok (.lconst 1, 1) := by decide +kernel
theorem dX4_noCell_24 : decode cX4_noCell 24 = .ok (.lsub, 1) := by decide +kernel
theorem dX4_noCell_25 : decode cX4_noCell 25 = .ok (.invokestatic 68, 3) := by decide +kernel
theorem dX4_noCell_28 : decode cX4_noCell 28 = .ok (.ifCond .eq 7, 3) := by decide +kernel
theorem dX4_noCell_31 : decode cX4_noCell 31 = .ok (.iconst 0, 1) := by decide +kernel
theorem dX4_noCell_32 : decode cX4_noCell 32 = .ok (.goto 4, 3) := by decide +kernel
theorem dX4_noCell_35 : decode cX4_noCell 35 = .ok (.iconst 3, 1) := by decide +kernel
theorem dX4_noCell_36 : decode cX4_noCell 36 = .ok (.ireturn, 1) := by decide +kernel
set_option maxRecDepth 20000 in
theorem ggX4_put_X4_noSheet : GoodIn wsX4_put wsX4_noSheet := goodIn_r _ [6, 7, 8, 9, 5, 10] (by decide +kernel) (by decide +kernel)
set_option maxRecDepth 20000 in
theorem gX4_put_X4_noSheet : GoodIn wsX4_put (va_wsS RX4 111 yX4_noSheet wsX4_noSheet) := goodIn_app (goodIn_of _ (by decide +kernel)) ggX4_put_X4_noSheet
set_option maxRecDepth 20000 in
theorem ggX4_put_X4_refused : GoodIn wsX4_put wsX4_refused := goodIn_r _ [14, 15, 25, 26, 27, 28, 29, 30, 31, 32, 33, 34, 35, 36, 37, 38, 39, 40, 41, 42, 43, 44, 45, 46, 47, 48, 49, 50, 51] (by decide +kernel) (by decide +kernel)
set_option maxRecDepth 20000 in
theorem gX4_put_X4_refused : GoodIn wsX4_put (wsV RX4 115 RX4 yX4_refused wsX4_refused) := goodIn_app (goodIn_of _ (by decide +kernel)) ggX4_put_X4_refused
set_option maxRecDepth 20000 in
theorem ggX4_put_X4_noCell : GoodIn wsX4_put wsX4_noCell := goodIn_r _ [19, 20, 8, 9, 5, 10, 25, 26, 27, 28, 29, 30, 31, 32, 33, 34, 35, 36, 37, 38, 39, 40, 41, 42, 43, 44, 45, 46, 47, 48, 49, 50, 51] (by decide +kernel) (by decide +kernel)
set_option maxRecDepth 20000 in
theorem gX4_put_X4_noCell : GoodIn wsX4_put (wsV RX4 211 RX4 yX4_noCell wsX4_noCell) := goodIn_app (goodIn_of _ (by decide +kernel)) ggX4_put_X4_noCell
set_option maxRecDepth 20000 in
theorem ggX4_put_X4_failed : GoodIn wsX4_put wsX4_failed := goodIn_r _ [24, 15, 25, 26, 27, 28, 29, 30, 31, 32, 33, 34, 35, 36, 37, 38, 39, 40, 41, 42, 43, 44, 45, 46, 47, 48, 49, 50, 51] (by decide +kernel) (by decide +kernel)
set_option maxRecDepth 20000 in
theorem gX4_put_X4_failed : GoodIn wsX4_put (wsV RX4 103 RX4 yX4_failed wsX4_failed) := goodIn_app (goodIn_of _ (by decide +kernel)) ggX4_put_X4_failed
theorem dX4_put_0 : decode cX4_put 0 = .ok (.iload_n 1, 1) := by decide +kernel
theorem dX4_put_1 : decode cX4_put 1 = .ok (.invokestatic 111, 3) := by decide +kernel
theorem dX4_put_4 : decode cX4_put 4 = .ok (.ifCond .eq 9, 3) := by decide +kernel
theorem dX4_put_7 : decode cX4_put 7 = .ok (.aload_n 0, 1) := by decide +kernel
theorem dX4_put_8 : decode cX4_put 8 = .ok (.iconst (-1), 1) := by decide +kernel
theorem dX4_put_9 : decode cX4_put 9 = .ok (.invokevirtual 115, 3) := by decide +kernel
theorem dX4_put_12 : decode cX4_put 12 = .ok (.ireturn, 1) := by decide +kernel
theorem dX4_put_13 : decode cX4_put 13 = .ok (.aload_n 0, 1) := by decide +kernel
theorem dX4_put_14 : decode cX4_put 14 = .ok (.iload_n 1, 1) := by decide +kernel
theorem dX4_put_15 : decode cX4_put 15 = .ok (.iload_n 2, 1) := by decide +kernel
theorem dX4_put_16 : decode cX4_put 16 = .ok (.invokevirtual 211, 3) := by decide +kernel
theorem dX4_put_19 : decode cX4_put 19 = .ok (.ifCond .le 14, 3) := by decide +kernel
theorem dX4_put_22 : decode cX4_put 22 = .ok (.aload_n 0, 1) := by decide +kernel
theorem dX4_put_23 : decode cX4_put 23 = .ok (.aload_n 0, 1) := by decide +kernel
theorem dX4_put_24 : decode cX4_put 24 = .ok (.iload_n 1, 1) := by decide +kernel
theorem dX4_put_25 : decode cX4_put 25 = .ok (.iload_n 2, 1) := by decide +kernel
theorem dX4_put_26 : decode cX4_put 26 = .ok (.invokevirtual 211, 3) := by decide +kernel
theorem dX4_put_29 : decode cX4_put 29 = .ok (.invokevirtual 103, 3) := by decide +kernel
theorem dX4_put_32 : decode cX4_put 32 = .ok (.ireturn, 1) := by decide +kernel
theorem dX4_put_33 : decode cX4_put 33 = .ok (.aload_n 0, 1) := by decide +kernel
theorem dX4_put_34 : decode cX4_put 34 = .ok (.getfield 49, 3) := by decide +kernel
theorem dX4_put_37 : decode cX4_put 37 = .ok (.bipush 60, 2) := by decide +kernel
theorem dX4_put_39 : decode cX4_put 39 = .ok (.iload_n 1, 1) := by decide +kernel
theorem dX4_put_40 : decode cX4_put 40 = .ok (.imul, 1) := by decide +kernel
theorem dX4_put_41 : decode cX4_put 41 = .ok (.iload_n 2, 1) := by decide +kernel
theorem dX4_put_42 : decode cX4_put 42 = .ok (.iadd, 1) := by decide +kernel
theorem dX4_put_43 : decode cX4_put 43 = .ok (.aload_n 0, 1) := by decide +kernel
theorem dX4_put_44 : decode cX4_put 44 = .ok (.getfield 46, 3) := by decide +kernel
theorem dX4_put_47 : decode cX4_put 47 = .ok (.iload_n 1, 1) := by decide +kernel
theorem dX4_put_48 : decode cX4_put 48 = .ok (.iaload, 1) := by decide +kernel
theorem dX4_put_49 : decode cX4_put 49 = .ok (.ifCond .ne 8, 3) := by decide +kernel
theorem dX4_put_52 : decode cX4_put 52 = .ok (.iload_n 3, 1) := by decide +kernel
theorem dX4_put_53 : decode cX4_put 53 = .ok (.i2b, 1) := by decide +kernel
theorem dX4_put_54 : decode cX4_put 54 = .ok (.goto 19, 3) := by decide +kernel
theorem dX4_put_57 : decode cX4_put 57 = .ok (.aload_n 0, 1) := by decide +kernel
theorem dX4_put_58 : decode cX4_put 58 = .ok (.getfield 46, 3) := by decide +kernel
theorem dX4_put_61 : decode cX4_put 61 = .ok (.iload_n 1, 1) := by decide +kernel
theorem dX4_put_62 : decode cX4_put 62 = .ok (.iaload, 1) := by decide +kernel
theorem dX4_put_63 : decode cX4_put 63 = .ok (.iconst 1, 1) := by decide +kernel
theorem dX4_put_64 : decode cX4_put 64 = .ok (.if_icmp .ne 8, 3) := by decide +kernel
theorem dX4_put_67 : decode cX4_put 67 = .ok (.iload_n 3, 1) := by decide +kernel
theorem dX4_put_68 : decode cX4_put 68 = .ok (.i2s, 1) := by decide +kernel
theorem dX4_put_69 : decode cX4_put 69 = .ok (.goto 4, 3) := by decide +kernel
theorem dX4_put_72 : decode cX4_put 72 = .ok (.iload_n 3, 1) := by decide +kernel
theorem dX4_put_73 : decode cX4_put 73 = .ok (.iastore, 1) := by decide +kernel
theorem dX4_put_74 : decode cX4_put 74 = .ok (.aload_n 0, 1) := by decide +kernel
theorem dX4_put_75 : decode cX4_put 75 = .ok (.iconst 1, 1) := by decide +kernel
theorem dX4_put_76 : decode cX4_put 76 = .ok (.invokevirtual 115, 3) := by decide +kernel
theorem dX4_put_79 : decode cX4_put 79 = .ok (.ireturn, 1) := by decide +kernel
set_option maxRecDepth 20000 in
theorem ggX4_cell_X4_noSheet : GoodIn wsX4_cell wsX4_noSheet := goodIn_r _ [9, 10, 11, 12, 8, 13] (by decide +kernel) (by decide +kernel)
set_option maxRecDepth 20000 in
theorem gX4_cell_X4_noSheet : GoodIn wsX4_cell (va_wsS RX4 111 yX4_noSheet wsX4_noSheet) := goodIn_app (goodIn_of _ (by decide +kernel)) ggX4_cell_X4_noSheet
set_option maxRecDepth 20000 in
theorem ggX4_cell_X4_in : GoodIn wsX4_cell wsX4_in := goodIn_r _ [13] (by decide +kernel) (by decide +kernel)
set_option maxRecDepth 20000 in
theorem gX4_cell_X4_in : GoodIn wsX4_cell (va_wsS RX4 68 yX4_in wsX4_in) := goodIn_app (goodIn_of _ (by decide +kernel)) ggX4_cell_X4_in
set_option maxRecDepth 20000 in
theorem ggX4_cell_X4_lost : GoodIn wsX4_cell wsX4_lost := goodIn_r _ [16, 17] (by decide +kernel) (by decide +kernel)
set_option maxRecDepth 20000 in
theorem gX4_cell_X4_lost : GoodIn wsX4_cell (va_wsS RX4 61 yX4_lost wsX4_lost) := goodIn_app (goodIn_of _ (by decide +kernel)) ggX4_cell_X4_lost
set_option maxRecDepth 20000 in
theorem ggX4_cell_X4_failedLong : GoodIn wsX4_cell wsX4_failedLong := goodIn_r _ [21, 1, 14, 15, 8, 16, 17, 26, 27, 28, 29, 30, 31, 32, 33, 34, 35, 36, 37, 38, 39, 40, 41, 42, 43, 44, 45, 46, 47, 48, 49, 50, 51, 52] (by decide +kernel) (by decide +kernel)
set_option maxRecDepth 20000 in
theorem gX4_cell_X4_failedLong : GoodIn wsX4_cell (wsV RX4 214 RX4 yX4_failedLong wsX4_failedLong) := goodIn_app (goodIn_of _ (by decide +kernel)) ggX4_cell_X4_failedLong
set_option maxRecDepth 20000 in
theorem ggX4_cell_X4_noCell : GoodIn wsX4_cell wsX4_noCell := goodIn_r _ [25, 3, 11, 12, 8, 13, 26, 27, 28, 29, 30, 31, 32, 33, 34, 35, 36, 37, 38, 39, 40, 41, 42, 43, 44, 45, 46, 47, 48, 49, 50, 51, 52] (by decide +kernel) (by decide +kernel)
set_option maxRecDepth 20000 in
theorem gX4_cell_X4_noCell : GoodIn wsX4_cell (wsV RX4 211 RX4 yX4_noCell wsX4_noCell) := goodIn_app (goodIn_of _ (by decide +kernel)) ggX4_cell_X4_noCell
theorem dX4_cell_0 : decode cX4_cell 0 = .ok (.aload_n 0, 1) := by decide +kernel
theorem dX4_cell_1 : decode cX4_cell 1 = .ok (.iconst 0, 1) := by decide +kernel
theorem dX4_cell_2 : decode cX4_cell 2 = .ok (.putfield 57, 3) := by decide +kernel
theorem dX4_cell_5 : decode cX4_cell 5 = .ok (.iload_n 1, 1) := by decide +kernel
theorem dX4_cell_6 : decode cX4_cell 6 = .ok (.invokestatic 111, 3) := by decide +kernel
theorem dX4_cell_9 : decode cX4_cell 9 = .ok (.ifCond .ne 15, 3) := by decide +kernel
theorem dX4_cell_12 : decode cX4_cell 12 = .ok (.iload_n 3, 1) := by decide +kernel
theorem dX4_cell_13 : decode cX4_cell 13 = .ok (.i2l, 1) := by decide +kernel
theorem dX4_cell_14 : decode cX4_cell 14 = .ok (.lconst 0, 1) := by decide +kernel
theorem dX4_cell_15 : decode cX4_cell 15 = .ok (.ldc2_w 118, 3) := by decide +kernel
theorem dX4_cell_18 : decode cX4_cell 18 = .ok (.invokestatic 68, 3) := by decide +kernel
theorem dX4_cell_21 : decode cX4_cell 21 = .ok (.ifCond .ne 7, 3) := by decide +kernel
theorem dX4_cell_24 : decode cX4_cell 24 = .ok (.invokestatic 61, 3) := by decide +kernel
theorem dX4_cell_27 : decode cX4_cell 27 = .ok (.lreturn, 1) := by decide +kernel
theorem dX4_cell_28 : decode cX4_cell 28 = .ok (.aload_n 0, 1) := by decide +kernel
theorem dX4_cell_29 : decode cX4_cell 29 = .ok (.getfield 43, 3) := by decide +kernel
theorem dX4_cell_32 : decode cX4_cell 32 = .ok (.iload_n 1, 1) := by decide +kernel
theorem dX4_cell_33 : decode cX4_cell 33 = .ok (.iaload, 1) := by decide +kernel
theorem dX4_cell_34 : decode cX4_cell 34 = .ok (.ifCond .lt 19, 3) := by decide +kernel
theorem dX4_cell_37 : decode cX4_cell 37 = .ok (.aload_n 0, 1) := by decide +kernel
theorem dX4_cell_38 : decode cX4_cell 38 = .ok (.getfield 46, 3) := by decide +kernel
theorem dX4_cell_41 : decode cX4_cell 41 = .ok (.iload_n 1, 1) := by decide +kernel
theorem dX4_cell_42 : decode cX4_cell 42 = .ok (.iaload, 1) := by decide +kernel
theorem dX4_cell_43 : decode cX4_cell 43 = .ok (.iload_n 3, 1) := by decide +kernel
theorem dX4_cell_44 : decode cX4_cell 44 = .ok (.if_icmp .eq 9, 3) := by decide +kernel
theorem dX4_cell_47 : decode cX4_cell 47 = .ok (.aload_n 0, 1) := by decide +kernel
theorem dX4_cell_48 : decode cX4_cell 48 = .ok (.iconst 2, 1) := by decide +kernel
theorem dX4_cell_49 : decode cX4_cell 49 = .ok (.invokevirtual 214, 3) := by decide +kernel
theorem dX4_cell_52 : decode cX4_cell 52 = .ok (.lreturn, 1) := by decide +kernel
theorem dX4_cell_53 : decode cX4_cell 53 = .ok (.aload_n 0, 1) := by decide +kernel
theorem dX4_cell_54 : decode cX4_cell 54 = .ok (.iload_n 1, 1) := by decide +kernel
theorem dX4_cell_55 : decode cX4_cell 55 = .ok (.iload_n 2, 1) := by decide +kernel
theorem dX4_cell_56 : decode cX4_cell 56 = .ok (.invokevirtual 211, 3) := by decide +kernel
theorem dX4_cell_59 : decode cX4_cell 59 = .ok (.ifCond .le 16, 3) := by decide +kernel
theorem dX4_cell_62 : decode cX4_cell 62 = .ok (.aload_n 0, 1) := by decide +kernel
theorem dX4_cell_63 : decode cX4_cell 63 = .ok (.aload_n 0, 1) := by decide +kernel
theorem dX4_cell_64 : decode cX4_cell 64 = .ok (.iload_n 1, 1) := by decide +kernel
theorem dX4_cell_65 : decode cX4_cell 65 = .ok (.iload_n 2, 1) := by decide +kernel
theorem dX4_cell_66 : decode cX4_cell 66 = .ok (.invokevirtual 211, 3) := by decide +kernel
theorem dX4_cell_69 : decode cX4_cell 69 = .ok (.invokevirtual 214, 3) := by decide +kernel
theorem dX4_cell_72 : decode cX4_cell 72 = .ok (.goto 15, 3) := by decide +kernel
theorem dX4_cell_75 : decode cX4_cell 75 = .ok (.aload_n 0, 1) := by decide +kernel
theorem dX4_cell_76 : decode cX4_cell 76 = .ok (.getfield 49, 3) := by decide +kernel
theorem dX4_cell_79 : decode cX4_cell 79 = .ok (.bipush 60, 2) := by decide +kernel
theorem dX4_cell_81 : decode cX4_cell 81 = .ok (.iload_n 1, 1) := by decide +kernel
theorem dX4_cell_82 : decode cX4_cell 82 = .ok (.imul, 1) := by decide +kernel
theorem dX4_cell_83 : decode cX4_cell 83 = .ok (.iload_n 2, 1) := by decide +kernel
theorem dX4_cell_84 : decode cX4_cell 84 = .ok (.iadd, 1) := by decide +kernel
theorem dX4_cell_85 : decode cX4_cell 85 = .ok (.iaload, 1) := by decide +kernel
theorem dX4_cell_86 : decode cX4_cell 86 = .ok (.i2l, 1) := by decide +kernel
theorem dX4_cell_87 : decode cX4_cell 87 = .ok (.lreturn, 1) := by decide +kernel
theorem dX4_isBeyond_0 : decode cX4_isBeyond 0 = .ok (.iload_n 0, 1) := by decide +kernel
theorem dX4_isBeyond_1 : decode cX4_isBeyond 1 = .ok (.ifCond .lt 19, 3) := by decide +kernel
theorem dX4_isBeyond_4 : decode cX4_isBeyond 4 = .ok (.lload_n 1, 1) := by decide +kernel
theorem dX4_isBeyond_5 : decode cX4_isBeyond 5 = .ok (.lconst 0, 1) := by decide +kernel
theorem dX4_isBeyond_6 : decode cX4_isBeyond 6 = .ok (.lcmp, 1) := by decide +kernel
theorem dX4_isBeyond_7 : decode cX4_isBeyond 7 = .ok (.ifCond .lt 13, 3) := by decide +kernel
theorem dX4_isBeyond_10 : decode cX4_isBeyond 10 = .ok (.iload_n 0, 1) := by decide +kernel
theorem dX4_isBeyond_11 : decode cX4_isBeyond 11 = .ok (.i2l, 1) := by decide +kernel
theorem dX4_isBeyond_12 : decode cX4_isBeyond 12 = .ok (.lload_n 1, 1) := by decide +kernel
theorem dX4_isBeyond_13 : decode cX4_isBeyond 13 = .ok (.ladd, 1) := by decide +kernel
theorem dX4_isBeyond_14 : decode cX4_isBeyond 14 = .ok (.iload_n 3, 1) := by decide +kernel
theorem dX4_isBeyond_15 : decode cX4_isBeyond 15 = .ok (.i2l, 1) := by decide +kernel
theorem dX4_isBeyond_16 : decode cX4_isBeyond 16 = .ok (.lcmp, 1) := by decide +kernel
theorem dX4_isBeyond_17 : decode cX4_isBeyond 17 = .ok (.ifCond .le 7, 3) := by decide +kernel
theorem dX4_isBeyond_20 : decode cX4_isBeyond 20 = .ok (.iconst 1, 1) := by decide +kernel
theorem dX4_isBeyond_21 : decode cX4_isBeyond 21 = .ok (.goto 4, 3) := by decide +kernel
theorem dX4_isBeyond_24 : decode cX4_isBeyond 24 = .ok (.iconst 0, 1) := by decide +kernel
theorem dX4_isBeyond_25 : decode cX4_isBeyond 25 = .ok (.ireturn, 1) := by decide +kernel
set_option maxRecDepth 20000 in
theorem ggX4_copy_X4_noSheet : GoodIn wsX4_copy wsX4_noSheet := goodIn_r _ [8, 9, 10, 11, 7, 12] (by decide +kernel) (by decide +kernel)
set_option maxRecDepth 20000 in
theorem gX4_copy_X4_noSheet : GoodIn wsX4_copy (va_wsS RX4 111 yX4_noSheet wsX4_noSheet) := goodIn_app (goodIn_of _ (by decide +kernel)) ggX4_copy_X4_noSheet
set_option maxRecDepth 20000 in
theorem ggX4_copy_X4_refused : GoodIn wsX4_copy wsX4_refused := goodIn_r _ [16, 17, 25, 26, 27, 28, 29, 30, 31, 32, 33, 34, 35, 36, 37, 38, 39, 40, 41, 42, 43, 44, 45, 46, 47, 48, 49, 50, 51] (by decide +kernel) (by decide +kernel)
set_option maxRecDepth 20000 in
theorem gX4_copy_X4_refused : GoodIn wsX4_copy (wsV RX4 115 RX4 yX4_refused wsX4_refused) := goodIn_app (goodIn_of _ (by decide +kernel)) ggX4_copy_X4_refused
set_option maxRecDepth 20000 in
theorem ggX4_copy_X4_failed : GoodIn wsX4_copy wsX4_failed := goodIn_r _ [21, 17, 25, 26, 27, 28, 29, 30, 31, 32, 33, 34, 35, 36, 37, 38, 39, 40, 41, 42, 43, 44, 45, 46, 47, 48, 49, 50, 51] (by decide +kernel) (by decide +kernel)
set_option maxRecDepth 20000 in
theorem gX4_copy_X4_failed : GoodIn wsX4_copy (wsV RX4 103 RX4 yX4_failed wsX4_failed) := goodIn_app (goodIn_of _ (by decide +kernel)) ggX4_copy_X4_failed
set_option maxRecDepth 20000 in
theorem ggX4_copy_X4_isBeyond : GoodIn wsX4_copy wsX4_isBeyond := goodIn_r _ [24] (by decide +kernel) (by decide +kernel)
set_option maxRecDepth 20000 in
theorem gX4_copy_X4_isBeyond : GoodIn wsX4_copy (va_wsS RX4 107 yX4_isBeyond wsX4_isBeyond) := goodIn_app (goodIn_of _ (by decide +kernel)) ggX4_copy_X4_isBeyond
theorem dX4_copy_0 : decode cX4_copy 0 = .ok (.iload_n 1, 1) := by decide +kernel
theorem dX4_copy_1 : decode cX4_copy 1 = .ok (.invokestatic 111, 3) := by decide +kernel
theorem dX4_copy_4 : decode cX4_copy 4 = .ok (.ifCond .ne 10, 3) := by decide +kernel
theorem dX4_copy_7 : decode cX4_copy 7 = .ok (.iload_n 3, 1) := by decide +kernel
theorem dX4_copy_8 : decode cX4_copy 8 = .ok (.invokestatic 111, 3) := by decide +kernel
theorem dX4_copy_11 : decode cX4_copy 11 = .ok (.ifCond .eq 9, 3) := by decide +kernel
theorem dX4_copy_14 : decode cX4_copy 14 = .ok (.aload_n 0, 1) := by decide +kernel
theorem dX4_copy_15 : decode cX4_copy 15 = .ok (.iconst (-1), 1) := by decide +kernel
theorem dX4_copy_16 : decode cX4_copy 16 = .ok (.invokevirtual 115, 3) := by decide +kernel
theorem dX4_copy_19 : decode cX4_copy 19 = .ok (.ireturn, 1) := by decide +kernel
theorem dX4_copy_20 : decode cX4_copy 20 = .ok (.aload_n 0, 1) := by decide +kernel
theorem dX4_copy_21 : decode cX4_copy 21 = .ok (.getfield 43, 3) := by decide +kernel
theorem dX4_copy_24 : decode cX4_copy 24 = .ok (.iload_n 1, 1) := by decide +kernel
theorem dX4_copy_25 : decode cX4_copy 25 = .ok (.iaload, 1) := by decide +kernel
theorem dX4_copy_26 : decode cX4_copy 26 = .ok (.ifCond .lt 12, 3) := by decide +kernel
theorem dX4_copy_29 : decode cX4_copy 29 = .ok (.aload_n 0, 1) := by decide +kernel
theorem dX4_copy_30 : decode cX4_copy 30 = .ok (.getfield 43, 3) := by decide +kernel
theorem dX4_copy_33 : decode cX4_copy 33 = .ok (.iload_n 3, 1) := by decide +kernel
theorem dX4_copy_34 : decode cX4_copy 34 = .ok (.iaload, 1) := by decide +kernel
theorem dX4_copy_35 : decode cX4_copy 35 = .ok (.ifCond .ge 9, 3) := by decide +kernel
theorem dX4_copy_38 : decode cX4_copy 38 = .ok (.aload_n 0, 1) := by decide +kernel
theorem dX4_copy_39 : decode cX4_copy 39 = .ok (.iconst 1, 1) := by decide +kernel
theorem dX4_copy_40 : decode cX4_copy 40 = .ok (.invokevirtual 103, 3) := by decide +kernel
theorem dX4_copy_43 : decode cX4_copy 43 = .ok (.ireturn, 1) := by decide +kernel
theorem dX4_copy_44 : decode cX4_copy 44 = .ok (.aload_n 0, 1) := by decide +kernel
theorem dX4_copy_45 : decode cX4_copy 45 = .ok (.getfield 46, 3) := by decide +kernel
theorem dX4_copy_48 : decode cX4_copy 48 = .ok (.iload_n 1, 1) := by decide +kernel
theorem dX4_copy_49 : decode cX4_copy 49 = .ok (.iaload, 1) := by decide +kernel
theorem dX4_copy_50 : decode cX4_copy 50 = .ok (.aload_n 0, 1) := by decide +kernel
theorem dX4_copy_51 : decode cX4_copy 51 = .ok (.getfield 46, 3) := by decide +kernel
theorem dX4_copy_54 : decode cX4_copy 54 = .ok (.iload_n 3, 1) := by decide +kernel
theorem dX4_copy_55 : decode cX4_copy 55 = .ok (.iaload, 1) := by decide +kernel
theorem dX4_copy_56 : decode cX4_copy 56 = .ok (.if_icmp .eq 9, 3) := by decide +kernel
theorem dX4_copy_59 : decode cX4_copy 59 = .ok (.aload_n 0, 1) := by decide +kernel
theorem dX4_copy_60 : decode cX4_copy 60 = .ok (.iconst 2, 1) := by decide +kernel
theorem dX4_copy_61 : decode cX4_copy 61 = .ok (.invokevirtual 103, 3) := by decide +kernel
theorem dX4_copy_64 : decode cX4_copy 64 = .ok (.ireturn, 1) := by decide +kernel
theorem dX4_copy_65 : decode cX4_copy 65 = .ok (.iload_n 2, 1) := by decide +kernel
theorem dX4_copy_66 : decode cX4_copy 66 = .ok (.iload 5, 2) := by decide +kernel
theorem dX4_copy_68 : decode cX4_copy 68 = .ok (.i2l, 1) := by decide +kernel
theorem dX4_copy_69 : decode cX4_copy 69 = .ok (.aload_n 0, 1) := by decide +kernel
theorem dX4_copy_70 : decode cX4_copy 70 = .ok (.getfield 43, 3) := by decide +kernel
theorem dX4_copy_73 : decode cX4_copy 73 = .ok (.iload_n 1, 1) := by decide +kernel
theorem dX4_copy_74 : decode cX4_copy 74 = .ok (.iaload, 1) := by decide +kernel
theorem dX4_copy_75 : decode cX4_copy 75 = .ok (.invokestatic 107, 3) := by decide +kernel
theorem dX4_copy_78 : decode cX4_copy 78 = .ok (.ifCond .ne 20, 3) := by decide +kernel
theorem dX4_copy_81 : decode cX4_copy 81 = .ok (.iload 4, 2) := by decide +kernel
theorem dX4_copy_83 : decode cX4_copy 83 = .ok (.iload 5, 2) := by decide +kernel
theorem dX4_copy_85 : decode cX4_copy 85 = .ok (.i2l, 1) := by decide +kernel
theorem dX4_copy_86 : decode cX4_copy 86 = .ok (.aload_n 0, 1) := by decide +kernel
theorem dX4_copy_87 : decode cX4_copy 87 = .ok (.getfield 43, 3) := by decide +kernel
theorem dX4_copy_90 : decode cX4_copy 90 = .ok (.iload_n 3, 1) := by decide +kernel
theorem dX4_copy_91 : decode cX4_copy 91 = .ok (.iaload, 1) := by decide +kernel
theorem dX4_copy_92 : decode cX4_copy 92 = .ok (.invokestatic 107, 3) := by decide +kernel
theorem dX4_copy_95 : decode cX4_copy 95 = .ok (.ifCond .eq 9, 3) := by decide +kernel
theorem dX4_copy_98 : decode cX4_copy 98 = .ok (.aload_n 0, 1) := by decide +kernel
theorem dX4_copy_99 : decode cX4_copy 99 = .ok (.iconst 3, 1) := by decide +kernel
theorem dX4_copy_100 : decode cX4_copy 100 = .ok (.invokevirtual 103, 3) := by decide +kernel
theorem dX4_copy_103 : decode cX4_copy 103 = .ok (.ireturn, 1) := by decide +kernel
theorem dX4_copy_104 : decode cX4_copy 104 = .ok (.iconst 0, 1) := by decide +kernel
theorem dX4_copy_105 : decode cX4_copy 105 = .ok (.istore 6, 2) := by decide +kernel
theorem dX4_copy_107 : decode cX4_copy 107 = .ok (.iload 6, 2) := by decide +kernel
theorem dX4_copy_109 : decode cX4_copy 109 = .ok (.iload 5, 2) := by decide +kernel
theorem dX4_copy_111 : decode cX4_copy 111 = .ok (.if_icmp .ge 30, 3) := by decide +kernel
theorem dX4_copy_114 : decode cX4_copy 114 = .ok (.aload_n 0, 1) := by decide +kernel
theorem dX4_copy_115 : decode cX4_copy 115 = .ok (.getfield 52, 3) := by decide +kernel
theorem dX4_copy_118 : decode cX4_copy 118 = .ok (.iload 6, 2) := by decide +kernel
theorem dX4_copy_120 : decode cX4_copy 120 = .ok (.aload_n 0, 1) := by decide +kernel
theorem dX4_copy_121 : decode cX4_copy 121 = .ok (.getfield 49, 3) := by decide +kernel
theorem dX4_copy_124 : decode cX4_copy 124 = .ok (.bipush 60, 2) := by decide +kernel
theorem dX4_copy_126 : decode cX4_copy 126 = .ok (.iload_n 1, 1) := by decide +kernel
theorem dX4_copy_127 : decode cX4_copy 127 = .ok (.imul, 1) := by decide +kernel
theorem dX4_copy_128 : decode cX4_copy 128 = .ok (.iload_n 2, 1) := by decide +kernel
theorem dX4_copy_129 : decode cX4_copy 129 = .ok (.iadd, 1) := by decide +kernel
theorem dX4_copy_130 : decode cX4_copy 130 = .ok (.iload 6, 2) := by decide +kernel
theorem dX4_copy_132 : decode cX4_copy 132 = .ok (.iadd, 1) := by decide +kernel
theorem dX4_copy_133 : decode cX4_copy 133 = .ok (.iaload, 1) := by decide +kernel
theorem dX4_copy_134 : decode cX4_copy 134 = .ok (.iastore, 1) := by decide +kernel
theorem dX4_copy_135 : decode cX4_copy 135 = .ok (.iinc 6 1, 3) := by decide +kernel
theorem dX4_copy_138 : decode cX4_copy 138 = .ok (.goto (-31), 3) := by decide +kernel
theorem dX4_copy_141 : decode cX4_copy 141 = .ok (.iconst 0, 1) := by decide +kernel
theorem dX4_copy_142 : decode cX4_copy 142 = .ok (.istore 6, 2) := by decide +kernel
theorem dX4_copy_144 : decode cX4_copy 144 = .ok (.iload 6, 2) := by decide +kernel
theorem dX4_copy_146 : decode cX4_copy 146 = .ok (.iload 5, 2) := by decide +kernel
theorem dX4_copy_148 : decode cX4_copy 148 = .ok (.if_icmp .ge 31, 3) := by decide +kernel
theorem dX4_copy_151 : decode cX4_copy 151 = .ok (.aload_n 0, 1) := by decide +kernel
theorem dX4_copy_152 : decode cX4_copy 152 = .ok (.getfield 49, 3) := by decide +kernel
theorem dX4_copy_155 : decode cX4_copy 155 = .ok (.bipush 60, 2) := by decide +kernel
theorem dX4_copy_157 : decode cX4_copy 157 = .ok (.iload_n 3, 1) := by decide +kernel
theorem dX4_copy_158 : decode cX4_copy 158 = .ok (.imul, 1) := by decide +kernel
theorem dX4_copy_159 : decode cX4_copy 159 = .ok (.iload 4, 2) := by decide +kernel
theorem dX4_copy_161 : decode cX4_copy 161 = .ok (.iadd, 1) := by decide +kernel
theorem dX4_copy_162 : decode cX4_copy 162 = .ok (.iload 6, 2) := by decide +kernel
theorem dX4_copy_164 : decode cX4_copy 164 = .ok (.iadd, 1) := by decide +kernel
theorem dX4_copy_165 : decode cX4_copy 165 = .ok (.aload_n 0, 1) := by decide +kernel
theorem dX4_copy_166 : decode cX4_copy 166 = .ok (.getfield 52, 3) := by decide +kernel
theorem dX4_copy_169 : decode cX4_copy 169 = .ok (.iload 6, 2) := by decide +kernel
theorem dX4_copy_171 : decode cX4_copy 171 = .ok (.iaload, 1) := by decide +kernel
theorem dX4_copy_172 : decode cX4_copy 172 = .ok (.iastore, 1) := by decide +kernel
theorem dX4_copy_173 : decode cX4_copy 173 = .ok (.iinc 6 1, 3) := by decide +kernel
theorem dX4_copy_176 : decode cX4_copy 176 = .ok (.goto (-32), 3) := by decide +kernel
theorem dX4_copy_179 : decode cX4_copy 179 = .ok (.aload_n 0, 1) := by decide +kernel
theorem dX4_copy_180 : decode cX4_copy 180 = .ok (.iload 5, 2) := by decide +kernel
theorem dX4_copy_182 : decode cX4_copy 182 = .ok (.invokevirtual 115, 3) := by decide +kernel
theorem dX4_copy_185 : decode cX4_copy 185 = .ok (.ireturn, 1) := by decide +kernel
theorem dX4_traced_0 : decode cX4_traced 0 = .ok (.aload_n 0, 1) := by decide +kernel
theorem dX4_traced_1 : decode cX4_traced 1 = .ok (.bipush 31, 2) := by decide +kernel
theorem dX4_traced_3 : decode cX4_traced 3 = .ok (.aload_n 0, 1) := by decide +kernel
theorem dX4_traced_4 : decode cX4_traced 4 = .ok (.getfield 217, 3) := by decide +kernel
theorem dX4_traced_7 : decode cX4_traced 7 = .ok (.imul, 1) := by decide +kernel
theorem dX4_traced_8 : decode cX4_traced 8 = .ok (.iload_n 1, 1) := by decide +kernel
theorem dX4_traced_9 : decode cX4_traced 9 = .ok (.iadd, 1) := by decide +kernel
theorem dX4_traced_10 : decode cX4_traced 10 = .ok (.putfield 217, 3) := by decide +kernel
theorem dX4_traced_13 : decode cX4_traced 13 = .ok (.return_, 1) := by decide +kernel
set_option maxRecDepth 20000 in
theorem ggX4_tell_X4_noProphet : GoodIn wsX4_tell wsX4_noProphet := goodIn_r _ [7, 8, 9, 10, 6, 11, 17, 18, 19, 20, 21, 22, 23, 24, 25, 26, 27, 28, 29, 30, 31, 32, 33, 34, 35, 36, 37, 38, 39, 40, 41, 42, 43] (by decide +kernel) (by decide +kernel)
set_option maxRecDepth 20000 in
theorem gX4_tell_X4_noProphet : GoodIn wsX4_tell (wsV RX4 135 RX4 yX4_noProphet wsX4_noProphet) := goodIn_app (goodIn_of _ (by decide +kernel)) ggX4_tell_X4_noProphet
set_option maxRecDepth 20000 in
theorem ggX4_tell_X4_traced : GoodIn wsX4_tell wsX4_traced := goodIn_r _ [15, 16, 17, 18, 19, 20, 21, 22, 23, 24, 25, 26, 27, 28, 29, 30, 31, 32, 33, 34, 35, 36, 37, 38, 39, 40, 41, 42, 43] (by decide +kernel) (by decide +kernel)
set_option maxRecDepth 20000 in
theorem gX4_tell_X4_traced : GoodIn wsX4_tell (wsV RX4 220 RX4 yX4_traced wsX4_traced) := goodIn_app (goodIn_of _ (by decide +kernel)) ggX4_tell_X4_traced
theorem dX4_tell_0 : decode cX4_tell 0 = .ok (.aload_n 0, 1) := by decide +kernel
theorem dX4_tell_1 : decode cX4_tell 1 = .ok (.iload_n 1, 1) := by decide +kernel
theorem dX4_tell_2 : decode cX4_tell 2 = .ok (.invokevirtual 135, 3) := by decide +kernel
theorem dX4_tell_5 : decode cX4_tell 5 = .ok (.ifCond .eq 5, 3) := by decide +kernel
theorem dX4_tell_8 : decode cX4_tell 8 = .ok (.iconst (-1), 1) := by decide +kernel
theorem dX4_tell_9 : decode cX4_tell 9 = .ok (.ireturn, 1) := by decide +kernel
theorem dX4_tell_10 : decode cX4_tell 10 = .ok (.aload_n 0, 1) := by decide +kernel
theorem dX4_tell_11 : decode cX4_tell 11 = .ok (.getfield 13, 3) := by decide +kernel
theorem dX4_tell_14 : decode cX4_tell 14 = .ok (.iload_n 1, 1) := by decide +kernel
theorem dX4_tell_15 : decode cX4_tell 15 = .ok (.iaload, 1) := by decide +kernel
theorem dX4_tell_16 : decode cX4_tell 16 = .ok (.istore_n 2, 1) := by decide +kernel
theorem dX4_tell_17 : decode cX4_tell 17 = .ok (.iload_n 2, 1) := by decide +kernel
theorem dX4_tell_18 : decode cX4_tell 18 = .ok (.iconst 2, 1) := by decide +kernel
theorem dX4_tell_19 : decode cX4_tell 19 = .ok (.if_icmp .ne 8, 3) := by decide +kernel
theorem dX4_tell_22 : decode cX4_tell 22 = .ok (.aload_n 0, 1) := by decide +kernel
theorem dX4_tell_23 : decode cX4_tell 23 = .ok (.iconst 3, 1) := by decide +kernel
theorem dX4_tell_24 : decode cX4_tell 24 = .ok (.invokevirtual 220, 3) := by decide +kernel
theorem dX4_tell_27 : decode cX4_tell 27 = .ok (.iload_n 2, 1) := by decide +kernel
theorem dX4_tell_28 : decode cX4_tell 28 = .ok (.ifCond .le 8, 3) := by decide +kernel
theorem dX4_tell_31 : decode cX4_tell 31 = .ok (.aload_n 0, 1) := by decide +kernel
theorem dX4_tell_32 : decode cX4_tell 32 = .ok (.iconst 2, 1) := by decide +kernel
theorem dX4_tell_33 : decode cX4_tell 33 = .ok (.invokevirtual 220, 3) := by decide +kernel
theorem dX4_tell_36 : decode cX4_tell 36 = .ok (.aload_n 0, 1) := by decide +kernel
theorem dX4_tell_37 : decode cX4_tell 37 = .ok (.iconst 1, 1) := by decide +kernel
theorem dX4_tell_38 : decode cX4_tell 38 = .ok (.invokevirtual 220, 3) := by decide +kernel
theorem dX4_tell_41 : decode cX4_tell 41 = .ok (.iload_n 2, 1) := by decide +kernel
theorem dX4_tell_42 : decode cX4_tell 42 = .ok (.iconst 2, 1) := by decide +kernel
theorem dX4_tell_43 : decode cX4_tell 43 = .ok (.if_icmp .ne 8, 3) := by decide +kernel
theorem dX4_tell_46 : decode cX4_tell 46 = .ok (.aload_n 0, 1) := by decide +kernel
theorem dX4_tell_47 : decode cX4_tell 47 = .ok (.iconst 1, 1) := by decide +kernel
theorem dX4_tell_48 : decode cX4_tell 48 = .ok (.invokevirtual 220, 3) := by decide +kernel
theorem dX4_tell_51 : decode cX4_tell 51 = .ok (.aload_n 0, 1) := by decide +kernel
theorem dX4_tell_52 : decode cX4_tell 52 = .ok (.getfield 16, 3) := by decide +kernel
theorem dX4_tell_55 : decode cX4_tell 55 = .ok (.iload_n 1, 1) := by decide +kernel
theorem dX4_tell_56 : decode cX4_tell 56 = .ok (.iaload, 1) := by decide +kernel
theorem dX4_tell_57 : decode cX4_tell 57 = .ok (.istore_n 3, 1) := by decide +kernel
theorem dX4_tell_58 : decode cX4_tell 58 = .ok (.iload_n 2, 1) := by decide +kernel
theorem dX4_tell_59 : decode cX4_tell 59 = .ok (.ifCond .ne 7, 3) := by decide +kernel
theorem dX4_tell_62 : decode cX4_tell 62 = .ok (.iload_n 3, 1) := by decide +kernel
theorem dX4_tell_63 : decode cX4_tell 63 = .ok (.goto 21, 3) := by decide +kernel
theorem dX4_tell_66 : decode cX4_tell 66 = .ok (.iload_n 2, 1) := by decide +kernel
theorem dX4_tell_67 : decode cX4_tell 67 = .ok (.iconst 1, 1) := by decide +kernel
theorem dX4_tell_68 : decode cX4_tell 68 = .ok (.if_icmp .ne 10, 3) := by decide +kernel
theorem dX4_tell_71 : decode cX4_tell 71 = .ok (.iload_n 3, 1) := by decide +kernel
theorem dX4_tell_72 : decode cX4_tell 72 = .ok (.bipush 100, 2) := by decide +kernel
theorem dX4_tell_74 : decode cX4_tell 74 = .ok (.iadd, 1) := by decide +kernel
theorem dX4_tell_75 : decode cX4_tell 75 = .ok (.goto 9, 3) := by decide +kernel
theorem dX4_tell_78 : decode cX4_tell 78 = .ok (.iconst 2, 1) := by decide +kernel
theorem dX4_tell_79 : decode cX4_tell 79 = .ok (.iload_n 3, 1) := by decide +kernel
theorem dX4_tell_80 : decode cX4_tell 80 = .ok (.imul, 1) := by decide +kernel
theorem dX4_tell_81 : decode cX4_tell 81 = .ok (.bipush 100, 2) := by decide +kernel
theorem dX4_tell_83 : decode cX4_tell 83 = .ok (.iadd, 1) := by decide +kernel
theorem dX4_tell_84 : decode cX4_tell 84 = .ok (.ireturn, 1) := by decide +kernel
set_option maxRecDepth 20000 in
theorem ggX4_hear_X4_noProphet : GoodIn wsX4_hear wsX4_noProphet := goodIn_r _ [6, 7, 8, 9, 5, 10, 16, 17, 18, 19, 20, 21, 22, 23, 24, 25, 26, 27, 28, 29, 30, 31, 32, 33, 34, 35, 36, 37, 38, 39, 40, 41, 42] (by decide +kernel) (by decide +kernel)
set_option maxRecDepth 20000 in
theorem gX4_hear_X4_noProphet : GoodIn wsX4_hear (wsV RX4 135 RX4 yX4_noProphet wsX4_noProphet) := goodIn_app (goodIn_of _ (by decide +kernel)) ggX4_hear_X4_noProphet
set_option maxRecDepth 20000 in
theorem ggX4_hear_X4_traced : GoodIn wsX4_hear wsX4_traced := goodIn_r _ [14, 15, 16, 17, 18, 19, 20, 21, 22, 23, 24, 25, 26, 27, 28, 29, 30, 31, 32, 33, 34, 35, 36, 37, 38, 39, 40, 41, 42] (by decide +kernel) (by decide +kernel)
set_option maxRecDepth 20000 in
theorem gX4_hear_X4_traced : GoodIn wsX4_hear (wsV RX4 220 RX4 yX4_traced wsX4_traced) := goodIn_app (goodIn_of _ (by decide +kernel)) ggX4_hear_X4_traced
theorem dX4_hear_0 : decode cX4_hear 0 = .ok (.aload_n 0, 1) := by decide +kernel
theorem dX4_hear_1 : decode cX4_hear 1 = .ok (.iload_n 1, 1) := by decide +kernel
theorem dX4_hear_2 : decode cX4_hear 2 = .ok (.invokevirtual 135, 3) := by decide +kernel
theorem dX4_hear_5 : decode cX4_hear 5 = .ok (.ifCond .eq 5, 3) := by decide +kernel
theorem dX4_hear_8 : decode cX4_hear 8 = .ok (.iconst (-1), 1) := by decide +kernel
theorem dX4_hear_9 : decode cX4_hear 9 = .ok (.ireturn, 1) := by decide +kernel
theorem dX4_hear_10 : decode cX4_hear 10 = .ok (.aload_n 0, 1) := by decide +kernel
theorem dX4_hear_11 : decode cX4_hear 11 = .ok (.aload_n 0, 1) := by decide +kernel
theorem dX4_hear_12 : decode cX4_hear 12 = .ok (.getfield 13, 3) := by decide +kernel
theorem dX4_hear_15 : decode cX4_hear 15 = .ok (.iload_n 1, 1) := by decide +kernel
theorem dX4_hear_16 : decode cX4_hear 16 = .ok (.iaload, 1) := by decide +kernel
theorem dX4_hear_17 : decode cX4_hear 17 = .ok (.iconst 2, 1) := by decide +kernel
theorem dX4_hear_18 : decode cX4_hear 18 = .ok (.if_icmp .ne 7, 3) := by decide +kernel
theorem dX4_hear_21 : decode cX4_hear 21 = .ok (.iconst 5, 1) := by decide +kernel
theorem dX4_hear_22 : decode cX4_hear 22 = .ok (.goto 4, 3) := by decide +kernel
theorem dX4_hear_25 : decode cX4_hear 25 = .ok (.iconst 4, 1) := by decide +kernel
theorem dX4_hear_26 : decode cX4_hear 26 = .ok (.invokevirtual 220, 3) := by decide +kernel
theorem dX4_hear_29 : decode cX4_hear 29 = .ok (.aload_n 0, 1) := by decide +kernel
theorem dX4_hear_30 : decode cX4_hear 30 = .ok (.getfield 13, 3) := by decide +kernel
theorem dX4_hear_33 : decode cX4_hear 33 = .ok (.iload_n 1, 1) := by decide +kernel
theorem dX4_hear_34 : decode cX4_hear 34 = .ok (.iaload, 1) := by decide +kernel
theorem dX4_hear_35 : decode cX4_hear 35 = .ok (.iconst 2, 1) := by decide +kernel
theorem dX4_hear_36 : decode cX4_hear 36 = .ok (.if_icmp .ne 8, 3) := by decide +kernel
theorem dX4_hear_39 : decode cX4_hear 39 = .ok (.bipush 20, 2) := by decide +kernel
theorem dX4_hear_41 : decode cX4_hear 41 = .ok (.goto 4, 3) := by decide +kernel
theorem dX4_hear_44 : decode cX4_hear 44 = .ok (.iload_n 1, 1) := by decide +kernel
theorem dX4_hear_45 : decode cX4_hear 45 = .ok (.ireturn, 1) := by decide +kernel
set_option maxRecDepth 20000 in
theorem ggX4_as_X4_noProphet : GoodIn wsX4_as wsX4_noProphet := goodIn_r _ [7, 8, 9, 10, 6, 11, 21, 22, 23, 24, 25, 26, 27, 28, 29, 30, 31, 32, 33, 34, 35, 36, 37, 38, 39, 40, 41, 42, 43, 44, 45, 46, 47] (by decide +kernel) (by decide +kernel)
set_option maxRecDepth 20000 in
theorem gX4_as_X4_noProphet : GoodIn wsX4_as (wsV RX4 135 RX4 yX4_noProphet wsX4_noProphet) := goodIn_app (goodIn_of _ (by decide +kernel)) ggX4_as_X4_noProphet
set_option maxRecDepth 20000 in
theorem ggX4_as_X4_refused : GoodIn wsX4_as wsX4_refused := goodIn_r _ [15, 16, 21, 22, 23, 24, 25, 26, 27, 28, 29, 30, 31, 32, 33, 34, 35, 36, 37, 38, 39, 40, 41, 42, 43, 44, 45, 46, 47] (by decide +kernel) (by decide +kernel)
set_option maxRecDepth 20000 in
theorem gX4_as_X4_refused : GoodIn wsX4_as (wsV RX4 115 RX4 yX4_refused wsX4_refused) := goodIn_app (goodIn_of _ (by decide +kernel)) ggX4_as_X4_refused
set_option maxRecDepth 20000 in
theorem ggX4_as_X4_in : GoodIn wsX4_as wsX4_in := goodIn_r _ [11] (by decide +kernel) (by decide +kernel)
set_option maxRecDepth 20000 in
theorem gX4_as_X4_in : GoodIn wsX4_as (va_wsS RX4 68 yX4_in wsX4_in) := goodIn_app (goodIn_of _ (by decide +kernel)) ggX4_as_X4_in
set_option maxRecDepth 20000 in
theorem ggX4_as_X4_failed : GoodIn wsX4_as wsX4_failed := goodIn_r _ [20, 16, 21, 22, 23, 24, 25, 26, 27, 28, 29, 30, 31, 32, 33, 34, 35, 36, 37, 38, 39, 40, 41, 42, 43, 44, 45, 46, 47] (by decide +kernel) (by decide +kernel)
set_option maxRecDepth 20000 in
theorem gX4_as_X4_failed : GoodIn wsX4_as (wsV RX4 103 RX4 yX4_failed wsX4_failed) := goodIn_app (goodIn_of _ (by decide +kernel)) ggX4_as_X4_failed
theorem dX4_as_0 : decode cX4_as 0 = .ok (.aload_n 0, 1) := by decide +kernel
theorem dX4_as_1 : decode cX4_as 1 = .ok (.iload_n 1, 1) := by decide +kernel
theorem dX4_as_2 : decode cX4_as 2 = .ok (.invokevirtual 135, 3) := by decide +kernel
theorem dX4_as_5 : decode cX4_as 5 = .ok (.ifCond .eq 9, 3) := by decide +kernel
theorem dX4_as_8 : decode cX4_as 8 = .ok (.aload_n 0, 1) := by decide +kernel
theorem dX4_as_9 : decode cX4_as 9 = .ok (.iconst (-1), 1) := by decide +kernel
theorem dX4_as_10 : decode cX4_as 10 = .ok (.invokevirtual 115, 3) := by decide +kernel
theorem dX4_as_13 : decode cX4_as 13 = .ok (.ireturn, 1) := by decide +kernel
theorem dX4_as_14 : decode cX4_as 14 = .ok (.iload_n 2, 1) := by decide +kernel
theorem dX4_as_15 : decode cX4_as 15 = .ok (.i2l, 1) := by decide +kernel
theorem dX4_as_16 : decode cX4_as 16 = .ok (.lconst 0, 1) := by decide +kernel
theorem dX4_as_17 : decode cX4_as 17 = .ok (.ldc2_w 118, 3) := by decide +kernel
theorem dX4_as_20 : decode cX4_as 20 = .ok (.invokestatic 68, 3) := by decide +kernel
theorem dX4_as_23 : decode cX4_as 23 = .ok (.ifCond .ne 10, 3) := by decide +kernel
theorem dX4_as_26 : decode cX4_as 26 = .ok (.aload_n 0, 1) := by decide +kernel
theorem dX4_as_27 : decode cX4_as 27 = .ok (.bipush (-2), 2) := by decide +kernel
theorem dX4_as_29 : decode cX4_as 29 = .ok (.invokevirtual 115, 3) := by decide +kernel
theorem dX4_as_32 : decode cX4_as 32 = .ok (.ireturn, 1) := by decide +kernel
theorem dX4_as_33 : decode cX4_as 33 = .ok (.aload_n 0, 1) := by decide +kernel
theorem dX4_as_34 : decode cX4_as 34 = .ok (.getfield 13, 3) := by decide +kernel
theorem dX4_as_37 : decode cX4_as 37 = .ok (.iload_n 1, 1) := by decide +kernel
theorem dX4_as_38 : decode cX4_as 38 = .ok (.iaload, 1) := by decide +kernel
theorem dX4_as_39 : decode cX4_as 39 = .ok (.iload_n 2, 1) := by decide +kernel
theorem dX4_as_40 : decode cX4_as 40 = .ok (.if_icmp .lt 11, 3) := by decide +kernel
theorem dX4_as_43 : decode cX4_as 43 = .ok (.aload_n 0, 1) := by decide +kernel
theorem dX4_as_44 : decode cX4_as 44 = .ok (.iconst 1, 1) := by decide +kernel
theorem dX4_as_45 : decode cX4_as 45 = .ok (.invokevirtual 115, 3) := by decide +kernel
theorem dX4_as_48 : decode cX4_as 48 = .ok (.goto 8, 3) := by decide +kernel
theorem dX4_as_51 : decode cX4_as 51 = .ok (.aload_n 0, 1) := by decide +kernel
theorem dX4_as_52 : decode cX4_as 52 = .ok (.iconst 2, 1) := by decide +kernel
theorem dX4_as_53 : decode cX4_as 53 = .ok (.invokevirtual 103, 3) := by decide +kernel
theorem dX4_as_56 : decode cX4_as 56 = .ok (.ireturn, 1) := by decide +kernel
theorem dX4_trace_0 : decode cX4_trace 0 = .ok (.aload_n 0, 1) := by decide +kernel
theorem dX4_trace_1 : decode cX4_trace 1 = .ok (.getfield 217, 3) := by decide +kernel
theorem dX4_trace_4 : decode cX4_trace 4 = .ok (.ireturn, 1) := by decide +kernel
theorem dX4_fault_0 : decode cX4_fault 0 = .ok (.aload_n 0, 1) := by decide +kernel
theorem dX4_fault_1 : decode cX4_fault 1 = .ok (.getfield 57, 3) := by decide +kernel
theorem dX4_fault_4 : decode cX4_fault 4 = .ok (.ireturn, 1) := by decide +kernel
set_option maxRecDepth 20000 in
theorem ggX4_fraudsNow_X4_isFraud : GoodIn wsX4_fraudsNow wsX4_isFraud := goodIn_r _ [6, 7, 8, 9, 10, 5, 11, 12, 13, 14, 15, 16, 17, 18, 19, 20, 21, 22, 23, 24, 25, 26, 27, 28, 29, 30, 31, 32, 33, 34, 35, 36, 37, 38, 39] (by decide +kernel) (by decide +kernel)
set_option maxRecDepth 20000 in
theorem gX4_fraudsNow_X4_isFraud : GoodIn wsX4_fraudsNow (wsV RX4 141 RX4 yX4_isFraud wsX4_isFraud) := goodIn_app (goodIn_of _ (by decide +kernel)) ggX4_fraudsNow_X4_isFraud
theorem dX4_fraudsNow_0 : decode cX4_fraudsNow 0 = .ok (.iconst 0, 1) := by decide +kernel
theorem dX4_fraudsNow_1 : decode cX4_fraudsNow 1 = .ok (.istore_n 1, 1) := by decide +kernel
theorem dX4_fraudsNow_2 : decode cX4_fraudsNow 2 = .ok (.iconst 0, 1) := by decide +kernel
theorem dX4_fraudsNow_3 : decode cX4_fraudsNow 3 = .ok (.istore_n 2, 1) := by decide +kernel
theorem dX4_fraudsNow_4 : decode cX4_fraudsNow 4 = .ok (.iload_n 2, 1) := by decide +kernel
theorem dX4_fraudsNow_5 : decode cX4_fraudsNow 5 = .ok (.aload_n 0, 1) := by decide +kernel
theorem dX4_fraudsNow_6 : decode cX4_fraudsNow 6 = .ok (.getfield 72, 3) := by decide +kernel
theorem dX4_fraudsNow_9 : decode cX4_fraudsNow 9 = .ok (.if_icmp .ge 25, 3) := by decide +kernel
theorem dX4_fraudsNow_12 : decode cX4_fraudsNow 12 = .ok (.iload_n 1, 1) := by decide +kernel
theorem dX4_fraudsNow_13 : decode cX4_fraudsNow 13 = .ok (.aload_n 0, 1) := by decide +kernel
theorem dX4_fraudsNow_14 : decode cX4_fraudsNow 14 = .ok (.iload_n 2, 1) := by decide +kernel
theorem dX4_fraudsNow_15 : decode cX4_fraudsNow 15 = .ok (.invokevirtual 141, 3) := by decide +kernel
theorem dX4_fraudsNow_18 : decode cX4_fraudsNow 18 = .ok (.ifCond .eq 7, 3) := by decide +kernel
theorem dX4_fraudsNow_21 : decode cX4_fraudsNow 21 = .ok (.iconst 1, 1) := by decide +kernel
theorem dX4_fraudsNow_22 : decode cX4_fraudsNow 22 = .ok (.goto 4, 3) := by decide +kernel
theorem dX4_fraudsNow_25 : decode cX4_fraudsNow 25 = .ok (.iconst 0, 1) := by decide +kernel
theorem dX4_fraudsNow_26 : decode cX4_fraudsNow 26 = .ok (.iadd, 1) := by decide +kernel
theorem dX4_fraudsNow_27 : decode cX4_fraudsNow 27 = .ok (.istore_n 1, 1) := by decide +kernel
theorem dX4_fraudsNow_28 : decode cX4_fraudsNow 28 = .ok (.iinc 2 1, 3) := by decide +kernel
theorem dX4_fraudsNow_31 : decode cX4_fraudsNow 31 = .ok (.goto (-27), 3) := by decide +kernel
theorem dX4_fraudsNow_34 : decode cX4_fraudsNow 34 = .ok (.iload_n 1, 1) := by decide +kernel
theorem dX4_fraudsNow_35 : decode cX4_fraudsNow 35 = .ok (.ireturn, 1) := by decide +kernel
set_option maxRecDepth 20000 in
theorem ggX4_many_X4_fraudsNow : GoodIn wsX4_many wsX4_fraudsNow := goodIn_r _ [8, 1, 9, 10, 11, 7, 12, 13, 14, 15, 16, 17, 2, 18, 19, 20, 21, 22, 23, 24, 25, 26, 27, 28, 29, 30, 31, 32, 33, 34, 35, 36, 37, 38, 39, 40, 41, 42, 43, 44] (by decide +kernel) (by decide +kernel)
set_option maxRecDepth 20000 in
theorem gX4_many_X4_fraudsNow : GoodIn wsX4_many (wsV RX4 224 RX4 yX4_fraudsNow wsX4_fraudsNow) := goodIn_app (goodIn_of _ (by decide +kernel)) ggX4_many_X4_fraudsNow
