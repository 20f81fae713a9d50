theorem inJ9 : ∀ w ∈ wsJ90, w ∈ lw_tbl := by decide +kernel
theorem inJ10 : ∀ w ∈ wsJ100, w ∈ lw_tbl := by decide +kernel
theorem dX0_init_0 : decode cX0_init 0 = .ok (.aload_n 0, 1) := by decide +kernel
theorem dX0_init_1 : decode cX0_init 1 = .ok (.invokespecial 3, 3) := by decide +kernel
theorem dX0_init_4 : decode cX0_init 4 = .ok (.aload_n 0, 1) := by decide +kernel
theorem dX0_init_5 : decode cX0_init 5 = .ok (.iconst 0, 1) := by decide +kernel
theorem dX0_init_6 : decode cX0_init 6 = .ok (.putfield 9, 3) := by decide +kernel
theorem dX0_init_9 : decode cX0_init 9 = .ok (.aload_n 0, 1) := by decide +kernel
theorem dX0_init_10 : decode cX0_init 10 = .ok (.iconst 0, 1) := by decide +kernel
theorem dX0_init_11 : decode cX0_init 11 = .ok (.putfield 15, 3) := by decide +kernel
theorem dX0_init_14 : decode cX0_init 14 = .ok (.aload_n 0, 1) := by decide +kernel
theorem dX0_init_15 : decode cX0_init 15 = .ok (.iconst 0, 1) := by decide +kernel
theorem dX0_init_16 : decode cX0_init 16 = .ok (.putfield 18, 3) := by decide +kernel
theorem dX0_init_19 : decode cX0_init 19 = .ok (.return_, 1) := by decide +kernel
theorem dX1_init_0 : decode cX1_init 0 = .ok (.aload_n 0, 1) := by decide +kernel
theorem dX1_init_1 : decode cX1_init 1 = .ok (.invokespecial 1, 3) := by decide +kernel
theorem dX1_init_4 : decode cX1_init 4 = .ok (.aload_n 0, 1) := by decide +kernel
theorem dX1_init_5 : decode cX1_init 5 = .ok (.iconst 0, 1) := by decide +kernel
theorem dX1_init_6 : decode cX1_init 6 = .ok (.putfield 7, 3) := by decide +kernel
theorem dX1_init_9 : decode cX1_init 9 = .ok (.aload_n 0, 1) := by decide +kernel
theorem dX1_init_10 : decode cX1_init 10 = .ok (.iconst 0, 1) := by decide +kernel
theorem dX1_init_11 : decode cX1_init 11 = .ok (.putfield 13, 3) := by decide +kernel
theorem dX1_init_14 : decode cX1_init 14 = .ok (.aload_n 0, 1) := by decide +kernel
theorem dX1_init_15 : decode cX1_init 15 = .ok (.iconst 0, 1) := by decide +kernel
theorem dX1_init_16 : decode cX1_init 16 = .ok (.putfield 16, 3) := by decide +kernel
theorem dX1_init_19 : decode cX1_init 19 = .ok (.return_, 1) := by decide +kernel
theorem dX2_init_0 : decode cX2_init 0 = .ok (.aload_n 0, 1) := by decide +kernel
theorem dX2_init_1 : decode cX2_init 1 = .ok (.invokespecial 3, 3) := by decide +kernel
theorem dX2_init_4 : decode cX2_init 4 = .ok (.aload_n 0, 1) := by decide +kernel
theorem dX2_init_5 : decode cX2_init 5 = .ok (.bipush 60, 2) := by decide +kernel
theorem dX2_init_7 : decode cX2_init 7 = .ok (.newarray .int, 2) := by decide +kernel
theorem dX2_init_9 : decode cX2_init 9 = .ok (.putfield 9, 3) := by decide +kernel
theorem dX2_init_12 : decode cX2_init 12 = .ok (.aload_n 0, 1) := by decide +kernel
theorem dX2_init_13 : decode cX2_init 13 = .ok (.iconst 0, 1) := by decide +kernel
theorem dX2_init_14 : decode cX2_init 14 = .ok (.putfield 15, 3) := by decide +kernel
theorem dX2_init_17 : decode cX2_init 17 = .ok (.aload_n 0, 1) := by decide +kernel
theorem dX2_init_18 : decode cX2_init 18 = .ok (.iconst (-1), 1) := by decide +kernel
theorem dX2_init_19 : decode cX2_init 19 = .ok (.putfield 19, 3) := by decide +kernel
theorem dX2_init_22 : decode cX2_init 22 = .ok (.return_, 1) := by decide +kernel
theorem dX2_isEmpty_0 : decode cX2_isEmpty 0 = .ok (.aload_n 0, 1) := by decide +kernel
theorem dX2_isEmpty_1 : decode cX2_isEmpty 1 = .ok (.getfield 19, 3) := by decide +kernel
theorem dX2_isEmpty_4 : decode cX2_isEmpty 4 = .ok (.iconst (-1), 1) := by decide +kernel
theorem dX2_isEmpty_5 : decode cX2_isEmpty 5 = .ok (.if_icmp .ne 7, 3) := by decide +kernel
theorem dX2_isEmpty_8 : decode cX2_isEmpty 8 = .ok (.iconst 1, 1) := by decide +kernel
theorem dX2_isEmpty_9 : decode cX2_isEmpty 9 = .ok (.goto 4, 3) := by decide +kernel
theorem dX2_isEmpty_12 : decode cX2_isEmpty 12 = .ok (.iconst 0, 1) := by decide +kernel
theorem dX2_isEmpty_13 : decode cX2_isEmpty 13 = .ok (.ireturn, 1) := by decide +kernel
theorem dX2_makeRow_0 : decode cX2_makeRow 0 = .ok (.iconst 0, 1) := by decide +kernel
theorem dX2_makeRow_1 : decode cX2_makeRow 1 = .ok (.istore_n 3, 1) := by decide +kernel
theorem dX2_makeRow_2 : decode cX2_makeRow 2 = .ok (.iload_n 3, 1) := by decide +kernel
theorem dX2_makeRow_3 : decode cX2_makeRow 3 = .ok (.bipush 60, 2) := by decide +kernel
theorem dX2_makeRow_5 : decode cX2_makeRow 5 = .ok (.if_icmp .ge 16, 3) := by decide +kernel
theorem dX2_makeRow_8 : decode cX2_makeRow 8 = .ok (.aload_n 0, 1) := by decide +kernel
theorem dX2_makeRow_9 : decode cX2_makeRow 9 = .ok (.getfield 9, 3) := by decide +kernel
theorem dX2_makeRow_12 : decode cX2_makeRow 12 = .ok (.iload_n 3, 1) := by decide +kernel
theorem dX2_makeRow_13 : decode cX2_makeRow 13 = .ok (.iconst 0, 1) := by decide +kernel
theorem dX2_makeRow_14 : decode cX2_makeRow 14 = .ok (.iastore, 1) := by decide +kernel
theorem dX2_makeRow_15 : decode cX2_makeRow 15 = .ok (.iinc 3 1, 3) := by decide +kernel
theorem dX2_makeRow_18 : decode cX2_makeRow 18 = .ok (.goto (-16), 3) := by decide +kernel
theorem dX2_makeRow_21 : decode cX2_makeRow 21 = .ok (.aload_n 0, 1) := by decide +kernel
theorem dX2_makeRow_22 : decode cX2_makeRow 22 = .ok (.iload_n 1, 1) := by decide +kernel
theorem dX2_makeRow_23 : decode cX2_makeRow 23 = .ok (.putfield 15, 3) := by decide +kernel
theorem dX2_makeRow_26 : decode cX2_makeRow 26 = .ok (.aload_n 0, 1) := by decide +kernel
theorem dX2_makeRow_27 : decode cX2_makeRow 27 = .ok (.iload_n 2, 1) := by decide +kernel
theorem dX2_makeRow_28 : decode cX2_makeRow 28 = .ok (.putfield 19, 3) := by decide +kernel
theorem dX2_makeRow_31 : decode cX2_makeRow 31 = .ok (.return_, 1) := by decide +kernel
theorem dX2_reaches_0 : decode cX2_reaches 0 = .ok (.iload_n 2, 1) := by decide +kernel
theorem dX2_reaches_1 : decode cX2_reaches 1 = .ok (.ifCond .lt 21, 3) := by decide +kernel
theorem dX2_reaches_4 : decode cX2_reaches 4 = .ok (.iload_n 1, 1) := by decide +kernel
theorem dX2_reaches_5 : decode cX2_reaches 5 = .ok (.ifCond .lt 17, 3) := by decide +kernel
theorem dX2_reaches_8 : decode cX2_reaches 8 = .ok (.iload_n 1, 1) := by decide +kernel
theorem dX2_reaches_9 : decode cX2_reaches 9 = .ok (.aload_n 0, 1) := by decide +kernel
theorem dX2_reaches_10 : decode cX2_reaches 10 = .ok (.getfield 19, 3) := by decide +kernel
theorem dX2_reaches_13 : decode cX2_reaches 13 = .ok (.iload_n 2, 1) := by decide +kernel
theorem dX2_reaches_14 : decode cX2_reaches 14 = .ok (.isub, 1) := by decide +kernel
theorem dX2_reaches_15 : decode cX2_reaches 15 = .ok (.if_icmp .gt 7, 3) := by decide +kernel
theorem dX2_reaches_18 : decode cX2_reaches 18 = .ok (.iconst 1, 1) := by decide +kernel
theorem dX2_reaches_19 : decode cX2_reaches 19 = .ok (.goto 4, 3) := by decide +kernel
theorem dX2_reaches_22 : decode cX2_reaches 22 = .ok (.iconst 0, 1) := by decide +kernel
theorem dX2_reaches_23 : decode cX2_reaches 23 = .ok (.ireturn, 1) := by decide +kernel
set_option maxRecDepth 20000 in
theorem ggX2_flaw_X2_isEmpty : GoodIn wsX2_flaw wsX2_isEmpty := goodIn_r _ [6, 7, 12, 13, 14] (by decide +kernel) (by decide +kernel)
set_option maxRecDepth 20000 in
theorem gX2_flaw_X2_isEmpty : GoodIn wsX2_flaw (wsV RX2 22 RX2 yX2_isEmpty wsX2_isEmpty) := goodIn_app (goodIn_of _ (by decide +kernel)) ggX2_flaw_X2_isEmpty
set_option maxRecDepth 20000 in
theorem ggX2_flaw_X2_reaches : GoodIn wsX2_flaw wsX2_reaches := goodIn_r _ [11, 7, 12, 13, 14] (by decide +kernel) (by decide +kernel)
set_option maxRecDepth 20000 in
theorem gX2_flaw_X2_reaches : GoodIn wsX2_flaw (wsV RX2 26 RX2 yX2_reaches wsX2_reaches) := goodIn_app (goodIn_of _ (by decide +kernel)) ggX2_flaw_X2_reaches
theorem dX2_flaw_0 : decode cX2_flaw 0 = .ok (.aload_n 0, 1) := by decide +kernel
theorem dX2_flaw_1 : decode cX2_flaw 1 = .ok (.invokevirtual 22, 3) := by decide +kernel
theorem dX2_flaw_4 : decode cX2_flaw 4 = .ok (.ifCond .eq 5, 3) := by decide +kernel
theorem dX2_flaw_7 : decode cX2_flaw 7 = .ok (.iconst 1, 1) := by decide +kernel
theorem dX2_flaw_8 : decode cX2_flaw 8 = .ok (.ireturn, 1) := by decide +kernel
theorem dX2_flaw_9 : decode cX2_flaw 9 = .ok (.iload_n 1, 1) := by decide +kernel
theorem dX2_flaw_10 : decode cX2_flaw 10 = .ok (.aload_n 0, 1) := by decide +kernel
theorem dX2_flaw_11 : decode cX2_flaw 11 = .ok (.getfield 15, 3) := by decide +kernel
theorem dX2_flaw_14 : decode cX2_flaw 14 = .ok (.if_icmp .eq 5, 3) := by decide +kernel
theorem dX2_flaw_17 : decode cX2_flaw 17 = .ok (.iconst 2, 1) := by decide +kernel
theorem dX2_flaw_18 : decode cX2_flaw 18 = .ok (.ireturn, 1) := by decide +kernel
theorem dX2_flaw_19 : decode cX2_flaw 19 = .ok (.iload_n 3, 1) := by decide +kernel
theorem dX2_flaw_20 : decode cX2_flaw 20 = .ok (.ifCond .ge 5, 3) := by decide +kernel
theorem dX2_flaw_23 : decode cX2_flaw 23 = .ok (.iconst 4, 1) := by decide +kernel
theorem dX2_flaw_24 : decode cX2_flaw 24 = .ok (.ireturn, 1) := by decide +kernel
theorem dX2_flaw_25 : decode cX2_flaw 25 = .ok (.aload_n 0, 1) := by decide +kernel
theorem dX2_flaw_26 : decode cX2_flaw 26 = .ok (.iload_n 2, 1) := by decide +kernel
theorem dX2_flaw_27 : decode cX2_flaw 27 = .ok (.iload_n 3, 1) := by decide +kernel
theorem dX2_flaw_28 : decode cX2_flaw 28 = .ok (.invokevirtual 26, 3) := by decide +kernel
theorem dX2_flaw_31 : decode cX2_flaw 31 = .ok (.ifCond .eq 7, 3) := by decide +kernel
theorem dX2_flaw_34 : decode cX2_flaw 34 = .ok (.iconst 0, 1) := by decide +kernel
theorem dX2_flaw_35 : decode cX2_flaw 35 = .ok (.goto 4, 3) := by decide +kernel
theorem dX2_flaw_38 : decode cX2_flaw 38 = .ok (.iconst 3, 1) := by decide +kernel
theorem dX2_flaw_39 : decode cX2_flaw 39 = .ok (.ireturn, 1) := by decide +kernel
set_option maxRecDepth 20000 in
theorem ggX2_store_X2_reaches : GoodIn wsX2_store wsX2_reaches := goodIn_r _ [6, 7, 13, 14, 15] (by decide +kernel) (by decide +kernel)
set_option maxRecDepth 20000 in
theorem gX2_store_X2_reaches : GoodIn wsX2_store (wsV RX2 26 RX2 yX2_reaches wsX2_reaches) := goodIn_app (goodIn_of _ (by decide +kernel)) ggX2_store_X2_reaches
set_option maxRecDepth 20000 in
theorem ggX2_store_X2_cut : GoodIn wsX2_store wsX2_cut := goodIn_r _ [11, 12, 13, 14, 15] (by decide +kernel) (by decide +kernel)
set_option maxRecDepth 20000 in
theorem gX2_store_X2_cut : GoodIn wsX2_store (wsV RX2 30 RX2 yX2_cut wsX2_cut) := goodIn_app (goodIn_of _ (by decide +kernel)) ggX2_store_X2_cut
theorem dX2_store_0 : decode cX2_store 0 = .ok (.aload_n 0, 1) := by decide +kernel
theorem dX2_store_1 : decode cX2_store 1 = .ok (.iload_n 1, 1) := by decide +kernel
theorem dX2_store_2 : decode cX2_store 2 = .ok (.iconst 1, 1) := by decide +kernel
theorem dX2_store_3 : decode cX2_store 3 = .ok (.invokevirtual 26, 3) := by decide +kernel
theorem dX2_store_6 : decode cX2_store 6 = .ok (.ifCond .eq 14, 3) := by decide +kernel
theorem dX2_store_9 : decode cX2_store 9 = .ok (.aload_n 0, 1) := by decide +kernel
theorem dX2_store_10 : decode cX2_store 10 = .ok (.getfield 9, 3) := by decide +kernel
theorem dX2_store_13 : decode cX2_store 13 = .ok (.iload_n 1, 1) := by decide +kernel
theorem dX2_store_14 : decode cX2_store 14 = .ok (.aload_n 0, 1) := by decide +kernel
theorem dX2_store_15 : decode cX2_store 15 = .ok (.iload_n 2, 1) := by decide +kernel
theorem dX2_store_16 : decode cX2_store 16 = .ok (.invokevirtual 30, 3) := by decide +kernel
theorem dX2_store_19 : decode cX2_store 19 = .ok (.iastore, 1) := by decide +kernel
theorem dX2_store_20 : decode cX2_store 20 = .ok (.return_, 1) := by decide +kernel
theorem dX2_cut_0 : decode cX2_cut 0 = .ok (.aload_n 0, 1) := by decide +kernel
theorem dX2_cut_1 : decode cX2_cut 1 = .ok (.getfield 15, 3) := by decide +kernel
theorem dX2_cut_4 : decode cX2_cut 4 = .ok (.ifCond .ne 6, 3) := by decide +kernel
theorem dX2_cut_7 : decode cX2_cut 7 = .ok (.iload_n 1, 1) := by decide +kernel
theorem dX2_cut_8 : decode cX2_cut 8 = .ok (.i2b, 1) := by decide +kernel
theorem dX2_cut_9 : decode cX2_cut 9 = .ok (.ireturn, 1) := by decide +kernel
theorem dX2_cut_10 : decode cX2_cut 10 = .ok (.aload_n 0, 1) := by decide +kernel
theorem dX2_cut_11 : decode cX2_cut 11 = .ok (.getfield 15, 3) := by decide +kernel
theorem dX2_cut_14 : decode cX2_cut 14 = .ok (.iconst 1, 1) := by decide +kernel
theorem dX2_cut_15 : decode cX2_cut 15 = .ok (.if_icmp .ne 8, 3) := by decide +kernel
theorem dX2_cut_18 : decode cX2_cut 18 = .ok (.iload_n 1, 1) := by decide +kernel
theorem dX2_cut_19 : decode cX2_cut 19 = .ok (.i2s, 1) := by decide +kernel
theorem dX2_cut_20 : decode cX2_cut 20 = .ok (.goto 4, 3) := by decide +kernel
theorem dX2_cut_23 : decode cX2_cut 23 = .ok (.iload_n 1, 1) := by decide +kernel
theorem dX2_cut_24 : decode cX2_cut 24 = .ok (.ireturn, 1) := by decide +kernel
set_option maxRecDepth 20000 in
theorem ggX3_init_X2_init : GoodIn wsX3_init wsX2_init := goodIn_r _ [24, 25, 2, 3, 6, 26, 27, 28, 50, 51, 52] (by decide +kernel) (by decide +kernel)
set_option maxRecDepth 20000 in
theorem gX3_init_X2_init_n49 : GoodIn wsX3_init (wsX2_init) := ggX3_init_X2_init
set_option maxRecDepth 20000 in
theorem ggX3_init_X0_init : GoodIn wsX3_init wsX0_init := goodIn_r _ [30, 31, 2, 3, 32, 33, 34, 53, 54, 55] (by decide +kernel) (by decide +kernel)
set_option maxRecDepth 20000 in
theorem gX3_init_X0_init_n50 : GoodIn wsX3_init (wsX0_init) := ggX3_init_X0_init
set_option maxRecDepth 20000 in
theorem ggX3_init_X1_init : GoodIn wsX3_init wsX1_init := goodIn_r _ [36, 37, 2, 3, 38, 39, 40, 56, 57, 58] (by decide +kernel) (by decide +kernel)
set_option maxRecDepth 20000 in
theorem gX3_init_X1_init_n51 : GoodIn wsX3_init (wsX1_init) := ggX3_init_X1_init
theorem dX3_init_0 : decode cX3_init 0 = .ok (.aload_n 0, 1) := by decide +kernel
theorem dX3_init_1 : decode cX3_init 1 = .ok (.invokespecial 3, 3) := by decide +kernel
theorem dX3_init_4 : decode cX3_init 4 = .ok (.aload_n 0, 1) := by decide +kernel
theorem dX3_init_5 : decode cX3_init 5 = .ok (.iconst 4, 1) := by decide +kernel
theorem dX3_init_6 : decode cX3_init 6 = .ok (.anewarray 11, 3) := by decide +kernel
theorem dX3_init_9 : decode cX3_init 9 = .ok (.putfield 13, 3) := by decide +kernel
theorem dX3_init_12 : decode cX3_init 12 = .ok (.aload_n 0, 1) := by decide +kernel
theorem dX3_init_13 : decode cX3_init 13 = .ok (.iconst 5, 1) := by decide +kernel
theorem dX3_init_14 : decode cX3_init 14 = .ok (.newarray .int, 2) := by decide +kernel
theorem dX3_init_16 : decode cX3_init 16 = .ok (.putfield 17, 3) := by decide +kernel
theorem dX3_init_19 : decode cX3_init 19 = .ok (.aload_n 0, 1) := by decide +kernel
theorem dX3_init_20 : decode cX3_init 20 = .ok (.iconst 4, 1) := by decide +kernel
theorem dX3_init_21 : decode cX3_init 21 = .ok (.anewarray 21, 3) := by decide +kernel
theorem dX3_init_24 : decode cX3_init 24 = .ok (.putfield 23, 3) := by decide +kernel
theorem dX3_init_27 : decode cX3_init 27 = .ok (.aload_n 0, 1) := by decide +kernel
theorem dX3_init_28 : decode cX3_init 28 = .ok (.bipush 8, 2) := by decide +kernel
theorem dX3_init_30 : decode cX3_init 30 = .ok (.anewarray 27, 3) := by decide +kernel
theorem dX3_init_33 : decode cX3_init 33 = .ok (.putfield 29, 3) := by decide +kernel
theorem dX3_init_36 : decode cX3_init 36 = .ok (.aload_n 0, 1) := by decide +kernel
theorem dX3_init_37 : decode cX3_init 37 = .ok (.iconst 0, 1) := by decide +kernel
theorem dX3_init_38 : decode cX3_init 38 = .ok (.putfield 33, 3) := by decide +kernel
theorem dX3_init_41 : decode cX3_init 41 = .ok (.aload_n 0, 1) := by decide +kernel
theorem dX3_init_42 : decode cX3_init 42 = .ok (.iconst 0, 1) := by decide +kernel
theorem dX3_init_43 : decode cX3_init 43 = .ok (.putfield 37, 3) := by decide +kernel
theorem dX3_init_46 : decode cX3_init 46 = .ok (.aload_n 0, 1) := by decide +kernel
theorem dX3_init_47 : decode cX3_init 47 = .ok (.iconst 0, 1) := by decide +kernel
theorem dX3_init_48 : decode cX3_init 48 = .ok (.putfield 40, 3) := by decide +kernel
theorem dX3_init_51 : decode cX3_init 51 = .ok (.aload_n 0, 1) := by decide +kernel
theorem dX3_init_52 : decode cX3_init 52 = .ok (.iconst 0, 1) := by decide +kernel
theorem dX3_init_53 : decode cX3_init 53 = .ok (.putfield 43, 3) := by decide +kernel
theorem dX3_init_56 : decode cX3_init 56 = .ok (.aload_n 0, 1) := by decide +kernel
theorem dX3_init_57 : decode cX3_init 57 = .ok (.iconst 0, 1) := by decide +kernel
theorem dX3_init_58 : decode cX3_init 58 = .ok (.putfield 46, 3) := by decide +kernel
theorem dX3_init_61 : decode cX3_init 61 = .ok (.iconst 0, 1) := by decide +kernel
theorem dX3_init_62 : decode cX3_init 62 = .ok (.istore_n 1, 1) := by decide +kernel
theorem dX3_init_63 : decode cX3_init 63 = .ok (.iload_n 1, 1) := by decide +kernel
theorem dX3_init_64 : decode cX3_init 64 = .ok (.iconst 4, 1) := by decide +kernel
theorem dX3_init_65 : decode cX3_init 65 = .ok (.if_icmp .ge 22, 3) := by decide +kernel
theorem dX3_init_68 : decode cX3_init 68 = .ok (.aload_n 0, 1) := by decide +kernel
theorem dX3_init_69 : decode cX3_init 69 = .ok (.getfield 13, 3) := by decide +kernel
theorem dX3_init_72 : decode cX3_init 72 = .ok (.iload_n 1, 1) := by decide +kernel
theorem dX3_init_73 : decode cX3_init 73 = .ok (.new 11, 3) := by decide +kernel
theorem dX3_init_76 : decode cX3_init 76 = .ok (.dup, 1) := by decide +kernel
theorem dX3_init_77 : decode cX3_init 77 = .ok (.invokespecial 49, 3) := by decide +kernel
theorem dX3_init_80 : decode cX3_init 80 = .ok (.aastore, 1) := by decide +kernel
theorem dX3_init_81 : decode cX3_init 81 = .ok (.iinc 1 1, 3) := by decide +kernel
theorem dX3_init_84 : decode cX3_init 84 = .ok (.goto (-21), 3) := by decide +kernel
theorem dX3_init_87 : decode cX3_init 87 = .ok (.iconst 0, 1) := by decide +kernel
theorem dX3_init_88 : decode cX3_init 88 = .ok (.istore_n 1, 1) := by decide +kernel
theorem dX3_init_89 : decode cX3_init 89 = .ok (.iload_n 1, 1) := by decide +kernel
theorem dX3_init_90 : decode cX3_init 90 = .ok (.iconst 4, 1) := by decide +kernel
theorem dX3_init_91 : decode cX3_init 91 = .ok (.if_icmp .ge 22, 3) := by decide +kernel
theorem dX3_init_94 : decode cX3_init 94 = .ok (.aload_n 0, 1) := by decide +kernel
theorem dX3_init_95 : decode cX3_init 95 = .ok (.getfield 23, 3) := by decide +kernel
theorem dX3_init_98 : decode cX3_init 98 = .ok (.iload_n 1, 1) := by decide +kernel
theorem dX3_init_99 : decode cX3_init 99 = .ok (.new 21, 3) := by decide +kernel
theorem dX3_init_102 : decode cX3_init 102 = .ok (.dup, 1) := by decide +kernel
theorem dX3_init_103 : decode cX3_init 103 = .ok (.invokespecial 50, 3) := by decide +kernel
theorem dX3_init_106 : decode cX3_init 106 = .ok (.aastore, 1) := by decide +kernel
theorem dX3_init_107 : decode cX3_init 107 = .ok (.iinc 1 1, 3) := by decide +kernel
theorem dX3_init_110 : decode cX3_init 110 = .ok (.goto (-21), 3) := by decide +kernel
theorem dX3_init_113 : decode cX3_init 113 = .ok (.iconst 0, 1) := by decide +kernel
theorem dX3_init_114 : decode cX3_init 114 = .ok (.istore_n 1, 1) := by decide +kernel
theorem dX3_init_115 : decode cX3_init 115 = .ok (.iload_n 1, 1) := by decide +kernel
theorem dX3_init_116 : decode cX3_init 116 = .ok (.bipush 8, 2) := by decide +kernel
theorem dX3_init_118 : decode cX3_init 118 = .ok (.if_icmp .ge 22, 3) := by decide +kernel
theorem dX3_init_121 : decode cX3_init 121 = .ok (.aload_n 0, 1) := by decide +kernel
theorem dX3_init_122 : decode cX3_init 122 = .ok (.getfield 29, 3) := by decide +kernel
theorem dX3_init_125 : decode cX3_init 125 = .ok (.iload_n 1, 1) := by decide +kernel
theorem dX3_init_126 : decode cX3_init 126 = .ok (.new 27, 3) := by decide +kernel
theorem dX3_init_129 : decode cX3_init 129 = .ok (.dup, 1) := by decide +kernel
theorem dX3_init_130 : decode cX3_init 130 = .ok (.invokespecial 51, 3) := by decide +kernel
theorem dX3_init_133 : decode cX3_init 133 = .ok (.aastore, 1) := by decide +kernel
theorem dX3_init_134 : decode cX3_init 134 = .ok (.iinc 1 1, 3) := by decide +kernel
theorem dX3_init_137 : decode cX3_init 137 = .ok (.goto (-22), 3) := by decide +kernel
theorem dX3_init_140 : decode cX3_init 140 = .ok (.return_, 1) := by decide +kernel
set_option maxRecDepth 20000 in
theorem ggX3_office_X3_isSheet : GoodIn wsX3_office wsX3_isSheet := goodIn_r _ [8] (by decide +kernel) (by decide +kernel)
set_option maxRecDepth 20000 in
theorem gX3_office_X3_isSheet : GoodIn wsX3_office (va_wsS RX3 52 yX3_isSheet wsX3_isSheet) := goodIn_app (goodIn_of _ (by decide +kernel)) ggX3_office_X3_isSheet
set_option maxRecDepth 20000 in
theorem ggX3_office_X3_isLane : GoodIn wsX3_office wsX3_isLane := goodIn_r _ [11] (by decide +kernel) (by decide +kernel)
set_option maxRecDepth 20000 in
theorem gX3_office_X3_isLane : GoodIn wsX3_office (va_wsS RX3 56 yX3_isLane wsX3_isLane) := goodIn_app (goodIn_of _ (by decide +kernel)) ggX3_office_X3_isLane
set_option maxRecDepth 20000 in
theorem ggX3_office_X2_flaw : GoodIn wsX3_office wsX2_flaw := goodIn_r _ [16, 17, 18, 19, 20, 15, 21, 22, 23, 24, 25, 26, 66, 67, 68] (by decide +kernel) (by decide +kernel)
set_option maxRecDepth 20000 in
theorem gX3_office_X2_flaw : GoodIn wsX3_office (wsV RX3 59 RX2 yX2_flaw wsX2_flaw) := goodIn_app (goodIn_of _ (by decide +kernel)) ggX3_office_X2_flaw
set_option maxRecDepth 20000 in
theorem ggX3_office_X3_faulty : GoodIn wsX3_office wsX3_faulty := goodIn_r _ [30, 1, 57, 58, 59, 60, 61, 62, 63, 64, 65] (by decide +kernel) (by decide +kernel)
set_option maxRecDepth 20000 in
theorem gX3_office_X3_faulty : GoodIn wsX3_office (wsV RX3 63 RX3 yX3_faulty wsX3_faulty) := goodIn_app (goodIn_of _ (by decide +kernel)) ggX3_office_X3_faulty
set_option maxRecDepth 20000 in
theorem ggX3_office_X3_firstFaultPlace : GoodIn wsX3_office wsX3_firstFaultPlace := goodIn_r _ [33, 34, 35, 7, 36, 37, 38, 39, 40, 41, 42] (by decide +kernel) (by decide +kernel)
set_option maxRecDepth 20000 in
theorem gX3_office_X3_firstFaultPlace : GoodIn wsX3_office (va_wsS RX3 70 yX3_firstFaultPlace wsX3_firstFaultPlace) := goodIn_app (goodIn_of _ (by decide +kernel)) ggX3_office_X3_firstFaultPlace
set_option maxRecDepth 20000 in
theorem ggX3_office_X3_takeOffice : GoodIn wsX3_office wsX3_takeOffice := goodIn_r _ [46, 47, 48, 4, 49, 50, 51, 52, 53, 54, 55, 7, 56, 40, 41, 42, 57, 58, 59, 60, 61, 62, 63, 64, 65, 69, 70, 71] (by decide +kernel) (by decide +kernel)
set_option maxRecDepth 20000 in
theorem gX3_office_X3_takeOffice : GoodIn wsX3_office (wsV RX3 74 RX3 yX3_takeOffice wsX3_takeOffice) := goodIn_app (goodIn_of _ (by decide +kernel)) ggX3_office_X3_takeOffice
theorem dX3_office_0 : decode cX3_office 0 = .ok (.aload_n 0, 1) := by decide +kernel
theorem dX3_office_1 : decode cX3_office 1 = .ok (.iconst 0, 1) := by decide +kernel
theorem dX3_office_2 : decode cX3_office 2 = .ok (.putfield 46, 3) := by decide +kernel
theorem dX3_office_5 : decode cX3_office 5 = .ok (.iload_n 1, 1) := by decide +kernel
theorem dX3_office_6 : decode cX3_office 6 = .ok (.invokestatic 52, 3) := by decide +kernel
theorem dX3_office_9 : decode cX3_office 9 = .ok (.ifCond .ne 5, 3) := by decide +kernel
theorem dX3_office_12 : decode cX3_office 12 = .ok (.iconst (-1), 1) := by decide +kernel
theorem dX3_office_13 : decode cX3_office 13 = .ok (.ireturn, 1) := by decide +kernel
theorem dX3_office_14 : decode cX3_office 14 = .ok (.iload_n 2, 1) := by decide +kernel
theorem dX3_office_15 : decode cX3_office 15 = .ok (.invokestatic 56, 3) := by decide +kernel
theorem dX3_office_18 : decode cX3_office 18 = .ok (.ifCond .ne 6, 3) := by decide +kernel
theorem dX3_office_21 : decode cX3_office 21 = .ok (.bipush (-2), 2) := by decide +kernel
theorem dX3_office_23 : decode cX3_office 23 = .ok (.ireturn, 1) := by decide +kernel
theorem dX3_office_24 : decode cX3_office 24 = .ok (.aload_n 0, 1) := by decide +kernel
theorem dX3_office_25 : decode cX3_office 25 = .ok (.getfield 13, 3) := by decide +kernel
theorem dX3_office_28 : decode cX3_office 28 = .ok (.iload_n 1, 1) := by decide +kernel
theorem dX3_office_29 : decode cX3_office 29 = .ok (.aaload, 1) := by decide +kernel
theorem dX3_office_30 : decode cX3_office 30 = .ok (.iload_n 2, 1) := by decide +kernel
theorem dX3_office_31 : decode cX3_office 31 = .ok (.iload_n 3, 1) := by decide +kernel
theorem dX3_office_32 : decode cX3_office 32 = .ok (.iload 4, 2) := by decide +kernel
theorem dX3_office_34 : decode cX3_office 34 = .ok (.invokevirtual 59, 3) := by decide +kernel
theorem dX3_office_37 : decode cX3_office 37 = .ok (.istore 5, 2) := by decide +kernel
theorem dX3_office_39 : decode cX3_office 39 = .ok (.iload 5, 2) := by decide +kernel
theorem dX3_office_41 : decode cX3_office 41 = .ok (.ifCond .eq 10, 3) := by decide +kernel
theorem dX3_office_44 : decode cX3_office 44 = .ok (.aload_n 0, 1) := by decide +kernel
theorem dX3_office_45 : decode cX3_office 45 = .ok (.iload 5, 2) := by decide +kernel
theorem dX3_office_47 : decode cX3_office 47 = .ok (.invokevirtual 63, 3) := by decide +kernel
theorem dX3_office_50 : decode cX3_office 50 = .ok (.ireturn, 1) := by decide +kernel
theorem dX3_office_51 : decode cX3_office 51 = .ok (.aload_n 0, 1) := by decide +kernel
theorem dX3_office_52 : decode cX3_office 52 = .ok (.getfield 13, 3) := by decide +kernel
theorem dX3_office_55 : decode cX3_office 55 = .ok (.iload_n 1, 1) := by decide +kernel
theorem dX3_office_56 : decode cX3_office 56 = .ok (.aaload, 1) := by decide +kernel
theorem dX3_office_57 : decode cX3_office 57 = .ok (.getfield 67, 3) := by decide +kernel
theorem dX3_office_60 : decode cX3_office 60 = .ok (.astore 6, 2) := by decide +kernel
theorem dX3_office_62 : decode cX3_office 62 = .ok (.iload_n 3, 1) := by decide +kernel
theorem dX3_office_63 : decode cX3_office 63 = .ok (.iload 4, 2) := by decide +kernel
theorem dX3_office_65 : decode cX3_office 65 = .ok (.iadd, 1) := by decide +kernel
theorem dX3_office_66 : decode cX3_office 66 = .ok (.istore 7, 2) := by decide +kernel
theorem dX3_office_68 : decode cX3_office 68 = .ok (.aload 6, 2) := by decide +kernel
theorem dX3_office_70 : decode cX3_office 70 = .ok (.iload_n 3, 1) := by decide +kernel
theorem dX3_office_71 : decode cX3_office 71 = .ok (.iload 7, 2) := by decide +kernel
theorem dX3_office_73 : decode cX3_office 73 = .ok (.invokestatic 70, 3) := by decide +kernel
theorem dX3_office_76 : decode cX3_office 76 = .ok (.istore 8, 2) := by decide +kernel
theorem dX3_office_78 : decode cX3_office 78 = .ok (.iload 8, 2) := by decide +kernel
theorem dX3_office_80 : decode cX3_office 80 = .ok (.bipush (-9), 2) := by decide +kernel
theorem dX3_office_82 : decode cX3_office 82 = .ok (.if_icmp .eq 11, 3) := by decide +kernel
theorem dX3_office_85 : decode cX3_office 85 = .ok (.bipush (-100), 2) := by decide +kernel
theorem dX3_office_87 : decode cX3_office 87 = .ok (.iload 8, 2) := by decide +kernel
theorem dX3_office_89 : decode cX3_office 89 = .ok (.iload_n 3, 1) := by decide +kernel
theorem dX3_office_90 : decode cX3_office 90 = .ok (.isub, 1) := by decide +kernel
theorem dX3_office_91 : decode cX3_office 91 = .ok (.isub, 1) := by decide +kernel
theorem dX3_office_92 : decode cX3_office 92 = .ok (.ireturn, 1) := by decide +kernel
theorem dX3_office_93 : decode cX3_office 93 = .ok (.aload_n 0, 1) := by decide +kernel
theorem dX3_office_94 : decode cX3_office 94 = .ok (.aload 6, 2) := by decide +kernel
theorem dX3_office_96 : decode cX3_office 96 = .ok (.iload_n 3, 1) := by decide +kernel
theorem dX3_office_97 : decode cX3_office 97 = .ok (.iload 7, 2) := by decide +kernel
theorem dX3_office_99 : decode cX3_office 99 = .ok (.invokevirtual 74, 3) := by decide +kernel
theorem dX3_office_102 : decode cX3_office 102 = .ok (.aload_n 0, 1) := by decide +kernel
theorem dX3_office_103 : decode cX3_office 103 = .ok (.getfield 37, 3) := by decide +kernel
theorem dX3_office_106 : decode cX3_office 106 = .ok (.ireturn, 1) := by decide +kernel
set_option maxRecDepth 20000 in
theorem ggX3_chance_X3_isEvent : GoodIn wsX3_chance wsX3_isEvent := goodIn_r _ [6, 7, 8, 9, 10, 11, 12, 13, 14, 15, 16] (by decide +kernel) (by decide +kernel)
set_option maxRecDepth 20000 in
theorem gX3_chance_X3_isEvent : GoodIn wsX3_chance (wsV RX3 78 RX3 yX3_isEvent wsX3_isEvent) := goodIn_app (goodIn_of _ (by decide +kernel)) ggX3_chance_X3_isEvent
theorem dX3_chance_0 : decode cX3_chance 0 = .ok (.aload_n 0, 1) := by decide +kernel
theorem dX3_chance_1 : decode cX3_chance 1 = .ok (.iload_n 1, 1) := by decide +kernel
theorem dX3_chance_2 : decode cX3_chance 2 = .ok (.invokevirtual 78, 3) := by decide +kernel
theorem dX3_chance_5 : decode cX3_chance 5 = .ok (.ifCond .eq 12, 3) := by decide +kernel
theorem dX3_chance_8 : decode cX3_chance 8 = .ok (.aload_n 0, 1) := by decide +kernel
theorem dX3_chance_9 : decode cX3_chance 9 = .ok (.getfield 17, 3) := by decide +kernel
theorem dX3_chance_12 : decode cX3_chance 12 = .ok (.iload_n 1, 1) := by decide +kernel
theorem dX3_chance_13 : decode cX3_chance 13 = .ok (.iaload, 1) := by decide +kernel
theorem dX3_chance_14 : decode cX3_chance 14 = .ok (.goto 4, 3) := by decide +kernel
theorem dX3_chance_17 : decode cX3_chance 17 = .ok (.iconst (-1), 1) := by decide +kernel
theorem dX3_chance_18 : decode cX3_chance 18 = .ok (.ireturn, 1) := by decide +kernel
set_option maxRecDepth 20000 in
theorem ggX3_fate_X3_isEvent : GoodIn wsX3_fate wsX3_isEvent := goodIn_r _ [6, 7, 11, 12, 13, 14, 15, 16, 17, 18, 19] (by decide +kernel) (by decide +kernel)
set_option maxRecDepth 20000 in
theorem gX3_fate_X3_isEvent : GoodIn wsX3_fate (wsV RX3 78 RX3 yX3_isEvent wsX3_isEvent) := goodIn_app (goodIn_of _ (by decide +kernel)) ggX3_fate_X3_isEvent
set_option maxRecDepth 20000 in
theorem ggX3_fate_X3_isWithin : GoodIn wsX3_fate wsX3_isWithin := goodIn_r _ [10] (by decide +kernel) (by decide +kernel)
set_option maxRecDepth 20000 in
theorem gX3_fate_X3_isWithin : GoodIn wsX3_fate (va_wsS RX3 81 yX3_isWithin wsX3_isWithin) := goodIn_app (goodIn_of _ (by decide +kernel)) ggX3_fate_X3_isWithin
theorem dX3_fate_0 : decode cX3_fate 0 = .ok (.aload_n 0, 1) := by decide +kernel
theorem dX3_fate_1 : decode cX3_fate 1 = .ok (.iload_n 1, 1) := by decide +kernel
theorem dX3_fate_2 : decode cX3_fate 2 = .ok (.invokevirtual 78, 3) := by decide +kernel
theorem dX3_fate_5 : decode cX3_fate 5 = .ok (.ifCond .ne 5, 3) := by decide +kernel
theorem dX3_fate_8 : decode cX3_fate 8 = .ok (.iconst (-1), 1) := by decide +kernel
theorem dX3_fate_9 : decode cX3_fate 9 = .ok (.ireturn, 1) := by decide +kernel
theorem dX3_fate_10 : decode cX3_fate 10 = .ok (.iload_n 2, 1) := by decide +kernel
theorem dX3_fate_11 : decode cX3_fate 11 = .ok (.bipush 9, 2) := by decide +kernel
theorem dX3_fate_13 : decode cX3_fate 13 = .ok (.invokestatic 81, 3) := by decide +kernel
theorem dX3_fate_16 : decode cX3_fate 16 = .ok (.ifCond .ne 6, 3) := by decide +kernel
theorem dX3_fate_19 : decode cX3_fate 19 = .ok (.bipush (-2), 2) := by decide +kernel
theorem dX3_fate_21 : decode cX3_fate 21 = .ok (.ireturn, 1) := by decide +kernel
theorem dX3_fate_22 : decode cX3_fate 22 = .ok (.aload_n 0, 1) := by decide +kernel
theorem dX3_fate_23 : decode cX3_fate 23 = .ok (.getfield 17, 3) := by decide +kernel
theorem dX3_fate_26 : decode cX3_fate 26 = .ok (.iload_n 1, 1) := by decide +kernel
theorem dX3_fate_27 : decode cX3_fate 27 = .ok (.iaload, 1) := by decide +kernel
theorem dX3_fate_28 : decode cX3_fate 28 = .ok (.istore_n 3, 1) := by decide +kernel
theorem dX3_fate_29 : decode cX3_fate 29 = .ok (.aload_n 0, 1) := by decide +kernel
theorem dX3_fate_30 : decode cX3_fate 30 = .ok (.getfield 17, 3) := by decide +kernel
theorem dX3_fate_33 : decode cX3_fate 33 = .ok (.iload_n 1, 1) := by decide +kernel
theorem dX3_fate_34 : decode cX3_fate 34 = .ok (.iload_n 2, 1) := by decide +kernel
theorem dX3_fate_35 : decode cX3_fate 35 = .ok (.iastore, 1) := by decide +kernel
theorem dX3_fate_36 : decode cX3_fate 36 = .ok (.iload_n 3, 1) := by decide +kernel
theorem dX3_fate_37 : decode cX3_fate 37 = .ok (.ireturn, 1) := by decide +kernel
set_option maxRecDepth 20000 in
theorem ggX3_ofProphet_X3_isProphet : GoodIn wsX3_ofProphet wsX3_isProphet := goodIn_r _ [9, 10, 23, 24, 25, 26, 27, 28, 29, 30, 31] (by decide +kernel) (by decide +kernel)
set_option maxRecDepth 20000 in
theorem gX3_ofProphet_X3_isProphet : GoodIn wsX3_ofProphet (wsV RX3 85 RX3 yX3_isProphet wsX3_isProphet) := goodIn_app (goodIn_of _ (by decide +kernel)) ggX3_ofProphet_X3_isProphet
set_option maxRecDepth 20000 in
theorem ggX3_ofProphet_X3_paysEach : GoodIn wsX3_ofProphet wsX3_paysEach := goodIn_r _ [13] (by decide +kernel) (by decide +kernel)
set_option maxRecDepth 20000 in
theorem gX3_ofProphet_X3_paysEach : GoodIn wsX3_ofProphet (va_wsS RX3 97 yX3_paysEach wsX3_paysEach) := goodIn_app (goodIn_of _ (by decide +kernel)) ggX3_ofProphet_X3_paysEach
set_option maxRecDepth 20000 in
theorem ggX3_ofProphet_X3_isFraud : GoodIn wsX3_ofProphet wsX3_isFraud := goodIn_r _ [17, 18, 19, 20, 8, 21, 22, 23, 24, 25, 26, 27, 28, 29, 30, 31] (by decide +kernel) (by decide +kernel)
set_option maxRecDepth 20000 in
theorem gX3_ofProphet_X3_isFraud : GoodIn wsX3_ofProphet (wsV RX3 101 RX3 yX3_isFraud wsX3_isFraud) := goodIn_app (goodIn_of _ (by decide +kernel)) ggX3_ofProphet_X3_isFraud
theorem dX3_ofProphet_0 : decode cX3_ofProphet 0 = .ok (.aload_n 0, 1) := by decide +kernel
theorem dX3_ofProphet_1 : decode cX3_ofProphet 1 = .ok (.iload_n 1, 1) := by decide +kernel
theorem dX3_ofProphet_2 : decode cX3_ofProphet 2 = .ok (.invokevirtual 85, 3) := by decide +kernel
theorem dX3_ofProphet_5 : decode cX3_ofProphet 5 = .ok (.ifCond .ne 5, 3) := by decide +kernel
theorem dX3_ofProphet_8 : decode cX3_ofProphet 8 = .ok (.iconst (-1), 1) := by decide +kernel
theorem dX3_ofProphet_9 : decode cX3_ofProphet 9 = .ok (.ireturn, 1) := by decide +kernel
theorem dX3_ofProphet_10 : decode cX3_ofProphet 10 = .ok (.aload_n 0, 1) := by decide +kernel
theorem dX3_ofProphet_11 : decode cX3_ofProphet 11 = .ok (.getfield 23, 3) := by decide +kernel
theorem dX3_ofProphet_14 : decode cX3_ofProphet 14 = .ok (.iload_n 1, 1) := by decide +kernel
theorem dX3_ofProphet_15 : decode cX3_ofProphet 15 = .ok (.aaload, 1) := by decide +kernel
theorem dX3_ofProphet_16 : decode cX3_ofProphet 16 = .ok (.astore_n 3, 1) := by decide +kernel
theorem dX3_ofProphet_17 : decode cX3_ofProphet 17 = .ok (.iload_n 2, 1) := by decide +kernel
theorem dX3_ofProphet_18 : decode cX3_ofProphet 18 = .ok (.tableswitch 78 0 4 #[34, 39, 44, 49, 61], 34) := by decide +kernel
theorem dX3_ofProphet_52 : decode cX3_ofProphet 52 = .ok (.aload_n 3, 1) := by decide +kernel
theorem dX3_ofProphet_53 : decode cX3_ofProphet 53 = .ok (.getfield 88, 3) := by decide +kernel
theorem dX3_ofProphet_56 : decode cX3_ofProphet 56 = .ok (.ireturn, 1) := by decide +kernel
theorem dX3_ofProphet_57 : decode cX3_ofProphet 57 = .ok (.aload_n 3, 1) := by decide +kernel
theorem dX3_ofProphet_58 : decode cX3_ofProphet 58 = .ok (.getfield 91, 3) := by decide +kernel
theorem dX3_ofProphet_61 : decode cX3_ofProphet 61 = .ok (.ireturn, 1) := by decide +kernel
theorem dX3_ofProphet_62 : decode cX3_ofProphet 62 = .ok (.aload_n 3, 1) := by decide +kernel
theorem dX3_ofProphet_63 : decode cX3_ofProphet 63 = .ok (.getfield 94, 3) := by decide +kernel
theorem dX3_ofProphet_66 : decode cX3_ofProphet 66 = .ok (.ireturn, 1) := by decide +kernel
theorem dX3_ofProphet_67 : decode cX3_ofProphet 67 = .ok (.aload_n 3, 1) := by decide +kernel
theorem dX3_ofProphet_68 : decode cX3_ofProphet 68 = .ok (.getfield 88, 3) := by decide +kernel
theorem dX3_ofProphet_71 : decode cX3_ofProphet 71 = .ok (.aload_n 3, 1) := by decide +kernel
theorem dX3_ofProphet_72 : decode cX3_ofProphet 72 = .ok (.getfield 91, 3) := by decide +kernel
theorem dX3_ofProphet_75 : decode cX3_ofProphet 75 = .ok (.invokestatic 97, 3) := by decide +kernel
theorem dX3_ofProphet_78 : decode cX3_ofProphet 78 = .ok (.ireturn, 1) := by decide +kernel
theorem dX3_ofProphet_79 : decode cX3_ofProphet 79 = .ok (.aload_n 0, 1) := by decide +kernel
theorem dX3_ofProphet_80 : decode cX3_ofProphet 80 = .ok (.aload_n 3, 1) := by decide +kernel
theorem dX3_ofProphet_81 : decode cX3_ofProphet 81 = .ok (.getfield 94, 3) := by decide +kernel
theorem dX3_ofProphet_84 : decode cX3_ofProphet 84 = .ok (.invokevirtual 101, 3) := by decide +kernel
theorem dX3_ofProphet_87 : decode cX3_ofProphet 87 = .ok (.ifCond .eq 7, 3) := by decide +kernel
theorem dX3_ofProphet_90 : decode cX3_ofProphet 90 = .ok (.iconst 1, 1) := by decide +kernel
theorem dX3_ofProphet_91 : decode cX3_ofProphet 91 = .ok (.goto 4, 3) := by decide +kernel
theorem dX3_ofProphet_94 : decode cX3_ofProphet 94 = .ok (.iconst 0, 1) := by decide +kernel
theorem dX3_ofProphet_95 : decode cX3_ofProphet 95 = .ok (.ireturn, 1) := by decide +kernel
theorem dX3_ofProphet_96 : decode cX3_ofProphet 96 = .ok (.bipush (-2), 2) := by decide +kernel
theorem dX3_ofProphet_98 : decode cX3_ofProphet 98 = .ok (.ireturn, 1) := by decide +kernel
set_option maxRecDepth 20000 in
theorem ggX3_say_X3_isProphet : GoodIn wsX3_say wsX3_isProphet := goodIn_r _ [7, 8, 12, 13, 14, 15, 16, 17, 18, 19, 20] (by decide +kernel) (by decide +kernel)
set_option maxRecDepth 20000 in
theorem gX3_say_X3_isProphet : GoodIn wsX3_say (wsV RX3 85 RX3 yX3_isProphet wsX3_isProphet) := goodIn_app (goodIn_of _ (by decide +kernel)) ggX3_say_X3_isProphet
set_option maxRecDepth 20000 in
theorem ggX3_say_X3_isWithin : GoodIn wsX3_say wsX3_isWithin := goodIn_r _ [11] (by decide +kernel) (by decide +kernel)
set_option maxRecDepth 20000 in
theorem gX3_say_X3_isWithin : GoodIn wsX3_say (va_wsS RX3 81 yX3_isWithin wsX3_isWithin) := goodIn_app (goodIn_of _ (by decide +kernel)) ggX3_say_X3_isWithin
theorem dX3_say_0 : decode cX3_say 0 = .ok (.aload_n 0, 1) := by decide +kernel
theorem dX3_say_1 : decode cX3_say 1 = .ok (.iload_n 1, 1) := by decide +kernel
theorem dX3_say_2 : decode cX3_say 2 = .ok (.invokevirtual 85, 3) := by decide +kernel
theorem dX3_say_5 : decode cX3_say 5 = .ok (.ifCond .ne 5, 3) := by decide +kernel
theorem dX3_say_8 : decode cX3_say 8 = .ok (.iconst (-1), 1) := by decide +kernel
theorem dX3_say_9 : decode cX3_say 9 = .ok (.ireturn, 1) := by decide +kernel
theorem dX3_say_10 : decode cX3_say 10 = .ok (.iload_n 2, 1) := by decide +kernel
theorem dX3_say_11 : decode cX3_say 11 = .ok (.bipush 31, 2) := by decide +kernel
theorem dX3_say_13 : decode cX3_say 13 = .ok (.invokestatic 81, 3) := by decide +kernel
theorem dX3_say_16 : decode cX3_say 16 = .ok (.ifCond .ne 6, 3) := by decide +kernel
theorem dX3_say_19 : decode cX3_say 19 = .ok (.bipush (-2), 2) := by decide +kernel
theorem dX3_say_21 : decode cX3_say 21 = .ok (.ireturn, 1) := by decide +kernel
theorem dX3_say_22 : decode cX3_say 22 = .ok (.aload_n 0, 1) := by decide +kernel
theorem dX3_say_23 : decode cX3_say 23 = .ok (.getfield 23, 3) := by decide +kernel
theorem dX3_say_26 : decode cX3_say 26 = .ok (.iload_n 1, 1) := by decide +kernel
theorem dX3_say_27 : decode cX3_say 27 = .ok (.aaload, 1) := by decide +kernel
theorem dX3_say_28 : decode cX3_say 28 = .ok (.getfield 94, 3) := by decide +kernel
theorem dX3_say_31 : decode cX3_say 31 = .ok (.istore_n 3, 1) := by decide +kernel
theorem dX3_say_32 : decode cX3_say 32 = .ok (.aload_n 0, 1) := by decide +kernel
theorem dX3_say_33 : decode cX3_say 33 = .ok (.getfield 23, 3) := by decide +kernel
theorem dX3_say_36 : decode cX3_say 36 = .ok (.iload_n 1, 1) := by decide +kernel
theorem dX3_say_37 : decode cX3_say 37 = .ok (.aaload, 1) := by decide +kernel
theorem dX3_say_38 : decode cX3_say 38 = .ok (.iload_n 2, 1) := by decide +kernel
theorem dX3_say_39 : decode cX3_say 39 = .ok (.putfield 94, 3) := by decide +kernel
theorem dX3_say_42 : decode cX3_say 42 = .ok (.iload_n 3, 1) := by decide +kernel
theorem dX3_say_43 : decode cX3_say 43 = .ok (.ireturn, 1) := by decide +kernel
set_option maxRecDepth 20000 in
theorem ggX3_paid_X3_isProphet : GoodIn wsX3_paid wsX3_isProphet := goodIn_r _ [5, 6, 45, 46, 47, 48, 49, 50, 51, 52, 53] (by decide +kernel) (by decide +kernel)
set_option maxRecDepth 20000 in
theorem gX3_paid_X3_isProphet : GoodIn wsX3_paid (wsV RX3 85 RX3 yX3_isProphet wsX3_isProphet) := goodIn_app (goodIn_of _ (by decide +kernel)) ggX3_paid_X3_isProphet
set_option maxRecDepth 20000 in
theorem ggX3_paid_X3_isEventSet : GoodIn wsX3_paid wsX3_isEventSet := goodIn_r _ [10, 11, 12, 13, 4, 14, 15, 16, 17, 18, 45, 46, 47, 48, 49, 50, 51, 52, 53] (by decide +kernel) (by decide +kernel)
set_option maxRecDepth 20000 in
theorem gX3_paid_X3_isEventSet : GoodIn wsX3_paid (wsV RX3 104 RX3 yX3_isEventSet wsX3_isEventSet) := goodIn_app (goodIn_of _ (by decide +kernel)) ggX3_paid_X3_isEventSet
set_option maxRecDepth 20000 in
theorem ggX3_paid_X3_paidTo : GoodIn wsX3_paid wsX3_paidTo := goodIn_r _ [22, 23, 24, 25, 26, 27, 28, 29, 4, 30, 31, 32, 33, 34, 11, 12, 13, 14, 15, 35, 36, 37, 38, 39, 40, 41, 42, 43, 44, 45, 46, 47, 48, 49, 50, 51, 52, 53, 54, 55, 56] (by decide +kernel) (by decide +kernel)
set_option maxRecDepth 20000 in
theorem gX3_paid_X3_paidTo : GoodIn wsX3_paid (wsV RX3 107 RX3 yX3_paidTo wsX3_paidTo) := goodIn_app (goodIn_of _ (by decide +kernel)) ggX3_paid_X3_paidTo
theorem dX3_paid_0 : decode cX3_paid 0 = .ok (.aload_n 0, 1) := by decide +kernel
theorem dX3_paid_1 : decode cX3_paid 1 = .ok (.iload_n 1, 1) := by decide +kernel
theorem dX3_paid_2 : decode cX3_paid 2 = .ok (.invokevirtual 85, 3) := by decide +kernel
theorem dX3_paid_5 : decode cX3_paid 5 = .ok (.ifCond .ne 5, 3) := by decide +kernel
theorem dX3_paid_8 : decode cX3_paid 8 = .ok (.iconst (-1), 1) := by decide +kernel
theorem dX3_paid_9 : decode cX3_paid 9 = .ok (.ireturn, 1) := by decide +kernel
theorem dX3_paid_10 : decode cX3_paid 10 = .ok (.aload_n 0, 1) := by decide +kernel
theorem dX3_paid_11 : decode cX3_paid 11 = .ok (.iload_n 2, 1) := by decide +kernel
theorem dX3_paid_12 : decode cX3_paid 12 = .ok (.invokevirtual 104, 3) := by decide +kernel
theorem dX3_paid_15 : decode cX3_paid 15 = .ok (.ifCond .eq 12, 3) := by decide +kernel
theorem dX3_paid_18 : decode cX3_paid 18 = .ok (.aload_n 0, 1) := by decide +kernel
theorem dX3_paid_19 : decode cX3_paid 19 = .ok (.iload_n 1, 1) := by decide +kernel
theorem dX3_paid_20 : decode cX3_paid 20 = .ok (.iload_n 2, 1) := by decide +kernel
theorem dX3_paid_21 : decode cX3_paid 21 = .ok (.invokevirtual 107, 3) := by decide +kernel
theorem dX3_paid_24 : decode cX3_paid 24 = .ok (.goto 5, 3) := by decide +kernel
theorem dX3_paid_27 : decode cX3_paid 27 = .ok (.bipush (-2), 2) := by decide +kernel
theorem dX3_paid_29 : decode cX3_paid 29 = .ok (.ireturn, 1) := by decide +kernel
set_option maxRecDepth 20000 in
theorem ggX3_total_X3_hasOffice : GoodIn wsX3_total wsX3_hasOffice := goodIn_r _ [5, 6, 49, 50, 51, 52, 53, 54, 55, 56, 57] (by decide +kernel) (by decide +kernel)
set_option maxRecDepth 20000 in
theorem gX3_total_X3_hasOffice : GoodIn wsX3_total (wsV RX3 110 RX3 yX3_hasOffice wsX3_hasOffice) := goodIn_app (goodIn_of _ (by decide +kernel)) ggX3_total_X3_hasOffice
set_option maxRecDepth 20000 in
theorem ggX3_total_X3_isEventSet : GoodIn wsX3_total wsX3_isEventSet := goodIn_r _ [10, 11, 12, 13, 4, 14, 15, 16, 17, 18, 49, 50, 51, 52, 53, 54, 55, 56, 57] (by decide +kernel) (by decide +kernel)
set_option maxRecDepth 20000 in
theorem gX3_total_X3_isEventSet : GoodIn wsX3_total (wsV RX3 104 RX3 yX3_isEventSet wsX3_isEventSet) := goodIn_app (goodIn_of _ (by decide +kernel)) ggX3_total_X3_isEventSet
set_option maxRecDepth 20000 in
theorem ggX3_total_X3_paidToAll : GoodIn wsX3_total wsX3_paidToAll := goodIn_r _ [22, 6, 23, 24, 25, 4, 26, 27, 28, 29, 30, 31, 32, 33, 34, 35, 36, 37, 38, 11, 12, 13, 14, 15, 39, 40, 41, 42, 43, 44, 45, 46, 47, 48, 49, 50, 51, 52, 53, 54, 55, 56, 57, 58, 59, 60] (by decide +kernel) (by decide +kernel)
set_option maxRecDepth 20000 in
theorem gX3_total_X3_paidToAll : GoodIn wsX3_total (wsV RX3 114 RX3 yX3_paidToAll wsX3_paidToAll) := goodIn_app (goodIn_of _ (by decide +kernel)) ggX3_total_X3_paidToAll
theorem dX3_total_0 : decode cX3_total 0 = .ok (.aload_n 0, 1) := by decide +kernel
theorem dX3_total_1 : decode cX3_total 1 = .ok (.invokevirtual 110, 3) := by decide +kernel
theorem dX3_total_4 : decode cX3_total 4 = .ok (.ifCond .ne 6, 3) := by decide +kernel
theorem dX3_total_7 : decode cX3_total 7 = .ok (.bipush (-3), 2) := by decide +kernel
theorem dX3_total_9 : decode cX3_total 9 = .ok (.ireturn, 1) := by decide +kernel
theorem dX3_total_10 : decode cX3_total 10 = .ok (.aload_n 0, 1) := by decide +kernel
theorem dX3_total_11 : decode cX3_total 11 = .ok (.iload_n 1, 1) := by decide +kernel
theorem dX3_total_12 : decode cX3_total 12 = .ok (.invokevirtual 104, 3) := by decide +kernel
theorem dX3_total_15 : decode cX3_total 15 = .ok (.ifCond .eq 11, 3) := by decide +kernel
theorem dX3_total_18 : decode cX3_total 18 = .ok (.aload_n 0, 1) := by decide +kernel
theorem dX3_total_19 : decode cX3_total 19 = .ok (.iload_n 1, 1) := by decide +kernel
theorem dX3_total_20 : decode cX3_total 20 = .ok (.invokevirtual 114, 3) := by decide +kernel
theorem dX3_total_23 : decode cX3_total 23 = .ok (.goto 5, 3) := by decide +kernel
theorem dX3_total_26 : decode cX3_total 26 = .ok (.bipush (-2), 2) := by decide +kernel
theorem dX3_total_28 : decode cX3_total 28 = .ok (.ireturn, 1) := by decide +kernel
set_option maxRecDepth 20000 in
theorem ggX3_years_X3_isSheet : GoodIn wsX3_years wsX3_isSheet := goodIn_r _ [7] (by decide +kernel) (by decide +kernel)
set_option maxRecDepth 20000 in
theorem gX3_years_X3_isSheet : GoodIn wsX3_years (va_wsS RX3 52 yX3_isSheet wsX3_isSheet) := goodIn_app (goodIn_of _ (by decide +kernel)) ggX3_years_X3_isSheet
set_option maxRecDepth 20000 in
theorem ggX3_years_X3_isWithin : GoodIn wsX3_years wsX3_isWithin := goodIn_r _ [10] (by decide +kernel) (by decide +kernel)
set_option maxRecDepth 20000 in
theorem gX3_years_X3_isWithin : GoodIn wsX3_years (va_wsS RX3 81 yX3_isWithin wsX3_isWithin) := goodIn_app (goodIn_of _ (by decide +kernel)) ggX3_years_X3_isWithin
set_option maxRecDepth 20000 in
theorem ggX3_years_X3_isLane : GoodIn wsX3_years wsX3_isLane := goodIn_r _ [13] (by decide +kernel) (by decide +kernel)
set_option maxRecDepth 20000 in
theorem gX3_years_X3_isLane : GoodIn wsX3_years (va_wsS RX3 56 yX3_isLane wsX3_isLane) := goodIn_app (goodIn_of _ (by decide +kernel)) ggX3_years_X3_isLane
set_option maxRecDepth 20000 in
theorem ggX3_years_X3_isYearsQuestion : GoodIn wsX3_years wsX3_isYearsQuestion := goodIn_r _ [16, 8, 9, 6, 10] (by decide +kernel) (by decide +kernel)
set_option maxRecDepth 20000 in
theorem gX3_years_X3_isYearsQuestion : GoodIn wsX3_years (va_wsS RX3 117 yX3_isYearsQuestion wsX3_isYearsQuestion) := goodIn_app (goodIn_of _ (by decide +kernel)) ggX3_years_X3_isYearsQuestion
set_option maxRecDepth 20000 in
theorem ggX3_years_X3_hasOffice : GoodIn wsX3_years wsX3_hasOffice := goodIn_r _ [20, 21, 104, 105, 106, 107, 108, 109, 110, 111, 112] (by decide +kernel) (by decide +kernel)
set_option maxRecDepth 20000 in
theorem gX3_years_X3_hasOffice : GoodIn wsX3_years (wsV RX3 110 RX3 yX3_hasOffice wsX3_hasOffice) := goodIn_app (goodIn_of _ (by decide +kernel)) ggX3_years_X3_hasOffice
set_option maxRecDepth 20000 in
theorem ggX3_years_X2_flaw : GoodIn wsX3_years wsX2_flaw := goodIn_r _ [26, 27, 28, 29, 30, 25, 31, 32, 33, 34, 35, 36, 113, 114, 115] (by decide +kernel) (by decide +kernel)
set_option maxRecDepth 20000 in
theorem gX3_years_X2_flaw : GoodIn wsX3_years (wsV RX3 59 RX2 yX2_flaw wsX2_flaw) := goodIn_app (goodIn_of _ (by decide +kernel)) ggX3_years_X2_flaw
set_option maxRecDepth 20000 in
theorem ggX3_years_X3_faulty : GoodIn wsX3_years wsX3_faulty := goodIn_r _ [40, 1, 104, 105, 106, 107, 108, 109, 110, 111, 112] (by decide +kernel) (by decide +kernel)
set_option maxRecDepth 20000 in
theorem gX3_years_X3_faulty : GoodIn wsX3_years (wsV RX3 63 RX3 yX3_faulty wsX3_faulty) := goodIn_app (goodIn_of _ (by decide +kernel)) ggX3_years_X3_faulty
set_option maxRecDepth 20000 in
theorem ggX3_years_X3_areEventSets : GoodIn wsX3_years wsX3_areEventSets := goodIn_r _ [44, 45, 46, 47, 6, 48, 49, 50, 51, 52, 53, 8, 9, 10, 104, 105, 106, 107, 108, 109, 110, 111, 112] (by decide +kernel) (by decide +kernel)
set_option maxRecDepth 20000 in
theorem gX3_years_X3_areEventSets : GoodIn wsX3_years (wsV RX3 120 RX3 yX3_areEventSets wsX3_areEventSets) := goodIn_app (goodIn_of _ (by decide +kernel)) ggX3_years_X3_areEventSets
set_option maxRecDepth 20000 in
theorem ggX3_years_X3_paidOverYears : GoodIn wsX3_years wsX3_paidOverYears := goodIn_r _ [57, 58, 59, 60, 6, 61, 21, 62, 63, 64, 65, 66, 67, 68, 69, 70, 71, 72, 73, 74, 75, 76, 77, 49, 50, 51, 52, 53, 78, 79, 80, 81, 82, 83, 84, 85, 86, 87, 104, 105, 106, 107, 108, 109, 110, 111, 112, 116, 117, 118] (by decide +kernel) (by decide +kernel)
set_option maxRecDepth 20000 in
theorem gX3_years_X3_paidOverYears : GoodIn wsX3_years (wsV RX3 124 RX3 yX3_paidOverYears wsX3_paidOverYears) := goodIn_app (goodIn_of _ (by decide +kernel)) ggX3_years_X3_paidOverYears
set_option maxRecDepth 20000 in
theorem ggX3_years_X3_officeOverYears : GoodIn wsX3_years wsX3_officeOverYears := goodIn_r _ [91, 92, 93, 94, 95, 96, 97, 98, 6, 99, 21, 66, 69, 49, 50, 51, 52, 53, 81, 82, 83, 84, 85, 86, 87, 100, 101, 102, 103, 62, 63, 64, 65, 67, 68, 70, 71, 72, 73, 74, 75, 76, 77, 78, 79, 80, 104, 105, 106, 107, 108, 109, 110, 111, 112, 116, 117, 118] (by decide +kernel) (by decide +kernel)
set_option maxRecDepth 20000 in
theorem gX3_years_X3_officeOverYears : GoodIn wsX3_years (wsV RX3 128 RX3 yX3_officeOverYears wsX3_officeOverYears) := goodIn_app (goodIn_of _ (by decide +kernel)) ggX3_years_X3_officeOverYears
theorem dX3_years_0 : decode cX3_years 0 = .ok (.aload_n 0, 1) := by decide +kernel
theorem dX3_years_1 : decode cX3_years 1 = .ok (.iconst 0, 1) := by decide +kernel
theorem dX3_years_2 : decode cX3_years 2 = .ok (.putfield 46, 3) := by decide +kernel
theorem dX3_years_5 : decode cX3_years 5 = .ok (.iload_n 2, 1) := by decide +kernel
theorem dX3_years_6 : decode cX3_years 6 = .ok (.invokestatic 52, 3) := by decide +kernel
theorem dX3_years_9 : decode cX3_years 9 = .ok (.ifCond .ne 5, 3) := by decide +kernel
theorem dX3_years_12 : decode cX3_years 12 = .ok (.iconst (-1), 1) := by decide +kernel
theorem dX3_years_13 : decode cX3_years 13 = .ok (.ireturn, 1) := by decide +kernel
theorem dX3_years_14 : decode cX3_years 14 = .ok (.iload_n 1, 1) := by decide +kernel
theorem dX3_years_15 : decode cX3_years 15 = .ok (.bipush 9, 2) := by decide +kernel
theorem dX3_years_17 : decode cX3_years 17 = .ok (.invokestatic 81, 3) := by decide +kernel
theorem dX3_years_20 : decode cX3_years 20 = .ok (.ifCond .eq 28, 3) := by decide +kernel
theorem dX3_years_23 : decode cX3_years 23 = .ok (.iload_n 3, 1) := by decide +kernel
theorem dX3_years_24 : decode cX3_years 24 = .ok (.invokestatic 56, 3) := by decide +kernel
theorem dX3_years_27 : decode cX3_years 27 = .ok (.ifCond .eq 21, 3) := by decide +kernel
theorem dX3_years_30 : decode cX3_years 30 = .ok (.iload 5, 2) := by decide +kernel
theorem dX3_years_32 : decode cX3_years 32 = .ok (.bipush 40, 2) := by decide +kernel
theorem dX3_years_34 : decode cX3_years 34 = .ok (.invokestatic 81, 3) := by decide +kernel
theorem dX3_years_37 : decode cX3_years 37 = .ok (.ifCond .eq 11, 3) := by decide +kernel
theorem dX3_years_40 : decode cX3_years 40 = .ok (.iload 6, 2) := by decide +kernel
theorem dX3_years_42 : decode cX3_years 42 = .ok (.invokestatic 117, 3) := by decide +kernel
theorem dX3_years_45 : decode cX3_years 45 = .ok (.ifCond .ne 6, 3) := by decide +kernel
theorem dX3_years_48 : decode cX3_years 48 = .ok (.bipush (-2), 2) := by decide +kernel
theorem dX3_years_50 : decode cX3_years 50 = .ok (.ireturn, 1) := by decide +kernel
theorem dX3_years_51 : decode cX3_years 51 = .ok (.aload_n 0, 1) := by decide +kernel
theorem dX3_years_52 : decode cX3_years 52 = .ok (.invokevirtual 110, 3) := by decide +kernel
theorem dX3_years_55 : decode cX3_years 55 = .ok (.ifCond .ne 6, 3) := by decide +kernel
theorem dX3_years_58 : decode cX3_years 58 = .ok (.bipush (-3), 2) := by decide +kernel
theorem dX3_years_60 : decode cX3_years 60 = .ok (.ireturn, 1) := by decide +kernel
theorem dX3_years_61 : decode cX3_years 61 = .ok (.aload_n 0, 1) := by decide +kernel
theorem dX3_years_62 : decode cX3_years 62 = .ok (.getfield 13, 3) := by decide +kernel
theorem dX3_years_65 : decode cX3_years 65 = .ok (.iload_n 2, 1) := by decide +kernel
theorem dX3_years_66 : decode cX3_years 66 = .ok (.aaload, 1) := by decide +kernel
theorem dX3_years_67 : decode cX3_years 67 = .ok (.iload_n 3, 1) := by decide +kernel
theorem dX3_years_68 : decode cX3_years 68 = .ok (.iload 4, 2) := by decide +kernel
theorem dX3_years_70 : decode cX3_years 70 = .ok (.iload 5, 2) := by decide +kernel
theorem dX3_years_72 : decode cX3_years 72 = .ok (.invokevirtual 59, 3) := by decide +kernel
theorem dX3_years_75 : decode cX3_years 75 = .ok (.istore 7, 2) := by decide +kernel
theorem dX3_years_77 : decode cX3_years 77 = .ok (.iload 7, 2) := by decide +kernel
theorem dX3_years_79 : decode cX3_years 79 = .ok (.ifCond .eq 10, 3) := by decide +kernel
theorem dX3_years_82 : decode cX3_years 82 = .ok (.aload_n 0, 1) := by decide +kernel
theorem dX3_years_83 : decode cX3_years 83 = .ok (.iload 7, 2) := by decide +kernel
theorem dX3_years_85 : decode cX3_years 85 = .ok (.invokevirtual 63, 3) := by decide +kernel
theorem dX3_years_88 : decode cX3_years 88 = .ok (.ireturn, 1) := by decide +kernel
theorem dX3_years_89 : decode cX3_years 89 = .ok (.aload_n 0, 1) := by decide +kernel
theorem dX3_years_90 : decode cX3_years 90 = .ok (.getfield 13, 3) := by decide +kernel
theorem dX3_years_93 : decode cX3_years 93 = .ok (.iload_n 2, 1) := by decide +kernel
theorem dX3_years_94 : decode cX3_years 94 = .ok (.aaload, 1) := by decide +kernel
theorem dX3_years_95 : decode cX3_years 95 = .ok (.getfield 67, 3) := by decide +kernel
theorem dX3_years_98 : decode cX3_years 98 = .ok (.astore 8, 2) := by decide +kernel
theorem dX3_years_100 : decode cX3_years 100 = .ok (.aload_n 0, 1) := by decide +kernel
theorem dX3_years_101 : decode cX3_years 101 = .ok (.aload 8, 2) := by decide +kernel
theorem dX3_years_103 : decode cX3_years 103 = .ok (.iload 4, 2) := by decide +kernel
theorem dX3_years_105 : decode cX3_years 105 = .ok (.iload 4, 2) := by decide +kernel
theorem dX3_years_107 : decode cX3_years 107 = .ok (.iload 5, 2) := by decide +kernel
theorem dX3_years_109 : decode cX3_years 109 = .ok (.iadd, 1) := by decide +kernel
theorem dX3_years_110 : decode cX3_years 110 = .ok (.invokevirtual 120, 3) := by decide +kernel
theorem dX3_years_113 : decode cX3_years 113 = .ok (.ifCond .ne 6, 3) := by decide +kernel
theorem dX3_years_116 : decode cX3_years 116 = .ok (.bipush (-2), 2) := by decide +kernel
theorem dX3_years_118 : decode cX3_years 118 = .ok (.ireturn, 1) := by decide +kernel
theorem dX3_years_119 : decode cX3_years 119 = .ok (.iload 6, 2) := by decide +kernel
theorem dX3_years_121 : decode cX3_years 121 = .ok (.bipush 10, 2) := by decide +kernel
theorem dX3_years_123 : decode cX3_years 123 = .ok (.if_icmp .lt 22, 3) := by decide +kernel
theorem dX3_years_126 : decode cX3_years 126 = .ok (.aload_n 0, 1) := by decide +kernel
theorem dX3_years_127 : decode cX3_years 127 = .ok (.iload 6, 2) := by decide +kernel
theorem dX3_years_129 : decode cX3_years 129 = .ok (.bipush 10, 2) := by decide +kernel
theorem dX3_years_131 : decode cX3_years 131 = .ok (.isub, 1) := by decide +kernel
theorem dX3_years_132 : decode cX3_years 132 = .ok (.aload 8, 2) := by decide +kernel
theorem dX3_years_134 : decode cX3_years 134 = .ok (.iload 4, 2) := by decide +kernel
theorem dX3_years_136 : decode cX3_years 136 = .ok (.iload 4, 2) := by decide +kernel
theorem dX3_years_138 : decode cX3_years 138 = .ok (.iload 5, 2) := by decide +kernel
theorem dX3_years_140 : decode cX3_years 140 = .ok (.iadd, 1) := by decide +kernel
theorem dX3_years_141 : decode cX3_years 141 = .ok (.invokevirtual 124, 3) := by decide +kernel
theorem dX3_years_144 : decode cX3_years 144 = .ok (.ireturn, 1) := by decide +kernel
theorem dX3_years_145 : decode cX3_years 145 = .ok (.aload_n 0, 1) := by decide +kernel
theorem dX3_years_146 : decode cX3_years 146 = .ok (.iload_n 1, 1) := by decide +kernel
theorem dX3_years_147 : decode cX3_years 147 = .ok (.aload 8, 2) := by decide +kernel
theorem dX3_years_149 : decode cX3_years 149 = .ok (.iload 4, 2) := by decide +kernel
theorem dX3_years_151 : decode cX3_years 151 = .ok (.iload 4, 2) := by decide +kernel
theorem dX3_years_153 : decode cX3_years 153 = .ok (.iload 5, 2) := by decide +kernel
theorem dX3_years_155 : decode cX3_years 155 = .ok (.iadd, 1) := by decide +kernel
theorem dX3_years_156 : decode cX3_years 156 = .ok (.iload 6, 2) := by decide +kernel
theorem dX3_years_158 : decode cX3_years 158 = .ok (.invokevirtual 128, 3) := by decide +kernel
theorem dX3_years_161 : decode cX3_years 161 = .ok (.ireturn, 1) := by decide +kernel
set_option maxRecDepth 20000 in
theorem ggX3_fair_X3_isProphet : GoodIn wsX3_fair wsX3_isProphet := goodIn_r _ [12, 13, 49, 50, 51, 52, 53, 54, 55, 56, 57] (by decide +kernel) (by decide +kernel)
set_option maxRecDepth 20000 in
theorem gX3_fair_X3_isProphet : GoodIn wsX3_fair (wsV RX3 85 RX3 yX3_isProphet wsX3_isProphet) := goodIn_app (goodIn_of _ (by decide +kernel)) ggX3_fair_X3_isProphet
set_option maxRecDepth 20000 in
theorem ggX3_fair_X3_isWithin : GoodIn wsX3_fair wsX3_isWithin := goodIn_r _ [16] (by decide +kernel) (by decide +kernel)
set_option maxRecDepth 20000 in
theorem gX3_fair_X3_isWithin : GoodIn wsX3_fair (va_wsS RX3 81 yX3_isWithin wsX3_isWithin) := goodIn_app (goodIn_of _ (by decide +kernel)) ggX3_fair_X3_isWithin
set_option maxRecDepth 20000 in
theorem ggX3_fair_X3_payment : GoodIn wsX3_fair wsX3_payment := goodIn_r _ [20, 21, 22, 23, 11, 24, 25, 26, 27, 28, 3, 29, 30, 31, 32, 33, 34, 35, 36, 37, 38, 49, 50, 51, 52, 53, 54, 55, 56, 57] (by decide +kernel) (by decide +kernel)
set_option maxRecDepth 20000 in
theorem gX3_fair_X3_payment : GoodIn wsX3_fair (wsV RX3 134 RX3 yX3_payment wsX3_payment) := goodIn_app (goodIn_of _ (by decide +kernel)) ggX3_fair_X3_payment
set_option maxRecDepth 20000 in
theorem ggX3_fair_X3_shareNumber : GoodIn wsX3_fair wsX3_shareNumber := goodIn_r _ [41, 42, 43, 11, 44, 45, 46, 47, 48] (by decide +kernel) (by decide +kernel)
set_option maxRecDepth 20000 in
theorem gX3_fair_X3_shareNumber : GoodIn wsX3_fair (va_wsS RX3 138 yX3_shareNumber wsX3_shareNumber) := goodIn_app (goodIn_of _ (by decide +kernel)) ggX3_fair_X3_shareNumber
theorem dX3_fair_0 : decode cX3_fair 0 = .ok (.aload_n 0, 1) := by decide +kernel
theorem dX3_fair_1 : decode cX3_fair 1 = .ok (.iload_n 1, 1) := by decide +kernel
theorem dX3_fair_2 : decode cX3_fair 2 = .ok (.invokevirtual 85, 3) := by decide +kernel
theorem dX3_fair_5 : decode cX3_fair 5 = .ok (.ifCond .eq 11, 3) := by decide +kernel
theorem dX3_fair_8 : decode cX3_fair 8 = .ok (.iload_n 2, 1) := by decide +kernel
theorem dX3_fair_9 : decode cX3_fair 9 = .ok (.iconst 1, 1) := by decide +kernel
theorem dX3_fair_10 : decode cX3_fair 10 = .ok (.invokestatic 81, 3) := by decide +kernel
theorem dX3_fair_13 : decode cX3_fair 13 = .ok (.ifCond .ne 7, 3) := by decide +kernel
theorem dX3_fair_16 : decode cX3_fair 16 = .ok (.ldc2_w 132, 3) := by decide +kernel
theorem dX3_fair_19 : decode cX3_fair 19 = .ok (.lreturn, 1) := by decide +kernel
theorem dX3_fair_20 : decode cX3_fair 20 = .ok (.aload_n 0, 1) := by decide +kernel
theorem dX3_fair_21 : decode cX3_fair 21 = .ok (.getfield 23, 3) := by decide +kernel
theorem dX3_fair_24 : decode cX3_fair 24 = .ok (.iload_n 1, 1) := by decide +kernel
theorem dX3_fair_25 : decode cX3_fair 25 = .ok (.aaload, 1) := by decide +kernel
theorem dX3_fair_26 : decode cX3_fair 26 = .ok (.astore_n 3, 1) := by decide +kernel
theorem dX3_fair_27 : decode cX3_fair 27 = .ok (.iconst 0, 1) := by decide +kernel
theorem dX3_fair_28 : decode cX3_fair 28 = .ok (.istore 4, 2) := by decide +kernel
theorem dX3_fair_30 : decode cX3_fair 30 = .ok (.iconst 0, 1) := by decide +kernel
theorem dX3_fair_31 : decode cX3_fair 31 = .ok (.istore 5, 2) := by decide +kernel
theorem dX3_fair_33 : decode cX3_fair 33 = .ok (.iload 5, 2) := by decide +kernel
theorem dX3_fair_35 : decode cX3_fair 35 = .ok (.aload_n 0, 1) := by decide +kernel
theorem dX3_fair_36 : decode cX3_fair 36 = .ok (.getfield 33, 3) := by decide +kernel
theorem dX3_fair_39 : decode cX3_fair 39 = .ok (.if_icmp .ge 42, 3) := by decide +kernel
theorem dX3_fair_42 : decode cX3_fair 42 = .ok (.iload 4, 2) := by decide +kernel
theorem dX3_fair_44 : decode cX3_fair 44 = .ok (.aload_n 0, 1) := by decide +kernel
theorem dX3_fair_45 : decode cX3_fair 45 = .ok (.getfield 17, 3) := by decide +kernel
theorem dX3_fair_48 : decode cX3_fair 48 = .ok (.iload 5, 2) := by decide +kernel
theorem dX3_fair_50 : decode cX3_fair 50 = .ok (.iaload, 1) := by decide +kernel
theorem dX3_fair_51 : decode cX3_fair 51 = .ok (.aload_n 0, 1) := by decide +kernel
theorem dX3_fair_52 : decode cX3_fair 52 = .ok (.aload_n 3, 1) := by decide +kernel
theorem dX3_fair_53 : decode cX3_fair 53 = .ok (.getfield 88, 3) := by decide +kernel
theorem dX3_fair_56 : decode cX3_fair 56 = .ok (.aload_n 3, 1) := by decide +kernel
theorem dX3_fair_57 : decode cX3_fair 57 = .ok (.getfield 91, 3) := by decide +kernel
theorem dX3_fair_60 : decode cX3_fair 60 = .ok (.aload_n 3, 1) := by decide +kernel
theorem dX3_fair_61 : decode cX3_fair 61 = .ok (.getfield 94, 3) := by decide +kernel
theorem dX3_fair_64 : decode cX3_fair 64 = .ok (.iconst 1, 1) := by decide +kernel
theorem dX3_fair_65 : decode cX3_fair 65 = .ok (.iload 5, 2) := by decide +kernel
theorem dX3_fair_67 : decode cX3_fair 67 = .ok (.ishl, 1) := by decide +kernel
theorem dX3_fair_68 : decode cX3_fair 68 = .ok (.invokevirtual 134, 3) := by decide +kernel
theorem dX3_fair_71 : decode cX3_fair 71 = .ok (.imul, 1) := by decide +kernel
theorem dX3_fair_72 : decode cX3_fair 72 = .ok (.iadd, 1) := by decide +kernel
theorem dX3_fair_73 : decode cX3_fair 73 = .ok (.istore 4, 2) := by decide +kernel
theorem dX3_fair_75 : decode cX3_fair 75 = .ok (.iinc 5 1, 3) := by decide +kernel
theorem dX3_fair_78 : decode cX3_fair 78 = .ok (.goto (-45), 3) := by decide +kernel
theorem dX3_fair_81 : decode cX3_fair 81 = .ok (.iload 4, 2) := by decide +kernel
theorem dX3_fair_83 : decode cX3_fair 83 = .ok (.bipush 10, 2) := by decide +kernel
theorem dX3_fair_85 : decode cX3_fair 85 = .ok (.iload_n 2, 1) := by decide +kernel
theorem dX3_fair_86 : decode cX3_fair 86 = .ok (.invokestatic 138, 3) := by decide +kernel
theorem dX3_fair_89 : decode cX3_fair 89 = .ok (.lreturn, 1) := by decide +kernel
set_option maxRecDepth 20000 in
theorem ggX3_safe_X3_isProphet : GoodIn wsX3_safe wsX3_isProphet := goodIn_r _ [5, 6, 38, 39, 40, 41, 42, 43, 44, 45, 46] (by decide +kernel) (by decide +kernel)
set_option maxRecDepth 20000 in
theorem gX3_safe_X3_isProphet : GoodIn wsX3_safe (wsV RX3 85 RX3 yX3_isProphet wsX3_isProphet) := goodIn_app (goodIn_of _ (by decide +kernel)) ggX3_safe_X3_isProphet
set_option maxRecDepth 20000 in
theorem ggX3_safe_X3_allEvents : GoodIn wsX3_safe wsX3_allEvents := goodIn_r _ [10, 11, 38, 39, 40, 41, 42, 43, 44, 45, 46] (by decide +kernel) (by decide +kernel)
set_option maxRecDepth 20000 in
theorem gX3_safe_X3_allEvents : GoodIn wsX3_safe (wsV RX3 142 RX3 yX3_allEvents wsX3_allEvents) := goodIn_app (goodIn_of _ (by decide +kernel)) ggX3_safe_X3_allEvents
set_option maxRecDepth 20000 in
theorem ggX3_safe_X3_paidTo : GoodIn wsX3_safe wsX3_paidTo := goodIn_r _ [15, 16, 17, 18, 19, 20, 21, 22, 4, 23, 24, 25, 26, 27, 7, 8, 9, 10, 11, 28, 29, 30, 31, 32, 33, 34, 35, 36, 37, 38, 39, 40, 41, 42, 43, 44, 45, 46, 47, 48, 49] (by decide +kernel) (by decide +kernel)
set_option maxRecDepth 20000 in
theorem gX3_safe_X3_paidTo : GoodIn wsX3_safe (wsV RX3 107 RX3 yX3_paidTo wsX3_paidTo) := goodIn_app (goodIn_of _ (by decide +kernel)) ggX3_safe_X3_paidTo
theorem dX3_safe_0 : decode cX3_safe 0 = .ok (.aload_n 0, 1) := by decide +kernel
theorem dX3_safe_1 : decode cX3_safe 1 = .ok (.iload_n 1, 1) := by decide +kernel
theorem dX3_safe_2 : decode cX3_safe 2 = .ok (.invokevirtual 85, 3) := by decide +kernel
theorem dX3_safe_5 : decode cX3_safe 5 = .ok (.ifCond .eq 15, 3) := by decide +kernel
theorem dX3_safe_8 : decode cX3_safe 8 = .ok (.aload_n 0, 1) := by decide +kernel
theorem dX3_safe_9 : decode cX3_safe 9 = .ok (.iload_n 1, 1) := by decide +kernel
theorem dX3_safe_10 : decode cX3_safe 10 = .ok (.aload_n 0, 1) := by decide +kernel
theorem dX3_safe_11 : decode cX3_safe 11 = .ok (.invokevirtual 142, 3) := by decide +kernel
theorem dX3_safe_14 : decode cX3_safe 14 = .ok (.invokevirtual 107, 3) := by decide +kernel
theorem dX3_safe_17 : decode cX3_safe 17 = .ok (.goto 4, 3) := by decide +kernel
theorem dX3_safe_20 : decode cX3_safe 20 = .ok (.iconst (-1), 1) := by decide +kernel
theorem dX3_safe_21 : decode cX3_safe 21 = .ok (.ireturn, 1) := by decide +kernel
set_option maxRecDepth 20000 in
theorem ggX3_hold_X3_isWithin : GoodIn wsX3_hold wsX3_isWithin := goodIn_r _ [4] (by decide +kernel) (by decide +kernel)
set_option maxRecDepth 20000 in
theorem gX3_hold_X3_isWithin : GoodIn wsX3_hold (va_wsS RX3 81 yX3_isWithin wsX3_isWithin) := goodIn_app (goodIn_of _ (by decide +kernel)) ggX3_hold_X3_isWithin
set_option maxRecDepth 20000 in
theorem ggX3_hold_X3_hasOffice : GoodIn wsX3_hold wsX3_hasOffice := goodIn_r _ [8, 9, 61, 62, 63, 64, 65, 66, 67, 68, 69] (by decide +kernel) (by decide +kernel)
set_option maxRecDepth 20000 in
theorem gX3_hold_X3_hasOffice : GoodIn wsX3_hold (wsV RX3 110 RX3 yX3_hasOffice wsX3_hasOffice) := goodIn_app (goodIn_of _ (by decide +kernel)) ggX3_hold_X3_hasOffice
set_option maxRecDepth 20000 in
theorem ggX3_hold_X3_weightOfAll : GoodIn wsX3_hold wsX3_weightOfAll := goodIn_r _ [13, 14, 61, 62, 63, 64, 65, 66, 67, 68, 69] (by decide +kernel) (by decide +kernel)
set_option maxRecDepth 20000 in
theorem gX3_hold_X3_weightOfAll : GoodIn wsX3_hold (wsV RX3 146 RX3 yX3_weightOfAll wsX3_weightOfAll) := goodIn_app (goodIn_of _ (by decide +kernel)) ggX3_hold_X3_weightOfAll
set_option maxRecDepth 20000 in
theorem ggX3_hold_X3_allEvents : GoodIn wsX3_hold wsX3_allEvents := goodIn_r _ [18, 14, 61, 62, 63, 64, 65, 66, 67, 68, 69] (by decide +kernel) (by decide +kernel)
set_option maxRecDepth 20000 in
theorem gX3_hold_X3_allEvents : GoodIn wsX3_hold (wsV RX3 142 RX3 yX3_allEvents wsX3_allEvents) := goodIn_app (goodIn_of _ (by decide +kernel)) ggX3_hold_X3_allEvents
set_option maxRecDepth 20000 in
theorem ggX3_hold_X3_paidToAll : GoodIn wsX3_hold wsX3_paidToAll := goodIn_r _ [22, 9, 23, 24, 25, 3, 26, 27, 28, 29, 30, 31, 32, 33, 34, 35, 36, 37, 38, 15, 16, 17, 18, 14, 39, 40, 41, 42, 43, 44, 45, 46, 47, 48, 61, 62, 63, 64, 65, 66, 67, 68, 69, 70, 71, 72] (by decide +kernel) (by decide +kernel)
set_option maxRecDepth 20000 in
theorem gX3_hold_X3_paidToAll : GoodIn wsX3_hold (wsV RX3 114 RX3 yX3_paidToAll wsX3_paidToAll) := goodIn_app (goodIn_of _ (by decide +kernel)) ggX3_hold_X3_paidToAll
set_option maxRecDepth 20000 in
theorem ggX3_hold_X3_weightFrom : GoodIn wsX3_hold wsX3_weightFrom := goodIn_r _ [52, 15, 16, 17, 3, 18, 14, 19, 20, 21, 22, 9, 23, 24, 25, 26, 27, 28, 29, 30, 31, 32, 33, 34, 35, 36, 37, 38, 39, 40, 41, 42, 43, 44, 45, 46, 47, 48, 53, 54, 55, 56, 57, 58, 59, 60, 61, 62, 63, 64, 65, 66, 67, 68, 69, 70, 71, 72] (by decide +kernel) (by decide +kernel)
set_option maxRecDepth 20000 in
theorem gX3_hold_X3_weightFrom : GoodIn wsX3_hold (wsV RX3 149 RX3 yX3_weightFrom wsX3_weightFrom) := goodIn_app (goodIn_of _ (by decide +kernel)) ggX3_hold_X3_weightFrom
theorem dX3_hold_0 : decode cX3_hold 0 = .ok (.iload_n 1, 1) := by decide +kernel
theorem dX3_hold_1 : decode cX3_hold 1 = .ok (.bipush 10, 2) := by decide +kernel
theorem dX3_hold_3 : decode cX3_hold 3 = .ok (.invokestatic 81, 3) := by decide +kernel
theorem dX3_hold_6 : decode cX3_hold 6 = .ok (.ifCond .ne 6, 3) := by decide +kernel
theorem dX3_hold_9 : decode cX3_hold 9 = .ok (.bipush (-2), 2) := by decide +kernel
theorem dX3_hold_11 : decode cX3_hold 11 = .ok (.ireturn, 1) := by decide +kernel
theorem dX3_hold_12 : decode cX3_hold 12 = .ok (.aload_n 0, 1) := by decide +kernel
theorem dX3_hold_13 : decode cX3_hold 13 = .ok (.invokevirtual 110, 3) := by decide +kernel
theorem dX3_hold_16 : decode cX3_hold 16 = .ok (.ifCond .ne 6, 3) := by decide +kernel
theorem dX3_hold_19 : decode cX3_hold 19 = .ok (.bipush (-3), 2) := by decide +kernel
theorem dX3_hold_21 : decode cX3_hold 21 = .ok (.ireturn, 1) := by decide +kernel
theorem dX3_hold_22 : decode cX3_hold 22 = .ok (.aload_n 0, 1) := by decide +kernel
theorem dX3_hold_23 : decode cX3_hold 23 = .ok (.invokevirtual 146, 3) := by decide +kernel
theorem dX3_hold_26 : decode cX3_hold 26 = .ok (.istore_n 2, 1) := by decide +kernel
theorem dX3_hold_27 : decode cX3_hold 27 = .ok (.aload_n 0, 1) := by decide +kernel
theorem dX3_hold_28 : decode cX3_hold 28 = .ok (.aload_n 0, 1) := by decide +kernel
theorem dX3_hold_29 : decode cX3_hold 29 = .ok (.invokevirtual 142, 3) := by decide +kernel
theorem dX3_hold_32 : decode cX3_hold 32 = .ok (.invokevirtual 114, 3) := by decide +kernel
theorem dX3_hold_35 : decode cX3_hold 35 = .ok (.istore_n 3, 1) := by decide +kernel
theorem dX3_hold_36 : decode cX3_hold 36 = .ok (.iconst 0, 1) := by decide +kernel
theorem dX3_hold_37 : decode cX3_hold 37 = .ok (.istore 4, 2) := by decide +kernel
theorem dX3_hold_39 : decode cX3_hold 39 = .ok (.iload 4, 2) := by decide +kernel
theorem dX3_hold_41 : decode cX3_hold 41 = .ok (.aload_n 0, 1) := by decide +kernel
theorem dX3_hold_42 : decode cX3_hold 42 = .ok (.invokevirtual 142, 3) := by decide +kernel
theorem dX3_hold_45 : decode cX3_hold 45 = .ok (.if_icmp .ge 49, 3) := by decide +kernel
theorem dX3_hold_48 : decode cX3_hold 48 = .ok (.aload_n 0, 1) := by decide +kernel
theorem dX3_hold_49 : decode cX3_hold 49 = .ok (.iload 4, 2) := by decide +kernel
theorem dX3_hold_51 : decode cX3_hold 51 = .ok (.invokevirtual 114, 3) := by decide +kernel
theorem dX3_hold_54 : decode cX3_hold 54 = .ok (.istore 5, 2) := by decide +kernel
theorem dX3_hold_56 : decode cX3_hold 56 = .ok (.iload_n 2, 1) := by decide +kernel
theorem dX3_hold_57 : decode cX3_hold 57 = .ok (.aload_n 0, 1) := by decide +kernel
theorem dX3_hold_58 : decode cX3_hold 58 = .ok (.iload 5, 2) := by decide +kernel
theorem dX3_hold_60 : decode cX3_hold 60 = .ok (.iconst 1, 1) := by decide +kernel
theorem dX3_hold_61 : decode cX3_hold 61 = .ok (.iadd, 1) := by decide +kernel
theorem dX3_hold_62 : decode cX3_hold 62 = .ok (.invokevirtual 149, 3) := by decide +kernel
theorem dX3_hold_65 : decode cX3_hold 65 = .ok (.isub, 1) := by decide +kernel
theorem dX3_hold_66 : decode cX3_hold 66 = .ok (.istore 6, 2) := by decide +kernel
theorem dX3_hold_68 : decode cX3_hold 68 = .ok (.iload 5, 2) := by decide +kernel
theorem dX3_hold_70 : decode cX3_hold 70 = .ok (.iload_n 3, 1) := by decide +kernel
theorem dX3_hold_71 : decode cX3_hold 71 = .ok (.if_icmp .ge 17, 3) := by decide +kernel
theorem dX3_hold_74 : decode cX3_hold 74 = .ok (.bipush 10, 2) := by decide +kernel
theorem dX3_hold_76 : decode cX3_hold 76 = .ok (.iload 6, 2) := by decide +kernel
theorem dX3_hold_78 : decode cX3_hold 78 = .ok (.imul, 1) := by decide +kernel
theorem dX3_hold_79 : decode cX3_hold 79 = .ok (.iload_n 1, 1) := by decide +kernel
theorem dX3_hold_80 : decode cX3_hold 80 = .ok (.iload_n 2, 1) := by decide +kernel
theorem dX3_hold_81 : decode cX3_hold 81 = .ok (.imul, 1) := by decide +kernel
theorem dX3_hold_82 : decode cX3_hold 82 = .ok (.if_icmp .lt 6, 3) := by decide +kernel
theorem dX3_hold_85 : decode cX3_hold 85 = .ok (.iload 5, 2) := by decide +kernel
theorem dX3_hold_87 : decode cX3_hold 87 = .ok (.istore_n 3, 1) := by decide +kernel
theorem dX3_hold_88 : decode cX3_hold 88 = .ok (.iinc 4 1, 3) := by decide +kernel
theorem dX3_hold_91 : decode cX3_hold 91 = .ok (.goto (-52), 3) := by decide +kernel
theorem dX3_hold_94 : decode cX3_hold 94 = .ok (.iload_n 3, 1) := by decide +kernel
theorem dX3_hold_95 : decode cX3_hold 95 = .ok (.ireturn, 1) := by decide +kernel
set_option maxRecDepth 20000 in
theorem ggX3_best_X3_isProphet : GoodIn wsX3_best wsX3_isProphet := goodIn_r _ [8, 9, 29, 30, 31, 32, 33, 34, 35, 36, 37] (by decide +kernel) (by decide +kernel)
set_option maxRecDepth 20000 in
theorem gX3_best_X3_isProphet : GoodIn wsX3_best (wsV RX3 85 RX3 yX3_isProphet wsX3_isProphet) := goodIn_app (goodIn_of _ (by decide +kernel)) ggX3_best_X3_isProphet
set_option maxRecDepth 20000 in
theorem ggX3_best_X3_isWithin : GoodIn wsX3_best wsX3_isWithin := goodIn_r _ [12] (by decide +kernel) (by decide +kernel)
set_option maxRecDepth 20000 in
theorem gX3_best_X3_isWithin : GoodIn wsX3_best (va_wsS RX3 81 yX3_isWithin wsX3_isWithin) := goodIn_app (goodIn_of _ (by decide +kernel)) ggX3_best_X3_isWithin
set_option maxRecDepth 20000 in
theorem ggX3_best_X3_paysEach : GoodIn wsX3_best wsX3_paysEach := goodIn_r _ [15] (by decide +kernel) (by decide +kernel)
set_option maxRecDepth 20000 in
theorem gX3_best_X3_paysEach : GoodIn wsX3_best (va_wsS RX3 97 yX3_paysEach wsX3_paysEach) := goodIn_app (goodIn_of _ (by decide +kernel)) ggX3_best_X3_paysEach
set_option maxRecDepth 20000 in
theorem ggX3_best_X3_allEvents : GoodIn wsX3_best wsX3_allEvents := goodIn_r _ [19, 20, 29, 30, 31, 32, 33, 34, 35, 36, 37] (by decide +kernel) (by decide +kernel)
set_option maxRecDepth 20000 in
theorem gX3_best_X3_allEvents : GoodIn wsX3_best (wsV RX3 142 RX3 yX3_allEvents wsX3_allEvents) := goodIn_app (goodIn_of _ (by decide +kernel)) ggX3_best_X3_allEvents
set_option maxRecDepth 20000 in
theorem ggX3_best_X3_tenthsGained : GoodIn wsX3_best wsX3_tenthsGained := goodIn_r _ [24, 20, 25, 26, 27, 7, 28, 29, 30, 31, 32, 33, 34, 35, 36, 37] (by decide +kernel) (by decide +kernel)
set_option maxRecDepth 20000 in
theorem gX3_best_X3_tenthsGained : GoodIn wsX3_best (wsV RX3 152 RX3 yX3_tenthsGained wsX3_tenthsGained) := goodIn_app (goodIn_of _ (by decide +kernel)) ggX3_best_X3_tenthsGained
theorem dX3_best_0 : decode cX3_best 0 = .ok (.aload_n 0, 1) := by decide +kernel
theorem dX3_best_1 : decode cX3_best 1 = .ok (.iload_n 1, 1) := by decide +kernel
theorem dX3_best_2 : decode cX3_best 2 = .ok (.invokevirtual 85, 3) := by decide +kernel
theorem dX3_best_5 : decode cX3_best 5 = .ok (.ifCond .ne 5, 3) := by decide +kernel
theorem dX3_best_8 : decode cX3_best 8 = .ok (.iconst (-1), 1) := by decide +kernel
theorem dX3_best_9 : decode cX3_best 9 = .ok (.ireturn, 1) := by decide +kernel
theorem dX3_best_10 : decode cX3_best 10 = .ok (.iload_n 2, 1) := by decide +kernel
theorem dX3_best_11 : decode cX3_best 11 = .ok (.bipush 9, 2) := by decide +kernel
theorem dX3_best_13 : decode cX3_best 13 = .ok (.invokestatic 81, 3) := by decide +kernel
theorem dX3_best_16 : decode cX3_best 16 = .ok (.ifCond .ne 6, 3) := by decide +kernel
theorem dX3_best_19 : decode cX3_best 19 = .ok (.bipush (-2), 2) := by decide +kernel
theorem dX3_best_21 : decode cX3_best 21 = .ok (.ireturn, 1) := by decide +kernel
theorem dX3_best_22 : decode cX3_best 22 = .ok (.aload_n 0, 1) := by decide +kernel
theorem dX3_best_23 : decode cX3_best 23 = .ok (.getfield 23, 3) := by decide +kernel
theorem dX3_best_26 : decode cX3_best 26 = .ok (.iload_n 1, 1) := by decide +kernel
theorem dX3_best_27 : decode cX3_best 27 = .ok (.aaload, 1) := by decide +kernel
theorem dX3_best_28 : decode cX3_best 28 = .ok (.getfield 88, 3) := by decide +kernel
theorem dX3_best_31 : decode cX3_best 31 = .ok (.aload_n 0, 1) := by decide +kernel
theorem dX3_best_32 : decode cX3_best 32 = .ok (.getfield 23, 3) := by decide +kernel
theorem dX3_best_35 : decode cX3_best 35 = .ok (.iload_n 1, 1) := by decide +kernel
theorem dX3_best_36 : decode cX3_best 36 = .ok (.aaload, 1) := by decide +kernel
theorem dX3_best_37 : decode cX3_best 37 = .ok (.getfield 91, 3) := by decide +kernel
theorem dX3_best_40 : decode cX3_best 40 = .ok (.invokestatic 97, 3) := by decide +kernel
theorem dX3_best_43 : decode cX3_best 43 = .ok (.istore_n 3, 1) := by decide +kernel
theorem dX3_best_44 : decode cX3_best 44 = .ok (.iconst 0, 1) := by decide +kernel
theorem dX3_best_45 : decode cX3_best 45 = .ok (.istore 4, 2) := by decide +kernel
theorem dX3_best_47 : decode cX3_best 47 = .ok (.iconst 0, 1) := by decide +kernel
theorem dX3_best_48 : decode cX3_best 48 = .ok (.istore 5, 2) := by decide +kernel
theorem dX3_best_50 : decode cX3_best 50 = .ok (.iconst 1, 1) := by decide +kernel
theorem dX3_best_51 : decode cX3_best 51 = .ok (.istore 6, 2) := by decide +kernel
theorem dX3_best_53 : decode cX3_best 53 = .ok (.iload 6, 2) := by decide +kernel
theorem dX3_best_55 : decode cX3_best 55 = .ok (.aload_n 0, 1) := by decide +kernel
theorem dX3_best_56 : decode cX3_best 56 = .ok (.invokevirtual 142, 3) := by decide +kernel
theorem dX3_best_59 : decode cX3_best 59 = .ok (.if_icmp .ge 34, 3) := by decide +kernel
theorem dX3_best_62 : decode cX3_best 62 = .ok (.aload_n 0, 1) := by decide +kernel
theorem dX3_best_63 : decode cX3_best 63 = .ok (.iload_n 3, 1) := by decide +kernel
theorem dX3_best_64 : decode cX3_best 64 = .ok (.iload_n 2, 1) := by decide +kernel
theorem dX3_best_65 : decode cX3_best 65 = .ok (.iload 6, 2) := by decide +kernel
theorem dX3_best_67 : decode cX3_best 67 = .ok (.invokevirtual 152, 3) := by decide +kernel
theorem dX3_best_70 : decode cX3_best 70 = .ok (.istore 7, 2) := by decide +kernel
theorem dX3_best_72 : decode cX3_best 72 = .ok (.iload 7, 2) := by decide +kernel
theorem dX3_best_74 : decode cX3_best 74 = .ok (.iload 5, 2) := by decide +kernel
theorem dX3_best_76 : decode cX3_best 76 = .ok (.if_icmp .le 11, 3) := by decide +kernel
theorem dX3_best_79 : decode cX3_best 79 = .ok (.iload 7, 2) := by decide +kernel
theorem dX3_best_81 : decode cX3_best 81 = .ok (.istore 5, 2) := by decide +kernel
theorem dX3_best_83 : decode cX3_best 83 = .ok (.iload 6, 2) := by decide +kernel
theorem dX3_best_85 : decode cX3_best 85 = .ok (.istore 4, 2) := by decide +kernel
theorem dX3_best_87 : decode cX3_best 87 = .ok (.iinc 6 1, 3) := by decide +kernel
theorem dX3_best_90 : decode cX3_best 90 = .ok (.goto (-37), 3) := by decide +kernel
theorem dX3_best_93 : decode cX3_best 93 = .ok (.iload 4, 2) := by decide +kernel
theorem dX3_best_95 : decode cX3_best 95 = .ok (.ireturn, 1) := by decide +kernel
set_option maxRecDepth 20000 in
theorem ggX3_came_X3_isWithin : GoodIn wsX3_came wsX3_isWithin := goodIn_r _ [4] (by decide +kernel) (by decide +kernel)
set_option maxRecDepth 20000 in
theorem gX3_came_X3_isWithin : GoodIn wsX3_came (va_wsS RX3 81 yX3_isWithin wsX3_isWithin) := goodIn_app (goodIn_of _ (by decide +kernel)) ggX3_came_X3_isWithin
set_option maxRecDepth 20000 in
theorem ggX3_came_X3_hasOffice : GoodIn wsX3_came wsX3_hasOffice := goodIn_r _ [8, 9, 45, 46, 47, 48, 49, 50, 51, 52, 53] (by decide +kernel) (by decide +kernel)
set_option maxRecDepth 20000 in
theorem gX3_came_X3_hasOffice : GoodIn wsX3_came (wsV RX3 110 RX3 yX3_hasOffice wsX3_hasOffice) := goodIn_app (goodIn_of _ (by decide +kernel)) ggX3_came_X3_hasOffice
set_option maxRecDepth 20000 in
theorem ggX3_came_X3_allEvents : GoodIn wsX3_came wsX3_allEvents := goodIn_r _ [13, 14, 45, 46, 47, 48, 49, 50, 51, 52, 53] (by decide +kernel) (by decide +kernel)
set_option maxRecDepth 20000 in
theorem gX3_came_X3_allEvents : GoodIn wsX3_came (wsV RX3 142 RX3 yX3_allEvents wsX3_allEvents) := goodIn_app (goodIn_of _ (by decide +kernel)) ggX3_came_X3_allEvents
set_option maxRecDepth 20000 in
theorem ggX3_came_X3_paidToAll : GoodIn wsX3_came wsX3_paidToAll := goodIn_r _ [18, 9, 19, 20, 21, 3, 22, 23, 24, 25, 26, 27, 28, 29, 30, 31, 32, 33, 34, 10, 11, 12, 13, 14, 35, 36, 37, 38, 39, 40, 41, 42, 43, 44, 45, 46, 47, 48, 49, 50, 51, 52, 53, 54, 55, 56] (by decide +kernel) (by decide +kernel)
set_option maxRecDepth 20000 in
theorem gX3_came_X3_paidToAll : GoodIn wsX3_came (wsV RX3 114 RX3 yX3_paidToAll wsX3_paidToAll) := goodIn_app (goodIn_of _ (by decide +kernel)) ggX3_came_X3_paidToAll
theorem dX3_came_0 : decode cX3_came 0 = .ok (.iload_n 1, 1) := by decide +kernel
theorem dX3_came_1 : decode cX3_came 1 = .ok (.sipush 999, 3) := by decide +kernel
theorem dX3_came_4 : decode cX3_came 4 = .ok (.invokestatic 81, 3) := by decide +kernel
theorem dX3_came_7 : decode cX3_came 7 = .ok (.ifCond .eq 11, 3) := by decide +kernel
theorem dX3_came_10 : decode cX3_came 10 = .ok (.iload_n 2, 1) := by decide +kernel
theorem dX3_came_11 : decode cX3_came 11 = .ok (.iconst 1, 1) := by decide +kernel
theorem dX3_came_12 : decode cX3_came 12 = .ok (.invokestatic 81, 3) := by decide +kernel
theorem dX3_came_15 : decode cX3_came 15 = .ok (.ifCond .ne 6, 3) := by decide +kernel
theorem dX3_came_18 : decode cX3_came 18 = .ok (.bipush (-2), 2) := by decide +kernel
theorem dX3_came_20 : decode cX3_came 20 = .ok (.ireturn, 1) := by decide +kernel
theorem dX3_came_21 : decode cX3_came 21 = .ok (.aload_n 0, 1) := by decide +kernel
theorem dX3_came_22 : decode cX3_came 22 = .ok (.invokevirtual 110, 3) := by decide +kernel
theorem dX3_came_25 : decode cX3_came 25 = .ok (.ifCond .ne 6, 3) := by decide +kernel
theorem dX3_came_28 : decode cX3_came 28 = .ok (.bipush (-3), 2) := by decide +kernel
theorem dX3_came_30 : decode cX3_came 30 = .ok (.ireturn, 1) := by decide +kernel
theorem dX3_came_31 : decode cX3_came 31 = .ok (.iconst 0, 1) := by decide +kernel
theorem dX3_came_32 : decode cX3_came 32 = .ok (.istore_n 3, 1) := by decide +kernel
theorem dX3_came_33 : decode cX3_came 33 = .ok (.bipush (-9), 2) := by decide +kernel
theorem dX3_came_35 : decode cX3_came 35 = .ok (.istore 4, 2) := by decide +kernel
theorem dX3_came_37 : decode cX3_came 37 = .ok (.aload_n 0, 1) := by decide +kernel
theorem dX3_came_38 : decode cX3_came 38 = .ok (.invokevirtual 142, 3) := by decide +kernel
theorem dX3_came_41 : decode cX3_came 41 = .ok (.istore 5, 2) := by decide +kernel
theorem dX3_came_43 : decode cX3_came 43 = .ok (.iload 5, 2) := by decide +kernel
theorem dX3_came_45 : decode cX3_came 45 = .ok (.ifCond .lt 26, 3) := by decide +kernel
theorem dX3_came_48 : decode cX3_came 48 = .ok (.aload_n 0, 1) := by decide +kernel
theorem dX3_came_49 : decode cX3_came 49 = .ok (.iload 5, 2) := by decide +kernel
theorem dX3_came_51 : decode cX3_came 51 = .ok (.invokevirtual 114, 3) := by decide +kernel
theorem dX3_came_54 : decode cX3_came 54 = .ok (.iload_n 1, 1) := by decide +kernel
theorem dX3_came_55 : decode cX3_came 55 = .ok (.if_icmp .ne 10, 3) := by decide +kernel
theorem dX3_came_58 : decode cX3_came 58 = .ok (.iinc 3 1, 3) := by decide +kernel
theorem dX3_came_61 : decode cX3_came 61 = .ok (.iload 5, 2) := by decide +kernel
theorem dX3_came_63 : decode cX3_came 63 = .ok (.istore 4, 2) := by decide +kernel
theorem dX3_came_65 : decode cX3_came 65 = .ok (.iinc 5 (-1), 3) := by decide +kernel
theorem dX3_came_68 : decode cX3_came 68 = .ok (.goto (-25), 3) := by decide +kernel
theorem dX3_came_71 : decode cX3_came 71 = .ok (.iload_n 2, 1) := by decide +kernel
theorem dX3_came_72 : decode cX3_came 72 = .ok (.ifCond .ne 7, 3) := by decide +kernel
theorem dX3_came_75 : decode cX3_came 75 = .ok (.iload_n 3, 1) := by decide +kernel
theorem dX3_came_76 : decode cX3_came 76 = .ok (.goto 5, 3) := by decide +kernel
theorem dX3_came_79 : decode cX3_came 79 = .ok (.iload 4, 2) := by decide +kernel
theorem dX3_came_81 : decode cX3_came 81 = .ok (.ireturn, 1) := by decide +kernel
set_option maxRecDepth 20000 in
theorem ggX3_reading_X3_isProphet : GoodIn wsX3_reading wsX3_isProphet := goodIn_r _ [10, 11, 24, 25, 26, 27, 28, 29, 30, 31, 32] (by decide +kernel) (by decide +kernel)
set_option maxRecDepth 20000 in
theorem gX3_reading_X3_isProphet : GoodIn wsX3_reading (wsV RX3 85 RX3 yX3_isProphet wsX3_isProphet) := goodIn_app (goodIn_of _ (by decide +kernel)) ggX3_reading_X3_isProphet
set_option maxRecDepth 20000 in
theorem ggX3_reading_X3_isEventSet : GoodIn wsX3_reading wsX3_isEventSet := goodIn_r _ [15, 16, 17, 18, 9, 19, 20, 21, 22, 23, 24, 25, 26, 27, 28, 29, 30, 31, 32] (by decide +kernel) (by decide +kernel)
set_option maxRecDepth 20000 in
theorem gX3_reading_X3_isEventSet : GoodIn wsX3_reading (wsV RX3 104 RX3 yX3_isEventSet wsX3_isEventSet) := goodIn_app (goodIn_of _ (by decide +kernel)) ggX3_reading_X3_isEventSet
set_option maxRecDepth 20000 in
theorem ggX3_reading_X3_isWithin : GoodIn wsX3_reading wsX3_isWithin := goodIn_r _ [23] (by decide +kernel) (by decide +kernel)
set_option maxRecDepth 20000 in
theorem gX3_reading_X3_isWithin : GoodIn wsX3_reading (va_wsS RX3 81 yX3_isWithin wsX3_isWithin) := goodIn_app (goodIn_of _ (by decide +kernel)) ggX3_reading_X3_isWithin
theorem dX3_reading_0 : decode cX3_reading 0 = .ok (.aload_n 0, 1) := by decide +kernel
theorem dX3_reading_1 : decode cX3_reading 1 = .ok (.iload_n 1, 1) := by decide +kernel
theorem dX3_reading_2 : decode cX3_reading 2 = .ok (.invokevirtual 85, 3) := by decide +kernel
theorem dX3_reading_5 : decode cX3_reading 5 = .ok (.ifCond .ne 5, 3) := by decide +kernel
theorem dX3_reading_8 : decode cX3_reading 8 = .ok (.iconst (-1), 1) := by decide +kernel
theorem dX3_reading_9 : decode cX3_reading 9 = .ok (.ireturn, 1) := by decide +kernel
theorem dX3_reading_10 : decode cX3_reading 10 = .ok (.aload_n 0, 1) := by decide +kernel
theorem dX3_reading_11 : decode cX3_reading 11 = .ok (.iload_n 2, 1) := by decide +kernel
theorem dX3_reading_12 : decode cX3_reading 12 = .ok (.invokevirtual 104, 3) := by decide +kernel
theorem dX3_reading_15 : decode cX3_reading 15 = .ok (.ifCond .eq 13, 3) := by decide +kernel
theorem dX3_reading_18 : decode cX3_reading 18 = .ok (.iload_n 3, 1) := by decide +kernel
theorem dX3_reading_19 : decode cX3_reading 19 = .ok (.sipush 999, 3) := by decide +kernel
theorem dX3_reading_22 : decode cX3_reading 22 = .ok (.invokestatic 81, 3) := by decide +kernel
theorem dX3_reading_25 : decode cX3_reading 25 = .ok (.ifCond .ne 6, 3) := by decide +kernel
theorem dX3_reading_28 : decode cX3_reading 28 = .ok (.bipush (-2), 2) := by decide +kernel
theorem dX3_reading_30 : decode cX3_reading 30 = .ok (.ireturn, 1) := by decide +kernel
theorem dX3_reading_31 : decode cX3_reading 31 = .ok (.aload_n 0, 1) := by decide +kernel
theorem dX3_reading_32 : decode cX3_reading 32 = .ok (.getfield 40, 3) := by decide +kernel
theorem dX3_reading_35 : decode cX3_reading 35 = .ok (.bipush 8, 2) := by decide +kernel
theorem dX3_reading_37 : decode cX3_reading 37 = .ok (.if_icmp .lt 6, 3) := by decide +kernel
theorem dX3_reading_40 : decode cX3_reading 40 = .ok (.bipush (-4), 2) := by decide +kernel
theorem dX3_reading_42 : decode cX3_reading 42 = .ok (.ireturn, 1) := by decide +kernel
theorem dX3_reading_43 : decode cX3_reading 43 = .ok (.aload_n 0, 1) := by decide +kernel
theorem dX3_reading_44 : decode cX3_reading 44 = .ok (.getfield 29, 3) := by decide +kernel
theorem dX3_reading_47 : decode cX3_reading 47 = .ok (.aload_n 0, 1) := by decide +kernel
theorem dX3_reading_48 : decode cX3_reading 48 = .ok (.getfield 40, 3) := by decide +kernel
theorem dX3_reading_51 : decode cX3_reading 51 = .ok (.aaload, 1) := by decide +kernel
theorem dX3_reading_52 : decode cX3_reading 52 = .ok (.astore 4, 2) := by decide +kernel
theorem dX3_reading_54 : decode cX3_reading 54 = .ok (.aload 4, 2) := by decide +kernel
theorem dX3_reading_56 : decode cX3_reading 56 = .ok (.iload_n 1, 1) := by decide +kernel
theorem dX3_reading_57 : decode cX3_reading 57 = .ok (.putfield 155, 3) := by decide +kernel
theorem dX3_reading_60 : decode cX3_reading 60 = .ok (.aload 4, 2) := by decide +kernel
theorem dX3_reading_62 : decode cX3_reading 62 = .ok (.iload_n 2, 1) := by decide +kernel
theorem dX3_reading_63 : decode cX3_reading 63 = .ok (.putfield 158, 3) := by decide +kernel
theorem dX3_reading_66 : decode cX3_reading 66 = .ok (.aload 4, 2) := by decide +kernel
theorem dX3_reading_68 : decode cX3_reading 68 = .ok (.iload_n 3, 1) := by decide +kernel
theorem dX3_reading_69 : decode cX3_reading 69 = .ok (.putfield 161, 3) := by decide +kernel
theorem dX3_reading_72 : decode cX3_reading 72 = .ok (.aload_n 0, 1) := by decide +kernel
theorem dX3_reading_73 : decode cX3_reading 73 = .ok (.dup, 1) := by decide +kernel
theorem dX3_reading_74 : decode cX3_reading 74 = .ok (.getfield 40, 3) := by decide +kernel
theorem dX3_reading_77 : decode cX3_reading 77 = .ok (.iconst 1, 1) := by decide +kernel
theorem dX3_reading_78 : decode cX3_reading 78 = .ok (.iadd, 1) := by decide +kernel
theorem dX3_reading_79 : decode cX3_reading 79 = .ok (.putfield 40, 3) := by decide +kernel
theorem dX3_reading_82 : decode cX3_reading 82 = .ok (.aload_n 0, 1) := by decide +kernel
theorem dX3_reading_83 : decode cX3_reading 83 = .ok (.getfield 40, 3) := by decide +kernel
theorem dX3_reading_86 : decode cX3_reading 86 = .ok (.iconst 1, 1) := by decide +kernel
theorem dX3_reading_87 : decode cX3_reading 87 = .ok (.isub, 1) := by decide +kernel
theorem dX3_reading_88 : decode cX3_reading 88 = .ok (.ireturn, 1) := by decide +kernel
set_option maxRecDepth 20000 in
theorem ggX3_back_X3_isWithin : GoodIn wsX3_back wsX3_isWithin := goodIn_r _ [5] (by decide +kernel) (by decide +kernel)
set_option maxRecDepth 20000 in
theorem gX3_back_X3_isWithin : GoodIn wsX3_back (va_wsS RX3 81 yX3_isWithin wsX3_isWithin) := goodIn_app (goodIn_of _ (by decide +kernel)) ggX3_back_X3_isWithin
theorem dX3_back_0 : decode cX3_back 0 = .ok (.iload_n 1, 1) := by decide +kernel
theorem dX3_back_1 : decode cX3_back 1 = .ok (.aload_n 0, 1) := by decide +kernel
theorem dX3_back_2 : decode cX3_back 2 = .ok (.getfield 40, 3) := by decide +kernel
theorem dX3_back_5 : decode cX3_back 5 = .ok (.invokestatic 81, 3) := by decide +kernel
theorem dX3_back_8 : decode cX3_back 8 = .ok (.ifCond .ne 6, 3) := by decide +kernel
theorem dX3_back_11 : decode cX3_back 11 = .ok (.bipush (-2), 2) := by decide +kernel
theorem dX3_back_13 : decode cX3_back 13 = .ok (.ireturn, 1) := by decide +kernel
theorem dX3_back_14 : decode cX3_back 14 = .ok (.aload_n 0, 1) := by decide +kernel
theorem dX3_back_15 : decode cX3_back 15 = .ok (.dup, 1) := by decide +kernel
theorem dX3_back_16 : decode cX3_back 16 = .ok (.getfield 40, 3) := by decide +kernel
theorem dX3_back_19 : decode cX3_back 19 = .ok (.iload_n 1, 1) := by decide +kernel
theorem dX3_back_20 : decode cX3_back 20 = .ok (.isub, 1) := by decide +kernel
theorem dX3_back_21 : decode cX3_back 21 = .ok (.putfield 40, 3) := by decide +kernel
theorem dX3_back_24 : decode cX3_back 24 = .ok (.aload_n 0, 1) := by decide +kernel
theorem dX3_back_25 : decode cX3_back 25 = .ok (.getfield 40, 3) := by decide +kernel
theorem dX3_back_28 : decode cX3_back 28 = .ok (.ireturn, 1) := by decide +kernel
set_option maxRecDepth 20000 in
theorem ggX3_covers_X3_isProphet : GoodIn wsX3_covers wsX3_isProphet := goodIn_r _ [8, 9, 47, 48, 49, 50, 51, 52, 53, 54, 55] (by decide +kernel) (by decide +kernel)
set_option maxRecDepth 20000 in
theorem gX3_covers_X3_isProphet : GoodIn wsX3_covers (wsV RX3 85 RX3 yX3_isProphet wsX3_isProphet) := goodIn_app (goodIn_of _ (by decide +kernel)) ggX3_covers_X3_isProphet
set_option maxRecDepth 20000 in
theorem ggX3_covers_X3_agreesWithReadings : GoodIn wsX3_covers wsX3_agreesWithReadings := goodIn_r _ [13, 14, 15, 16, 17, 18, 19, 20, 21, 7, 22, 23, 24, 25, 26, 27, 28, 29, 30, 31, 32, 33, 34, 35, 36, 37, 38, 39, 40, 41, 42, 43, 44, 45, 1, 2, 46, 3, 47, 48, 49, 50, 51, 52, 53, 54, 55, 59, 60, 61, 56, 57, 58] (by decide +kernel) (by decide +kernel)
set_option maxRecDepth 20000 in
theorem gX3_covers_X3_agreesWithReadings : GoodIn wsX3_covers (wsV RX3 164 RX3 yX3_agreesWithReadings wsX3_agreesWithReadings) := goodIn_app (goodIn_of _ (by decide +kernel)) ggX3_covers_X3_agreesWithReadings
theorem dX3_covers_0 : decode cX3_covers 0 = .ok (.aload_n 0, 1) := by decide +kernel
theorem dX3_covers_1 : decode cX3_covers 1 = .ok (.iload_n 1, 1) := by decide +kernel
theorem dX3_covers_2 : decode cX3_covers 2 = .ok (.invokevirtual 85, 3) := by decide +kernel
theorem dX3_covers_5 : decode cX3_covers 5 = .ok (.ifCond .ne 5, 3) := by decide +kernel
theorem dX3_covers_8 : decode cX3_covers 8 = .ok (.iconst (-1), 1) := by decide +kernel
theorem dX3_covers_9 : decode cX3_covers 9 = .ok (.ireturn, 1) := by decide +kernel
theorem dX3_covers_10 : decode cX3_covers 10 = .ok (.aload_n 0, 1) := by decide +kernel
theorem dX3_covers_11 : decode cX3_covers 11 = .ok (.getfield 23, 3) := by decide +kernel
theorem dX3_covers_14 : decode cX3_covers 14 = .ok (.iload_n 1, 1) := by decide +kernel
theorem dX3_covers_15 : decode cX3_covers 15 = .ok (.aaload, 1) := by decide +kernel
theorem dX3_covers_16 : decode cX3_covers 16 = .ok (.astore_n 2, 1) := by decide +kernel
theorem dX3_covers_17 : decode cX3_covers 17 = .ok (.iconst 0, 1) := by decide +kernel
theorem dX3_covers_18 : decode cX3_covers 18 = .ok (.istore_n 3, 1) := by decide +kernel
theorem dX3_covers_19 : decode cX3_covers 19 = .ok (.iconst 0, 1) := by decide +kernel
theorem dX3_covers_20 : decode cX3_covers 20 = .ok (.istore 4, 2) := by decide +kernel
theorem dX3_covers_22 : decode cX3_covers 22 = .ok (.iload 4, 2) := by decide +kernel
theorem dX3_covers_24 : decode cX3_covers 24 = .ok (.bipush 10, 2) := by decide +kernel
theorem dX3_covers_26 : decode cX3_covers 26 = .ok (.if_icmp .ge 34, 3) := by decide +kernel
theorem dX3_covers_29 : decode cX3_covers 29 = .ok (.aload_n 0, 1) := by decide +kernel
theorem dX3_covers_30 : decode cX3_covers 30 = .ok (.iload_n 1, 1) := by decide +kernel
theorem dX3_covers_31 : decode cX3_covers 31 = .ok (.aload_n 2, 1) := by decide +kernel
theorem dX3_covers_32 : decode cX3_covers 32 = .ok (.getfield 88, 3) := by decide +kernel
theorem dX3_covers_35 : decode cX3_covers 35 = .ok (.iload 4, 2) := by decide +kernel
theorem dX3_covers_37 : decode cX3_covers 37 = .ok (.aload_n 2, 1) := by decide +kernel
theorem dX3_covers_38 : decode cX3_covers 38 = .ok (.getfield 94, 3) := by decide +kernel
theorem dX3_covers_41 : decode cX3_covers 41 = .ok (.invokevirtual 164, 3) := by decide +kernel
theorem dX3_covers_44 : decode cX3_covers 44 = .ok (.ifCond .eq 10, 3) := by decide +kernel
theorem dX3_covers_47 : decode cX3_covers 47 = .ok (.iload_n 3, 1) := by decide +kernel
theorem dX3_covers_48 : decode cX3_covers 48 = .ok (.iconst 1, 1) := by decide +kernel
theorem dX3_covers_49 : decode cX3_covers 49 = .ok (.iload 4, 2) := by decide +kernel
theorem dX3_covers_51 : decode cX3_covers 51 = .ok (.ishl, 1) := by decide +kernel
theorem dX3_covers_52 : decode cX3_covers 52 = .ok (.ior, 1) := by decide +kernel
theorem dX3_covers_53 : decode cX3_covers 53 = .ok (.istore_n 3, 1) := by decide +kernel
theorem dX3_covers_54 : decode cX3_covers 54 = .ok (.iinc 4 1, 3) := by decide +kernel
theorem dX3_covers_57 : decode cX3_covers 57 = .ok (.goto (-35), 3) := by decide +kernel
theorem dX3_covers_60 : decode cX3_covers 60 = .ok (.iload_n 3, 1) := by decide +kernel
theorem dX3_covers_61 : decode cX3_covers 61 = .ok (.ireturn, 1) := by decide +kernel
set_option maxRecDepth 20000 in
theorem ggX3_kinds_X3_isProphet : GoodIn wsX3_kinds wsX3_isProphet := goodIn_r _ [8, 9, 47, 48, 49, 50, 51, 52, 53, 54, 55] (by decide +kernel) (by decide +kernel)
set_option maxRecDepth 20000 in
theorem gX3_kinds_X3_isProphet : GoodIn wsX3_kinds (wsV RX3 85 RX3 yX3_isProphet wsX3_isProphet) := goodIn_app (goodIn_of _ (by decide +kernel)) ggX3_kinds_X3_isProphet
set_option maxRecDepth 20000 in
theorem ggX3_kinds_X3_agreesWithReadings : GoodIn wsX3_kinds wsX3_agreesWithReadings := goodIn_r _ [13, 14, 15, 16, 17, 18, 19, 20, 21, 7, 22, 23, 24, 25, 26, 27, 28, 29, 30, 31, 32, 33, 34, 35, 36, 37, 38, 39, 40, 41, 42, 43, 44, 45, 1, 46, 2, 3, 47, 48, 49, 50, 51, 52, 53, 54, 55, 59, 60, 61, 56, 57, 58] (by decide +kernel) (by decide +kernel)
set_option maxRecDepth 20000 in
theorem gX3_kinds_X3_agreesWithReadings : GoodIn wsX3_kinds (wsV RX3 164 RX3 yX3_agreesWithReadings wsX3_agreesWithReadings) := goodIn_app (goodIn_of _ (by decide +kernel)) ggX3_kinds_X3_agreesWithReadings
theorem dX3_kinds_0 : decode cX3_kinds 0 = .ok (.aload_n 0, 1) := by decide +kernel
theorem dX3_kinds_1 : decode cX3_kinds 1 = .ok (.iload_n 1, 1) := by decide +kernel
theorem dX3_kinds_2 : decode cX3_kinds 2 = .ok (.invokevirtual 85, 3) := by decide +kernel
theorem dX3_kinds_5 : decode cX3_kinds 5 = .ok (.ifCond .ne 5, 3) := by decide +kernel
theorem dX3_kinds_8 : decode cX3_kinds 8 = .ok (.iconst (-1), 1) := by decide +kernel
theorem dX3_kinds_9 : decode cX3_kinds 9 = .ok (.ireturn, 1) := by decide +kernel
theorem dX3_kinds_10 : decode cX3_kinds 10 = .ok (.aload_n 0, 1) := by decide +kernel
theorem dX3_kinds_11 : decode cX3_kinds 11 = .ok (.getfield 23, 3) := by decide +kernel
theorem dX3_kinds_14 : decode cX3_kinds 14 = .ok (.iload_n 1, 1) := by decide +kernel
theorem dX3_kinds_15 : decode cX3_kinds 15 = .ok (.aaload, 1) := by decide +kernel
theorem dX3_kinds_16 : decode cX3_kinds 16 = .ok (.astore_n 2, 1) := by decide +kernel
theorem dX3_kinds_17 : decode cX3_kinds 17 = .ok (.iconst 0, 1) := by decide +kernel
theorem dX3_kinds_18 : decode cX3_kinds 18 = .ok (.istore_n 3, 1) := by decide +kernel
theorem dX3_kinds_19 : decode cX3_kinds 19 = .ok (.iconst 0, 1) := by decide +kernel
theorem dX3_kinds_20 : decode cX3_kinds 20 = .ok (.istore 4, 2) := by decide +kernel
theorem dX3_kinds_22 : decode cX3_kinds 22 = .ok (.iload 4, 2) := by decide +kernel
theorem dX3_kinds_24 : decode cX3_kinds 24 = .ok (.iconst 3, 1) := by decide +kernel
theorem dX3_kinds_25 : decode cX3_kinds 25 = .ok (.if_icmp .ge 34, 3) := by decide +kernel
theorem dX3_kinds_28 : decode cX3_kinds 28 = .ok (.aload_n 0, 1) := by decide +kernel
theorem dX3_kinds_29 : decode cX3_kinds 29 = .ok (.iload_n 1, 1) := by decide +kernel
theorem dX3_kinds_30 : decode cX3_kinds 30 = .ok (.iload 4, 2) := by decide +kernel
theorem dX3_kinds_32 : decode cX3_kinds 32 = .ok (.aload_n 2, 1) := by decide +kernel
theorem dX3_kinds_33 : decode cX3_kinds 33 = .ok (.getfield 91, 3) := by decide +kernel
theorem dX3_kinds_36 : decode cX3_kinds 36 = .ok (.aload_n 2, 1) := by decide +kernel
theorem dX3_kinds_37 : decode cX3_kinds 37 = .ok (.getfield 94, 3) := by decide +kernel
theorem dX3_kinds_40 : decode cX3_kinds 40 = .ok (.invokevirtual 164, 3) := by decide +kernel
theorem dX3_kinds_43 : decode cX3_kinds 43 = .ok (.ifCond .eq 10, 3) := by decide +kernel
theorem dX3_kinds_46 : decode cX3_kinds 46 = .ok (.iload_n 3, 1) := by decide +kernel
theorem dX3_kinds_47 : decode cX3_kinds 47 = .ok (.iconst 1, 1) := by decide +kernel
theorem dX3_kinds_48 : decode cX3_kinds 48 = .ok (.iload 4, 2) := by decide +kernel
theorem dX3_kinds_50 : decode cX3_kinds 50 = .ok (.ishl, 1) := by decide +kernel
theorem dX3_kinds_51 : decode cX3_kinds 51 = .ok (.ior, 1) := by decide +kernel
theorem dX3_kinds_52 : decode cX3_kinds 52 = .ok (.istore_n 3, 1) := by decide +kernel
theorem dX3_kinds_53 : decode cX3_kinds 53 = .ok (.iinc 4 1, 3) := by decide +kernel
theorem dX3_kinds_56 : decode cX3_kinds 56 = .ok (.goto (-34), 3) := by decide +kernel
theorem dX3_kinds_59 : decode cX3_kinds 59 = .ok (.iload_n 3, 1) := by decide +kernel
theorem dX3_kinds_60 : decode cX3_kinds 60 = .ok (.ireturn, 1) := by decide +kernel
set_option maxRecDepth 20000 in
theorem ggX3_sayings_X3_isProphet : GoodIn wsX3_sayings wsX3_isProphet := goodIn_r _ [9, 10, 51, 52, 53, 54, 55, 56, 57, 58, 59] (by decide +kernel) (by decide +kernel)
set_option maxRecDepth 20000 in
theorem gX3_sayings_X3_isProphet : GoodIn wsX3_sayings (wsV RX3 85 RX3 yX3_isProphet wsX3_isProphet) := goodIn_app (goodIn_of _ (by decide +kernel)) ggX3_sayings_X3_isProphet
set_option maxRecDepth 20000 in
theorem ggX3_sayings_X3_isEvent : GoodIn wsX3_sayings wsX3_isEvent := goodIn_r _ [14, 15, 51, 52, 53, 54, 55, 56, 57, 58, 59] (by decide +kernel) (by decide +kernel)
set_option maxRecDepth 20000 in
theorem gX3_sayings_X3_isEvent : GoodIn wsX3_sayings (wsV RX3 78 RX3 yX3_isEvent wsX3_isEvent) := goodIn_app (goodIn_of _ (by decide +kernel)) ggX3_sayings_X3_isEvent
set_option maxRecDepth 20000 in
theorem ggX3_sayings_X3_agreesWithReadings : GoodIn wsX3_sayings wsX3_agreesWithReadings := goodIn_r _ [19, 20, 21, 22, 23, 24, 25, 26, 27, 8, 28, 29, 30, 31, 32, 33, 34, 35, 36, 15, 37, 38, 39, 40, 41, 42, 43, 44, 45, 46, 47, 48, 49, 50, 1, 2, 3, 4, 51, 52, 53, 54, 55, 56, 57, 58, 59, 63, 64, 65, 60, 61, 62] (by decide +kernel) (by decide +kernel)
set_option maxRecDepth 20000 in
theorem gX3_sayings_X3_agreesWithReadings : GoodIn wsX3_sayings (wsV RX3 164 RX3 yX3_agreesWithReadings wsX3_agreesWithReadings) := goodIn_app (goodIn_of _ (by decide +kernel)) ggX3_sayings_X3_agreesWithReadings
theorem dX3_sayings_0 : decode cX3_sayings 0 = .ok (.aload_n 0, 1) := by decide +kernel
theorem dX3_sayings_1 : decode cX3_sayings 1 = .ok (.iload_n 1, 1) := by decide +kernel
theorem dX3_sayings_2 : decode cX3_sayings 2 = .ok (.invokevirtual 85, 3) := by decide +kernel
theorem dX3_sayings_5 : decode cX3_sayings 5 = .ok (.ifCond .eq 11, 3) := by decide +kernel
theorem dX3_sayings_8 : decode cX3_sayings 8 = .ok (.aload_n 0, 1) := by decide +kernel
theorem dX3_sayings_9 : decode cX3_sayings 9 = .ok (.iload_n 2, 1) := by decide +kernel
theorem dX3_sayings_10 : decode cX3_sayings 10 = .ok (.invokevirtual 78, 3) := by decide +kernel
theorem dX3_sayings_13 : decode cX3_sayings 13 = .ok (.ifCond .ne 5, 3) := by decide +kernel
theorem dX3_sayings_16 : decode cX3_sayings 16 = .ok (.iconst (-1), 1) := by decide +kernel
theorem dX3_sayings_17 : decode cX3_sayings 17 = .ok (.ireturn, 1) := by decide +kernel
theorem dX3_sayings_18 : decode cX3_sayings 18 = .ok (.aload_n 0, 1) := by decide +kernel
theorem dX3_sayings_19 : decode cX3_sayings 19 = .ok (.getfield 23, 3) := by decide +kernel
theorem dX3_sayings_22 : decode cX3_sayings 22 = .ok (.iload_n 1, 1) := by decide +kernel
theorem dX3_sayings_23 : decode cX3_sayings 23 = .ok (.aaload, 1) := by decide +kernel
theorem dX3_sayings_24 : decode cX3_sayings 24 = .ok (.astore_n 3, 1) := by decide +kernel
theorem dX3_sayings_25 : decode cX3_sayings 25 = .ok (.iconst 1, 1) := by decide +kernel
theorem dX3_sayings_26 : decode cX3_sayings 26 = .ok (.iload_n 2, 1) := by decide +kernel
theorem dX3_sayings_27 : decode cX3_sayings 27 = .ok (.ishl, 1) := by decide +kernel
theorem dX3_sayings_28 : decode cX3_sayings 28 = .ok (.istore 4, 2) := by decide +kernel
theorem dX3_sayings_30 : decode cX3_sayings 30 = .ok (.iconst 0, 1) := by decide +kernel
theorem dX3_sayings_31 : decode cX3_sayings 31 = .ok (.istore 5, 2) := by decide +kernel
theorem dX3_sayings_33 : decode cX3_sayings 33 = .ok (.aload_n 0, 1) := by decide +kernel
theorem dX3_sayings_34 : decode cX3_sayings 34 = .ok (.iload_n 1, 1) := by decide +kernel
theorem dX3_sayings_35 : decode cX3_sayings 35 = .ok (.aload_n 3, 1) := by decide +kernel
theorem dX3_sayings_36 : decode cX3_sayings 36 = .ok (.getfield 88, 3) := by decide +kernel
theorem dX3_sayings_39 : decode cX3_sayings 39 = .ok (.aload_n 3, 1) := by decide +kernel
theorem dX3_sayings_40 : decode cX3_sayings 40 = .ok (.getfield 91, 3) := by decide +kernel
theorem dX3_sayings_43 : decode cX3_sayings 43 = .ok (.aload_n 3, 1) := by decide +kernel
theorem dX3_sayings_44 : decode cX3_sayings 44 = .ok (.getfield 94, 3) := by decide +kernel
theorem dX3_sayings_47 : decode cX3_sayings 47 = .ok (.iload 4, 2) := by decide +kernel
theorem dX3_sayings_49 : decode cX3_sayings 49 = .ok (.iconst (-1), 1) := by decide +kernel
theorem dX3_sayings_50 : decode cX3_sayings 50 = .ok (.ixor, 1) := by decide +kernel
theorem dX3_sayings_51 : decode cX3_sayings 51 = .ok (.iand, 1) := by decide +kernel
theorem dX3_sayings_52 : decode cX3_sayings 52 = .ok (.invokevirtual 164, 3) := by decide +kernel
theorem dX3_sayings_55 : decode cX3_sayings 55 = .ok (.ifCond .eq 9, 3) := by decide +kernel
theorem dX3_sayings_58 : decode cX3_sayings 58 = .ok (.iload 5, 2) := by decide +kernel
theorem dX3_sayings_60 : decode cX3_sayings 60 = .ok (.iconst 1, 1) := by decide +kernel
theorem dX3_sayings_61 : decode cX3_sayings 61 = .ok (.ior, 1) := by decide +kernel
theorem dX3_sayings_62 : decode cX3_sayings 62 = .ok (.istore 5, 2) := by decide +kernel
theorem dX3_sayings_64 : decode cX3_sayings 64 = .ok (.aload_n 0, 1) := by decide +kernel
theorem dX3_sayings_65 : decode cX3_sayings 65 = .ok (.iload_n 1, 1) := by decide +kernel
theorem dX3_sayings_66 : decode cX3_sayings 66 = .ok (.aload_n 3, 1) := by decide +kernel
theorem dX3_sayings_67 : decode cX3_sayings 67 = .ok (.getfield 88, 3) := by decide +kernel
theorem dX3_sayings_70 : decode cX3_sayings 70 = .ok (.aload_n 3, 1) := by decide +kernel
theorem dX3_sayings_71 : decode cX3_sayings 71 = .ok (.getfield 91, 3) := by decide +kernel
theorem dX3_sayings_74 : decode cX3_sayings 74 = .ok (.aload_n 3, 1) := by decide +kernel
theorem dX3_sayings_75 : decode cX3_sayings 75 = .ok (.getfield 94, 3) := by decide +kernel
theorem dX3_sayings_78 : decode cX3_sayings 78 = .ok (.iload 4, 2) := by decide +kernel
theorem dX3_sayings_80 : decode cX3_sayings 80 = .ok (.ior, 1) := by decide +kernel
theorem dX3_sayings_81 : decode cX3_sayings 81 = .ok (.invokevirtual 164, 3) := by decide +kernel
theorem dX3_sayings_84 : decode cX3_sayings 84 = .ok (.ifCond .eq 9, 3) := by decide +kernel
theorem dX3_sayings_87 : decode cX3_sayings 87 = .ok (.iload 5, 2) := by decide +kernel
theorem dX3_sayings_89 : decode cX3_sayings 89 = .ok (.iconst 2, 1) := by decide +kernel
theorem dX3_sayings_90 : decode cX3_sayings 90 = .ok (.ior, 1) := by decide +kernel
theorem dX3_sayings_91 : decode cX3_sayings 91 = .ok (.istore 5, 2) := by decide +kernel
theorem dX3_sayings_93 : decode cX3_sayings 93 = .ok (.iload 5, 2) := by decide +kernel
theorem dX3_sayings_95 : decode cX3_sayings 95 = .ok (.ireturn, 1) := by decide +kernel
set_option maxRecDepth 20000 in
theorem ggX3_odds_X3_hasOffice : GoodIn wsX3_odds wsX3_hasOffice := goodIn_r _ [6, 7, 72, 73, 74, 75, 76, 77, 78, 79, 80] (by decide +kernel) (by decide +kernel)
set_option maxRecDepth 20000 in
theorem gX3_odds_X3_hasOffice : GoodIn wsX3_odds (wsV RX3 110 RX3 yX3_hasOffice wsX3_hasOffice) := goodIn_app (goodIn_of _ (by decide +kernel)) ggX3_odds_X3_hasOffice
set_option maxRecDepth 20000 in
theorem ggX3_odds_X3_isWithin : GoodIn wsX3_odds wsX3_isWithin := goodIn_r _ [10] (by decide +kernel) (by decide +kernel)
set_option maxRecDepth 20000 in
theorem gX3_odds_X3_isWithin : GoodIn wsX3_odds (va_wsS RX3 81 yX3_isWithin wsX3_isWithin) := goodIn_app (goodIn_of _ (by decide +kernel)) ggX3_odds_X3_isWithin
set_option maxRecDepth 20000 in
theorem ggX3_odds_X3_weightFrom : GoodIn wsX3_odds wsX3_weightFrom := goodIn_r _ [14, 15, 16, 17, 5, 18, 19, 20, 21, 22, 23, 7, 24, 25, 26, 27, 28, 29, 30, 31, 32, 33, 34, 35, 36, 37, 38, 39, 40, 41, 42, 43, 44, 45, 46, 47, 48, 49, 50, 51, 52, 53, 54, 55, 56, 57, 72, 73, 74, 75, 76, 77, 78, 79, 80, 81, 82, 83] (by decide +kernel) (by decide +kernel)
set_option maxRecDepth 20000 in
theorem gX3_odds_X3_weightFrom : GoodIn wsX3_odds (wsV RX3 149 RX3 yX3_weightFrom wsX3_weightFrom) := goodIn_app (goodIn_of _ (by decide +kernel)) ggX3_odds_X3_weightFrom
set_option maxRecDepth 20000 in
theorem ggX3_odds_X3_weightOfAll : GoodIn wsX3_odds wsX3_weightOfAll := goodIn_r _ [61, 19, 72, 73, 74, 75, 76, 77, 78, 79, 80] (by decide +kernel) (by decide +kernel)
set_option maxRecDepth 20000 in
theorem gX3_odds_X3_weightOfAll : GoodIn wsX3_odds (wsV RX3 146 RX3 yX3_weightOfAll wsX3_weightOfAll) := goodIn_app (goodIn_of _ (by decide +kernel)) ggX3_odds_X3_weightOfAll
set_option maxRecDepth 20000 in
theorem ggX3_odds_X3_shareNumber : GoodIn wsX3_odds wsX3_shareNumber := goodIn_r _ [64, 65, 66, 5, 67, 68, 69, 70, 71] (by decide +kernel) (by decide +kernel)
set_option maxRecDepth 20000 in
theorem gX3_odds_X3_shareNumber : GoodIn wsX3_odds (va_wsS RX3 138 yX3_shareNumber wsX3_shareNumber) := goodIn_app (goodIn_of _ (by decide +kernel)) ggX3_odds_X3_shareNumber
theorem dX3_odds_0 : decode cX3_odds 0 = .ok (.aload_n 0, 1) := by decide +kernel
theorem dX3_odds_1 : decode cX3_odds 1 = .ok (.invokevirtual 110, 3) := by decide +kernel
theorem dX3_odds_4 : decode cX3_odds 4 = .ok (.ifCond .eq 21, 3) := by decide +kernel
theorem dX3_odds_7 : decode cX3_odds 7 = .ok (.iload_n 1, 1) := by decide +kernel
theorem dX3_odds_8 : decode cX3_odds 8 = .ok (.sipush 999, 3) := by decide +kernel
theorem dX3_odds_11 : decode cX3_odds 11 = .ok (.invokestatic 81, 3) := by decide +kernel
theorem dX3_odds_14 : decode cX3_odds 14 = .ok (.ifCond .eq 11, 3) := by decide +kernel
theorem dX3_odds_17 : decode cX3_odds 17 = .ok (.iload_n 2, 1) := by decide +kernel
theorem dX3_odds_18 : decode cX3_odds 18 = .ok (.iconst 1, 1) := by decide +kernel
theorem dX3_odds_19 : decode cX3_odds 19 = .ok (.invokestatic 81, 3) := by decide +kernel
theorem dX3_odds_22 : decode cX3_odds 22 = .ok (.ifCond .ne 7, 3) := by decide +kernel
theorem dX3_odds_25 : decode cX3_odds 25 = .ok (.ldc2_w 132, 3) := by decide +kernel
theorem dX3_odds_28 : decode cX3_odds 28 = .ok (.lreturn, 1) := by decide +kernel
theorem dX3_odds_29 : decode cX3_odds 29 = .ok (.aload_n 0, 1) := by decide +kernel
theorem dX3_odds_30 : decode cX3_odds 30 = .ok (.iload_n 1, 1) := by decide +kernel
theorem dX3_odds_31 : decode cX3_odds 31 = .ok (.invokevirtual 149, 3) := by decide +kernel
theorem dX3_odds_34 : decode cX3_odds 34 = .ok (.aload_n 0, 1) := by decide +kernel
theorem dX3_odds_35 : decode cX3_odds 35 = .ok (.invokevirtual 146, 3) := by decide +kernel
theorem dX3_odds_38 : decode cX3_odds 38 = .ok (.iload_n 2, 1) := by decide +kernel
theorem dX3_odds_39 : decode cX3_odds 39 = .ok (.invokestatic 138, 3) := by decide +kernel
theorem dX3_odds_42 : decode cX3_odds 42 = .ok (.lreturn, 1) := by decide +kernel
set_option maxRecDepth 20000 in
theorem ggX3_sheet_X3_isSheet : GoodIn wsX3_sheet wsX3_isSheet := goodIn_r _ [6] (by decide +kernel) (by decide +kernel)
set_option maxRecDepth 20000 in
theorem gX3_sheet_X3_isSheet : GoodIn wsX3_sheet (va_wsS RX3 52 yX3_isSheet wsX3_isSheet) := goodIn_app (goodIn_of _ (by decide +kernel)) ggX3_sheet_X3_isSheet
set_option maxRecDepth 20000 in
theorem ggX3_sheet_X3_isLane : GoodIn wsX3_sheet wsX3_isLane := goodIn_r _ [9] (by decide +kernel) (by decide +kernel)
set_option maxRecDepth 20000 in
theorem gX3_sheet_X3_isLane : GoodIn wsX3_sheet (va_wsS RX3 56 yX3_isLane wsX3_isLane) := goodIn_app (goodIn_of _ (by decide +kernel)) ggX3_sheet_X3_isLane
set_option maxRecDepth 20000 in
theorem ggX3_sheet_X3_faulty : GoodIn wsX3_sheet wsX3_faulty := goodIn_r _ [13, 1, 22, 23, 24, 25, 26, 27, 28, 29, 30] (by decide +kernel) (by decide +kernel)
set_option maxRecDepth 20000 in
theorem gX3_sheet_X3_faulty : GoodIn wsX3_sheet (wsV RX3 63 RX3 yX3_faulty wsX3_faulty) := goodIn_app (goodIn_of _ (by decide +kernel)) ggX3_sheet_X3_faulty
set_option maxRecDepth 20000 in
theorem ggX3_sheet_X2_makeRow : GoodIn wsX3_sheet wsX2_makeRow := goodIn_r _ [18, 19, 20, 21, 31, 32, 33] (by decide +kernel) (by decide +kernel)
set_option maxRecDepth 20000 in
theorem gX3_sheet_X2_makeRow : GoodIn wsX3_sheet (wsV RX3 168 RX2 yX2_makeRow wsX2_makeRow) := goodIn_app (goodIn_of _ (by decide +kernel)) ggX3_sheet_X2_makeRow
theorem dX3_sheet_0 : decode cX3_sheet 0 = .ok (.aload_n 0, 1) := by decide +kernel
theorem dX3_sheet_1 : decode cX3_sheet 1 = .ok (.iconst 0, 1) := by decide +kernel
theorem dX3_sheet_2 : decode cX3_sheet 2 = .ok (.putfield 46, 3) := by decide +kernel
theorem dX3_sheet_5 : decode cX3_sheet 5 = .ok (.iload_n 1, 1) := by decide +kernel
theorem dX3_sheet_6 : decode cX3_sheet 6 = .ok (.invokestatic 52, 3) := by decide +kernel
theorem dX3_sheet_9 : decode cX3_sheet 9 = .ok (.ifCond .ne 5, 3) := by decide +kernel
theorem dX3_sheet_12 : decode cX3_sheet 12 = .ok (.iconst (-1), 1) := by decide +kernel
theorem dX3_sheet_13 : decode cX3_sheet 13 = .ok (.ireturn, 1) := by decide +kernel
theorem dX3_sheet_14 : decode cX3_sheet 14 = .ok (.iload_n 2, 1) := by decide +kernel
theorem dX3_sheet_15 : decode cX3_sheet 15 = .ok (.invokestatic 56, 3) := by decide +kernel
theorem dX3_sheet_18 : decode cX3_sheet 18 = .ok (.ifCond .eq 9, 3) := by decide +kernel
theorem dX3_sheet_21 : decode cX3_sheet 21 = .ok (.iload_n 3, 1) := by decide +kernel
theorem dX3_sheet_22 : decode cX3_sheet 22 = .ok (.bipush 60, 2) := by decide +kernel
theorem dX3_sheet_24 : decode cX3_sheet 24 = .ok (.if_icmp .le 6, 3) := by decide +kernel
theorem dX3_sheet_27 : decode cX3_sheet 27 = .ok (.bipush (-2), 2) := by decide +kernel
theorem dX3_sheet_29 : decode cX3_sheet 29 = .ok (.ireturn, 1) := by decide +kernel
theorem dX3_sheet_30 : decode cX3_sheet 30 = .ok (.iload_n 3, 1) := by decide +kernel
theorem dX3_sheet_31 : decode cX3_sheet 31 = .ok (.ifCond .ge 9, 3) := by decide +kernel
theorem dX3_sheet_34 : decode cX3_sheet 34 = .ok (.aload_n 0, 1) := by decide +kernel
theorem dX3_sheet_35 : decode cX3_sheet 35 = .ok (.iconst 4, 1) := by decide +kernel
theorem dX3_sheet_36 : decode cX3_sheet 36 = .ok (.invokevirtual 63, 3) := by decide +kernel
theorem dX3_sheet_39 : decode cX3_sheet 39 = .ok (.ireturn, 1) := by decide +kernel
theorem dX3_sheet_40 : decode cX3_sheet 40 = .ok (.aload_n 0, 1) := by decide +kernel
theorem dX3_sheet_41 : decode cX3_sheet 41 = .ok (.getfield 13, 3) := by decide +kernel
theorem dX3_sheet_44 : decode cX3_sheet 44 = .ok (.iload_n 1, 1) := by decide +kernel
theorem dX3_sheet_45 : decode cX3_sheet 45 = .ok (.aaload, 1) := by decide +kernel
theorem dX3_sheet_46 : decode cX3_sheet 46 = .ok (.iload_n 2, 1) := by decide +kernel
theorem dX3_sheet_47 : decode cX3_sheet 47 = .ok (.iload_n 3, 1) := by decide +kernel
theorem dX3_sheet_48 : decode cX3_sheet 48 = .ok (.invokevirtual 168, 3) := by decide +kernel
theorem dX3_sheet_51 : decode cX3_sheet 51 = .ok (.iconst 1, 1) := by decide +kernel
theorem dX3_sheet_52 : decode cX3_sheet 52 = .ok (.ireturn, 1) := by decide +kernel
set_option maxRecDepth 20000 in
theorem ggX3_lose_X3_isSheet : GoodIn wsX3_lose wsX3_isSheet := goodIn_r _ [6] (by decide +kernel) (by decide +kernel)
set_option maxRecDepth 20000 in
theorem gX3_lose_X3_isSheet : GoodIn wsX3_lose (va_wsS RX3 52 yX3_isSheet wsX3_isSheet) := goodIn_app (goodIn_of _ (by decide +kernel)) ggX3_lose_X3_isSheet
set_option maxRecDepth 20000 in
theorem ggX3_lose_X2_isEmpty : GoodIn wsX3_lose wsX2_isEmpty := goodIn_r _ [11, 12, 22, 23, 24] (by decide +kernel) (by decide +kernel)
set_option maxRecDepth 20000 in
theorem gX3_lose_X2_isEmpty : GoodIn wsX3_lose (wsV RX3 172 RX2 yX2_isEmpty wsX2_isEmpty) := goodIn_app (goodIn_of _ (by decide +kernel)) ggX3_lose_X2_isEmpty
theorem dX3_lose_0 : decode cX3_lose 0 = .ok (.iload_n 1, 1) := by decide +kernel
theorem dX3_lose_1 : decode cX3_lose 1 = .ok (.invokestatic 52, 3) := by decide +kernel
theorem dX3_lose_4 : decode cX3_lose 4 = .ok (.ifCond .ne 5, 3) := by decide +kernel
theorem dX3_lose_7 : decode cX3_lose 7 = .ok (.iconst (-1), 1) := by decide +kernel
theorem dX3_lose_8 : decode cX3_lose 8 = .ok (.ireturn, 1) := by decide +kernel
theorem dX3_lose_9 : decode cX3_lose 9 = .ok (.aload_n 0, 1) := by decide +kernel
theorem dX3_lose_10 : decode cX3_lose 10 = .ok (.getfield 13, 3) := by decide +kernel
theorem dX3_lose_13 : decode cX3_lose 13 = .ok (.iload_n 1, 1) := by decide +kernel
theorem dX3_lose_14 : decode cX3_lose 14 = .ok (.aaload, 1) := by decide +kernel
theorem dX3_lose_15 : decode cX3_lose 15 = .ok (.invokevirtual 172, 3) := by decide +kernel
theorem dX3_lose_18 : decode cX3_lose 18 = .ok (.ifCond .eq 7, 3) := by decide +kernel
theorem dX3_lose_21 : decode cX3_lose 21 = .ok (.iconst 0, 1) := by decide +kernel
theorem dX3_lose_22 : decode cX3_lose 22 = .ok (.goto 4, 3) := by decide +kernel
theorem dX3_lose_25 : decode cX3_lose 25 = .ok (.iconst 1, 1) := by decide +kernel
theorem dX3_lose_26 : decode cX3_lose 26 = .ok (.istore_n 2, 1) := by decide +kernel
theorem dX3_lose_27 : decode cX3_lose 27 = .ok (.aload_n 0, 1) := by decide +kernel
theorem dX3_lose_28 : decode cX3_lose 28 = .ok (.getfield 13, 3) := by decide +kernel
theorem dX3_lose_31 : decode cX3_lose 31 = .ok (.iload_n 1, 1) := by decide +kernel
theorem dX3_lose_32 : decode cX3_lose 32 = .ok (.aaload, 1) := by decide +kernel
theorem dX3_lose_33 : decode cX3_lose 33 = .ok (.iconst (-1), 1) := by decide +kernel
theorem dX3_lose_34 : decode cX3_lose 34 = .ok (.putfield 175, 3) := by decide +kernel
theorem dX3_lose_37 : decode cX3_lose 37 = .ok (.iload_n 2, 1) := by decide +kernel
theorem dX3_lose_38 : decode cX3_lose 38 = .ok (.ireturn, 1) := by decide +kernel
set_option maxRecDepth 20000 in
theorem ggX3_put_X3_isSheet : GoodIn wsX3_put wsX3_isSheet := goodIn_r _ [7] (by decide +kernel) (by decide +kernel)
set_option maxRecDepth 20000 in
theorem gX3_put_X3_isSheet : GoodIn wsX3_put (va_wsS RX3 52 yX3_isSheet wsX3_isSheet) := goodIn_app (goodIn_of _ (by decide +kernel)) ggX3_put_X3_isSheet
set_option maxRecDepth 20000 in
theorem ggX3_put_X2_flaw : GoodIn wsX3_put wsX2_flaw := goodIn_r _ [12, 13, 14, 15, 16, 11, 17, 18, 19, 20, 21, 22, 45, 46, 47] (by decide +kernel) (by decide +kernel)
set_option maxRecDepth 20000 in
theorem gX3_put_X2_flaw : GoodIn wsX3_put (wsV RX3 59 RX2 yX2_flaw wsX2_flaw) := goodIn_app (goodIn_of _ (by decide +kernel)) ggX3_put_X2_flaw
set_option maxRecDepth 20000 in
theorem ggX3_put_X3_faulty : GoodIn wsX3_put wsX3_faulty := goodIn_r _ [26, 1, 36, 37, 38, 39, 40, 41, 42, 43, 44] (by decide +kernel) (by decide +kernel)
set_option maxRecDepth 20000 in
theorem gX3_put_X3_faulty : GoodIn wsX3_put (wsV RX3 63 RX3 yX3_faulty wsX3_faulty) := goodIn_app (goodIn_of _ (by decide +kernel)) ggX3_put_X3_faulty
set_option maxRecDepth 20000 in
theorem ggX3_put_X2_store : GoodIn wsX3_put wsX2_store := goodIn_r _ [30, 31, 19, 20, 21, 11, 22, 18, 32, 33, 34, 35, 13, 45, 46, 47] (by decide +kernel) (by decide +kernel)
set_option maxRecDepth 20000 in
theorem gX3_put_X2_store : GoodIn wsX3_put (wsV RX3 181 RX2 yX2_store wsX2_store) := goodIn_app (goodIn_of _ (by decide +kernel)) ggX3_put_X2_store
theorem dX3_put_0 : decode cX3_put 0 = .ok (.aload_n 0, 1) := by decide +kernel
theorem dX3_put_1 : decode cX3_put 1 = .ok (.iconst 0, 1) := by decide +kernel
theorem dX3_put_2 : decode cX3_put 2 = .ok (.putfield 46, 3) := by decide +kernel
theorem dX3_put_5 : decode cX3_put 5 = .ok (.iload_n 1, 1) := by decide +kernel
theorem dX3_put_6 : decode cX3_put 6 = .ok (.invokestatic 52, 3) := by decide +kernel
theorem dX3_put_9 : decode cX3_put 9 = .ok (.ifCond .ne 5, 3) := by decide +kernel
theorem dX3_put_12 : decode cX3_put 12 = .ok (.iconst (-1), 1) := by decide +kernel
theorem dX3_put_13 : decode cX3_put 13 = .ok (.ireturn, 1) := by decide +kernel
theorem dX3_put_14 : decode cX3_put 14 = .ok (.aload_n 0, 1) := by decide +kernel
theorem dX3_put_15 : decode cX3_put 15 = .ok (.getfield 13, 3) := by decide +kernel
theorem dX3_put_18 : decode cX3_put 18 = .ok (.iload_n 1, 1) := by decide +kernel
theorem dX3_put_19 : decode cX3_put 19 = .ok (.aaload, 1) := by decide +kernel
theorem dX3_put_20 : decode cX3_put 20 = .ok (.aload_n 0, 1) := by decide +kernel
theorem dX3_put_21 : decode cX3_put 21 = .ok (.getfield 13, 3) := by decide +kernel
theorem dX3_put_24 : decode cX3_put 24 = .ok (.iload_n 1, 1) := by decide +kernel
theorem dX3_put_25 : decode cX3_put 25 = .ok (.aaload, 1) := by decide +kernel
theorem dX3_put_26 : decode cX3_put 26 = .ok (.getfield 178, 3) := by decide +kernel
theorem dX3_put_29 : decode cX3_put 29 = .ok (.iload_n 2, 1) := by decide +kernel
theorem dX3_put_30 : decode cX3_put 30 = .ok (.iconst 1, 1) := by decide +kernel
theorem dX3_put_31 : decode cX3_put 31 = .ok (.invokevirtual 59, 3) := by decide +kernel
theorem dX3_put_34 : decode cX3_put 34 = .ok (.istore 4, 2) := by decide +kernel
theorem dX3_put_36 : decode cX3_put 36 = .ok (.iload 4, 2) := by decide +kernel
theorem dX3_put_38 : decode cX3_put 38 = .ok (.ifCond .eq 10, 3) := by decide +kernel
theorem dX3_put_41 : decode cX3_put 41 = .ok (.aload_n 0, 1) := by decide +kernel
theorem dX3_put_42 : decode cX3_put 42 = .ok (.iload 4, 2) := by decide +kernel
theorem dX3_put_44 : decode cX3_put 44 = .ok (.invokevirtual 63, 3) := by decide +kernel
theorem dX3_put_47 : decode cX3_put 47 = .ok (.ireturn, 1) := by decide +kernel
theorem dX3_put_48 : decode cX3_put 48 = .ok (.aload_n 0, 1) := by decide +kernel
theorem dX3_put_49 : decode cX3_put 49 = .ok (.getfield 13, 3) := by decide +kernel
theorem dX3_put_52 : decode cX3_put 52 = .ok (.iload_n 1, 1) := by decide +kernel
theorem dX3_put_53 : decode cX3_put 53 = .ok (.aaload, 1) := by decide +kernel
theorem dX3_put_54 : decode cX3_put 54 = .ok (.iload_n 2, 1) := by decide +kernel
theorem dX3_put_55 : decode cX3_put 55 = .ok (.iload_n 3, 1) := by decide +kernel
theorem dX3_put_56 : decode cX3_put 56 = .ok (.invokevirtual 181, 3) := by decide +kernel
theorem dX3_put_59 : decode cX3_put 59 = .ok (.iconst 1, 1) := by decide +kernel
theorem dX3_put_60 : decode cX3_put 60 = .ok (.ireturn, 1) := by decide +kernel
set_option maxRecDepth 20000 in
theorem ggX3_cell_X3_isSheet : GoodIn wsX3_cell wsX3_isSheet := goodIn_r _ [8] (by decide +kernel) (by decide +kernel)
set_option maxRecDepth 20000 in
theorem gX3_cell_X3_isSheet : GoodIn wsX3_cell (va_wsS RX3 52 yX3_isSheet wsX3_isSheet) := goodIn_app (goodIn_of _ (by decide +kernel)) ggX3_cell_X3_isSheet
set_option maxRecDepth 20000 in
theorem ggX3_cell_X3_isLane : GoodIn wsX3_cell wsX3_isLane := goodIn_r _ [11] (by decide +kernel) (by decide +kernel)
set_option maxRecDepth 20000 in
theorem gX3_cell_X3_isLane : GoodIn wsX3_cell (va_wsS RX3 56 yX3_isLane wsX3_isLane) := goodIn_app (goodIn_of _ (by decide +kernel)) ggX3_cell_X3_isLane
set_option maxRecDepth 20000 in
theorem ggX3_cell_X2_flaw : GoodIn wsX3_cell wsX2_flaw := goodIn_r _ [16, 17, 18, 19, 20, 15, 21, 22, 23, 24, 25, 26, 36, 37, 38] (by decide +kernel) (by decide +kernel)
set_option maxRecDepth 20000 in
theorem gX3_cell_X2_flaw : GoodIn wsX3_cell (wsV RX3 59 RX2 yX2_flaw wsX2_flaw) := goodIn_app (goodIn_of _ (by decide +kernel)) ggX3_cell_X2_flaw
theorem dX3_cell_0 : decode cX3_cell 0 = .ok (.aload_n 0, 1) := by decide +kernel
theorem dX3_cell_1 : decode cX3_cell 1 = .ok (.iconst 0, 1) := by decide +kernel
theorem dX3_cell_2 : decode cX3_cell 2 = .ok (.putfield 46, 3) := by decide +kernel
theorem dX3_cell_5 : decode cX3_cell 5 = .ok (.iload_n 1, 1) := by decide +kernel
theorem dX3_cell_6 : decode cX3_cell 6 = .ok (.invokestatic 52, 3) := by decide +kernel
theorem dX3_cell_9 : decode cX3_cell 9 = .ok (.ifCond .eq 10, 3) := by decide +kernel
theorem dX3_cell_12 : decode cX3_cell 12 = .ok (.iload_n 3, 1) := by decide +kernel
theorem dX3_cell_13 : decode cX3_cell 13 = .ok (.invokestatic 56, 3) := by decide +kernel
theorem dX3_cell_16 : decode cX3_cell 16 = .ok (.ifCond .ne 7, 3) := by decide +kernel
theorem dX3_cell_19 : decode cX3_cell 19 = .ok (.ldc2_w 132, 3) := by decide +kernel
theorem dX3_cell_22 : decode cX3_cell 22 = .ok (.lreturn, 1) := by decide +kernel
theorem dX3_cell_23 : decode cX3_cell 23 = .ok (.aload_n 0, 1) := by decide +kernel
theorem dX3_cell_24 : decode cX3_cell 24 = .ok (.aload_n 0, 1) := by decide +kernel
theorem dX3_cell_25 : decode cX3_cell 25 = .ok (.getfield 13, 3) := by decide +kernel
theorem dX3_cell_28 : decode cX3_cell 28 = .ok (.iload_n 1, 1) := by decide +kernel
theorem dX3_cell_29 : decode cX3_cell 29 = .ok (.aaload, 1) := by decide +kernel
theorem dX3_cell_30 : decode cX3_cell 30 = .ok (.iload_n 3, 1) := by decide +kernel
theorem dX3_cell_31 : decode cX3_cell 31 = .ok (.iload_n 2, 1) := by decide +kernel
theorem dX3_cell_32 : decode cX3_cell 32 = .ok (.iconst 1, 1) := by decide +kernel
theorem dX3_cell_33 : decode cX3_cell 33 = .ok (.invokevirtual 59, 3) := by decide +kernel
theorem dX3_cell_36 : decode cX3_cell 36 = .ok (.putfield 46, 3) := by decide +kernel
theorem dX3_cell_39 : decode cX3_cell 39 = .ok (.aload_n 0, 1) := by decide +kernel
theorem dX3_cell_40 : decode cX3_cell 40 = .ok (.getfield 46, 3) := by decide +kernel
theorem dX3_cell_43 : decode cX3_cell 43 = .ok (.ifCond .ne 18, 3) := by decide +kernel
theorem dX3_cell_46 : decode cX3_cell 46 = .ok (.aload_n 0, 1) := by decide +kernel
theorem dX3_cell_47 : decode cX3_cell 47 = .ok (.getfield 13, 3) := by decide +kernel
theorem dX3_cell_50 : decode cX3_cell 50 = .ok (.iload_n 1, 1) := by decide +kernel
theorem dX3_cell_51 : decode cX3_cell 51 = .ok (.aaload, 1) := by decide +kernel
theorem dX3_cell_52 : decode cX3_cell 52 = .ok (.getfield 67, 3) := by decide +kernel
theorem dX3_cell_55 : decode cX3_cell 55 = .ok (.iload_n 2, 1) := by decide +kernel
theorem dX3_cell_56 : decode cX3_cell 56 = .ok (.iaload, 1) := by decide +kernel
theorem dX3_cell_57 : decode cX3_cell 57 = .ok (.i2l, 1) := by decide +kernel
theorem dX3_cell_58 : decode cX3_cell 58 = .ok (.goto 6, 3) := by decide +kernel
theorem dX3_cell_61 : decode cX3_cell 61 = .ok (.ldc2_w 132, 3) := by decide +kernel
theorem dX3_cell_64 : decode cX3_cell 64 = .ok (.lreturn, 1) := by decide +kernel
set_option maxRecDepth 20000 in
theorem ggX3_copy_X3_isSheet : GoodIn wsX3_copy wsX3_isSheet := goodIn_r _ [12] (by decide +kernel) (by decide +kernel)
set_option maxRecDepth 20000 in
theorem gX3_copy_X3_isSheet : GoodIn wsX3_copy (va_wsS RX3 52 yX3_isSheet wsX3_isSheet) := goodIn_app (goodIn_of _ (by decide +kernel)) ggX3_copy_X3_isSheet
set_option maxRecDepth 20000 in
theorem ggX3_copy_X2_isEmpty : GoodIn wsX3_copy wsX2_isEmpty := goodIn_r _ [17, 18, 36, 37, 38] (by decide +kernel) (by decide +kernel)
set_option maxRecDepth 20000 in
theorem gX3_copy_X2_isEmpty : GoodIn wsX3_copy (wsV RX3 172 RX2 yX2_isEmpty wsX2_isEmpty) := goodIn_app (goodIn_of _ (by decide +kernel)) ggX3_copy_X2_isEmpty
set_option maxRecDepth 20000 in
theorem ggX3_copy_X3_faulty : GoodIn wsX3_copy wsX3_faulty := goodIn_r _ [22, 1, 27, 28, 29, 30, 31, 32, 33, 34, 35] (by decide +kernel) (by decide +kernel)
set_option maxRecDepth 20000 in
theorem gX3_copy_X3_faulty : GoodIn wsX3_copy (wsV RX3 63 RX3 yX3_faulty wsX3_faulty) := goodIn_app (goodIn_of _ (by decide +kernel)) ggX3_copy_X3_faulty
set_option maxRecDepth 20000 in
theorem ggX3_copy_X2_reaches : GoodIn wsX3_copy wsX2_reaches := goodIn_r _ [26, 18, 36, 37, 38] (by decide +kernel) (by decide +kernel)
set_option maxRecDepth 20000 in
theorem gX3_copy_X2_reaches : GoodIn wsX3_copy (wsV RX3 184 RX2 yX2_reaches wsX2_reaches) := goodIn_app (goodIn_of _ (by decide +kernel)) ggX3_copy_X2_reaches
theorem dX3_copy_0 : decode cX3_copy 0 = .ok (.aload_n 0, 1) := by decide +kernel
theorem dX3_copy_1 : decode cX3_copy 1 = .ok (.iconst 0, 1) := by decide +kernel
theorem dX3_copy_2 : decode cX3_copy 2 = .ok (.putfield 46, 3) := by decide +kernel
theorem dX3_copy_5 : decode cX3_copy 5 = .ok (.iload_n 1, 1) := by decide +kernel
theorem dX3_copy_6 : decode cX3_copy 6 = .ok (.invokestatic 52, 3) := by decide +kernel
theorem dX3_copy_9 : decode cX3_copy 9 = .ok (.ifCond .eq 10, 3) := by decide +kernel
theorem dX3_copy_12 : decode cX3_copy 12 = .ok (.iload_n 3, 1) := by decide +kernel
theorem dX3_copy_13 : decode cX3_copy 13 = .ok (.invokestatic 52, 3) := by decide +kernel
theorem dX3_copy_16 : decode cX3_copy 16 = .ok (.ifCond .ne 5, 3) := by decide +kernel
theorem dX3_copy_19 : decode cX3_copy 19 = .ok (.iconst (-1), 1) := by decide +kernel
theorem dX3_copy_20 : decode cX3_copy 20 = .ok (.ireturn, 1) := by decide +kernel
theorem dX3_copy_21 : decode cX3_copy 21 = .ok (.aload_n 0, 1) := by decide +kernel
theorem dX3_copy_22 : decode cX3_copy 22 = .ok (.getfield 13, 3) := by decide +kernel
theorem dX3_copy_25 : decode cX3_copy 25 = .ok (.iload_n 1, 1) := by decide +kernel
theorem dX3_copy_26 : decode cX3_copy 26 = .ok (.aaload, 1) := by decide +kernel
theorem dX3_copy_27 : decode cX3_copy 27 = .ok (.astore 6, 2) := by decide +kernel
theorem dX3_copy_29 : decode cX3_copy 29 = .ok (.aload_n 0, 1) := by decide +kernel
theorem dX3_copy_30 : decode cX3_copy 30 = .ok (.getfield 13, 3) := by decide +kernel
theorem dX3_copy_33 : decode cX3_copy 33 = .ok (.iload_n 3, 1) := by decide +kernel
theorem dX3_copy_34 : decode cX3_copy 34 = .ok (.aaload, 1) := by decide +kernel
theorem dX3_copy_35 : decode cX3_copy 35 = .ok (.astore 7, 2) := by decide +kernel
theorem dX3_copy_37 : decode cX3_copy 37 = .ok (.aload 6, 2) := by decide +kernel
theorem dX3_copy_39 : decode cX3_copy 39 = .ok (.invokevirtual 172, 3) := by decide +kernel
theorem dX3_copy_42 : decode cX3_copy 42 = .ok (.ifCond .ne 11, 3) := by decide +kernel
theorem dX3_copy_45 : decode cX3_copy 45 = .ok (.aload 7, 2) := by decide +kernel
theorem dX3_copy_47 : decode cX3_copy 47 = .ok (.invokevirtual 172, 3) := by decide +kernel
theorem dX3_copy_50 : decode cX3_copy 50 = .ok (.ifCond .eq 9, 3) := by decide +kernel
theorem dX3_copy_53 : decode cX3_copy 53 = .ok (.aload_n 0, 1) := by decide +kernel
theorem dX3_copy_54 : decode cX3_copy 54 = .ok (.iconst 1, 1) := by decide +kernel
theorem dX3_copy_55 : decode cX3_copy 55 = .ok (.invokevirtual 63, 3) := by decide +kernel
theorem dX3_copy_58 : decode cX3_copy 58 = .ok (.ireturn, 1) := by decide +kernel
theorem dX3_copy_59 : decode cX3_copy 59 = .ok (.aload 6, 2) := by decide +kernel
theorem dX3_copy_61 : decode cX3_copy 61 = .ok (.getfield 178, 3) := by decide +kernel
theorem dX3_copy_64 : decode cX3_copy 64 = .ok (.aload 7, 2) := by decide +kernel
theorem dX3_copy_66 : decode cX3_copy 66 = .ok (.getfield 178, 3) := by decide +kernel
theorem dX3_copy_69 : decode cX3_copy 69 = .ok (.if_icmp .eq 9, 3) := by decide +kernel
theorem dX3_copy_72 : decode cX3_copy 72 = .ok (.aload_n 0, 1) := by decide +kernel
theorem dX3_copy_73 : decode cX3_copy 73 = .ok (.iconst 2, 1) := by decide +kernel
theorem dX3_copy_74 : decode cX3_copy 74 = .ok (.invokevirtual 63, 3) := by decide +kernel
theorem dX3_copy_77 : decode cX3_copy 77 = .ok (.ireturn, 1) := by decide +kernel
theorem dX3_copy_78 : decode cX3_copy 78 = .ok (.aload 6, 2) := by decide +kernel
theorem dX3_copy_80 : decode cX3_copy 80 = .ok (.iload_n 2, 1) := by decide +kernel
theorem dX3_copy_81 : decode cX3_copy 81 = .ok (.iload 5, 2) := by decide +kernel
theorem dX3_copy_83 : decode cX3_copy 83 = .ok (.invokevirtual 184, 3) := by decide +kernel
theorem dX3_copy_86 : decode cX3_copy 86 = .ok (.ifCond .eq 15, 3) := by decide +kernel
theorem dX3_copy_89 : decode cX3_copy 89 = .ok (.aload 7, 2) := by decide +kernel
theorem dX3_copy_91 : decode cX3_copy 91 = .ok (.iload 4, 2) := by decide +kernel
theorem dX3_copy_93 : decode cX3_copy 93 = .ok (.iload 5, 2) := by decide +kernel
theorem dX3_copy_95 : decode cX3_copy 95 = .ok (.invokevirtual 184, 3) := by decide +kernel
theorem dX3_copy_98 : decode cX3_copy 98 = .ok (.ifCond .ne 9, 3) := by decide +kernel
theorem dX3_copy_101 : decode cX3_copy 101 = .ok (.aload_n 0, 1) := by decide +kernel
theorem dX3_copy_102 : decode cX3_copy 102 = .ok (.iconst 3, 1) := by decide +kernel
theorem dX3_copy_103 : decode cX3_copy 103 = .ok (.invokevirtual 63, 3) := by decide +kernel
theorem dX3_copy_106 : decode cX3_copy 106 = .ok (.ireturn, 1) := by decide +kernel
theorem dX3_copy_107 : decode cX3_copy 107 = .ok (.aload 6, 2) := by decide +kernel
theorem dX3_copy_109 : decode cX3_copy 109 = .ok (.getfield 67, 3) := by decide +kernel
theorem dX3_copy_112 : decode cX3_copy 112 = .ok (.iload_n 2, 1) := by decide +kernel
theorem dX3_copy_113 : decode cX3_copy 113 = .ok (.aload 7, 2) := by decide +kernel
theorem dX3_copy_115 : decode cX3_copy 115 = .ok (.getfield 67, 3) := by decide +kernel
theorem dX3_copy_118 : decode cX3_copy 118 = .ok (.iload 4, 2) := by decide +kernel
theorem dX3_copy_120 : decode cX3_copy 120 = .ok (.iload 5, 2) := by decide +kernel
theorem dX3_copy_122 : decode cX3_copy 122 = .ok (.invokestatic 187, 3) := by decide +kernel
theorem dX3_copy_125 : decode cX3_copy 125 = .ok (.iload 5, 2) := by decide +kernel
theorem dX3_copy_127 : decode cX3_copy 127 = .ok (.ireturn, 1) := by decide +kernel
set_option maxRecDepth 20000 in
theorem ggX3_tell_X3_isProphet : GoodIn wsX3_tell wsX3_isProphet := goodIn_r _ [8, 9, 27, 28, 29, 30, 31, 32, 33, 34, 35] (by decide +kernel) (by decide +kernel)
set_option maxRecDepth 20000 in
theorem gX3_tell_X3_isProphet : GoodIn wsX3_tell (wsV RX3 85 RX3 yX3_isProphet wsX3_isProphet) := goodIn_app (goodIn_of _ (by decide +kernel)) ggX3_tell_X3_isProphet
set_option maxRecDepth 20000 in
theorem ggX3_tell_X3_modestTells : GoodIn wsX3_tell wsX3_modestTells := goodIn_r _ [13, 14, 15, 16, 7, 17, 18, 27, 28, 29, 30, 31, 32, 33, 34, 35] (by decide +kernel) (by decide +kernel)
set_option maxRecDepth 20000 in
theorem gX3_tell_X3_modestTells : GoodIn wsX3_tell (wsV RX3 193 RX3 yX3_modestTells wsX3_modestTells) := goodIn_app (goodIn_of _ (by decide +kernel)) ggX3_tell_X3_modestTells
set_option maxRecDepth 20000 in
theorem ggX3_tell_X3_sureTells : GoodIn wsX3_tell wsX3_sureTells := goodIn_r _ [22, 14, 15, 16, 7, 17, 18, 10, 11, 12, 13, 27, 28, 29, 30, 31, 32, 33, 34, 35] (by decide +kernel) (by decide +kernel)
set_option maxRecDepth 20000 in
theorem gX3_tell_X3_sureTells : GoodIn wsX3_tell (wsV RX3 196 RX3 yX3_sureTells wsX3_sureTells) := goodIn_app (goodIn_of _ (by decide +kernel)) ggX3_tell_X3_sureTells
set_option maxRecDepth 20000 in
theorem ggX3_tell_X3_loudTells : GoodIn wsX3_tell wsX3_loudTells := goodIn_r _ [26, 14, 15, 16, 7, 17, 18, 19, 20, 21, 22, 10, 11, 12, 13, 27, 28, 29, 30, 31, 32, 33, 34, 35] (by decide +kernel) (by decide +kernel)
set_option maxRecDepth 20000 in
theorem gX3_tell_X3_loudTells : GoodIn wsX3_tell (wsV RX3 199 RX3 yX3_loudTells wsX3_loudTells) := goodIn_app (goodIn_of _ (by decide +kernel)) ggX3_tell_X3_loudTells
theorem dX3_tell_0 : decode cX3_tell 0 = .ok (.aload_n 0, 1) := by decide +kernel
theorem dX3_tell_1 : decode cX3_tell 1 = .ok (.iload_n 1, 1) := by decide +kernel
theorem dX3_tell_2 : decode cX3_tell 2 = .ok (.invokevirtual 85, 3) := by decide +kernel
theorem dX3_tell_5 : decode cX3_tell 5 = .ok (.ifCond .ne 5, 3) := by decide +kernel
theorem dX3_tell_8 : decode cX3_tell 8 = .ok (.iconst (-1), 1) := by decide +kernel
theorem dX3_tell_9 : decode cX3_tell 9 = .ok (.ireturn, 1) := by decide +kernel
theorem dX3_tell_10 : decode cX3_tell 10 = .ok (.aload_n 0, 1) := by decide +kernel
theorem dX3_tell_11 : decode cX3_tell 11 = .ok (.getfield 23, 3) := by decide +kernel
theorem dX3_tell_14 : decode cX3_tell 14 = .ok (.iload_n 1, 1) := by decide +kernel
theorem dX3_tell_15 : decode cX3_tell 15 = .ok (.aaload, 1) := by decide +kernel
theorem dX3_tell_16 : decode cX3_tell 16 = .ok (.getfield 91, 3) := by decide +kernel
theorem dX3_tell_19 : decode cX3_tell 19 = .ok (.istore_n 2, 1) := by decide +kernel
theorem dX3_tell_20 : decode cX3_tell 20 = .ok (.aload_n 0, 1) := by decide +kernel
theorem dX3_tell_21 : decode cX3_tell 21 = .ok (.getfield 23, 3) := by decide +kernel
theorem dX3_tell_24 : decode cX3_tell 24 = .ok (.iload_n 1, 1) := by decide +kernel
theorem dX3_tell_25 : decode cX3_tell 25 = .ok (.aaload, 1) := by decide +kernel
theorem dX3_tell_26 : decode cX3_tell 26 = .ok (.getfield 88, 3) := by decide +kernel
theorem dX3_tell_29 : decode cX3_tell 29 = .ok (.lookupswitch 39 #[(0, 27), (1, 33)], 27) := by decide +kernel
theorem dX3_tell_56 : decode cX3_tell 56 = .ok (.aload_n 0, 1) := by decide +kernel
theorem dX3_tell_57 : decode cX3_tell 57 = .ok (.iload_n 2, 1) := by decide +kernel
theorem dX3_tell_58 : decode cX3_tell 58 = .ok (.invokevirtual 193, 3) := by decide +kernel
theorem dX3_tell_61 : decode cX3_tell 61 = .ok (.ireturn, 1) := by decide +kernel
theorem dX3_tell_62 : decode cX3_tell 62 = .ok (.aload_n 0, 1) := by decide +kernel
theorem dX3_tell_63 : decode cX3_tell 63 = .ok (.iload_n 2, 1) := by decide +kernel
theorem dX3_tell_64 : decode cX3_tell 64 = .ok (.invokevirtual 196, 3) := by decide +kernel
theorem dX3_tell_67 : decode cX3_tell 67 = .ok (.ireturn, 1) := by decide +kernel
theorem dX3_tell_68 : decode cX3_tell 68 = .ok (.aload_n 0, 1) := by decide +kernel
theorem dX3_tell_69 : decode cX3_tell 69 = .ok (.iload_n 2, 1) := by decide +kernel
theorem dX3_tell_70 : decode cX3_tell 70 = .ok (.invokevirtual 199, 3) := by decide +kernel
theorem dX3_tell_73 : decode cX3_tell 73 = .ok (.ireturn, 1) := by decide +kernel
set_option maxRecDepth 20000 in
theorem ggX3_hear_X3_isProphet : GoodIn wsX3_hear wsX3_isProphet := goodIn_r _ [7, 8, 22, 23, 24, 25, 26, 27, 28, 29, 30] (by decide +kernel) (by decide +kernel)
set_option maxRecDepth 20000 in
theorem gX3_hear_X3_isProphet : GoodIn wsX3_hear (wsV RX3 85 RX3 yX3_isProphet wsX3_isProphet) := goodIn_app (goodIn_of _ (by decide +kernel)) ggX3_hear_X3_isProphet
set_option maxRecDepth 20000 in
theorem ggX3_hear_X3_loudIsHeard : GoodIn wsX3_hear wsX3_loudIsHeard := goodIn_r _ [12, 13, 14, 15, 6, 16, 17, 22, 23, 24, 25, 26, 27, 28, 29, 30] (by decide +kernel) (by decide +kernel)
set_option maxRecDepth 20000 in
theorem gX3_hear_X3_loudIsHeard : GoodIn wsX3_hear (wsV RX3 202 RX3 yX3_loudIsHeard wsX3_loudIsHeard) := goodIn_app (goodIn_of _ (by decide +kernel)) ggX3_hear_X3_loudIsHeard
set_option maxRecDepth 20000 in
theorem ggX3_hear_X3_lentBodyHears : GoodIn wsX3_hear wsX3_lentBodyHears := goodIn_r _ [21, 13, 14, 15, 6, 16, 17, 22, 23, 24, 25, 26, 27, 28, 29, 30] (by decide +kernel) (by decide +kernel)
set_option maxRecDepth 20000 in
theorem gX3_hear_X3_lentBodyHears : GoodIn wsX3_hear (wsV RX3 205 RX3 yX3_lentBodyHears wsX3_lentBodyHears) := goodIn_app (goodIn_of _ (by decide +kernel)) ggX3_hear_X3_lentBodyHears
theorem dX3_hear_0 : decode cX3_hear 0 = .ok (.aload_n 0, 1) := by decide +kernel
theorem dX3_hear_1 : decode cX3_hear 1 = .ok (.iload_n 1, 1) := by decide +kernel
theorem dX3_hear_2 : decode cX3_hear 2 = .ok (.invokevirtual 85, 3) := by decide +kernel
theorem dX3_hear_5 : decode cX3_hear 5 = .ok (.ifCond .ne 5, 3) := by decide +kernel
theorem dX3_hear_8 : decode cX3_hear 8 = .ok (.iconst (-1), 1) := by decide +kernel
theorem dX3_hear_9 : decode cX3_hear 9 = .ok (.ireturn, 1) := by decide +kernel
theorem dX3_hear_10 : decode cX3_hear 10 = .ok (.aload_n 0, 1) := by decide +kernel
theorem dX3_hear_11 : decode cX3_hear 11 = .ok (.getfield 23, 3) := by decide +kernel
theorem dX3_hear_14 : decode cX3_hear 14 = .ok (.iload_n 1, 1) := by decide +kernel
theorem dX3_hear_15 : decode cX3_hear 15 = .ok (.aaload, 1) := by decide +kernel
theorem dX3_hear_16 : decode cX3_hear 16 = .ok (.getfield 88, 3) := by decide +kernel
theorem dX3_hear_19 : decode cX3_hear 19 = .ok (.iconst 2, 1) := by decide +kernel
theorem dX3_hear_20 : decode cX3_hear 20 = .ok (.if_icmp .ne 10, 3) := by decide +kernel
theorem dX3_hear_23 : decode cX3_hear 23 = .ok (.aload_n 0, 1) := by decide +kernel
theorem dX3_hear_24 : decode cX3_hear 24 = .ok (.invokevirtual 202, 3) := by decide +kernel
theorem dX3_hear_27 : decode cX3_hear 27 = .ok (.goto 8, 3) := by decide +kernel
theorem dX3_hear_30 : decode cX3_hear 30 = .ok (.aload_n 0, 1) := by decide +kernel
theorem dX3_hear_31 : decode cX3_hear 31 = .ok (.iload_n 1, 1) := by decide +kernel
theorem dX3_hear_32 : decode cX3_hear 32 = .ok (.invokevirtual 205, 3) := by decide +kernel
theorem dX3_hear_35 : decode cX3_hear 35 = .ok (.ireturn, 1) := by decide +kernel
set_option maxRecDepth 20000 in
theorem ggX3_as_X3_isProphet : GoodIn wsX3_as wsX3_isProphet := goodIn_r _ [8, 9, 17, 18, 19, 20, 21, 22, 23, 24, 25] (by decide +kernel) (by decide +kernel)
set_option maxRecDepth 20000 in
theorem gX3_as_X3_isProphet : GoodIn wsX3_as (wsV RX3 85 RX3 yX3_isProphet wsX3_isProphet) := goodIn_app (goodIn_of _ (by decide +kernel)) ggX3_as_X3_isProphet
set_option maxRecDepth 20000 in
theorem ggX3_as_X3_isWithin : GoodIn wsX3_as wsX3_isWithin := goodIn_r _ [12] (by decide +kernel) (by decide +kernel)
set_option maxRecDepth 20000 in
theorem gX3_as_X3_isWithin : GoodIn wsX3_as (va_wsS RX3 81 yX3_isWithin wsX3_isWithin) := goodIn_app (goodIn_of _ (by decide +kernel)) ggX3_as_X3_isWithin
set_option maxRecDepth 20000 in
theorem ggX3_as_X3_faulty : GoodIn wsX3_as wsX3_faulty := goodIn_r _ [16, 1, 17, 18, 19, 20, 21, 22, 23, 24, 25] (by decide +kernel) (by decide +kernel)
set_option maxRecDepth 20000 in
theorem gX3_as_X3_faulty : GoodIn wsX3_as (wsV RX3 63 RX3 yX3_faulty wsX3_faulty) := goodIn_app (goodIn_of _ (by decide +kernel)) ggX3_as_X3_faulty
theorem dX3_as_0 : decode cX3_as 0 = .ok (.aload_n 0, 1) := by decide +kernel
theorem dX3_as_1 : decode cX3_as 1 = .ok (.iconst 0, 1) := by decide +kernel
theorem dX3_as_2 : decode cX3_as 2 = .ok (.putfield 46, 3) := by decide +kernel
theorem dX3_as_5 : decode cX3_as 5 = .ok (.aload_n 0, 1) := by decide +kernel
theorem dX3_as_6 : decode cX3_as 6 = .ok (.iload_n 1, 1) := by decide +kernel
theorem dX3_as_7 : decode cX3_as 7 = .ok (.invokevirtual 85, 3) := by decide +kernel
theorem dX3_as_10 : decode cX3_as 10 = .ok (.ifCond .ne 5, 3) := by decide +kernel
theorem dX3_as_13 : decode cX3_as 13 = .ok (.iconst (-1), 1) := by decide +kernel
theorem dX3_as_14 : decode cX3_as 14 = .ok (.ireturn, 1) := by decide +kernel
theorem dX3_as_15 : decode cX3_as 15 = .ok (.iload_n 2, 1) := by decide +kernel
theorem dX3_as_16 : decode cX3_as 16 = .ok (.iconst 2, 1) := by decide +kernel
theorem dX3_as_17 : decode cX3_as 17 = .ok (.invokestatic 81, 3) := by decide +kernel
theorem dX3_as_20 : decode cX3_as 20 = .ok (.ifCond .ne 6, 3) := by decide +kernel
theorem dX3_as_23 : decode cX3_as 23 = .ok (.bipush (-2), 2) := by decide +kernel
theorem dX3_as_25 : decode cX3_as 25 = .ok (.ireturn, 1) := by decide +kernel
theorem dX3_as_26 : decode cX3_as 26 = .ok (.aload_n 0, 1) := by decide +kernel
theorem dX3_as_27 : decode cX3_as 27 = .ok (.getfield 23, 3) := by decide +kernel
theorem dX3_as_30 : decode cX3_as 30 = .ok (.iload_n 1, 1) := by decide +kernel
theorem dX3_as_31 : decode cX3_as 31 = .ok (.aaload, 1) := by decide +kernel
theorem dX3_as_32 : decode cX3_as 32 = .ok (.getfield 88, 3) := by decide +kernel
theorem dX3_as_35 : decode cX3_as 35 = .ok (.iload_n 2, 1) := by decide +kernel
theorem dX3_as_36 : decode cX3_as 36 = .ok (.if_icmp .lt 7, 3) := by decide +kernel
theorem dX3_as_39 : decode cX3_as 39 = .ok (.iconst 1, 1) := by decide +kernel
theorem dX3_as_40 : decode cX3_as 40 = .ok (.goto 8, 3) := by decide +kernel
theorem dX3_as_43 : decode cX3_as 43 = .ok (.aload_n 0, 1) := by decide +kernel
theorem dX3_as_44 : decode cX3_as 44 = .ok (.iconst 2, 1) := by decide +kernel
theorem dX3_as_45 : decode cX3_as 45 = .ok (.invokevirtual 63, 3) := by decide +kernel
theorem dX3_as_48 : decode cX3_as 48 = .ok (.ireturn, 1) := by decide +kernel
theorem dX3_trace_0 : decode cX3_trace 0 = .ok (.aload_n 0, 1) := by decide +kernel
theorem dX3_trace_1 : decode cX3_trace 1 = .ok (.getfield 43, 3) := by decide +kernel
theorem dX3_trace_4 : decode cX3_trace 4 = .ok (.ireturn, 1) := by decide +kernel
theorem dX3_fault_0 : decode cX3_fault 0 = .ok (.aload_n 0, 1) := by decide +kernel
theorem dX3_fault_1 : decode cX3_fault 1 = .ok (.getfield 46, 3) := by decide +kernel
theorem dX3_fault_4 : decode cX3_fault 4 = .ok (.ireturn, 1) := by decide +kernel
set_option maxRecDepth 20000 in
theorem ggX3_many_X3_countFrauds : GoodIn wsX3_many wsX3_countFrauds := goodIn_r _ [8, 1, 9, 10, 11, 12, 13, 7, 14, 15, 16, 17, 18, 2, 19, 20, 21, 22, 23, 24, 25, 26, 27, 28, 29, 30] (by decide +kernel) (by decide +kernel)
set_option maxRecDepth 20000 in
theorem gX3_many_X3_countFrauds : GoodIn wsX3_many (wsV RX3 208 RX3 yX3_countFrauds wsX3_countFrauds) := goodIn_app (goodIn_of _ (by decide +kernel)) ggX3_many_X3_countFrauds
theorem dX3_many_0 : decode cX3_many 0 = .ok (.iload_n 1, 1) := by decide +kernel
theorem dX3_many_1 : decode cX3_many 1 = .ok (.tableswitch 51 0 3 #[31, 36, 41, 46], 31) := by decide +kernel
theorem dX3_many_32 : decode cX3_many 32 = .ok (.aload_n 0, 1) := by decide +kernel
theorem dX3_many_33 : decode cX3_many 33 = .ok (.getfield 37, 3) := by decide +kernel
theorem dX3_many_36 : decode cX3_many 36 = .ok (.ireturn, 1) := by decide +kernel
theorem dX3_many_37 : decode cX3_many 37 = .ok (.aload_n 0, 1) := by decide +kernel
theorem dX3_many_38 : decode cX3_many 38 = .ok (.getfield 33, 3) := by decide +kernel
theorem dX3_many_41 : decode cX3_many 41 = .ok (.ireturn, 1) := by decide +kernel
