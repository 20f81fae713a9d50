theorem dX4_init_0 : decode cX4_init 0 = .ok (.aload_n 0, 1) := by decide +kernel
theorem dX4_init_1 : decode cX4_init 1 = .ok (.invokespecial 1, 3) := by decide +kernel
theorem dX4_init_4 : decode cX4_init 4 = .ok (.aload_n 0, 1) := by decide +kernel
theorem dX4_init_5 : decode cX4_init 5 = .ok (.iconst 5, 1) := by decide +kernel
theorem dX4_init_6 : decode cX4_init 6 = .ok (.newarray .int, 2) := by decide +kernel
theorem dX4_init_8 : decode cX4_init 8 = .ok (.putfield 7, 3) := by decide +kernel
theorem dX4_init_11 : decode cX4_init 11 = .ok (.aload_n 0, 1) := by decide +kernel
theorem dX4_init_12 : decode cX4_init 12 = .ok (.iconst 4, 1) := by decide +kernel
theorem dX4_init_13 : decode cX4_init 13 = .ok (.newarray .int, 2) := by decide +kernel
theorem dX4_init_15 : decode cX4_init 15 = .ok (.putfield 13, 3) := by decide +kernel
theorem dX4_init_18 : decode cX4_init 18 = .ok (.aload_n 0, 1) := by decide +kernel
theorem dX4_init_19 : decode cX4_init 19 = .ok (.iconst 4, 1) := by decide +kernel
theorem dX4_init_20 : decode cX4_init 20 = .ok (.newarray .int, 2) := by decide +kernel
theorem dX4_init_22 : decode cX4_init 22 = .ok (.putfield 16, 3) := by decide +kernel
theorem dX4_init_25 : decode cX4_init 25 = .ok (.aload_n 0, 1) := by decide +kernel
theorem dX4_init_26 : decode cX4_init 26 = .ok (.iconst 4, 1) := by decide +kernel
theorem dX4_init_27 : decode cX4_init 27 = .ok (.newarray .int, 2) := by decide +kernel
theorem dX4_init_29 : decode cX4_init 29 = .ok (.putfield 19, 3) := by decide +kernel
theorem dX4_init_32 : decode cX4_init 32 = .ok (.aload_n 0, 1) := by decide +kernel
theorem dX4_init_33 : decode cX4_init 33 = .ok (.iconst 5, 1) := by decide +kernel
theorem dX4_init_34 : decode cX4_init 34 = .ok (.newarray .int, 2) := by decide +kernel
theorem dX4_init_36 : decode cX4_init 36 = .ok (.putfield 22, 3) := by decide +kernel
theorem dX4_init_39 : decode cX4_init 39 = .ok (.aload_n 0, 1) := by decide +kernel
theorem dX4_init_40 : decode cX4_init 40 = .ok (.iconst 4, 1) := by decide +kernel
theorem dX4_init_41 : decode cX4_init 41 = .ok (.newarray .int, 2) := by decide +kernel
theorem dX4_init_43 : decode cX4_init 43 = .ok (.putfield 25, 3) := by decide +kernel
theorem dX4_init_46 : decode cX4_init 46 = .ok (.aload_n 0, 1) := by decide +kernel
theorem dX4_init_47 : decode cX4_init 47 = .ok (.iconst 4, 1) := by decide +kernel
theorem dX4_init_48 : decode cX4_init 48 = .ok (.newarray .int, 2) := by decide +kernel
theorem dX4_init_50 : decode cX4_init 50 = .ok (.putfield 28, 3) := by decide +kernel
theorem dX4_init_53 : decode cX4_init 53 = .ok (.aload_n 0, 1) := by decide +kernel
theorem dX4_init_54 : decode cX4_init 54 = .ok (.iconst 4, 1) := by decide +kernel
theorem dX4_init_55 : decode cX4_init 55 = .ok (.newarray .int, 2) := by decide +kernel
theorem dX4_init_57 : decode cX4_init 57 = .ok (.putfield 31, 3) := by decide +kernel
theorem dX4_init_60 : decode cX4_init 60 = .ok (.aload_n 0, 1) := by decide +kernel
theorem dX4_init_61 : decode cX4_init 61 = .ok (.bipush 8, 2) := by decide +kernel
theorem dX4_init_63 : decode cX4_init 63 = .ok (.newarray .int, 2) := by decide +kernel
theorem dX4_init_65 : decode cX4_init 65 = .ok (.putfield 34, 3) := by decide +kernel
theorem dX4_init_68 : decode cX4_init 68 = .ok (.aload_n 0, 1) := by decide +kernel
theorem dX4_init_69 : decode cX4_init 69 = .ok (.bipush 8, 2) := by decide +kernel
theorem dX4_init_71 : decode cX4_init 71 = .ok (.newarray .int, 2) := by decide +kernel
theorem dX4_init_73 : decode cX4_init 73 = .ok (.putfield 37, 3) := by decide +kernel
theorem dX4_init_76 : decode cX4_init 76 = .ok (.aload_n 0, 1) := by decide +kernel
theorem dX4_init_77 : decode cX4_init 77 = .ok (.bipush 8, 2) := by decide +kernel
theorem dX4_init_79 : decode cX4_init 79 = .ok (.newarray .int, 2) := by decide +kernel
theorem dX4_init_81 : decode cX4_init 81 = .ok (.putfield 40, 3) := by decide +kernel
theorem dX4_init_84 : decode cX4_init 84 = .ok (.aload_n 0, 1) := by decide +kernel
theorem dX4_init_85 : decode cX4_init 85 = .ok (.iconst 4, 1) := by decide +kernel
theorem dX4_init_86 : decode cX4_init 86 = .ok (.newarray .int, 2) := by decide +kernel
theorem dX4_init_88 : decode cX4_init 88 = .ok (.putfield 43, 3) := by decide +kernel
theorem dX4_init_91 : decode cX4_init 91 = .ok (.aload_n 0, 1) := by decide +kernel
theorem dX4_init_92 : decode cX4_init 92 = .ok (.iconst 4, 1) := by decide +kernel
theorem dX4_init_93 : decode cX4_init 93 = .ok (.newarray .int, 2) := by decide +kernel
theorem dX4_init_95 : decode cX4_init 95 = .ok (.putfield 46, 3) := by decide +kernel
theorem dX4_init_98 : decode cX4_init 98 = .ok (.aload_n 0, 1) := by decide +kernel
theorem dX4_init_99 : decode cX4_init 99 = .ok (.sipush 240, 3) := by decide +kernel
theorem dX4_init_102 : decode cX4_init 102 = .ok (.newarray .int, 2) := by decide +kernel
theorem dX4_init_104 : decode cX4_init 104 = .ok (.putfield 49, 3) := by decide +kernel
theorem dX4_init_107 : decode cX4_init 107 = .ok (.aload_n 0, 1) := by decide +kernel
theorem dX4_init_108 : decode cX4_init 108 = .ok (.bipush 60, 2) := by decide +kernel
theorem dX4_init_110 : decode cX4_init 110 = .ok (.newarray .int, 2) := by decide +kernel
theorem dX4_init_112 : decode cX4_init 112 = .ok (.putfield 52, 3) := by decide +kernel
theorem dX4_init_115 : decode cX4_init 115 = .ok (.iconst 0, 1) := by decide +kernel
theorem dX4_init_116 : decode cX4_init 116 = .ok (.istore_n 1, 1) := by decide +kernel
theorem dX4_init_117 : decode cX4_init 117 = .ok (.iload_n 1, 1) := by decide +kernel
theorem dX4_init_118 : decode cX4_init 118 = .ok (.iconst 4, 1) := by decide +kernel
theorem dX4_init_119 : decode cX4_init 119 = .ok (.if_icmp .ge 16, 3) := by decide +kernel
theorem dX4_init_122 : decode cX4_init 122 = .ok (.aload_n 0, 1) := by decide +kernel
theorem dX4_init_123 : decode cX4_init 123 = .ok (.getfield 43, 3) := by decide +kernel
theorem dX4_init_126 : decode cX4_init 126 = .ok (.iload_n 1, 1) := by decide +kernel
theorem dX4_init_127 : decode cX4_init 127 = .ok (.iconst (-1), 1) := by decide +kernel
theorem dX4_init_128 : decode cX4_init 128 = .ok (.iastore, 1) := by decide +kernel
theorem dX4_init_129 : decode cX4_init 129 = .ok (.iinc 1 1, 3) := by decide +kernel
theorem dX4_init_132 : decode cX4_init 132 = .ok (.goto (-15), 3) := by decide +kernel
theorem dX4_init_135 : decode cX4_init 135 = .ok (.return_, 1) := by decide +kernel
theorem dX4_in_0 : decode cX4_in 0 = .ok (.lload_n 0, 1) := by decide +kernel
theorem dX4_in_1 : decode cX4_in 1 = .ok (.lload_n 2, 1) := by decide +kernel
theorem dX4_in_2 : decode cX4_in 2 = .ok (.lcmp, 1) := by decide +kernel
theorem dX4_in_3 : decode cX4_in 3 = .ok (.ifCond .lt 14, 3) := by decide +kernel
theorem dX4_in_6 : decode cX4_in 6 = .ok (.lload_n 0, 1) := by decide +kernel
theorem dX4_in_7 : decode cX4_in 7 = .ok (.lload 4, 2) := by decide +kernel
theorem dX4_in_9 : decode cX4_in 9 = .ok (.lcmp, 1) := by decide +kernel
theorem dX4_in_10 : decode cX4_in 10 = .ok (.ifCond .gt 7, 3) := by decide +kernel
theorem dX4_in_13 : decode cX4_in 13 = .ok (.iconst 1, 1) := by decide +kernel
theorem dX4_in_14 : decode cX4_in 14 = .ok (.goto 4, 3) := by decide +kernel
theorem dX4_in_17 : decode cX4_in 17 = .ok (.iconst 0, 1) := by decide +kernel
theorem dX4_in_18 : decode cX4_in 18 = .ok (.ireturn, 1) := by decide +kernel
theorem dX4_lost_0 : decode cX4_lost 0 = .ok (.ldc2_w 55, 3) := by decide +kernel
theorem dX4_lost_3 : decode cX4_lost 3 = .ok (.lreturn, 1) := by decide +kernel
theorem dX4_isIn_0 : decode cX4_isIn 0 = .ok (.iload_n 0, 1) := by decide +kernel
theorem dX4_isIn_1 : decode cX4_isIn 1 = .ok (.iload_n 1, 1) := by decide +kernel
theorem dX4_isIn_2 : decode cX4_isIn 2 = .ok (.ishr, 1) := by decide +kernel
theorem dX4_isIn_3 : decode cX4_isIn 3 = .ok (.iconst 1, 1) := by decide +kernel
theorem dX4_isIn_4 : decode cX4_isIn 4 = .ok (.iand, 1) := by decide +kernel
theorem dX4_isIn_5 : decode cX4_isIn 5 = .ok (.iconst 1, 1) := by decide +kernel
theorem dX4_isIn_6 : decode cX4_isIn 6 = .ok (.if_icmp .ne 7, 3) := by decide +kernel
theorem dX4_isIn_9 : decode cX4_isIn 9 = .ok (.iconst 1, 1) := by decide +kernel
theorem dX4_isIn_10 : decode cX4_isIn 10 = .ok (.goto 4, 3) := by decide +kernel
theorem dX4_isIn_13 : decode cX4_isIn 13 = .ok (.iconst 0, 1) := by decide +kernel
theorem dX4_isIn_14 : decode cX4_isIn 14 = .ok (.ireturn, 1) := by decide +kernel
theorem dX4_bits_0 : decode cX4_bits 0 = .ok (.iconst 0, 1) := by decide +kernel
theorem dX4_bits_1 : decode cX4_bits 1 = .ok (.istore_n 1, 1) := by decide +kernel
theorem dX4_bits_2 : decode cX4_bits 2 = .ok (.iload_n 0, 1) := by decide +kernel
theorem dX4_bits_3 : decode cX4_bits 3 = .ok (.istore_n 2, 1) := by decide +kernel
theorem dX4_bits_4 : decode cX4_bits 4 = .ok (.iload_n 2, 1) := by decide +kernel
theorem dX4_bits_5 : decode cX4_bits 5 = .ok (.ifCond .le 16, 3) := by decide +kernel
theorem dX4_bits_8 : decode cX4_bits 8 = .ok (.iload_n 1, 1) := by decide +kernel
theorem dX4_bits_9 : decode cX4_bits 9 = .ok (.iload_n 2, 1) := by decide +kernel
theorem dX4_bits_10 : decode cX4_bits 10 = .ok (.iconst 1, 1) := by decide +kernel
theorem dX4_bits_11 : decode cX4_bits 11 = .ok (.iand, 1) := by decide +kernel
theorem dX4_bits_12 : decode cX4_bits 12 = .ok (.iadd, 1) := by decide +kernel
theorem dX4_bits_13 : decode cX4_bits 13 = .ok (.istore_n 1, 1) := by decide +kernel
theorem dX4_bits_14 : decode cX4_bits 14 = .ok (.iload_n 2, 1) := by decide +kernel
theorem dX4_bits_15 : decode cX4_bits 15 = .ok (.iconst 1, 1) := by decide +kernel
theorem dX4_bits_16 : decode cX4_bits 16 = .ok (.ishr, 1) := by decide +kernel
theorem dX4_bits_17 : decode cX4_bits 17 = .ok (.istore_n 2, 1) := by decide +kernel
theorem dX4_bits_18 : decode cX4_bits 18 = .ok (.goto (-14), 3) := by decide +kernel
theorem dX4_bits_21 : decode cX4_bits 21 = .ok (.iload_n 1, 1) := by decide +kernel
theorem dX4_bits_22 : decode cX4_bits 22 = .ok (.ireturn, 1) := by decide +kernel
theorem dX4_share_0 : decode cX4_share 0 = .ok (.lload_n 0, 1) := by decide +kernel
theorem dX4_share_1 : decode cX4_share 1 = .ok (.lstore 5, 2) := by decide +kernel
theorem dX4_share_3 : decode cX4_share 3 = .ok (.lload_n 2, 1) := by decide +kernel
theorem dX4_share_4 : decode cX4_share 4 = .ok (.lstore 7, 2) := by decide +kernel
theorem dX4_share_6 : decode cX4_share 6 = .ok (.lload 7, 2) := by decide +kernel
theorem dX4_share_8 : decode cX4_share 8 = .ok (.lconst 0, 1) := by decide +kernel
theorem dX4_share_9 : decode cX4_share 9 = .ok (.lcmp, 1) := by decide +kernel
theorem dX4_share_10 : decode cX4_share 10 = .ok (.ifCond .eq 21, 3) := by decide +kernel
theorem dX4_share_13 : decode cX4_share 13 = .ok (.lload 5, 2) := by decide +kernel
theorem dX4_share_15 : decode cX4_share 15 = .ok (.lload 7, 2) := by decide +kernel
theorem dX4_share_17 : decode cX4_share 17 = .ok (.lrem, 1) := by decide +kernel
theorem dX4_share_18 : decode cX4_share 18 = .ok (.lstore 9, 2) := by decide +kernel
theorem dX4_share_20 : decode cX4_share 20 = .ok (.lload 7, 2) := by decide +kernel
theorem dX4_share_22 : decode cX4_share 22 = .ok (.lstore 5, 2) := by decide +kernel
theorem dX4_share_24 : decode cX4_share 24 = .ok (.lload 9, 2) := by decide +kernel
theorem dX4_share_26 : decode cX4_share 26 = .ok (.lstore 7, 2) := by decide +kernel
theorem dX4_share_28 : decode cX4_share 28 = .ok (.goto (-22), 3) := by decide +kernel
theorem dX4_share_31 : decode cX4_share 31 = .ok (.iload 4, 2) := by decide +kernel
theorem dX4_share_33 : decode cX4_share 33 = .ok (.ifCond .ne 7, 3) := by decide +kernel
theorem dX4_share_36 : decode cX4_share 36 = .ok (.lload_n 0, 1) := by decide +kernel
theorem dX4_share_37 : decode cX4_share 37 = .ok (.goto 4, 3) := by decide +kernel
theorem dX4_share_40 : decode cX4_share 40 = .ok (.lload_n 2, 1) := by decide +kernel
theorem dX4_share_41 : decode cX4_share 41 = .ok (.lload 5, 2) := by decide +kernel
theorem dX4_share_43 : decode cX4_share 43 = .ok (.ldiv, 1) := by decide +kernel
theorem dX4_share_44 : decode cX4_share 44 = .ok (.lreturn, 1) := by decide +kernel
theorem dX4_refused_0 : decode cX4_refused 0 = .ok (.aload_n 0, 1) := by decide +kernel
theorem dX4_refused_1 : decode cX4_refused 1 = .ok (.iconst 0, 1) := by decide +kernel
theorem dX4_refused_2 : decode cX4_refused 2 = .ok (.putfield 57, 3) := by decide +kernel
theorem dX4_refused_5 : decode cX4_refused 5 = .ok (.iload_n 1, 1) := by decide +kernel
theorem dX4_refused_6 : decode cX4_refused 6 = .ok (.ireturn, 1) := by decide +kernel
theorem dX4_failed_0 : decode cX4_failed 0 = .ok (.aload_n 0, 1) := by decide +kernel
theorem dX4_failed_1 : decode cX4_failed 1 = .ok (.iload_n 1, 1) := by decide +kernel
theorem dX4_failed_2 : decode cX4_failed 2 = .ok (.putfield 57, 3) := by decide +kernel
theorem dX4_failed_5 : decode cX4_failed 5 = .ok (.bipush (-10), 2) := by decide +kernel
theorem dX4_failed_7 : decode cX4_failed 7 = .ok (.iload_n 1, 1) := by decide +kernel
theorem dX4_failed_8 : decode cX4_failed 8 = .ok (.isub, 1) := by decide +kernel
theorem dX4_failed_9 : decode cX4_failed 9 = .ok (.ireturn, 1) := by decide +kernel
set_option maxRecDepth 20000 in
theorem ggX4_failedLong_X4_lost : GoodIn wsX4_failedLong wsX4_lost := goodIn_r _ [5, 6] (by decide +kernel) (by decide +kernel)
set_option maxRecDepth 20000 in
theorem gX4_failedLong_X4_lost : GoodIn wsX4_failedLong (va_wsS RX4 61 yX4_lost wsX4_lost) := goodIn_app (goodIn_of _ (by decide +kernel)) ggX4_failedLong_X4_lost
theorem dX4_failedLong_0 : decode cX4_failedLong 0 = .ok (.aload_n 0, 1) := by decide +kernel
theorem dX4_failedLong_1 : decode cX4_failedLong 1 = .ok (.iload_n 1, 1) := by decide +kernel
theorem dX4_failedLong_2 : decode cX4_failedLong 2 = .ok (.putfield 57, 3) := by decide +kernel
theorem dX4_failedLong_5 : decode cX4_failedLong 5 = .ok (.invokestatic 61, 3) := by decide +kernel
theorem dX4_failedLong_8 : decode cX4_failedLong 8 = .ok (.lreturn, 1) := by decide +kernel
set_option maxRecDepth 20000 in
theorem ggX4_noEvent_X4_in : GoodIn wsX4_noEvent wsX4_in := goodIn_r _ [5] (by decide +kernel) (by decide +kernel)
set_option maxRecDepth 20000 in
theorem gX4_noEvent_X4_in : GoodIn wsX4_noEvent (va_wsS RX4 68 yX4_in wsX4_in) := goodIn_app (goodIn_of _ (by decide +kernel)) ggX4_noEvent_X4_in
theorem dX4_noEvent_0 : decode cX4_noEvent 0 = .ok (.iload_n 1, 1) := by decide +kernel
theorem dX4_noEvent_1 : decode cX4_noEvent 1 = .ok (.i2l, 1) := by decide +kernel
theorem dX4_noEvent_2 : decode cX4_noEvent 2 = .ok (.lconst 0, 1) := by decide +kernel
theorem dX4_noEvent_3 : decode cX4_noEvent 3 = .ok (.aload_n 0, 1) := by decide +kernel
theorem dX4_noEvent_4 : decode cX4_noEvent 4 = .ok (.getfield 65, 3) := by decide +kernel
theorem dX4_noEvent_7 : decode cX4_noEvent 7 = .ok (.i2l, 1) := by decide +kernel
theorem dX4_noEvent_8 : decode cX4_noEvent 8 = .ok (.lconst 1, 1) := by decide +kernel
theorem dX4_noEvent_9 : decode cX4_noEvent 9 = .ok (.lsub, 1) := by decide +kernel
theorem dX4_noEvent_10 : decode cX4_noEvent 10 = .ok (.invokestatic 68, 3) := by decide +kernel
theorem dX4_noEvent_13 : decode cX4_noEvent 13 = .ok (.ifCond .ne 7, 3) := by decide +kernel
theorem dX4_noEvent_16 : decode cX4_noEvent 16 = .ok (.iconst 1, 1) := by decide +kernel
theorem dX4_noEvent_17 : decode cX4_noEvent 17 = .ok (.goto 4, 3) := by decide +kernel
theorem dX4_noEvent_20 : decode cX4_noEvent 20 = .ok (.iconst 0, 1) := by decide +kernel
theorem dX4_noEvent_21 : decode cX4_noEvent 21 = .ok (.ireturn, 1) := by decide +kernel
set_option maxRecDepth 20000 in
theorem ggX4_noProphet_X4_in : GoodIn wsX4_noProphet wsX4_in := goodIn_r _ [5] (by decide +kernel) (by decide +kernel)
set_option maxRecDepth 20000 in
theorem gX4_noProphet_X4_in : GoodIn wsX4_noProphet (va_wsS RX4 68 yX4_in wsX4_in) := goodIn_app (goodIn_of _ (by decide +kernel)) ggX4_noProphet_X4_in
theorem dX4_noProphet_0 : decode cX4_noProphet 0 = .ok (.iload_n 1, 1) := by decide +kernel
theorem dX4_noProphet_1 : decode cX4_noProphet 1 = .ok (.i2l, 1) := by decide +kernel
theorem dX4_noProphet_2 : decode cX4_noProphet 2 = .ok (.lconst 0, 1) := by decide +kernel
theorem dX4_noProphet_3 : decode cX4_noProphet 3 = .ok (.aload_n 0, 1) := by decide +kernel
theorem dX4_noProphet_4 : decode cX4_noProphet 4 = .ok (.getfield 72, 3) := by decide +kernel
theorem dX4_noProphet_7 : decode cX4_noProphet 7 = .ok (.i2l, 1) := by decide +kernel
theorem dX4_noProphet_8 : decode cX4_noProphet 8 = .ok (.lconst 1, 1) := by decide +kernel
theorem dX4_noProphet_9 : decode cX4_noProphet 9 = .ok (.lsub, 1) := by decide +kernel
theorem dX4_noProphet_10 : decode cX4_noProphet 10 = .ok (.invokestatic 68, 3) := by decide +kernel
theorem dX4_noProphet_13 : decode cX4_noProphet 13 = .ok (.ifCond .ne 7, 3) := by decide +kernel
theorem dX4_noProphet_16 : decode cX4_noProphet 16 = .ok (.iconst 1, 1) := by decide +kernel
theorem dX4_noProphet_17 : decode cX4_noProphet 17 = .ok (.goto 4, 3) := by decide +kernel
theorem dX4_noProphet_20 : decode cX4_noProphet 20 = .ok (.iconst 0, 1) := by decide +kernel
theorem dX4_noProphet_21 : decode cX4_noProphet 21 = .ok (.ireturn, 1) := by decide +kernel
theorem dX4_allEvents_0 : decode cX4_allEvents 0 = .ok (.iconst 1, 1) := by decide +kernel
theorem dX4_allEvents_1 : decode cX4_allEvents 1 = .ok (.aload_n 0, 1) := by decide +kernel
theorem dX4_allEvents_2 : decode cX4_allEvents 2 = .ok (.getfield 65, 3) := by decide +kernel
theorem dX4_allEvents_5 : decode cX4_allEvents 5 = .ok (.ishl, 1) := by decide +kernel
theorem dX4_allEvents_6 : decode cX4_allEvents 6 = .ok (.iconst 1, 1) := by decide +kernel
theorem dX4_allEvents_7 : decode cX4_allEvents 7 = .ok (.isub, 1) := by decide +kernel
theorem dX4_allEvents_8 : decode cX4_allEvents 8 = .ok (.ireturn, 1) := by decide +kernel
set_option maxRecDepth 20000 in
theorem ggX4_noSet_X4_allEvents : GoodIn wsX4_noSet wsX4_allEvents := goodIn_r _ [5, 6, 10, 11, 12, 13, 14, 15, 16, 17, 18, 19, 20, 21, 22, 23, 24, 25, 26, 27, 28, 29, 30, 31, 32, 33, 34, 35, 36] (by decide +kernel) (by decide +kernel)
set_option maxRecDepth 20000 in
theorem gX4_noSet_X4_allEvents : GoodIn wsX4_noSet (wsV RX4 75 RX4 yX4_allEvents wsX4_allEvents) := goodIn_app (goodIn_of _ (by decide +kernel)) ggX4_noSet_X4_allEvents
set_option maxRecDepth 20000 in
theorem ggX4_noSet_X4_in : GoodIn wsX4_noSet wsX4_in := goodIn_r _ [9] (by decide +kernel) (by decide +kernel)
set_option maxRecDepth 20000 in
theorem gX4_noSet_X4_in : GoodIn wsX4_noSet (va_wsS RX4 68 yX4_in wsX4_in) := goodIn_app (goodIn_of _ (by decide +kernel)) ggX4_noSet_X4_in
theorem dX4_noSet_0 : decode cX4_noSet 0 = .ok (.iload_n 1, 1) := by decide +kernel
theorem dX4_noSet_1 : decode cX4_noSet 1 = .ok (.i2l, 1) := by decide +kernel
theorem dX4_noSet_2 : decode cX4_noSet 2 = .ok (.lconst 0, 1) := by decide +kernel
theorem dX4_noSet_3 : decode cX4_noSet 3 = .ok (.aload_n 0, 1) := by decide +kernel
theorem dX4_noSet_4 : decode cX4_noSet 4 = .ok (.invokevirtual 75, 3) := by decide +kernel
theorem dX4_noSet_7 : decode cX4_noSet 7 = .ok (.i2l, 1) := by decide +kernel
theorem dX4_noSet_8 : decode cX4_noSet 8 = .ok (.invokestatic 68, 3) := by decide +kernel
theorem dX4_noSet_11 : decode cX4_noSet 11 = .ok (.ifCond .ne 7, 3) := by decide +kernel
theorem dX4_noSet_14 : decode cX4_noSet 14 = .ok (.iconst 1, 1) := by decide +kernel
theorem dX4_noSet_15 : decode cX4_noSet 15 = .ok (.goto 4, 3) := by decide +kernel
theorem dX4_noSet_18 : decode cX4_noSet 18 = .ok (.iconst 0, 1) := by decide +kernel
theorem dX4_noSet_19 : decode cX4_noSet 19 = .ok (.ireturn, 1) := by decide +kernel
theorem dX4_codeAt_0 : decode cX4_codeAt 0 = .ok (.aload_n 0, 1) := by decide +kernel
theorem dX4_codeAt_1 : decode cX4_codeAt 1 = .ok (.getfield 79, 3) := by decide +kernel
theorem dX4_codeAt_4 : decode cX4_codeAt 4 = .ok (.iload_n 2, 1) := by decide +kernel
theorem dX4_codeAt_5 : decode cX4_codeAt 5 = .ok (.if_icmp .ge 17, 3) := by decide +kernel
theorem dX4_codeAt_8 : decode cX4_codeAt 8 = .ok (.aload_n 0, 1) := by decide +kernel
theorem dX4_codeAt_9 : decode cX4_codeAt 9 = .ok (.getfield 49, 3) := by decide +kernel
theorem dX4_codeAt_12 : decode cX4_codeAt 12 = .ok (.iload_n 1, 1) := by decide +kernel
theorem dX4_codeAt_13 : decode cX4_codeAt 13 = .ok (.aload_n 0, 1) := by decide +kernel
theorem dX4_codeAt_14 : decode cX4_codeAt 14 = .ok (.getfield 79, 3) := by decide +kernel
theorem dX4_codeAt_17 : decode cX4_codeAt 17 = .ok (.iadd, 1) := by decide +kernel
theorem dX4_codeAt_18 : decode cX4_codeAt 18 = .ok (.iaload, 1) := by decide +kernel
theorem dX4_codeAt_19 : decode cX4_codeAt 19 = .ok (.goto 5, 3) := by decide +kernel
theorem dX4_codeAt_22 : decode cX4_codeAt 22 = .ok (.bipush (-9), 2) := by decide +kernel
theorem dX4_codeAt_24 : decode cX4_codeAt 24 = .ok (.ireturn, 1) := by decide +kernel
set_option maxRecDepth 20000 in
theorem ggX4_figure_X4_codeAt : GoodIn wsX4_figure wsX4_codeAt := goodIn_r _ [6, 1, 7, 11, 12, 13, 14, 15, 16, 17, 18, 19, 20, 21, 22, 23, 24, 25, 26, 27, 28, 29, 30, 31, 32, 33, 34, 35, 36, 37] (by decide +kernel) (by decide +kernel)
set_option maxRecDepth 20000 in
theorem gX4_figure_X4_codeAt : GoodIn wsX4_figure (wsV RX4 82 RX4 yX4_codeAt wsX4_codeAt) := goodIn_app (goodIn_of _ (by decide +kernel)) ggX4_figure_X4_codeAt
set_option maxRecDepth 20000 in
theorem ggX4_figure_X4_in : GoodIn wsX4_figure wsX4_in := goodIn_r _ [10] (by decide +kernel) (by decide +kernel)
set_option maxRecDepth 20000 in
theorem gX4_figure_X4_in : GoodIn wsX4_figure (va_wsS RX4 68 yX4_in wsX4_in) := goodIn_app (goodIn_of _ (by decide +kernel)) ggX4_figure_X4_in
theorem dX4_figure_0 : decode cX4_figure 0 = .ok (.aload_n 0, 1) := by decide +kernel
theorem dX4_figure_1 : decode cX4_figure 1 = .ok (.iload_n 1, 1) := by decide +kernel
theorem dX4_figure_2 : decode cX4_figure 2 = .ok (.iload_n 2, 1) := by decide +kernel
theorem dX4_figure_3 : decode cX4_figure 3 = .ok (.invokevirtual 82, 3) := by decide +kernel
theorem dX4_figure_6 : decode cX4_figure 6 = .ok (.bipush 48, 2) := by decide +kernel
theorem dX4_figure_8 : decode cX4_figure 8 = .ok (.isub, 1) := by decide +kernel
theorem dX4_figure_9 : decode cX4_figure 9 = .ok (.istore 4, 2) := by decide +kernel
theorem dX4_figure_11 : decode cX4_figure 11 = .ok (.iload 4, 2) := by decide +kernel
theorem dX4_figure_13 : decode cX4_figure 13 = .ok (.i2l, 1) := by decide +kernel
theorem dX4_figure_14 : decode cX4_figure 14 = .ok (.lconst 0, 1) := by decide +kernel
theorem dX4_figure_15 : decode cX4_figure 15 = .ok (.iload_n 3, 1) := by decide +kernel
theorem dX4_figure_16 : decode cX4_figure 16 = .ok (.i2l, 1) := by decide +kernel
theorem dX4_figure_17 : decode cX4_figure 17 = .ok (.invokestatic 68, 3) := by decide +kernel
theorem dX4_figure_20 : decode cX4_figure 20 = .ok (.istore 5, 2) := by decide +kernel
theorem dX4_figure_22 : decode cX4_figure 22 = .ok (.aload_n 0, 1) := by decide +kernel
theorem dX4_figure_23 : decode cX4_figure 23 = .ok (.dup, 1) := by decide +kernel
theorem dX4_figure_24 : decode cX4_figure 24 = .ok (.getfield 79, 3) := by decide +kernel
theorem dX4_figure_27 : decode cX4_figure 27 = .ok (.iload 5, 2) := by decide +kernel
theorem dX4_figure_29 : decode cX4_figure 29 = .ok (.ifCond .eq 7, 3) := by decide +kernel
theorem dX4_figure_32 : decode cX4_figure 32 = .ok (.iconst 1, 1) := by decide +kernel
theorem dX4_figure_33 : decode cX4_figure 33 = .ok (.goto 4, 3) := by decide +kernel
theorem dX4_figure_36 : decode cX4_figure 36 = .ok (.iconst 0, 1) := by decide +kernel
theorem dX4_figure_37 : decode cX4_figure 37 = .ok (.iadd, 1) := by decide +kernel
theorem dX4_figure_38 : decode cX4_figure 38 = .ok (.putfield 79, 3) := by decide +kernel
theorem dX4_figure_41 : decode cX4_figure 41 = .ok (.iload 5, 2) := by decide +kernel
theorem dX4_figure_43 : decode cX4_figure 43 = .ok (.ifCond .eq 8, 3) := by decide +kernel
theorem dX4_figure_46 : decode cX4_figure 46 = .ok (.iload 4, 2) := by decide +kernel
theorem dX4_figure_48 : decode cX4_figure 48 = .ok (.goto 5, 3) := by decide +kernel
theorem dX4_figure_51 : decode cX4_figure 51 = .ok (.bipush (-9), 2) := by decide +kernel
theorem dX4_figure_53 : decode cX4_figure 53 = .ok (.ireturn, 1) := by decide +kernel
set_option maxRecDepth 20000 in
theorem ggX4_readsEvent_X4_codeAt : GoodIn wsX4_readsEvent wsX4_codeAt := goodIn_r _ [8, 2, 9, 17, 18, 19, 20, 21, 22, 23, 24, 25, 26, 27, 28, 29, 30, 31, 32, 33, 34, 35, 36, 37, 38, 39, 40, 41, 42, 43] (by decide +kernel) (by decide +kernel)
set_option maxRecDepth 20000 in
theorem gX4_readsEvent_X4_codeAt : GoodIn wsX4_readsEvent (wsV RX4 82 RX4 yX4_codeAt wsX4_codeAt) := goodIn_app (goodIn_of _ (by decide +kernel)) ggX4_readsEvent_X4_codeAt
set_option maxRecDepth 20000 in
theorem ggX4_readsEvent_X4_figure : GoodIn wsX4_readsEvent wsX4_figure := goodIn_r _ [13, 2, 4, 5, 6, 7, 8, 9, 14, 15, 16, 17, 18, 19, 20, 21, 22, 23, 24, 25, 26, 27, 28, 29, 30, 31, 32, 33, 34, 35, 36, 37, 38, 39, 40, 41, 42, 43] (by decide +kernel) (by decide +kernel)
set_option maxRecDepth 20000 in
theorem gX4_readsEvent_X4_figure : GoodIn wsX4_readsEvent (wsV RX4 89 RX4 yX4_figure wsX4_figure) := goodIn_app (goodIn_of _ (by decide +kernel)) ggX4_readsEvent_X4_figure
theorem dX4_readsEvent_0 : decode cX4_readsEvent 0 = .ok (.aload_n 0, 1) := by decide +kernel
theorem dX4_readsEvent_1 : decode cX4_readsEvent 1 = .ok (.getfield 86, 3) := by decide +kernel
theorem dX4_readsEvent_4 : decode cX4_readsEvent 4 = .ok (.iconst 5, 1) := by decide +kernel
theorem dX4_readsEvent_5 : decode cX4_readsEvent 5 = .ok (.if_icmp .eq 14, 3) := by decide +kernel
theorem dX4_readsEvent_8 : decode cX4_readsEvent 8 = .ok (.aload_n 0, 1) := by decide +kernel
theorem dX4_readsEvent_9 : decode cX4_readsEvent 9 = .ok (.iload_n 1, 1) := by decide +kernel
theorem dX4_readsEvent_10 : decode cX4_readsEvent 10 = .ok (.iload_n 2, 1) := by decide +kernel
theorem dX4_readsEvent_11 : decode cX4_readsEvent 11 = .ok (.invokevirtual 82, 3) := by decide +kernel
theorem dX4_readsEvent_14 : decode cX4_readsEvent 14 = .ok (.bipush 47, 2) := by decide +kernel
theorem dX4_readsEvent_16 : decode cX4_readsEvent 16 = .ok (.if_icmp .eq 5, 3) := by decide +kernel
theorem dX4_readsEvent_19 : decode cX4_readsEvent 19 = .ok (.iconst 0, 1) := by decide +kernel
theorem dX4_readsEvent_20 : decode cX4_readsEvent 20 = .ok (.ireturn, 1) := by decide +kernel
theorem dX4_readsEvent_21 : decode cX4_readsEvent 21 = .ok (.aload_n 0, 1) := by decide +kernel
theorem dX4_readsEvent_22 : decode cX4_readsEvent 22 = .ok (.dup, 1) := by decide +kernel
theorem dX4_readsEvent_23 : decode cX4_readsEvent 23 = .ok (.getfield 79, 3) := by decide +kernel
theorem dX4_readsEvent_26 : decode cX4_readsEvent 26 = .ok (.iconst 1, 1) := by decide +kernel
theorem dX4_readsEvent_27 : decode cX4_readsEvent 27 = .ok (.iadd, 1) := by decide +kernel
theorem dX4_readsEvent_28 : decode cX4_readsEvent 28 = .ok (.putfield 79, 3) := by decide +kernel
theorem dX4_readsEvent_31 : decode cX4_readsEvent 31 = .ok (.aload_n 0, 1) := by decide +kernel
theorem dX4_readsEvent_32 : decode cX4_readsEvent 32 = .ok (.iload_n 1, 1) := by decide +kernel
theorem dX4_readsEvent_33 : decode cX4_readsEvent 33 = .ok (.iload_n 2, 1) := by decide +kernel
theorem dX4_readsEvent_34 : decode cX4_readsEvent 34 = .ok (.bipush 9, 2) := by decide +kernel
theorem dX4_readsEvent_36 : decode cX4_readsEvent 36 = .ok (.invokevirtual 89, 3) := by decide +kernel
theorem dX4_readsEvent_39 : decode cX4_readsEvent 39 = .ok (.istore_n 3, 1) := by decide +kernel
theorem dX4_readsEvent_40 : decode cX4_readsEvent 40 = .ok (.iload_n 3, 1) := by decide +kernel
theorem dX4_readsEvent_41 : decode cX4_readsEvent 41 = .ok (.ifCond .ge 5, 3) := by decide +kernel
theorem dX4_readsEvent_44 : decode cX4_readsEvent 44 = .ok (.iconst 0, 1) := by decide +kernel
theorem dX4_readsEvent_45 : decode cX4_readsEvent 45 = .ok (.ireturn, 1) := by decide +kernel
theorem dX4_readsEvent_46 : decode cX4_readsEvent 46 = .ok (.aload_n 0, 1) := by decide +kernel
theorem dX4_readsEvent_47 : decode cX4_readsEvent 47 = .ok (.getfield 22, 3) := by decide +kernel
theorem dX4_readsEvent_50 : decode cX4_readsEvent 50 = .ok (.aload_n 0, 1) := by decide +kernel
theorem dX4_readsEvent_51 : decode cX4_readsEvent 51 = .ok (.getfield 86, 3) := by decide +kernel
theorem dX4_readsEvent_54 : decode cX4_readsEvent 54 = .ok (.iload_n 3, 1) := by decide +kernel
theorem dX4_readsEvent_55 : decode cX4_readsEvent 55 = .ok (.iastore, 1) := by decide +kernel
theorem dX4_readsEvent_56 : decode cX4_readsEvent 56 = .ok (.aload_n 0, 1) := by decide +kernel
theorem dX4_readsEvent_57 : decode cX4_readsEvent 57 = .ok (.dup, 1) := by decide +kernel
theorem dX4_readsEvent_58 : decode cX4_readsEvent 58 = .ok (.getfield 86, 3) := by decide +kernel
theorem dX4_readsEvent_61 : decode cX4_readsEvent 61 = .ok (.iconst 1, 1) := by decide +kernel
theorem dX4_readsEvent_62 : decode cX4_readsEvent 62 = .ok (.iadd, 1) := by decide +kernel
theorem dX4_readsEvent_63 : decode cX4_readsEvent 63 = .ok (.putfield 86, 3) := by decide +kernel
theorem dX4_readsEvent_66 : decode cX4_readsEvent 66 = .ok (.iconst 1, 1) := by decide +kernel
theorem dX4_readsEvent_67 : decode cX4_readsEvent 67 = .ok (.ireturn, 1) := by decide +kernel
set_option maxRecDepth 20000 in
theorem ggX4_readsProphet_X4_codeAt : GoodIn wsX4_readsProphet wsX4_codeAt := goodIn_r _ [10, 2, 11, 19, 20, 21, 22, 23, 24, 25, 26, 27, 28, 29, 30, 31, 32, 33, 34, 35, 36, 37, 38, 39, 40, 41, 42, 43, 44, 45] (by decide +kernel) (by decide +kernel)
set_option maxRecDepth 20000 in
theorem gX4_readsProphet_X4_codeAt : GoodIn wsX4_readsProphet (wsV RX4 82 RX4 yX4_codeAt wsX4_codeAt) := goodIn_app (goodIn_of _ (by decide +kernel)) ggX4_readsProphet_X4_codeAt
set_option maxRecDepth 20000 in
theorem ggX4_readsProphet_X4_figure : GoodIn wsX4_readsProphet wsX4_figure := goodIn_r _ [15, 2, 6, 7, 8, 9, 10, 11, 16, 17, 18, 19, 20, 21, 22, 23, 24, 25, 26, 27, 28, 29, 30, 31, 32, 33, 34, 35, 36, 37, 38, 39, 40, 41, 42, 43, 44, 45] (by decide +kernel) (by decide +kernel)
set_option maxRecDepth 20000 in
theorem gX4_readsProphet_X4_figure : GoodIn wsX4_readsProphet (wsV RX4 89 RX4 yX4_figure wsX4_figure) := goodIn_app (goodIn_of _ (by decide +kernel)) ggX4_readsProphet_X4_figure
theorem dX4_readsProphet_0 : decode cX4_readsProphet 0 = .ok (.aload_n 0, 1) := by decide +kernel
theorem dX4_readsProphet_1 : decode cX4_readsProphet 1 = .ok (.getfield 93, 3) := by decide +kernel
theorem dX4_readsProphet_4 : decode cX4_readsProphet 4 = .ok (.iconst 4, 1) := by decide +kernel
theorem dX4_readsProphet_5 : decode cX4_readsProphet 5 = .ok (.if_icmp .eq 14, 3) := by decide +kernel
theorem dX4_readsProphet_8 : decode cX4_readsProphet 8 = .ok (.aload_n 0, 1) := by decide +kernel
theorem dX4_readsProphet_9 : decode cX4_readsProphet 9 = .ok (.iload_n 1, 1) := by decide +kernel
theorem dX4_readsProphet_10 : decode cX4_readsProphet 10 = .ok (.iload_n 2, 1) := by decide +kernel
theorem dX4_readsProphet_11 : decode cX4_readsProphet 11 = .ok (.invokevirtual 82, 3) := by decide +kernel
theorem dX4_readsProphet_14 : decode cX4_readsProphet 14 = .ok (.bipush 59, 2) := by decide +kernel
theorem dX4_readsProphet_16 : decode cX4_readsProphet 16 = .ok (.if_icmp .eq 5, 3) := by decide +kernel
theorem dX4_readsProphet_19 : decode cX4_readsProphet 19 = .ok (.iconst 0, 1) := by decide +kernel
theorem dX4_readsProphet_20 : decode cX4_readsProphet 20 = .ok (.ireturn, 1) := by decide +kernel
theorem dX4_readsProphet_21 : decode cX4_readsProphet 21 = .ok (.aload_n 0, 1) := by decide +kernel
theorem dX4_readsProphet_22 : decode cX4_readsProphet 22 = .ok (.dup, 1) := by decide +kernel
theorem dX4_readsProphet_23 : decode cX4_readsProphet 23 = .ok (.getfield 79, 3) := by decide +kernel
theorem dX4_readsProphet_26 : decode cX4_readsProphet 26 = .ok (.iconst 1, 1) := by decide +kernel
theorem dX4_readsProphet_27 : decode cX4_readsProphet 27 = .ok (.iadd, 1) := by decide +kernel
theorem dX4_readsProphet_28 : decode cX4_readsProphet 28 = .ok (.putfield 79, 3) := by decide +kernel
theorem dX4_readsProphet_31 : decode cX4_readsProphet 31 = .ok (.aload_n 0, 1) := by decide +kernel
theorem dX4_readsProphet_32 : decode cX4_readsProphet 32 = .ok (.iload_n 1, 1) := by decide +kernel
theorem dX4_readsProphet_33 : decode cX4_readsProphet 33 = .ok (.iload_n 2, 1) := by decide +kernel
theorem dX4_readsProphet_34 : decode cX4_readsProphet 34 = .ok (.invokevirtual 82, 3) := by decide +kernel
theorem dX4_readsProphet_37 : decode cX4_readsProphet 37 = .ok (.istore_n 3, 1) := by decide +kernel
theorem dX4_readsProphet_38 : decode cX4_readsProphet 38 = .ok (.iload_n 3, 1) := by decide +kernel
theorem dX4_readsProphet_39 : decode cX4_readsProphet 39 = .ok (.bipush 109, 2) := by decide +kernel
theorem dX4_readsProphet_41 : decode cX4_readsProphet 41 = .ok (.if_icmp .eq 17, 3) := by decide +kernel
theorem dX4_readsProphet_44 : decode cX4_readsProphet 44 = .ok (.iload_n 3, 1) := by decide +kernel
theorem dX4_readsProphet_45 : decode cX4_readsProphet 45 = .ok (.bipush 115, 2) := by decide +kernel
theorem dX4_readsProphet_47 : decode cX4_readsProphet 47 = .ok (.if_icmp .eq 11, 3) := by decide +kernel
theorem dX4_readsProphet_50 : decode cX4_readsProphet 50 = .ok (.iload_n 3, 1) := by decide +kernel
theorem dX4_readsProphet_51 : decode cX4_readsProphet 51 = .ok (.bipush 108, 2) := by decide +kernel
theorem dX4_readsProphet_53 : decode cX4_readsProphet 53 = .ok (.if_icmp .eq 5, 3) := by decide +kernel
theorem dX4_readsProphet_56 : decode cX4_readsProphet 56 = .ok (.iconst 0, 1) := by decide +kernel
theorem dX4_readsProphet_57 : decode cX4_readsProphet 57 = .ok (.ireturn, 1) := by decide +kernel
theorem dX4_readsProphet_58 : decode cX4_readsProphet 58 = .ok (.aload_n 0, 1) := by decide +kernel
theorem dX4_readsProphet_59 : decode cX4_readsProphet 59 = .ok (.dup, 1) := by decide +kernel
theorem dX4_readsProphet_60 : decode cX4_readsProphet 60 = .ok (.getfield 79, 3) := by decide +kernel
theorem dX4_readsProphet_63 : decode cX4_readsProphet 63 = .ok (.iconst 1, 1) := by decide +kernel
theorem dX4_readsProphet_64 : decode cX4_readsProphet 64 = .ok (.iadd, 1) := by decide +kernel
theorem dX4_readsProphet_65 : decode cX4_readsProphet 65 = .ok (.putfield 79, 3) := by decide +kernel
theorem dX4_readsProphet_68 : decode cX4_readsProphet 68 = .ok (.aload_n 0, 1) := by decide +kernel
theorem dX4_readsProphet_69 : decode cX4_readsProphet 69 = .ok (.iload_n 1, 1) := by decide +kernel
theorem dX4_readsProphet_70 : decode cX4_readsProphet 70 = .ok (.iload_n 2, 1) := by decide +kernel
theorem dX4_readsProphet_71 : decode cX4_readsProphet 71 = .ok (.bipush 9, 2) := by decide +kernel
theorem dX4_readsProphet_73 : decode cX4_readsProphet 73 = .ok (.invokevirtual 89, 3) := by decide +kernel
theorem dX4_readsProphet_76 : decode cX4_readsProphet 76 = .ok (.istore 4, 2) := by decide +kernel
theorem dX4_readsProphet_78 : decode cX4_readsProphet 78 = .ok (.iload 4, 2) := by decide +kernel
theorem dX4_readsProphet_80 : decode cX4_readsProphet 80 = .ok (.ifCond .ge 8, 3) := by decide +kernel
theorem dX4_readsProphet_83 : decode cX4_readsProphet 83 = .ok (.bipush (-9), 2) := by decide +kernel
theorem dX4_readsProphet_85 : decode cX4_readsProphet 85 = .ok (.goto 10, 3) := by decide +kernel
theorem dX4_readsProphet_88 : decode cX4_readsProphet 88 = .ok (.aload_n 0, 1) := by decide +kernel
theorem dX4_readsProphet_89 : decode cX4_readsProphet 89 = .ok (.iload_n 1, 1) := by decide +kernel
theorem dX4_readsProphet_90 : decode cX4_readsProphet 90 = .ok (.iload_n 2, 1) := by decide +kernel
theorem dX4_readsProphet_91 : decode cX4_readsProphet 91 = .ok (.iconst 3, 1) := by decide +kernel
theorem dX4_readsProphet_92 : decode cX4_readsProphet 92 = .ok (.invokevirtual 89, 3) := by decide +kernel
theorem dX4_readsProphet_95 : decode cX4_readsProphet 95 = .ok (.istore 5, 2) := by decide +kernel
theorem dX4_readsProphet_97 : decode cX4_readsProphet 97 = .ok (.iload 5, 2) := by decide +kernel
theorem dX4_readsProphet_99 : decode cX4_readsProphet 99 = .ok (.ifCond .ge 8, 3) := by decide +kernel
theorem dX4_readsProphet_102 : decode cX4_readsProphet 102 = .ok (.bipush (-9), 2) := by decide +kernel
theorem dX4_readsProphet_104 : decode cX4_readsProphet 104 = .ok (.goto 21, 3) := by decide +kernel
theorem dX4_readsProphet_107 : decode cX4_readsProphet 107 = .ok (.aload_n 0, 1) := by decide +kernel
theorem dX4_readsProphet_108 : decode cX4_readsProphet 108 = .ok (.iload_n 1, 1) := by decide +kernel
theorem dX4_readsProphet_109 : decode cX4_readsProphet 109 = .ok (.iload_n 2, 1) := by decide +kernel
theorem dX4_readsProphet_110 : decode cX4_readsProphet 110 = .ok (.iload 5, 2) := by decide +kernel
theorem dX4_readsProphet_112 : decode cX4_readsProphet 112 = .ok (.iconst 3, 1) := by decide +kernel
theorem dX4_readsProphet_113 : decode cX4_readsProphet 113 = .ok (.if_icmp .ne 7, 3) := by decide +kernel
theorem dX4_readsProphet_116 : decode cX4_readsProphet 116 = .ok (.iconst 1, 1) := by decide +kernel
theorem dX4_readsProphet_117 : decode cX4_readsProphet 117 = .ok (.goto 5, 3) := by decide +kernel
theorem dX4_readsProphet_120 : decode cX4_readsProphet 120 = .ok (.bipush 9, 2) := by decide +kernel
theorem dX4_readsProphet_122 : decode cX4_readsProphet 122 = .ok (.invokevirtual 89, 3) := by decide +kernel
theorem dX4_readsProphet_125 : decode cX4_readsProphet 125 = .ok (.istore 6, 2) := by decide +kernel
theorem dX4_readsProphet_127 : decode cX4_readsProphet 127 = .ok (.iload 6, 2) := by decide +kernel
theorem dX4_readsProphet_129 : decode cX4_readsProphet 129 = .ok (.ifCond .ge 5, 3) := by decide +kernel
theorem dX4_readsProphet_132 : decode cX4_readsProphet 132 = .ok (.iconst 0, 1) := by decide +kernel
theorem dX4_readsProphet_133 : decode cX4_readsProphet 133 = .ok (.ireturn, 1) := by decide +kernel
theorem dX4_readsProphet_134 : decode cX4_readsProphet 134 = .ok (.aload_n 0, 1) := by decide +kernel
theorem dX4_readsProphet_135 : decode cX4_readsProphet 135 = .ok (.getfield 25, 3) := by decide +kernel
theorem dX4_readsProphet_138 : decode cX4_readsProphet 138 = .ok (.aload_n 0, 1) := by decide +kernel
theorem dX4_readsProphet_139 : decode cX4_readsProphet 139 = .ok (.getfield 93, 3) := by decide +kernel
theorem dX4_readsProphet_142 : decode cX4_readsProphet 142 = .ok (.iload_n 3, 1) := by decide +kernel
theorem dX4_readsProphet_143 : decode cX4_readsProphet 143 = .ok (.bipush 109, 2) := by decide +kernel
theorem dX4_readsProphet_145 : decode cX4_readsProphet 145 = .ok (.if_icmp .ne 7, 3) := by decide +kernel
theorem dX4_readsProphet_148 : decode cX4_readsProphet 148 = .ok (.iconst 0, 1) := by decide +kernel
theorem dX4_readsProphet_149 : decode cX4_readsProphet 149 = .ok (.goto 14, 3) := by decide +kernel
theorem dX4_readsProphet_152 : decode cX4_readsProphet 152 = .ok (.iload_n 3, 1) := by decide +kernel
theorem dX4_readsProphet_153 : decode cX4_readsProphet 153 = .ok (.bipush 115, 2) := by decide +kernel
theorem dX4_readsProphet_155 : decode cX4_readsProphet 155 = .ok (.if_icmp .ne 7, 3) := by decide +kernel
theorem dX4_readsProphet_158 : decode cX4_readsProphet 158 = .ok (.iconst 1, 1) := by decide +kernel
theorem dX4_readsProphet_159 : decode cX4_readsProphet 159 = .ok (.goto 4, 3) := by decide +kernel
theorem dX4_readsProphet_162 : decode cX4_readsProphet 162 = .ok (.iconst 2, 1) := by decide +kernel
theorem dX4_readsProphet_163 : decode cX4_readsProphet 163 = .ok (.iastore, 1) := by decide +kernel
theorem dX4_readsProphet_164 : decode cX4_readsProphet 164 = .ok (.aload_n 0, 1) := by decide +kernel
theorem dX4_readsProphet_165 : decode cX4_readsProphet 165 = .ok (.getfield 28, 3) := by decide +kernel
theorem dX4_readsProphet_168 : decode cX4_readsProphet 168 = .ok (.aload_n 0, 1) := by decide +kernel
theorem dX4_readsProphet_169 : decode cX4_readsProphet 169 = .ok (.getfield 93, 3) := by decide +kernel
theorem dX4_readsProphet_172 : decode cX4_readsProphet 172 = .ok (.iload 4, 2) := by decide +kernel
theorem dX4_readsProphet_174 : decode cX4_readsProphet 174 = .ok (.iastore, 1) := by decide +kernel
theorem dX4_readsProphet_175 : decode cX4_readsProphet 175 = .ok (.aload_n 0, 1) := by decide +kernel
theorem dX4_readsProphet_176 : decode cX4_readsProphet 176 = .ok (.getfield 31, 3) := by decide +kernel
theorem dX4_readsProphet_179 : decode cX4_readsProphet 179 = .ok (.aload_n 0, 1) := by decide +kernel
theorem dX4_readsProphet_180 : decode cX4_readsProphet 180 = .ok (.getfield 93, 3) := by decide +kernel
theorem dX4_readsProphet_183 : decode cX4_readsProphet 183 = .ok (.bipush 10, 2) := by decide +kernel
theorem dX4_readsProphet_185 : decode cX4_readsProphet 185 = .ok (.iload 5, 2) := by decide +kernel
theorem dX4_readsProphet_187 : decode cX4_readsProphet 187 = .ok (.imul, 1) := by decide +kernel
theorem dX4_readsProphet_188 : decode cX4_readsProphet 188 = .ok (.iload 6, 2) := by decide +kernel
theorem dX4_readsProphet_190 : decode cX4_readsProphet 190 = .ok (.iadd, 1) := by decide +kernel
theorem dX4_readsProphet_191 : decode cX4_readsProphet 191 = .ok (.iastore, 1) := by decide +kernel
theorem dX4_readsProphet_192 : decode cX4_readsProphet 192 = .ok (.aload_n 0, 1) := by decide +kernel
theorem dX4_readsProphet_193 : decode cX4_readsProphet 193 = .ok (.dup, 1) := by decide +kernel
theorem dX4_readsProphet_194 : decode cX4_readsProphet 194 = .ok (.getfield 93, 3) := by decide +kernel
theorem dX4_readsProphet_197 : decode cX4_readsProphet 197 = .ok (.iconst 1, 1) := by decide +kernel
theorem dX4_readsProphet_198 : decode cX4_readsProphet 198 = .ok (.iadd, 1) := by decide +kernel
theorem dX4_readsProphet_199 : decode cX4_readsProphet 199 = .ok (.putfield 93, 3) := by decide +kernel
theorem dX4_readsProphet_202 : decode cX4_readsProphet 202 = .ok (.iconst 1, 1) := by decide +kernel
theorem dX4_readsProphet_203 : decode cX4_readsProphet 203 = .ok (.ireturn, 1) := by decide +kernel
set_option maxRecDepth 20000 in
theorem ggX4_readsOffice_X4_codeAt : GoodIn wsX4_readsOffice wsX4_codeAt := goodIn_r _ [8, 1, 9, 29, 30, 31, 32, 33, 34, 35, 36, 37, 38, 39, 40, 41, 42, 43, 44, 45, 46, 47, 48, 49, 50, 51, 52, 53, 54, 55] (by decide +kernel) (by decide +kernel)
set_option maxRecDepth 20000 in
theorem gX4_readsOffice_X4_codeAt : GoodIn wsX4_readsOffice (wsV RX4 82 RX4 yX4_codeAt wsX4_codeAt) := goodIn_app (goodIn_of _ (by decide +kernel)) ggX4_readsOffice_X4_codeAt
set_option maxRecDepth 20000 in
theorem ggX4_readsOffice_X4_readsEvent : GoodIn wsX4_readsOffice wsX4_readsEvent := goodIn_r _ [13, 2, 1, 14, 4, 5, 6, 7, 8, 9, 15, 16, 17, 18, 19, 20, 21, 29, 30, 31, 32, 33, 34, 35, 36, 37, 38, 39, 40, 41, 42, 43, 44, 45, 46, 47, 48, 49, 50, 51, 52, 53, 54, 55] (by decide +kernel) (by decide +kernel)
set_option maxRecDepth 20000 in
theorem gX4_readsOffice_X4_readsEvent : GoodIn wsX4_readsOffice (wsV RX4 96 RX4 yX4_readsEvent wsX4_readsEvent) := goodIn_app (goodIn_of _ (by decide +kernel)) ggX4_readsOffice_X4_readsEvent
set_option maxRecDepth 20000 in
theorem ggX4_readsOffice_X4_readsProphet : GoodIn wsX4_readsOffice wsX4_readsProphet := goodIn_r _ [25, 3, 1, 26, 27, 28, 4, 5, 6, 7, 8, 9, 15, 16, 17, 18, 19, 20, 21, 29, 30, 31, 32, 33, 34, 35, 36, 37, 38, 39, 40, 41, 42, 43, 44, 45, 46, 47, 48, 49, 50, 51, 52, 53, 54, 55] (by decide +kernel) (by decide +kernel)
set_option maxRecDepth 20000 in
theorem gX4_readsOffice_X4_readsProphet : GoodIn wsX4_readsOffice (wsV RX4 100 RX4 yX4_readsProphet wsX4_readsProphet) := goodIn_app (goodIn_of _ (by decide +kernel)) ggX4_readsOffice_X4_readsProphet
theorem dX4_readsOffice_0 : decode cX4_readsOffice 0 = .ok (.aload_n 0, 1) := by decide +kernel
theorem dX4_readsOffice_1 : decode cX4_readsOffice 1 = .ok (.iconst 0, 1) := by decide +kernel
theorem dX4_readsOffice_2 : decode cX4_readsOffice 2 = .ok (.putfield 79, 3) := by decide +kernel
theorem dX4_readsOffice_5 : decode cX4_readsOffice 5 = .ok (.aload_n 0, 1) := by decide +kernel
theorem dX4_readsOffice_6 : decode cX4_readsOffice 6 = .ok (.iconst 0, 1) := by decide +kernel
theorem dX4_readsOffice_7 : decode cX4_readsOffice 7 = .ok (.putfield 86, 3) := by decide +kernel
theorem dX4_readsOffice_10 : decode cX4_readsOffice 10 = .ok (.aload_n 0, 1) := by decide +kernel
theorem dX4_readsOffice_11 : decode cX4_readsOffice 11 = .ok (.iconst 0, 1) := by decide +kernel
theorem dX4_readsOffice_12 : decode cX4_readsOffice 12 = .ok (.putfield 93, 3) := by decide +kernel
theorem dX4_readsOffice_15 : decode cX4_readsOffice 15 = .ok (.aload_n 0, 1) := by decide +kernel
theorem dX4_readsOffice_16 : decode cX4_readsOffice 16 = .ok (.iload_n 1, 1) := by decide +kernel
theorem dX4_readsOffice_17 : decode cX4_readsOffice 17 = .ok (.iload_n 2, 1) := by decide +kernel
theorem dX4_readsOffice_18 : decode cX4_readsOffice 18 = .ok (.invokevirtual 82, 3) := by decide +kernel
theorem dX4_readsOffice_21 : decode cX4_readsOffice 21 = .ok (.bipush 119, 2) := by decide +kernel
theorem dX4_readsOffice_23 : decode cX4_readsOffice 23 = .ok (.if_icmp .ne 7, 3) := by decide +kernel
theorem dX4_readsOffice_26 : decode cX4_readsOffice 26 = .ok (.iconst 1, 1) := by decide +kernel
theorem dX4_readsOffice_27 : decode cX4_readsOffice 27 = .ok (.goto 4, 3) := by decide +kernel
theorem dX4_readsOffice_30 : decode cX4_readsOffice 30 = .ok (.iconst 0, 1) := by decide +kernel
theorem dX4_readsOffice_31 : decode cX4_readsOffice 31 = .ok (.istore_n 3, 1) := by decide +kernel
theorem dX4_readsOffice_32 : decode cX4_readsOffice 32 = .ok (.aload_n 0, 1) := by decide +kernel
theorem dX4_readsOffice_33 : decode cX4_readsOffice 33 = .ok (.dup, 1) := by decide +kernel
theorem dX4_readsOffice_34 : decode cX4_readsOffice 34 = .ok (.getfield 79, 3) := by decide +kernel
theorem dX4_readsOffice_37 : decode cX4_readsOffice 37 = .ok (.iload_n 3, 1) := by decide +kernel
theorem dX4_readsOffice_38 : decode cX4_readsOffice 38 = .ok (.ifCond .eq 7, 3) := by decide +kernel
theorem dX4_readsOffice_41 : decode cX4_readsOffice 41 = .ok (.iconst 1, 1) := by decide +kernel
theorem dX4_readsOffice_42 : decode cX4_readsOffice 42 = .ok (.goto 4, 3) := by decide +kernel
theorem dX4_readsOffice_45 : decode cX4_readsOffice 45 = .ok (.iconst 0, 1) := by decide +kernel
theorem dX4_readsOffice_46 : decode cX4_readsOffice 46 = .ok (.iadd, 1) := by decide +kernel
theorem dX4_readsOffice_47 : decode cX4_readsOffice 47 = .ok (.putfield 79, 3) := by decide +kernel
theorem dX4_readsOffice_50 : decode cX4_readsOffice 50 = .ok (.iload_n 3, 1) := by decide +kernel
theorem dX4_readsOffice_51 : decode cX4_readsOffice 51 = .ok (.ifCond .eq 31, 3) := by decide +kernel
theorem dX4_readsOffice_54 : decode cX4_readsOffice 54 = .ok (.aload_n 0, 1) := by decide +kernel
theorem dX4_readsOffice_55 : decode cX4_readsOffice 55 = .ok (.getfield 86, 3) := by decide +kernel
theorem dX4_readsOffice_58 : decode cX4_readsOffice 58 = .ok (.ifCond .eq 14, 3) := by decide +kernel
theorem dX4_readsOffice_61 : decode cX4_readsOffice 61 = .ok (.aload_n 0, 1) := by decide +kernel
theorem dX4_readsOffice_62 : decode cX4_readsOffice 62 = .ok (.iload_n 1, 1) := by decide +kernel
theorem dX4_readsOffice_63 : decode cX4_readsOffice 63 = .ok (.iload_n 2, 1) := by decide +kernel
theorem dX4_readsOffice_64 : decode cX4_readsOffice 64 = .ok (.invokevirtual 82, 3) := by decide +kernel
theorem dX4_readsOffice_67 : decode cX4_readsOffice 67 = .ok (.bipush 47, 2) := by decide +kernel
theorem dX4_readsOffice_69 : decode cX4_readsOffice 69 = .ok (.if_icmp .ne 13, 3) := by decide +kernel
theorem dX4_readsOffice_72 : decode cX4_readsOffice 72 = .ok (.aload_n 0, 1) := by decide +kernel
theorem dX4_readsOffice_73 : decode cX4_readsOffice 73 = .ok (.iload_n 1, 1) := by decide +kernel
theorem dX4_readsOffice_74 : decode cX4_readsOffice 74 = .ok (.iload_n 2, 1) := by decide +kernel
theorem dX4_readsOffice_75 : decode cX4_readsOffice 75 = .ok (.invokevirtual 96, 3) := by decide +kernel
theorem dX4_readsOffice_78 : decode cX4_readsOffice 78 = .ok (.istore_n 3, 1) := by decide +kernel
theorem dX4_readsOffice_79 : decode cX4_readsOffice 79 = .ok (.goto (-29), 3) := by decide +kernel
theorem dX4_readsOffice_82 : decode cX4_readsOffice 82 = .ok (.iload_n 3, 1) := by decide +kernel
theorem dX4_readsOffice_83 : decode cX4_readsOffice 83 = .ok (.ifCond .eq 28, 3) := by decide +kernel
theorem dX4_readsOffice_86 : decode cX4_readsOffice 86 = .ok (.aload_n 0, 1) := by decide +kernel
theorem dX4_readsOffice_87 : decode cX4_readsOffice 87 = .ok (.getfield 93, 3) := by decide +kernel
theorem dX4_readsOffice_90 : decode cX4_readsOffice 90 = .ok (.ifCond .eq 11, 3) := by decide +kernel
theorem dX4_readsOffice_93 : decode cX4_readsOffice 93 = .ok (.aload_n 0, 1) := by decide +kernel
theorem dX4_readsOffice_94 : decode cX4_readsOffice 94 = .ok (.getfield 79, 3) := by decide +kernel
theorem dX4_readsOffice_97 : decode cX4_readsOffice 97 = .ok (.iload_n 2, 1) := by decide +kernel
theorem dX4_readsOffice_98 : decode cX4_readsOffice 98 = .ok (.if_icmp .ge 13, 3) := by decide +kernel
theorem dX4_readsOffice_101 : decode cX4_readsOffice 101 = .ok (.aload_n 0, 1) := by decide +kernel
theorem dX4_readsOffice_102 : decode cX4_readsOffice 102 = .ok (.iload_n 1, 1) := by decide +kernel
theorem dX4_readsOffice_103 : decode cX4_readsOffice 103 = .ok (.iload_n 2, 1) := by decide +kernel
theorem dX4_readsOffice_104 : decode cX4_readsOffice 104 = .ok (.invokevirtual 100, 3) := by decide +kernel
theorem dX4_readsOffice_107 : decode cX4_readsOffice 107 = .ok (.istore_n 3, 1) := by decide +kernel
theorem dX4_readsOffice_108 : decode cX4_readsOffice 108 = .ok (.goto (-26), 3) := by decide +kernel
theorem dX4_readsOffice_111 : decode cX4_readsOffice 111 = .ok (.iload_n 3, 1) := by decide +kernel
theorem dX4_readsOffice_112 : decode cX4_readsOffice 112 = .ok (.ireturn, 1) := by decide +kernel
set_option maxRecDepth 20000 in
theorem ggX4_cellsBarred_X4_failed : GoodIn wsX4_cellsBarred wsX4_failed := goodIn_r _ [7, 8, 12, 13, 14, 15, 16, 17, 18, 19, 20, 21, 22, 23, 24, 25, 26, 27, 28, 29, 30, 31, 32, 33, 34, 35, 36, 37, 38] (by decide +kernel) (by decide +kernel)
set_option maxRecDepth 20000 in
theorem gX4_cellsBarred_X4_failed : GoodIn wsX4_cellsBarred (wsV RX4 103 RX4 yX4_failed wsX4_failed) := goodIn_app (goodIn_of _ (by decide +kernel)) ggX4_cellsBarred_X4_failed
set_option maxRecDepth 20000 in
theorem ggX4_cellsBarred_X4_isBeyond : GoodIn wsX4_cellsBarred wsX4_isBeyond := goodIn_r _ [11] (by decide +kernel) (by decide +kernel)
set_option maxRecDepth 20000 in
theorem gX4_cellsBarred_X4_isBeyond : GoodIn wsX4_cellsBarred (va_wsS RX4 107 yX4_isBeyond wsX4_isBeyond) := goodIn_app (goodIn_of _ (by decide +kernel)) ggX4_cellsBarred_X4_isBeyond
theorem dX4_cellsBarred_0 : decode cX4_cellsBarred 0 = .ok (.aload_n 0, 1) := by decide +kernel
theorem dX4_cellsBarred_1 : decode cX4_cellsBarred 1 = .ok (.getfield 43, 3) := by decide +kernel
theorem dX4_cellsBarred_4 : decode cX4_cellsBarred 4 = .ok (.iload_n 1, 1) := by decide +kernel
theorem dX4_cellsBarred_5 : decode cX4_cellsBarred 5 = .ok (.iaload, 1) := by decide +kernel
theorem dX4_cellsBarred_6 : decode cX4_cellsBarred 6 = .ok (.ifCond .lt 19, 3) := by decide +kernel
theorem dX4_cellsBarred_9 : decode cX4_cellsBarred 9 = .ok (.aload_n 0, 1) := by decide +kernel
theorem dX4_cellsBarred_10 : decode cX4_cellsBarred 10 = .ok (.getfield 46, 3) := by decide +kernel
theorem dX4_cellsBarred_13 : decode cX4_cellsBarred 13 = .ok (.iload_n 1, 1) := by decide +kernel
theorem dX4_cellsBarred_14 : decode cX4_cellsBarred 14 = .ok (.iaload, 1) := by decide +kernel
theorem dX4_cellsBarred_15 : decode cX4_cellsBarred 15 = .ok (.iload_n 2, 1) := by decide +kernel
theorem dX4_cellsBarred_16 : decode cX4_cellsBarred 16 = .ok (.if_icmp .eq 9, 3) := by decide +kernel
theorem dX4_cellsBarred_19 : decode cX4_cellsBarred 19 = .ok (.aload_n 0, 1) := by decide +kernel
theorem dX4_cellsBarred_20 : decode cX4_cellsBarred 20 = .ok (.iconst 2, 1) := by decide +kernel
theorem dX4_cellsBarred_21 : decode cX4_cellsBarred 21 = .ok (.invokevirtual 103, 3) := by decide +kernel
theorem dX4_cellsBarred_24 : decode cX4_cellsBarred 24 = .ok (.ireturn, 1) := by decide +kernel
theorem dX4_cellsBarred_25 : decode cX4_cellsBarred 25 = .ok (.aload_n 0, 1) := by decide +kernel
theorem dX4_cellsBarred_26 : decode cX4_cellsBarred 26 = .ok (.getfield 43, 3) := by decide +kernel
theorem dX4_cellsBarred_29 : decode cX4_cellsBarred 29 = .ok (.iload_n 1, 1) := by decide +kernel
theorem dX4_cellsBarred_30 : decode cX4_cellsBarred 30 = .ok (.iaload, 1) := by decide +kernel
theorem dX4_cellsBarred_31 : decode cX4_cellsBarred 31 = .ok (.ifCond .ge 9, 3) := by decide +kernel
theorem dX4_cellsBarred_34 : decode cX4_cellsBarred 34 = .ok (.aload_n 0, 1) := by decide +kernel
theorem dX4_cellsBarred_35 : decode cX4_cellsBarred 35 = .ok (.iconst 1, 1) := by decide +kernel
theorem dX4_cellsBarred_36 : decode cX4_cellsBarred 36 = .ok (.invokevirtual 103, 3) := by decide +kernel
theorem dX4_cellsBarred_39 : decode cX4_cellsBarred 39 = .ok (.ireturn, 1) := by decide +kernel
theorem dX4_cellsBarred_40 : decode cX4_cellsBarred 40 = .ok (.lload 4, 2) := by decide +kernel
theorem dX4_cellsBarred_42 : decode cX4_cellsBarred 42 = .ok (.lconst 0, 1) := by decide +kernel
theorem dX4_cellsBarred_43 : decode cX4_cellsBarred 43 = .ok (.lcmp, 1) := by decide +kernel
theorem dX4_cellsBarred_44 : decode cX4_cellsBarred 44 = .ok (.ifCond .ge 9, 3) := by decide +kernel
theorem dX4_cellsBarred_47 : decode cX4_cellsBarred 47 = .ok (.aload_n 0, 1) := by decide +kernel
theorem dX4_cellsBarred_48 : decode cX4_cellsBarred 48 = .ok (.iconst 4, 1) := by decide +kernel
theorem dX4_cellsBarred_49 : decode cX4_cellsBarred 49 = .ok (.invokevirtual 103, 3) := by decide +kernel
theorem dX4_cellsBarred_52 : decode cX4_cellsBarred 52 = .ok (.ireturn, 1) := by decide +kernel
theorem dX4_cellsBarred_53 : decode cX4_cellsBarred 53 = .ok (.iload_n 3, 1) := by decide +kernel
theorem dX4_cellsBarred_54 : decode cX4_cellsBarred 54 = .ok (.lload 4, 2) := by decide +kernel
theorem dX4_cellsBarred_56 : decode cX4_cellsBarred 56 = .ok (.aload_n 0, 1) := by decide +kernel
theorem dX4_cellsBarred_57 : decode cX4_cellsBarred 57 = .ok (.getfield 43, 3) := by decide +kernel
theorem dX4_cellsBarred_60 : decode cX4_cellsBarred 60 = .ok (.iload_n 1, 1) := by decide +kernel
theorem dX4_cellsBarred_61 : decode cX4_cellsBarred 61 = .ok (.iaload, 1) := by decide +kernel
theorem dX4_cellsBarred_62 : decode cX4_cellsBarred 62 = .ok (.invokestatic 107, 3) := by decide +kernel
theorem dX4_cellsBarred_65 : decode cX4_cellsBarred 65 = .ok (.ifCond .eq 11, 3) := by decide +kernel
theorem dX4_cellsBarred_68 : decode cX4_cellsBarred 68 = .ok (.aload_n 0, 1) := by decide +kernel
theorem dX4_cellsBarred_69 : decode cX4_cellsBarred 69 = .ok (.iconst 3, 1) := by decide +kernel
theorem dX4_cellsBarred_70 : decode cX4_cellsBarred 70 = .ok (.invokevirtual 103, 3) := by decide +kernel
theorem dX4_cellsBarred_73 : decode cX4_cellsBarred 73 = .ok (.goto 4, 3) := by decide +kernel
theorem dX4_cellsBarred_76 : decode cX4_cellsBarred 76 = .ok (.iconst 0, 1) := by decide +kernel
theorem dX4_cellsBarred_77 : decode cX4_cellsBarred 77 = .ok (.ireturn, 1) := by decide +kernel
set_option maxRecDepth 20000 in
theorem ggX4_office_X4_noSheet : GoodIn wsX4_office wsX4_noSheet := goodIn_r _ [19, 20, 21, 22, 18, 23] (by decide +kernel) (by decide +kernel)
set_option maxRecDepth 20000 in
theorem gX4_office_X4_noSheet : GoodIn wsX4_office (va_wsS RX4 111 yX4_noSheet wsX4_noSheet) := goodIn_app (goodIn_of _ (by decide +kernel)) ggX4_office_X4_noSheet
set_option maxRecDepth 20000 in
theorem ggX4_office_X4_refused : GoodIn wsX4_office wsX4_refused := goodIn_r _ [27, 28, 63, 64, 65, 66, 67, 68, 69, 70, 71, 72, 73, 74, 75, 76, 77, 78, 79, 80, 81, 82, 83, 84, 85, 86, 87, 88, 89] (by decide +kernel) (by decide +kernel)
set_option maxRecDepth 20000 in
theorem gX4_office_X4_refused : GoodIn wsX4_office (wsV RX4 115 RX4 yX4_refused wsX4_refused) := goodIn_app (goodIn_of _ (by decide +kernel)) ggX4_office_X4_refused
set_option maxRecDepth 20000 in
theorem ggX4_office_X4_in : GoodIn wsX4_office wsX4_in := goodIn_r _ [23] (by decide +kernel) (by decide +kernel)
set_option maxRecDepth 20000 in
theorem gX4_office_X4_in : GoodIn wsX4_office (va_wsS RX4 68 yX4_in wsX4_in) := goodIn_app (goodIn_of _ (by decide +kernel)) ggX4_office_X4_in
set_option maxRecDepth 20000 in
theorem ggX4_office_X4_cellsBarred : GoodIn wsX4_office wsX4_cellsBarred := goodIn_r _ [32, 33, 34, 35, 36, 37, 18, 38, 28, 39, 40, 41, 63, 64, 65, 66, 67, 68, 69, 70, 71, 72, 73, 74, 75, 76, 77, 78, 79, 80, 81, 82, 83, 84, 85, 86, 87, 88, 89] (by decide +kernel) (by decide +kernel)
set_option maxRecDepth 20000 in
theorem gX4_office_X4_cellsBarred : GoodIn wsX4_office (wsV RX4 120 RX4 yX4_cellsBarred wsX4_cellsBarred) := goodIn_app (goodIn_of _ (by decide +kernel)) ggX4_office_X4_cellsBarred
set_option maxRecDepth 20000 in
theorem ggX4_office_X4_readsOffice : GoodIn wsX4_office wsX4_readsOffice := goodIn_r _ [45, 2, 3, 5, 46, 47, 48, 18, 49, 50, 51, 52, 53, 54, 8, 55, 56, 57, 58, 21, 22, 23, 59, 60, 61, 62, 10, 12, 14, 63, 64, 65, 66, 67, 68, 69, 70, 71, 72, 73, 74, 75, 76, 77, 78, 79, 80, 81, 82, 83, 84, 85, 86, 87, 88, 89] (by decide +kernel) (by decide +kernel)
set_option maxRecDepth 20000 in
theorem gX4_office_X4_readsOffice : GoodIn wsX4_office (wsV RX4 124 RX4 yX4_readsOffice wsX4_readsOffice) := goodIn_app (goodIn_of _ (by decide +kernel)) ggX4_office_X4_readsOffice
theorem dX4_office_0 : decode cX4_office 0 = .ok (.iload_n 1, 1) := by decide +kernel
theorem dX4_office_1 : decode cX4_office 1 = .ok (.invokestatic 111, 3) := by decide +kernel
theorem dX4_office_4 : decode cX4_office 4 = .ok (.ifCond .eq 9, 3) := by decide +kernel
theorem dX4_office_7 : decode cX4_office 7 = .ok (.aload_n 0, 1) := by decide +kernel
theorem dX4_office_8 : decode cX4_office 8 = .ok (.iconst (-1), 1) := by decide +kernel
theorem dX4_office_9 : decode cX4_office 9 = .ok (.invokevirtual 115, 3) := by decide +kernel
theorem dX4_office_12 : decode cX4_office 12 = .ok (.ireturn, 1) := by decide +kernel
theorem dX4_office_13 : decode cX4_office 13 = .ok (.iload_n 2, 1) := by decide +kernel
theorem dX4_office_14 : decode cX4_office 14 = .ok (.i2l, 1) := by decide +kernel
theorem dX4_office_15 : decode cX4_office 15 = .ok (.lconst 0, 1) := by decide +kernel
theorem dX4_office_16 : decode cX4_office 16 = .ok (.ldc2_w 118, 3) := by decide +kernel
theorem dX4_office_19 : decode cX4_office 19 = .ok (.invokestatic 68, 3) := by decide +kernel
theorem dX4_office_22 : decode cX4_office 22 = .ok (.ifCond .ne 10, 3) := by decide +kernel
theorem dX4_office_25 : decode cX4_office 25 = .ok (.aload_n 0, 1) := by decide +kernel
theorem dX4_office_26 : decode cX4_office 26 = .ok (.bipush (-2), 2) := by decide +kernel
theorem dX4_office_28 : decode cX4_office 28 = .ok (.invokevirtual 115, 3) := by decide +kernel
theorem dX4_office_31 : decode cX4_office 31 = .ok (.ireturn, 1) := by decide +kernel
theorem dX4_office_32 : decode cX4_office 32 = .ok (.aload_n 0, 1) := by decide +kernel
theorem dX4_office_33 : decode cX4_office 33 = .ok (.iload_n 1, 1) := by decide +kernel
theorem dX4_office_34 : decode cX4_office 34 = .ok (.iload_n 2, 1) := by decide +kernel
theorem dX4_office_35 : decode cX4_office 35 = .ok (.iload_n 3, 1) := by decide +kernel
theorem dX4_office_36 : decode cX4_office 36 = .ok (.iload 4, 2) := by decide +kernel
theorem dX4_office_38 : decode cX4_office 38 = .ok (.i2l, 1) := by decide +kernel
theorem dX4_office_39 : decode cX4_office 39 = .ok (.invokevirtual 120, 3) := by decide +kernel
theorem dX4_office_42 : decode cX4_office 42 = .ok (.istore 5, 2) := by decide +kernel
theorem dX4_office_44 : decode cX4_office 44 = .ok (.iload 5, 2) := by decide +kernel
theorem dX4_office_46 : decode cX4_office 46 = .ok (.ifCond .ge 6, 3) := by decide +kernel
theorem dX4_office_49 : decode cX4_office 49 = .ok (.iload 5, 2) := by decide +kernel
theorem dX4_office_51 : decode cX4_office 51 = .ok (.ireturn, 1) := by decide +kernel
theorem dX4_office_52 : decode cX4_office 52 = .ok (.aload_n 0, 1) := by decide +kernel
theorem dX4_office_53 : decode cX4_office 53 = .ok (.bipush 60, 2) := by decide +kernel
theorem dX4_office_55 : decode cX4_office 55 = .ok (.iload_n 1, 1) := by decide +kernel
theorem dX4_office_56 : decode cX4_office 56 = .ok (.imul, 1) := by decide +kernel
theorem dX4_office_57 : decode cX4_office 57 = .ok (.iload_n 3, 1) := by decide +kernel
theorem dX4_office_58 : decode cX4_office 58 = .ok (.iadd, 1) := by decide +kernel
theorem dX4_office_59 : decode cX4_office 59 = .ok (.iload 4, 2) := by decide +kernel
theorem dX4_office_61 : decode cX4_office 61 = .ok (.invokevirtual 124, 3) := by decide +kernel
theorem dX4_office_64 : decode cX4_office 64 = .ok (.ifCond .ne 15, 3) := by decide +kernel
theorem dX4_office_67 : decode cX4_office 67 = .ok (.aload_n 0, 1) := by decide +kernel
theorem dX4_office_68 : decode cX4_office 68 = .ok (.bipush (-100), 2) := by decide +kernel
theorem dX4_office_70 : decode cX4_office 70 = .ok (.aload_n 0, 1) := by decide +kernel
theorem dX4_office_71 : decode cX4_office 71 = .ok (.getfield 79, 3) := by decide +kernel
theorem dX4_office_74 : decode cX4_office 74 = .ok (.isub, 1) := by decide +kernel
theorem dX4_office_75 : decode cX4_office 75 = .ok (.invokevirtual 115, 3) := by decide +kernel
theorem dX4_office_78 : decode cX4_office 78 = .ok (.ireturn, 1) := by decide +kernel
theorem dX4_office_79 : decode cX4_office 79 = .ok (.aload_n 0, 1) := by decide +kernel
theorem dX4_office_80 : decode cX4_office 80 = .ok (.aload_n 0, 1) := by decide +kernel
theorem dX4_office_81 : decode cX4_office 81 = .ok (.getfield 86, 3) := by decide +kernel
theorem dX4_office_84 : decode cX4_office 84 = .ok (.putfield 65, 3) := by decide +kernel
theorem dX4_office_87 : decode cX4_office 87 = .ok (.aload_n 0, 1) := by decide +kernel
theorem dX4_office_88 : decode cX4_office 88 = .ok (.aload_n 0, 1) := by decide +kernel
theorem dX4_office_89 : decode cX4_office 89 = .ok (.getfield 93, 3) := by decide +kernel
theorem dX4_office_92 : decode cX4_office 92 = .ok (.putfield 72, 3) := by decide +kernel
theorem dX4_office_95 : decode cX4_office 95 = .ok (.iconst 0, 1) := by decide +kernel
theorem dX4_office_96 : decode cX4_office 96 = .ok (.istore 6, 2) := by decide +kernel
theorem dX4_office_98 : decode cX4_office 98 = .ok (.iload 6, 2) := by decide +kernel
theorem dX4_office_100 : decode cX4_office 100 = .ok (.aload_n 0, 1) := by decide +kernel
theorem dX4_office_101 : decode cX4_office 101 = .ok (.getfield 65, 3) := by decide +kernel
theorem dX4_office_104 : decode cX4_office 104 = .ok (.if_icmp .ge 23, 3) := by decide +kernel
theorem dX4_office_107 : decode cX4_office 107 = .ok (.aload_n 0, 1) := by decide +kernel
theorem dX4_office_108 : decode cX4_office 108 = .ok (.getfield 7, 3) := by decide +kernel
theorem dX4_office_111 : decode cX4_office 111 = .ok (.iload 6, 2) := by decide +kernel
theorem dX4_office_113 : decode cX4_office 113 = .ok (.aload_n 0, 1) := by decide +kernel
theorem dX4_office_114 : decode cX4_office 114 = .ok (.getfield 22, 3) := by decide +kernel
theorem dX4_office_117 : decode cX4_office 117 = .ok (.iload 6, 2) := by decide +kernel
theorem dX4_office_119 : decode cX4_office 119 = .ok (.iaload, 1) := by decide +kernel
theorem dX4_office_120 : decode cX4_office 120 = .ok (.iastore, 1) := by decide +kernel
theorem dX4_office_121 : decode cX4_office 121 = .ok (.iinc 6 1, 3) := by decide +kernel
theorem dX4_office_124 : decode cX4_office 124 = .ok (.goto (-26), 3) := by decide +kernel
theorem dX4_office_127 : decode cX4_office 127 = .ok (.iconst 0, 1) := by decide +kernel
theorem dX4_office_128 : decode cX4_office 128 = .ok (.istore 6, 2) := by decide +kernel
theorem dX4_office_130 : decode cX4_office 130 = .ok (.iload 6, 2) := by decide +kernel
theorem dX4_office_132 : decode cX4_office 132 = .ok (.aload_n 0, 1) := by decide +kernel
theorem dX4_office_133 : decode cX4_office 133 = .ok (.getfield 72, 3) := by decide +kernel
theorem dX4_office_136 : decode cX4_office 136 = .ok (.if_icmp .ge 51, 3) := by decide +kernel
theorem dX4_office_139 : decode cX4_office 139 = .ok (.aload_n 0, 1) := by decide +kernel
theorem dX4_office_140 : decode cX4_office 140 = .ok (.getfield 13, 3) := by decide +kernel
theorem dX4_office_143 : decode cX4_office 143 = .ok (.iload 6, 2) := by decide +kernel
theorem dX4_office_145 : decode cX4_office 145 = .ok (.aload_n 0, 1) := by decide +kernel
theorem dX4_office_146 : decode cX4_office 146 = .ok (.getfield 25, 3) := by decide +kernel
theorem dX4_office_149 : decode cX4_office 149 = .ok (.iload 6, 2) := by decide +kernel
theorem dX4_office_151 : decode cX4_office 151 = .ok (.iaload, 1) := by decide +kernel
theorem dX4_office_152 : decode cX4_office 152 = .ok (.iastore, 1) := by decide +kernel
theorem dX4_office_153 : decode cX4_office 153 = .ok (.aload_n 0, 1) := by decide +kernel
theorem dX4_office_154 : decode cX4_office 154 = .ok (.getfield 16, 3) := by decide +kernel
theorem dX4_office_157 : decode cX4_office 157 = .ok (.iload 6, 2) := by decide +kernel
theorem dX4_office_159 : decode cX4_office 159 = .ok (.aload_n 0, 1) := by decide +kernel
theorem dX4_office_160 : decode cX4_office 160 = .ok (.getfield 28, 3) := by decide +kernel
theorem dX4_office_163 : decode cX4_office 163 = .ok (.iload 6, 2) := by decide +kernel
theorem dX4_office_165 : decode cX4_office 165 = .ok (.iaload, 1) := by decide +kernel
theorem dX4_office_166 : decode cX4_office 166 = .ok (.iastore, 1) := by decide +kernel
theorem dX4_office_167 : decode cX4_office 167 = .ok (.aload_n 0, 1) := by decide +kernel
theorem dX4_office_168 : decode cX4_office 168 = .ok (.getfield 19, 3) := by decide +kernel
theorem dX4_office_171 : decode cX4_office 171 = .ok (.iload 6, 2) := by decide +kernel
theorem dX4_office_173 : decode cX4_office 173 = .ok (.aload_n 0, 1) := by decide +kernel
theorem dX4_office_174 : decode cX4_office 174 = .ok (.getfield 31, 3) := by decide +kernel
theorem dX4_office_177 : decode cX4_office 177 = .ok (.iload 6, 2) := by decide +kernel
theorem dX4_office_179 : decode cX4_office 179 = .ok (.iaload, 1) := by decide +kernel
theorem dX4_office_180 : decode cX4_office 180 = .ok (.iastore, 1) := by decide +kernel
theorem dX4_office_181 : decode cX4_office 181 = .ok (.iinc 6 1, 3) := by decide +kernel
theorem dX4_office_184 : decode cX4_office 184 = .ok (.goto (-54), 3) := by decide +kernel
theorem dX4_office_187 : decode cX4_office 187 = .ok (.aload_n 0, 1) := by decide +kernel
theorem dX4_office_188 : decode cX4_office 188 = .ok (.iconst 0, 1) := by decide +kernel
theorem dX4_office_189 : decode cX4_office 189 = .ok (.putfield 127, 3) := by decide +kernel
theorem dX4_office_192 : decode cX4_office 192 = .ok (.aload_n 0, 1) := by decide +kernel
theorem dX4_office_193 : decode cX4_office 193 = .ok (.aload_n 0, 1) := by decide +kernel
theorem dX4_office_194 : decode cX4_office 194 = .ok (.getfield 72, 3) := by decide +kernel
theorem dX4_office_197 : decode cX4_office 197 = .ok (.invokevirtual 115, 3) := by decide +kernel
theorem dX4_office_200 : decode cX4_office 200 = .ok (.ireturn, 1) := by decide +kernel
set_option maxRecDepth 20000 in
theorem ggX4_chance_X4_noEvent : GoodIn wsX4_chance wsX4_noEvent := goodIn_r _ [6, 7, 8, 9, 5, 10, 11, 12, 13, 14, 15, 16, 17, 18, 19, 20, 21, 22, 23, 24, 25, 26, 27, 28, 29, 30, 31, 32, 33, 34, 35, 36, 37] (by decide +kernel) (by decide +kernel)
set_option maxRecDepth 20000 in
theorem gX4_chance_X4_noEvent : GoodIn wsX4_chance (wsV RX4 130 RX4 yX4_noEvent wsX4_noEvent) := goodIn_app (goodIn_of _ (by decide +kernel)) ggX4_chance_X4_noEvent
theorem dX4_chance_0 : decode cX4_chance 0 = .ok (.aload_n 0, 1) := by decide +kernel
theorem dX4_chance_1 : decode cX4_chance 1 = .ok (.iload_n 1, 1) := by decide +kernel
theorem dX4_chance_2 : decode cX4_chance 2 = .ok (.invokevirtual 130, 3) := by decide +kernel
theorem dX4_chance_5 : decode cX4_chance 5 = .ok (.ifCond .eq 7, 3) := by decide +kernel
theorem dX4_chance_8 : decode cX4_chance 8 = .ok (.iconst (-1), 1) := by decide +kernel
theorem dX4_chance_9 : decode cX4_chance 9 = .ok (.goto 9, 3) := by decide +kernel
theorem dX4_chance_12 : decode cX4_chance 12 = .ok (.aload_n 0, 1) := by decide +kernel
theorem dX4_chance_13 : decode cX4_chance 13 = .ok (.getfield 7, 3) := by decide +kernel
theorem dX4_chance_16 : decode cX4_chance 16 = .ok (.iload_n 1, 1) := by decide +kernel
theorem dX4_chance_17 : decode cX4_chance 17 = .ok (.iaload, 1) := by decide +kernel
theorem dX4_chance_18 : decode cX4_chance 18 = .ok (.ireturn, 1) := by decide +kernel
set_option maxRecDepth 20000 in
theorem ggX4_fate_X4_noEvent : GoodIn wsX4_fate wsX4_noEvent := goodIn_r _ [7, 8, 9, 10, 6, 11, 12, 13, 14, 15, 16, 17, 18, 19, 20, 21, 22, 23, 24, 25, 26, 27, 28, 29, 30, 31, 32, 33, 34, 35, 36, 37, 38] (by decide +kernel) (by decide +kernel)
set_option maxRecDepth 20000 in
theorem gX4_fate_X4_noEvent : GoodIn wsX4_fate (wsV RX4 130 RX4 yX4_noEvent wsX4_noEvent) := goodIn_app (goodIn_of _ (by decide +kernel)) ggX4_fate_X4_noEvent
set_option maxRecDepth 20000 in
theorem ggX4_fate_X4_in : GoodIn wsX4_fate wsX4_in := goodIn_r _ [11] (by decide +kernel) (by decide +kernel)
set_option maxRecDepth 20000 in
theorem gX4_fate_X4_in : GoodIn wsX4_fate (va_wsS RX4 68 yX4_in wsX4_in) := goodIn_app (goodIn_of _ (by decide +kernel)) ggX4_fate_X4_in
theorem dX4_fate_0 : decode cX4_fate 0 = .ok (.aload_n 0, 1) := by decide +kernel
theorem dX4_fate_1 : decode cX4_fate 1 = .ok (.iload_n 1, 1) := by decide +kernel
theorem dX4_fate_2 : decode cX4_fate 2 = .ok (.invokevirtual 130, 3) := by decide +kernel
theorem dX4_fate_5 : decode cX4_fate 5 = .ok (.ifCond .eq 5, 3) := by decide +kernel
theorem dX4_fate_8 : decode cX4_fate 8 = .ok (.iconst (-1), 1) := by decide +kernel
theorem dX4_fate_9 : decode cX4_fate 9 = .ok (.ireturn, 1) := by decide +kernel
theorem dX4_fate_10 : decode cX4_fate 10 = .ok (.iload_n 2, 1) := by decide +kernel
theorem dX4_fate_11 : decode cX4_fate 11 = .ok (.i2l, 1) := by decide +kernel
theorem dX4_fate_12 : decode cX4_fate 12 = .ok (.lconst 0, 1) := by decide +kernel
theorem dX4_fate_13 : decode cX4_fate 13 = .ok (.ldc2_w 133, 3) := by decide +kernel
theorem dX4_fate_16 : decode cX4_fate 16 = .ok (.invokestatic 68, 3) := by decide +kernel
theorem dX4_fate_19 : decode cX4_fate 19 = .ok (.ifCond .ne 6, 3) := by decide +kernel
theorem dX4_fate_22 : decode cX4_fate 22 = .ok (.bipush (-2), 2) := by decide +kernel
theorem dX4_fate_24 : decode cX4_fate 24 = .ok (.ireturn, 1) := by decide +kernel
theorem dX4_fate_25 : decode cX4_fate 25 = .ok (.aload_n 0, 1) := by decide +kernel
theorem dX4_fate_26 : decode cX4_fate 26 = .ok (.getfield 7, 3) := by decide +kernel
theorem dX4_fate_29 : decode cX4_fate 29 = .ok (.iload_n 1, 1) := by decide +kernel
theorem dX4_fate_30 : decode cX4_fate 30 = .ok (.iaload, 1) := by decide +kernel
theorem dX4_fate_31 : decode cX4_fate 31 = .ok (.istore_n 3, 1) := by decide +kernel
theorem dX4_fate_32 : decode cX4_fate 32 = .ok (.aload_n 0, 1) := by decide +kernel
theorem dX4_fate_33 : decode cX4_fate 33 = .ok (.getfield 7, 3) := by decide +kernel
theorem dX4_fate_36 : decode cX4_fate 36 = .ok (.iload_n 1, 1) := by decide +kernel
theorem dX4_fate_37 : decode cX4_fate 37 = .ok (.iload_n 2, 1) := by decide +kernel
theorem dX4_fate_38 : decode cX4_fate 38 = .ok (.iastore, 1) := by decide +kernel
theorem dX4_fate_39 : decode cX4_fate 39 = .ok (.iload_n 3, 1) := by decide +kernel
theorem dX4_fate_40 : decode cX4_fate 40 = .ok (.ireturn, 1) := by decide +kernel
theorem dX4_paysOf_0 : decode cX4_paysOf 0 = .ok (.aload_n 0, 1) := by decide +kernel
theorem dX4_paysOf_1 : decode cX4_paysOf 1 = .ok (.getfield 16, 3) := by decide +kernel
theorem dX4_paysOf_4 : decode cX4_paysOf 4 = .ok (.iload_n 1, 1) := by decide +kernel
theorem dX4_paysOf_5 : decode cX4_paysOf 5 = .ok (.iaload, 1) := by decide +kernel
theorem dX4_paysOf_6 : decode cX4_paysOf 6 = .ok (.istore_n 2, 1) := by decide +kernel
theorem dX4_paysOf_7 : decode cX4_paysOf 7 = .ok (.aload_n 0, 1) := by decide +kernel
theorem dX4_paysOf_8 : decode cX4_paysOf 8 = .ok (.getfield 13, 3) := by decide +kernel
theorem dX4_paysOf_11 : decode cX4_paysOf 11 = .ok (.iload_n 1, 1) := by decide +kernel
theorem dX4_paysOf_12 : decode cX4_paysOf 12 = .ok (.iaload, 1) := by decide +kernel
theorem dX4_paysOf_13 : decode cX4_paysOf 13 = .ok (.ifCond .ne 7, 3) := by decide +kernel
theorem dX4_paysOf_16 : decode cX4_paysOf 16 = .ok (.iload_n 2, 1) := by decide +kernel
theorem dX4_paysOf_17 : decode cX4_paysOf 17 = .ok (.goto 24, 3) := by decide +kernel
theorem dX4_paysOf_20 : decode cX4_paysOf 20 = .ok (.aload_n 0, 1) := by decide +kernel
theorem dX4_paysOf_21 : decode cX4_paysOf 21 = .ok (.getfield 13, 3) := by decide +kernel
theorem dX4_paysOf_24 : decode cX4_paysOf 24 = .ok (.iload_n 1, 1) := by decide +kernel
theorem dX4_paysOf_25 : decode cX4_paysOf 25 = .ok (.iaload, 1) := by decide +kernel
theorem dX4_paysOf_26 : decode cX4_paysOf 26 = .ok (.iconst 1, 1) := by decide +kernel
theorem dX4_paysOf_27 : decode cX4_paysOf 27 = .ok (.if_icmp .ne 9, 3) := by decide +kernel
theorem dX4_paysOf_30 : decode cX4_paysOf 30 = .ok (.iload_n 2, 1) := by decide +kernel
theorem dX4_paysOf_31 : decode cX4_paysOf 31 = .ok (.iconst 1, 1) := by decide +kernel
theorem dX4_paysOf_32 : decode cX4_paysOf 32 = .ok (.iadd, 1) := by decide +kernel
theorem dX4_paysOf_33 : decode cX4_paysOf 33 = .ok (.goto 8, 3) := by decide +kernel
theorem dX4_paysOf_36 : decode cX4_paysOf 36 = .ok (.iconst 2, 1) := by decide +kernel
theorem dX4_paysOf_37 : decode cX4_paysOf 37 = .ok (.iload_n 2, 1) := by decide +kernel
theorem dX4_paysOf_38 : decode cX4_paysOf 38 = .ok (.iconst 1, 1) := by decide +kernel
theorem dX4_paysOf_39 : decode cX4_paysOf 39 = .ok (.iadd, 1) := by decide +kernel
theorem dX4_paysOf_40 : decode cX4_paysOf 40 = .ok (.imul, 1) := by decide +kernel
theorem dX4_paysOf_41 : decode cX4_paysOf 41 = .ok (.ireturn, 1) := by decide +kernel
set_option maxRecDepth 20000 in
theorem ggX4_isFraud_X4_allEvents : GoodIn wsX4_isFraud wsX4_allEvents := goodIn_r _ [6, 7, 8, 9, 10, 11, 12, 13, 14, 15, 16, 17, 18, 19, 20, 21, 22, 23, 24, 25, 26, 27, 28, 29, 30, 31, 32, 33, 34] (by decide +kernel) (by decide +kernel)
set_option maxRecDepth 20000 in
theorem gX4_isFraud_X4_allEvents : GoodIn wsX4_isFraud (wsV RX4 75 RX4 yX4_allEvents wsX4_allEvents) := goodIn_app (goodIn_of _ (by decide +kernel)) ggX4_isFraud_X4_allEvents
theorem dX4_isFraud_0 : decode cX4_isFraud 0 = .ok (.aload_n 0, 1) := by decide +kernel
theorem dX4_isFraud_1 : decode cX4_isFraud 1 = .ok (.getfield 19, 3) := by decide +kernel
theorem dX4_isFraud_4 : decode cX4_isFraud 4 = .ok (.iload_n 1, 1) := by decide +kernel
theorem dX4_isFraud_5 : decode cX4_isFraud 5 = .ok (.iaload, 1) := by decide +kernel
theorem dX4_isFraud_6 : decode cX4_isFraud 6 = .ok (.aload_n 0, 1) := by decide +kernel
theorem dX4_isFraud_7 : decode cX4_isFraud 7 = .ok (.invokevirtual 75, 3) := by decide +kernel
theorem dX4_isFraud_10 : decode cX4_isFraud 10 = .ok (.iand, 1) := by decide +kernel
theorem dX4_isFraud_11 : decode cX4_isFraud 11 = .ok (.aload_n 0, 1) := by decide +kernel
theorem dX4_isFraud_12 : decode cX4_isFraud 12 = .ok (.invokevirtual 75, 3) := by decide +kernel
theorem dX4_isFraud_15 : decode cX4_isFraud 15 = .ok (.if_icmp .ne 7, 3) := by decide +kernel
theorem dX4_isFraud_18 : decode cX4_isFraud 18 = .ok (.iconst 1, 1) := by decide +kernel
theorem dX4_isFraud_19 : decode cX4_isFraud 19 = .ok (.goto 4, 3) := by decide +kernel
theorem dX4_isFraud_22 : decode cX4_isFraud 22 = .ok (.iconst 0, 1) := by decide +kernel
theorem dX4_isFraud_23 : decode cX4_isFraud 23 = .ok (.ireturn, 1) := by decide +kernel
set_option maxRecDepth 20000 in
theorem ggX4_ofProphet_X4_noProphet : GoodIn wsX4_ofProphet wsX4_noProphet := goodIn_r _ [8, 9, 10, 11, 7, 12, 26, 27, 28, 29, 30, 31, 32, 33, 34, 35, 36, 37, 38, 39, 40, 41, 42, 43, 44, 45, 46, 47, 48, 49, 50, 51, 52] (by decide +kernel) (by decide +kernel)
set_option maxRecDepth 20000 in
theorem gX4_ofProphet_X4_noProphet : GoodIn wsX4_ofProphet (wsV RX4 135 RX4 yX4_noProphet wsX4_noProphet) := goodIn_app (goodIn_of _ (by decide +kernel)) ggX4_ofProphet_X4_noProphet
set_option maxRecDepth 20000 in
theorem ggX4_ofProphet_X4_paysOf : GoodIn wsX4_ofProphet wsX4_paysOf := goodIn_r _ [16, 2, 1, 26, 27, 28, 29, 30, 31, 32, 33, 34, 35, 36, 37, 38, 39, 40, 41, 42, 43, 44, 45, 46, 47, 48, 49, 50, 51, 52] (by decide +kernel) (by decide +kernel)
set_option maxRecDepth 20000 in
theorem gX4_ofProphet_X4_paysOf : GoodIn wsX4_ofProphet (wsV RX4 138 RX4 yX4_paysOf wsX4_paysOf) := goodIn_app (goodIn_of _ (by decide +kernel)) ggX4_ofProphet_X4_paysOf
set_option maxRecDepth 20000 in
theorem ggX4_ofProphet_X4_isFraud : GoodIn wsX4_ofProphet wsX4_isFraud := goodIn_r _ [20, 3, 21, 22, 23, 7, 24, 25, 26, 27, 28, 29, 30, 31, 32, 33, 34, 35, 36, 37, 38, 39, 40, 41, 42, 43, 44, 45, 46, 47, 48, 49, 50, 51, 52] (by decide +kernel) (by decide +kernel)
set_option maxRecDepth 20000 in
theorem gX4_ofProphet_X4_isFraud : GoodIn wsX4_ofProphet (wsV RX4 141 RX4 yX4_isFraud wsX4_isFraud) := goodIn_app (goodIn_of _ (by decide +kernel)) ggX4_ofProphet_X4_isFraud
theorem dX4_ofProphet_0 : decode cX4_ofProphet 0 = .ok (.aload_n 0, 1) := by decide +kernel
theorem dX4_ofProphet_1 : decode cX4_ofProphet 1 = .ok (.iload_n 1, 1) := by decide +kernel
theorem dX4_ofProphet_2 : decode cX4_ofProphet 2 = .ok (.invokevirtual 135, 3) := by decide +kernel
theorem dX4_ofProphet_5 : decode cX4_ofProphet 5 = .ok (.ifCond .eq 5, 3) := by decide +kernel
theorem dX4_ofProphet_8 : decode cX4_ofProphet 8 = .ok (.iconst (-1), 1) := by decide +kernel
theorem dX4_ofProphet_9 : decode cX4_ofProphet 9 = .ok (.ireturn, 1) := by decide +kernel
theorem dX4_ofProphet_10 : decode cX4_ofProphet 10 = .ok (.iload_n 2, 1) := by decide +kernel
theorem dX4_ofProphet_11 : decode cX4_ofProphet 11 = .ok (.tableswitch 74 0 4 #[33, 40, 47, 54, 60], 33) := by decide +kernel
theorem dX4_ofProphet_44 : decode cX4_ofProphet 44 = .ok (.aload_n 0, 1) := by decide +kernel
theorem dX4_ofProphet_45 : decode cX4_ofProphet 45 = .ok (.getfield 13, 3) := by decide +kernel
theorem dX4_ofProphet_48 : decode cX4_ofProphet 48 = .ok (.iload_n 1, 1) := by decide +kernel
theorem dX4_ofProphet_49 : decode cX4_ofProphet 49 = .ok (.iaload, 1) := by decide +kernel
theorem dX4_ofProphet_50 : decode cX4_ofProphet 50 = .ok (.ireturn, 1) := by decide +kernel
theorem dX4_ofProphet_51 : decode cX4_ofProphet 51 = .ok (.aload_n 0, 1) := by decide +kernel
theorem dX4_ofProphet_52 : decode cX4_ofProphet 52 = .ok (.getfield 16, 3) := by decide +kernel
theorem dX4_ofProphet_55 : decode cX4_ofProphet 55 = .ok (.iload_n 1, 1) := by decide +kernel
theorem dX4_ofProphet_56 : decode cX4_ofProphet 56 = .ok (.iaload, 1) := by decide +kernel
theorem dX4_ofProphet_57 : decode cX4_ofProphet 57 = .ok (.ireturn, 1) := by decide +kernel
theorem dX4_ofProphet_58 : decode cX4_ofProphet 58 = .ok (.aload_n 0, 1) := by decide +kernel
theorem dX4_ofProphet_59 : decode cX4_ofProphet 59 = .ok (.getfield 19, 3) := by decide +kernel
theorem dX4_ofProphet_62 : decode cX4_ofProphet 62 = .ok (.iload_n 1, 1) := by decide +kernel
theorem dX4_ofProphet_63 : decode cX4_ofProphet 63 = .ok (.iaload, 1) := by decide +kernel
theorem dX4_ofProphet_64 : decode cX4_ofProphet 64 = .ok (.ireturn, 1) := by decide +kernel
theorem dX4_ofProphet_65 : decode cX4_ofProphet 65 = .ok (.aload_n 0, 1) := by decide +kernel
theorem dX4_ofProphet_66 : decode cX4_ofProphet 66 = .ok (.iload_n 1, 1) := by decide +kernel
theorem dX4_ofProphet_67 : decode cX4_ofProphet 67 = .ok (.invokevirtual 138, 3) := by decide +kernel
theorem dX4_ofProphet_70 : decode cX4_ofProphet 70 = .ok (.ireturn, 1) := by decide +kernel
theorem dX4_ofProphet_71 : decode cX4_ofProphet 71 = .ok (.aload_n 0, 1) := by decide +kernel
theorem dX4_ofProphet_72 : decode cX4_ofProphet 72 = .ok (.iload_n 1, 1) := by decide +kernel
theorem dX4_ofProphet_73 : decode cX4_ofProphet 73 = .ok (.invokevirtual 141, 3) := by decide +kernel
theorem dX4_ofProphet_76 : decode cX4_ofProphet 76 = .ok (.ifCond .eq 7, 3) := by decide +kernel
theorem dX4_ofProphet_79 : decode cX4_ofProphet 79 = .ok (.iconst 1, 1) := by decide +kernel
theorem dX4_ofProphet_80 : decode cX4_ofProphet 80 = .ok (.goto 4, 3) := by decide +kernel
theorem dX4_ofProphet_83 : decode cX4_ofProphet 83 = .ok (.iconst 0, 1) := by decide +kernel
theorem dX4_ofProphet_84 : decode cX4_ofProphet 84 = .ok (.ireturn, 1) := by decide +kernel
theorem dX4_ofProphet_85 : decode cX4_ofProphet 85 = .ok (.bipush (-2), 2) := by decide +kernel
theorem dX4_ofProphet_87 : decode cX4_ofProphet 87 = .ok (.ireturn, 1) := by decide +kernel
set_option maxRecDepth 20000 in
theorem ggX4_say_X4_noProphet : GoodIn wsX4_say wsX4_noProphet := goodIn_r _ [7, 8, 9, 10, 6, 11, 12, 13, 14, 15, 16, 17, 18, 19, 20, 21, 22, 23, 24, 25, 26, 27, 28, 29, 30, 31, 32, 33, 34, 35, 36, 37, 38] (by decide +kernel) (by decide +kernel)
set_option maxRecDepth 20000 in
theorem gX4_say_X4_noProphet : GoodIn wsX4_say (wsV RX4 135 RX4 yX4_noProphet wsX4_noProphet) := goodIn_app (goodIn_of _ (by decide +kernel)) ggX4_say_X4_noProphet
set_option maxRecDepth 20000 in
theorem ggX4_say_X4_in : GoodIn wsX4_say wsX4_in := goodIn_r _ [11] (by decide +kernel) (by decide +kernel)
set_option maxRecDepth 20000 in
theorem gX4_say_X4_in : GoodIn wsX4_say (va_wsS RX4 68 yX4_in wsX4_in) := goodIn_app (goodIn_of _ (by decide +kernel)) ggX4_say_X4_in
theorem dX4_say_0 : decode cX4_say 0 = .ok (.aload_n 0, 1) := by decide +kernel
theorem dX4_say_1 : decode cX4_say 1 = .ok (.iload_n 1, 1) := by decide +kernel
theorem dX4_say_2 : decode cX4_say 2 = .ok (.invokevirtual 135, 3) := by decide +kernel
theorem dX4_say_5 : decode cX4_say 5 = .ok (.ifCond .eq 5, 3) := by decide +kernel
theorem dX4_say_8 : decode cX4_say 8 = .ok (.iconst (-1), 1) := by decide +kernel
theorem dX4_say_9 : decode cX4_say 9 = .ok (.ireturn, 1) := by decide +kernel
theorem dX4_say_10 : decode cX4_say 10 = .ok (.iload_n 2, 1) := by decide +kernel
theorem dX4_say_11 : decode cX4_say 11 = .ok (.i2l, 1) := by decide +kernel
theorem dX4_say_12 : decode cX4_say 12 = .ok (.lconst 0, 1) := by decide +kernel
theorem dX4_say_13 : decode cX4_say 13 = .ok (.ldc2_w 144, 3) := by decide +kernel
theorem dX4_say_16 : decode cX4_say 16 = .ok (.invokestatic 68, 3) := by decide +kernel
theorem dX4_say_19 : decode cX4_say 19 = .ok (.ifCond .ne 6, 3) := by decide +kernel
theorem dX4_say_22 : decode cX4_say 22 = .ok (.bipush (-2), 2) := by decide +kernel
theorem dX4_say_24 : decode cX4_say 24 = .ok (.ireturn, 1) := by decide +kernel
theorem dX4_say_25 : decode cX4_say 25 = .ok (.aload_n 0, 1) := by decide +kernel
theorem dX4_say_26 : decode cX4_say 26 = .ok (.getfield 19, 3) := by decide +kernel
theorem dX4_say_29 : decode cX4_say 29 = .ok (.iload_n 1, 1) := by decide +kernel
theorem dX4_say_30 : decode cX4_say 30 = .ok (.iaload, 1) := by decide +kernel
theorem dX4_say_31 : decode cX4_say 31 = .ok (.istore_n 3, 1) := by decide +kernel
theorem dX4_say_32 : decode cX4_say 32 = .ok (.aload_n 0, 1) := by decide +kernel
theorem dX4_say_33 : decode cX4_say 33 = .ok (.getfield 19, 3) := by decide +kernel
theorem dX4_say_36 : decode cX4_say 36 = .ok (.iload_n 1, 1) := by decide +kernel
theorem dX4_say_37 : decode cX4_say 37 = .ok (.iload_n 2, 1) := by decide +kernel
theorem dX4_say_38 : decode cX4_say 38 = .ok (.iastore, 1) := by decide +kernel
theorem dX4_say_39 : decode cX4_say 39 = .ok (.iload_n 3, 1) := by decide +kernel
theorem dX4_say_40 : decode cX4_say 40 = .ok (.ireturn, 1) := by decide +kernel
set_option maxRecDepth 20000 in
theorem ggX4_paidTo_X4_isFraud : GoodIn wsX4_paidTo wsX4_isFraud := goodIn_r _ [6, 1, 7, 8, 9, 5, 10, 11, 21, 22, 23, 24, 25, 26, 27, 28, 29, 30, 31, 32, 33, 34, 35, 36, 37, 38, 39, 40, 41, 42, 43, 44, 45, 46, 47] (by decide +kernel) (by decide +kernel)
set_option maxRecDepth 20000 in
theorem gX4_paidTo_X4_isFraud : GoodIn wsX4_paidTo (wsV RX4 141 RX4 yX4_isFraud wsX4_isFraud) := goodIn_app (goodIn_of _ (by decide +kernel)) ggX4_paidTo_X4_isFraud
set_option maxRecDepth 20000 in
theorem ggX4_paidTo_X4_paysOf : GoodIn wsX4_paidTo wsX4_paysOf := goodIn_r _ [15, 16, 17, 21, 22, 23, 24, 25, 26, 27, 28, 29, 30, 31, 32, 33, 34, 35, 36, 37, 38, 39, 40, 41, 42, 43, 44, 45, 46, 47] (by decide +kernel) (by decide +kernel)
set_option maxRecDepth 20000 in
theorem gX4_paidTo_X4_paysOf : GoodIn wsX4_paidTo (wsV RX4 138 RX4 yX4_paysOf wsX4_paysOf) := goodIn_app (goodIn_of _ (by decide +kernel)) ggX4_paidTo_X4_paysOf
set_option maxRecDepth 20000 in
theorem ggX4_paidTo_X4_allEvents : GoodIn wsX4_paidTo wsX4_allEvents := goodIn_r _ [10, 11, 21, 22, 23, 24, 25, 26, 27, 28, 29, 30, 31, 32, 33, 34, 35, 36, 37, 38, 39, 40, 41, 42, 43, 44, 45, 46, 47] (by decide +kernel) (by decide +kernel)
set_option maxRecDepth 20000 in
theorem gX4_paidTo_X4_allEvents : GoodIn wsX4_paidTo (wsV RX4 75 RX4 yX4_allEvents wsX4_allEvents) := goodIn_app (goodIn_of _ (by decide +kernel)) ggX4_paidTo_X4_allEvents
set_option maxRecDepth 20000 in
theorem ggX4_paidTo_X4_bits : GoodIn wsX4_paidTo wsX4_bits := goodIn_r _ [20] (by decide +kernel) (by decide +kernel)
set_option maxRecDepth 20000 in
theorem gX4_paidTo_X4_bits : GoodIn wsX4_paidTo (va_wsS RX4 146 yX4_bits wsX4_bits) := goodIn_app (goodIn_of _ (by decide +kernel)) ggX4_paidTo_X4_bits
theorem dX4_paidTo_0 : decode cX4_paidTo 0 = .ok (.aload_n 0, 1) := by decide +kernel
theorem dX4_paidTo_1 : decode cX4_paidTo 1 = .ok (.iload_n 1, 1) := by decide +kernel
theorem dX4_paidTo_2 : decode cX4_paidTo 2 = .ok (.invokevirtual 141, 3) := by decide +kernel
theorem dX4_paidTo_5 : decode cX4_paidTo 5 = .ok (.ifCond .eq 7, 3) := by decide +kernel
theorem dX4_paidTo_8 : decode cX4_paidTo 8 = .ok (.iconst 0, 1) := by decide +kernel
theorem dX4_paidTo_9 : decode cX4_paidTo 9 = .ok (.goto 25, 3) := by decide +kernel
theorem dX4_paidTo_12 : decode cX4_paidTo 12 = .ok (.aload_n 0, 1) := by decide +kernel
theorem dX4_paidTo_13 : decode cX4_paidTo 13 = .ok (.iload_n 1, 1) := by decide +kernel
theorem dX4_paidTo_14 : decode cX4_paidTo 14 = .ok (.invokevirtual 138, 3) := by decide +kernel
theorem dX4_paidTo_17 : decode cX4_paidTo 17 = .ok (.aload_n 0, 1) := by decide +kernel
theorem dX4_paidTo_18 : decode cX4_paidTo 18 = .ok (.getfield 19, 3) := by decide +kernel
theorem dX4_paidTo_21 : decode cX4_paidTo 21 = .ok (.iload_n 1, 1) := by decide +kernel
theorem dX4_paidTo_22 : decode cX4_paidTo 22 = .ok (.iaload, 1) := by decide +kernel
theorem dX4_paidTo_23 : decode cX4_paidTo 23 = .ok (.iload_n 2, 1) := by decide +kernel
theorem dX4_paidTo_24 : decode cX4_paidTo 24 = .ok (.iand, 1) := by decide +kernel
theorem dX4_paidTo_25 : decode cX4_paidTo 25 = .ok (.aload_n 0, 1) := by decide +kernel
theorem dX4_paidTo_26 : decode cX4_paidTo 26 = .ok (.invokevirtual 75, 3) := by decide +kernel
theorem dX4_paidTo_29 : decode cX4_paidTo 29 = .ok (.iand, 1) := by decide +kernel
theorem dX4_paidTo_30 : decode cX4_paidTo 30 = .ok (.invokestatic 146, 3) := by decide +kernel
theorem dX4_paidTo_33 : decode cX4_paidTo 33 = .ok (.imul, 1) := by decide +kernel
theorem dX4_paidTo_34 : decode cX4_paidTo 34 = .ok (.ireturn, 1) := by decide +kernel
set_option maxRecDepth 20000 in
theorem ggX4_paidToAll_X4_paidTo : GoodIn wsX4_paidToAll wsX4_paidTo := goodIn_r _ [6, 7, 8, 9, 10, 5, 11, 12, 13, 14, 15, 16, 17, 18, 19, 20, 21, 22, 23, 24, 25, 26, 27, 28, 29, 30, 31, 32, 33, 34, 35, 36, 37, 38, 39, 40, 41, 42, 43, 44, 45, 46, 47, 48, 49, 50, 51, 52] (by decide +kernel) (by decide +kernel)
set_option maxRecDepth 20000 in
theorem gX4_paidToAll_X4_paidTo : GoodIn wsX4_paidToAll (wsV RX4 149 RX4 yX4_paidTo wsX4_paidTo) := goodIn_app (goodIn_of _ (by decide +kernel)) ggX4_paidToAll_X4_paidTo
theorem dX4_paidToAll_0 : decode cX4_paidToAll 0 = .ok (.iconst 0, 1) := by decide +kernel
theorem dX4_paidToAll_1 : decode cX4_paidToAll 1 = .ok (.istore_n 2, 1) := by decide +kernel
theorem dX4_paidToAll_2 : decode cX4_paidToAll 2 = .ok (.iconst 0, 1) := by decide +kernel
theorem dX4_paidToAll_3 : decode cX4_paidToAll 3 = .ok (.istore_n 3, 1) := by decide +kernel
theorem dX4_paidToAll_4 : decode cX4_paidToAll 4 = .ok (.iload_n 3, 1) := by decide +kernel
theorem dX4_paidToAll_5 : decode cX4_paidToAll 5 = .ok (.aload_n 0, 1) := by decide +kernel
theorem dX4_paidToAll_6 : decode cX4_paidToAll 6 = .ok (.getfield 72, 3) := by decide +kernel
theorem dX4_paidToAll_9 : decode cX4_paidToAll 9 = .ok (.if_icmp .ge 18, 3) := by decide +kernel
theorem dX4_paidToAll_12 : decode cX4_paidToAll 12 = .ok (.iload_n 2, 1) := by decide +kernel
theorem dX4_paidToAll_13 : decode cX4_paidToAll 13 = .ok (.aload_n 0, 1) := by decide +kernel
theorem dX4_paidToAll_14 : decode cX4_paidToAll 14 = .ok (.iload_n 3, 1) := by decide +kernel
theorem dX4_paidToAll_15 : decode cX4_paidToAll 15 = .ok (.iload_n 1, 1) := by decide +kernel
theorem dX4_paidToAll_16 : decode cX4_paidToAll 16 = .ok (.invokevirtual 149, 3) := by decide +kernel
theorem dX4_paidToAll_19 : decode cX4_paidToAll 19 = .ok (.iadd, 1) := by decide +kernel
theorem dX4_paidToAll_20 : decode cX4_paidToAll 20 = .ok (.istore_n 2, 1) := by decide +kernel
theorem dX4_paidToAll_21 : decode cX4_paidToAll 21 = .ok (.iinc 3 1, 3) := by decide +kernel
theorem dX4_paidToAll_24 : decode cX4_paidToAll 24 = .ok (.goto (-20), 3) := by decide +kernel
theorem dX4_paidToAll_27 : decode cX4_paidToAll 27 = .ok (.iload_n 2, 1) := by decide +kernel
theorem dX4_paidToAll_28 : decode cX4_paidToAll 28 = .ok (.ireturn, 1) := by decide +kernel
set_option maxRecDepth 20000 in
theorem ggX4_paid_X4_noProphet : GoodIn wsX4_paid wsX4_noProphet := goodIn_r _ [5, 6, 7, 8, 4, 9, 37, 38, 39, 40, 41, 42, 43, 44, 45, 46, 47, 48, 49, 50, 51, 52, 53, 54, 55, 56, 57, 58, 59, 60, 61, 62, 63] (by decide +kernel) (by decide +kernel)
set_option maxRecDepth 20000 in
theorem gX4_paid_X4_noProphet : GoodIn wsX4_paid (wsV RX4 135 RX4 yX4_noProphet wsX4_noProphet) := goodIn_app (goodIn_of _ (by decide +kernel)) ggX4_paid_X4_noProphet
set_option maxRecDepth 20000 in
theorem ggX4_paid_X4_noSet : GoodIn wsX4_paid wsX4_noSet := goodIn_r _ [13, 14, 15, 16, 4, 17, 18, 7, 8, 9, 37, 38, 39, 40, 41, 42, 43, 44, 45, 46, 47, 48, 49, 50, 51, 52, 53, 54, 55, 56, 57, 58, 59, 60, 61, 62, 63] (by decide +kernel) (by decide +kernel)
set_option maxRecDepth 20000 in
theorem gX4_paid_X4_noSet : GoodIn wsX4_paid (wsV RX4 152 RX4 yX4_noSet wsX4_noSet) := goodIn_app (goodIn_of _ (by decide +kernel)) ggX4_paid_X4_noSet
set_option maxRecDepth 20000 in
theorem ggX4_paid_X4_paidTo : GoodIn wsX4_paid wsX4_paidTo := goodIn_r _ [22, 23, 24, 25, 26, 4, 27, 14, 15, 16, 17, 18, 28, 29, 30, 31, 32, 33, 34, 35, 36, 37, 38, 39, 40, 41, 42, 43, 44, 45, 46, 47, 48, 49, 50, 51, 52, 53, 54, 55, 56, 57, 58, 59, 60, 61, 62, 63] (by decide +kernel) (by decide +kernel)
set_option maxRecDepth 20000 in
theorem gX4_paid_X4_paidTo : GoodIn wsX4_paid (wsV RX4 149 RX4 yX4_paidTo wsX4_paidTo) := goodIn_app (goodIn_of _ (by decide +kernel)) ggX4_paid_X4_paidTo
theorem dX4_paid_0 : decode cX4_paid 0 = .ok (.aload_n 0, 1) := by decide +kernel
theorem dX4_paid_1 : decode cX4_paid 1 = .ok (.iload_n 1, 1) := by decide +kernel
theorem dX4_paid_2 : decode cX4_paid 2 = .ok (.invokevirtual 135, 3) := by decide +kernel
theorem dX4_paid_5 : decode cX4_paid 5 = .ok (.ifCond .eq 5, 3) := by decide +kernel
theorem dX4_paid_8 : decode cX4_paid 8 = .ok (.iconst (-1), 1) := by decide +kernel
theorem dX4_paid_9 : decode cX4_paid 9 = .ok (.ireturn, 1) := by decide +kernel
theorem dX4_paid_10 : decode cX4_paid 10 = .ok (.aload_n 0, 1) := by decide +kernel
theorem dX4_paid_11 : decode cX4_paid 11 = .ok (.iload_n 2, 1) := by decide +kernel
theorem dX4_paid_12 : decode cX4_paid 12 = .ok (.invokevirtual 152, 3) := by decide +kernel
theorem dX4_paid_15 : decode cX4_paid 15 = .ok (.ifCond .eq 8, 3) := by decide +kernel
theorem dX4_paid_18 : decode cX4_paid 18 = .ok (.bipush (-2), 2) := by decide +kernel
theorem dX4_paid_20 : decode cX4_paid 20 = .ok (.goto 9, 3) := by decide +kernel
theorem dX4_paid_23 : decode cX4_paid 23 = .ok (.aload_n 0, 1) := by decide +kernel
theorem dX4_paid_24 : decode cX4_paid 24 = .ok (.iload_n 1, 1) := by decide +kernel
theorem dX4_paid_25 : decode cX4_paid 25 = .ok (.iload_n 2, 1) := by decide +kernel
theorem dX4_paid_26 : decode cX4_paid 26 = .ok (.invokevirtual 149, 3) := by decide +kernel
theorem dX4_paid_29 : decode cX4_paid 29 = .ok (.ireturn, 1) := by decide +kernel
set_option maxRecDepth 20000 in
theorem ggX4_total_X4_noSet : GoodIn wsX4_total wsX4_noSet := goodIn_r _ [6, 7, 8, 9, 5, 10, 11, 12, 13, 14, 37, 38, 39, 40, 41, 42, 43, 44, 45, 46, 47, 48, 49, 50, 51, 52, 53, 54, 55, 56, 57, 58, 59, 60, 61, 62, 63] (by decide +kernel) (by decide +kernel)
set_option maxRecDepth 20000 in
theorem gX4_total_X4_noSet : GoodIn wsX4_total (wsV RX4 152 RX4 yX4_noSet wsX4_noSet) := goodIn_app (goodIn_of _ (by decide +kernel)) ggX4_total_X4_noSet
set_option maxRecDepth 20000 in
theorem ggX4_total_X4_paidToAll : GoodIn wsX4_total wsX4_paidToAll := goodIn_r _ [18, 1, 19, 20, 21, 5, 22, 23, 24, 25, 26, 27, 7, 8, 9, 10, 11, 28, 29, 30, 31, 32, 33, 34, 35, 36, 37, 38, 39, 40, 41, 42, 43, 44, 45, 46, 47, 48, 49, 50, 51, 52, 53, 54, 55, 56, 57, 58, 59, 60, 61, 62, 63] (by decide +kernel) (by decide +kernel)
set_option maxRecDepth 20000 in
theorem gX4_total_X4_paidToAll : GoodIn wsX4_total (wsV RX4 155 RX4 yX4_paidToAll wsX4_paidToAll) := goodIn_app (goodIn_of _ (by decide +kernel)) ggX4_total_X4_paidToAll
theorem dX4_total_0 : decode cX4_total 0 = .ok (.aload_n 0, 1) := by decide +kernel
theorem dX4_total_1 : decode cX4_total 1 = .ok (.getfield 72, 3) := by decide +kernel
theorem dX4_total_4 : decode cX4_total 4 = .ok (.ifCond .ne 6, 3) := by decide +kernel
theorem dX4_total_7 : decode cX4_total 7 = .ok (.bipush (-3), 2) := by decide +kernel
theorem dX4_total_9 : decode cX4_total 9 = .ok (.ireturn, 1) := by decide +kernel
theorem dX4_total_10 : decode cX4_total 10 = .ok (.aload_n 0, 1) := by decide +kernel
theorem dX4_total_11 : decode cX4_total 11 = .ok (.iload_n 1, 1) := by decide +kernel
theorem dX4_total_12 : decode cX4_total 12 = .ok (.invokevirtual 152, 3) := by decide +kernel
theorem dX4_total_15 : decode cX4_total 15 = .ok (.ifCond .eq 8, 3) := by decide +kernel
theorem dX4_total_18 : decode cX4_total 18 = .ok (.bipush (-2), 2) := by decide +kernel
theorem dX4_total_20 : decode cX4_total 20 = .ok (.goto 8, 3) := by decide +kernel
theorem dX4_total_23 : decode cX4_total 23 = .ok (.aload_n 0, 1) := by decide +kernel
theorem dX4_total_24 : decode cX4_total 24 = .ok (.iload_n 1, 1) := by decide +kernel
theorem dX4_total_25 : decode cX4_total 25 = .ok (.invokevirtual 155, 3) := by decide +kernel
theorem dX4_total_28 : decode cX4_total 28 = .ok (.ireturn, 1) := by decide +kernel
set_option maxRecDepth 20000 in
theorem ggX4_premiumsOf_X4_allEvents : GoodIn wsX4_premiumsOf wsX4_allEvents := goodIn_r _ [7, 8, 12, 13, 14, 15, 16, 17, 18, 19, 20, 21, 22, 23, 24, 25, 26, 27, 28, 29, 30, 31, 32, 33, 34, 35, 36, 37, 38] (by decide +kernel) (by decide +kernel)
set_option maxRecDepth 20000 in
theorem gX4_premiumsOf_X4_allEvents : GoodIn wsX4_premiumsOf (wsV RX4 75 RX4 yX4_allEvents wsX4_allEvents) := goodIn_app (goodIn_of _ (by decide +kernel)) ggX4_premiumsOf_X4_allEvents
set_option maxRecDepth 20000 in
theorem ggX4_premiumsOf_X4_bits : GoodIn wsX4_premiumsOf wsX4_bits := goodIn_r _ [11] (by decide +kernel) (by decide +kernel)
set_option maxRecDepth 20000 in
theorem gX4_premiumsOf_X4_bits : GoodIn wsX4_premiumsOf (va_wsS RX4 146 yX4_bits wsX4_bits) := goodIn_app (goodIn_of _ (by decide +kernel)) ggX4_premiumsOf_X4_bits
theorem dX4_premiumsOf_0 : decode cX4_premiumsOf 0 = .ok (.iconst 0, 1) := by decide +kernel
theorem dX4_premiumsOf_1 : decode cX4_premiumsOf 1 = .ok (.istore_n 2, 1) := by decide +kernel
theorem dX4_premiumsOf_2 : decode cX4_premiumsOf 2 = .ok (.iconst 0, 1) := by decide +kernel
theorem dX4_premiumsOf_3 : decode cX4_premiumsOf 3 = .ok (.istore_n 3, 1) := by decide +kernel
theorem dX4_premiumsOf_4 : decode cX4_premiumsOf 4 = .ok (.iload_n 3, 1) := by decide +kernel
theorem dX4_premiumsOf_5 : decode cX4_premiumsOf 5 = .ok (.aload_n 0, 1) := by decide +kernel
theorem dX4_premiumsOf_6 : decode cX4_premiumsOf 6 = .ok (.getfield 72, 3) := by decide +kernel
theorem dX4_premiumsOf_9 : decode cX4_premiumsOf 9 = .ok (.if_icmp .ge 28, 3) := by decide +kernel
theorem dX4_premiumsOf_12 : decode cX4_premiumsOf 12 = .ok (.iload_n 2, 1) := by decide +kernel
theorem dX4_premiumsOf_13 : decode cX4_premiumsOf 13 = .ok (.iload_n 1, 1) := by decide +kernel
theorem dX4_premiumsOf_14 : decode cX4_premiumsOf 14 = .ok (.aload_n 0, 1) := by decide +kernel
theorem dX4_premiumsOf_15 : decode cX4_premiumsOf 15 = .ok (.getfield 19, 3) := by decide +kernel
theorem dX4_premiumsOf_18 : decode cX4_premiumsOf 18 = .ok (.iload_n 3, 1) := by decide +kernel
theorem dX4_premiumsOf_19 : decode cX4_premiumsOf 19 = .ok (.iaload, 1) := by decide +kernel
theorem dX4_premiumsOf_20 : decode cX4_premiumsOf 20 = .ok (.aload_n 0, 1) := by decide +kernel
theorem dX4_premiumsOf_21 : decode cX4_premiumsOf 21 = .ok (.invokevirtual 75, 3) := by decide +kernel
theorem dX4_premiumsOf_24 : decode cX4_premiumsOf 24 = .ok (.iand, 1) := by decide +kernel
theorem dX4_premiumsOf_25 : decode cX4_premiumsOf 25 = .ok (.invokestatic 146, 3) := by decide +kernel
theorem dX4_premiumsOf_28 : decode cX4_premiumsOf 28 = .ok (.imul, 1) := by decide +kernel
theorem dX4_premiumsOf_29 : decode cX4_premiumsOf 29 = .ok (.iadd, 1) := by decide +kernel
theorem dX4_premiumsOf_30 : decode cX4_premiumsOf 30 = .ok (.istore_n 2, 1) := by decide +kernel
theorem dX4_premiumsOf_31 : decode cX4_premiumsOf 31 = .ok (.iinc 3 1, 3) := by decide +kernel
theorem dX4_premiumsOf_34 : decode cX4_premiumsOf 34 = .ok (.goto (-30), 3) := by decide +kernel
theorem dX4_premiumsOf_37 : decode cX4_premiumsOf 37 = .ok (.iload_n 2, 1) := by decide +kernel
theorem dX4_premiumsOf_38 : decode cX4_premiumsOf 38 = .ok (.ireturn, 1) := by decide +kernel
set_option maxRecDepth 20000 in
theorem ggX4_goYears_X4_paidToAll : GoodIn wsX4_goYears wsX4_paidToAll := goodIn_r _ [10, 11, 12, 13, 14, 9, 15, 16, 17, 18, 19, 20, 21, 22, 23, 24, 25, 26, 27, 28, 29, 30, 31, 32, 33, 34, 39, 40, 41, 42, 43, 44, 45, 46, 47, 48, 49, 50, 51, 52, 53, 54, 55, 56, 57, 58, 59, 60, 61, 62, 63, 64, 65] (by decide +kernel) (by decide +kernel)
set_option maxRecDepth 20000 in
theorem gX4_goYears_X4_paidToAll : GoodIn wsX4_goYears (wsV RX4 155 RX4 yX4_paidToAll wsX4_paidToAll) := goodIn_app (goodIn_of _ (by decide +kernel)) ggX4_goYears_X4_paidToAll
set_option maxRecDepth 20000 in
theorem ggX4_goYears_X4_premiumsOf : GoodIn wsX4_goYears wsX4_premiumsOf := goodIn_r _ [38, 11, 16, 21, 22, 23, 9, 24, 25, 32, 33, 34, 39, 40, 41, 42, 43, 44, 45, 46, 47, 48, 49, 50, 51, 52, 53, 54, 55, 56, 57, 58, 59, 60, 61, 62, 63, 64, 65] (by decide +kernel) (by decide +kernel)
set_option maxRecDepth 20000 in
theorem gX4_goYears_X4_premiumsOf : GoodIn wsX4_goYears (wsV RX4 170 RX4 yX4_premiumsOf wsX4_premiumsOf) := goodIn_app (goodIn_of _ (by decide +kernel)) ggX4_goYears_X4_premiumsOf
theorem dX4_goYears_0 : decode cX4_goYears 0 = .ok (.aload_n 0, 1) := by decide +kernel
theorem dX4_goYears_1 : decode cX4_goYears 1 = .ok (.iconst 0, 1) := by decide +kernel
theorem dX4_goYears_2 : decode cX4_goYears 2 = .ok (.putfield 158, 3) := by decide +kernel
theorem dX4_goYears_5 : decode cX4_goYears 5 = .ok (.aload_n 0, 1) := by decide +kernel
theorem dX4_goYears_6 : decode cX4_goYears 6 = .ok (.bipush (-9), 2) := by decide +kernel
theorem dX4_goYears_8 : decode cX4_goYears 8 = .ok (.putfield 161, 3) := by decide +kernel
theorem dX4_goYears_11 : decode cX4_goYears 11 = .ok (.aload_n 0, 1) := by decide +kernel
theorem dX4_goYears_12 : decode cX4_goYears 12 = .ok (.iconst 0, 1) := by decide +kernel
theorem dX4_goYears_13 : decode cX4_goYears 13 = .ok (.putfield 164, 3) := by decide +kernel
theorem dX4_goYears_16 : decode cX4_goYears 16 = .ok (.aload_n 0, 1) := by decide +kernel
theorem dX4_goYears_17 : decode cX4_goYears 17 = .ok (.iconst 0, 1) := by decide +kernel
theorem dX4_goYears_18 : decode cX4_goYears 18 = .ok (.putfield 167, 3) := by decide +kernel
theorem dX4_goYears_21 : decode cX4_goYears 21 = .ok (.iconst 0, 1) := by decide +kernel
theorem dX4_goYears_22 : decode cX4_goYears 22 = .ok (.istore 4, 2) := by decide +kernel
theorem dX4_goYears_24 : decode cX4_goYears 24 = .ok (.iload 4, 2) := by decide +kernel
theorem dX4_goYears_26 : decode cX4_goYears 26 = .ok (.iload_n 3, 1) := by decide +kernel
theorem dX4_goYears_27 : decode cX4_goYears 27 = .ok (.if_icmp .ge 101, 3) := by decide +kernel
theorem dX4_goYears_30 : decode cX4_goYears 30 = .ok (.aload_n 0, 1) := by decide +kernel
theorem dX4_goYears_31 : decode cX4_goYears 31 = .ok (.aload_n 0, 1) := by decide +kernel
theorem dX4_goYears_32 : decode cX4_goYears 32 = .ok (.getfield 49, 3) := by decide +kernel
theorem dX4_goYears_35 : decode cX4_goYears 35 = .ok (.iload_n 2, 1) := by decide +kernel
theorem dX4_goYears_36 : decode cX4_goYears 36 = .ok (.iload 4, 2) := by decide +kernel
theorem dX4_goYears_38 : decode cX4_goYears 38 = .ok (.iadd, 1) := by decide +kernel
theorem dX4_goYears_39 : decode cX4_goYears 39 = .ok (.iaload, 1) := by decide +kernel
theorem dX4_goYears_40 : decode cX4_goYears 40 = .ok (.invokevirtual 155, 3) := by decide +kernel
theorem dX4_goYears_43 : decode cX4_goYears 43 = .ok (.istore 5, 2) := by decide +kernel
theorem dX4_goYears_45 : decode cX4_goYears 45 = .ok (.aload_n 0, 1) := by decide +kernel
theorem dX4_goYears_46 : decode cX4_goYears 46 = .ok (.dup, 1) := by decide +kernel
theorem dX4_goYears_47 : decode cX4_goYears 47 = .ok (.getfield 158, 3) := by decide +kernel
theorem dX4_goYears_50 : decode cX4_goYears 50 = .ok (.aload_n 0, 1) := by decide +kernel
theorem dX4_goYears_51 : decode cX4_goYears 51 = .ok (.iload_n 1, 1) := by decide +kernel
theorem dX4_goYears_52 : decode cX4_goYears 52 = .ok (.invokevirtual 170, 3) := by decide +kernel
theorem dX4_goYears_55 : decode cX4_goYears 55 = .ok (.iload 5, 2) := by decide +kernel
theorem dX4_goYears_57 : decode cX4_goYears 57 = .ok (.isub, 1) := by decide +kernel
theorem dX4_goYears_58 : decode cX4_goYears 58 = .ok (.iadd, 1) := by decide +kernel
theorem dX4_goYears_59 : decode cX4_goYears 59 = .ok (.putfield 158, 3) := by decide +kernel
theorem dX4_goYears_62 : decode cX4_goYears 62 = .ok (.aload_n 0, 1) := by decide +kernel
theorem dX4_goYears_63 : decode cX4_goYears 63 = .ok (.aload_n 0, 1) := by decide +kernel
theorem dX4_goYears_64 : decode cX4_goYears 64 = .ok (.getfield 161, 3) := by decide +kernel
theorem dX4_goYears_67 : decode cX4_goYears 67 = .ok (.ifCond .ge 15, 3) := by decide +kernel
theorem dX4_goYears_70 : decode cX4_goYears 70 = .ok (.aload_n 0, 1) := by decide +kernel
theorem dX4_goYears_71 : decode cX4_goYears 71 = .ok (.getfield 158, 3) := by decide +kernel
theorem dX4_goYears_74 : decode cX4_goYears 74 = .ok (.ifCond .ge 8, 3) := by decide +kernel
theorem dX4_goYears_77 : decode cX4_goYears 77 = .ok (.iload 4, 2) := by decide +kernel
theorem dX4_goYears_79 : decode cX4_goYears 79 = .ok (.goto 7, 3) := by decide +kernel
theorem dX4_goYears_82 : decode cX4_goYears 82 = .ok (.aload_n 0, 1) := by decide +kernel
theorem dX4_goYears_83 : decode cX4_goYears 83 = .ok (.getfield 161, 3) := by decide +kernel
theorem dX4_goYears_86 : decode cX4_goYears 86 = .ok (.putfield 161, 3) := by decide +kernel
theorem dX4_goYears_89 : decode cX4_goYears 89 = .ok (.aload_n 0, 1) := by decide +kernel
theorem dX4_goYears_90 : decode cX4_goYears 90 = .ok (.dup, 1) := by decide +kernel
theorem dX4_goYears_91 : decode cX4_goYears 91 = .ok (.getfield 164, 3) := by decide +kernel
theorem dX4_goYears_94 : decode cX4_goYears 94 = .ok (.iload 5, 2) := by decide +kernel
theorem dX4_goYears_96 : decode cX4_goYears 96 = .ok (.iadd, 1) := by decide +kernel
theorem dX4_goYears_97 : decode cX4_goYears 97 = .ok (.putfield 164, 3) := by decide +kernel
theorem dX4_goYears_100 : decode cX4_goYears 100 = .ok (.aload_n 0, 1) := by decide +kernel
theorem dX4_goYears_101 : decode cX4_goYears 101 = .ok (.iload 5, 2) := by decide +kernel
theorem dX4_goYears_103 : decode cX4_goYears 103 = .ok (.aload_n 0, 1) := by decide +kernel
theorem dX4_goYears_104 : decode cX4_goYears 104 = .ok (.getfield 167, 3) := by decide +kernel
theorem dX4_goYears_107 : decode cX4_goYears 107 = .ok (.if_icmp .le 8, 3) := by decide +kernel
theorem dX4_goYears_110 : decode cX4_goYears 110 = .ok (.iload 5, 2) := by decide +kernel
theorem dX4_goYears_112 : decode cX4_goYears 112 = .ok (.goto 7, 3) := by decide +kernel
theorem dX4_goYears_115 : decode cX4_goYears 115 = .ok (.aload_n 0, 1) := by decide +kernel
theorem dX4_goYears_116 : decode cX4_goYears 116 = .ok (.getfield 167, 3) := by decide +kernel
theorem dX4_goYears_119 : decode cX4_goYears 119 = .ok (.putfield 167, 3) := by decide +kernel
theorem dX4_goYears_122 : decode cX4_goYears 122 = .ok (.iinc 4 1, 3) := by decide +kernel
theorem dX4_goYears_125 : decode cX4_goYears 125 = .ok (.goto (-101), 3) := by decide +kernel
theorem dX4_goYears_128 : decode cX4_goYears 128 = .ok (.return_, 1) := by decide +kernel
set_option maxRecDepth 20000 in
theorem ggX4_paidBy_X4_paidTo : GoodIn wsX4_paidBy wsX4_paidTo := goodIn_r _ [6, 7, 8, 9, 10, 5, 11, 12, 13, 14, 15, 16, 17, 18, 19, 20, 21, 22, 23, 24, 25, 26, 27, 28, 29, 30, 31, 32, 33, 34, 35, 36, 37, 38, 39, 40, 41, 42, 43, 44, 45, 46, 47, 48, 49, 50, 51, 52] (by decide +kernel) (by decide +kernel)
set_option maxRecDepth 20000 in
theorem gX4_paidBy_X4_paidTo : GoodIn wsX4_paidBy (wsV RX4 149 RX4 yX4_paidTo wsX4_paidTo) := goodIn_app (goodIn_of _ (by decide +kernel)) ggX4_paidBy_X4_paidTo
theorem dX4_paidBy_0 : decode cX4_paidBy 0 = .ok (.iconst 0, 1) := by decide +kernel
theorem dX4_paidBy_1 : decode cX4_paidBy 1 = .ok (.istore 4, 2) := by decide +kernel
theorem dX4_paidBy_3 : decode cX4_paidBy 3 = .ok (.iconst 0, 1) := by decide +kernel
theorem dX4_paidBy_4 : decode cX4_paidBy 4 = .ok (.istore 5, 2) := by decide +kernel
theorem dX4_paidBy_6 : decode cX4_paidBy 6 = .ok (.iload 5, 2) := by decide +kernel
theorem dX4_paidBy_8 : decode cX4_paidBy 8 = .ok (.iload_n 3, 1) := by decide +kernel
theorem dX4_paidBy_9 : decode cX4_paidBy 9 = .ok (.if_icmp .ge 28, 3) := by decide +kernel
theorem dX4_paidBy_12 : decode cX4_paidBy 12 = .ok (.iload 4, 2) := by decide +kernel
theorem dX4_paidBy_14 : decode cX4_paidBy 14 = .ok (.aload_n 0, 1) := by decide +kernel
theorem dX4_paidBy_15 : decode cX4_paidBy 15 = .ok (.iload_n 1, 1) := by decide +kernel
theorem dX4_paidBy_16 : decode cX4_paidBy 16 = .ok (.aload_n 0, 1) := by decide +kernel
theorem dX4_paidBy_17 : decode cX4_paidBy 17 = .ok (.getfield 49, 3) := by decide +kernel
theorem dX4_paidBy_20 : decode cX4_paidBy 20 = .ok (.iload_n 2, 1) := by decide +kernel
theorem dX4_paidBy_21 : decode cX4_paidBy 21 = .ok (.iload 5, 2) := by decide +kernel
theorem dX4_paidBy_23 : decode cX4_paidBy 23 = .ok (.iadd, 1) := by decide +kernel
theorem dX4_paidBy_24 : decode cX4_paidBy 24 = .ok (.iaload, 1) := by decide +kernel
theorem dX4_paidBy_25 : decode cX4_paidBy 25 = .ok (.invokevirtual 149, 3) := by decide +kernel
theorem dX4_paidBy_28 : decode cX4_paidBy 28 = .ok (.iadd, 1) := by decide +kernel
theorem dX4_paidBy_29 : decode cX4_paidBy 29 = .ok (.istore 4, 2) := by decide +kernel
theorem dX4_paidBy_31 : decode cX4_paidBy 31 = .ok (.iinc 5 1, 3) := by decide +kernel
theorem dX4_paidBy_34 : decode cX4_paidBy 34 = .ok (.goto (-28), 3) := by decide +kernel
theorem dX4_paidBy_37 : decode cX4_paidBy 37 = .ok (.iload 4, 2) := by decide +kernel
theorem dX4_paidBy_39 : decode cX4_paidBy 39 = .ok (.ireturn, 1) := by decide +kernel
set_option maxRecDepth 20000 in
theorem ggX4_years_X4_noSheet : GoodIn wsX4_years wsX4_noSheet := goodIn_r _ [16, 1, 17, 18, 15, 19] (by decide +kernel) (by decide +kernel)
set_option maxRecDepth 20000 in
theorem gX4_years_X4_noSheet : GoodIn wsX4_years (va_wsS RX4 111 yX4_noSheet wsX4_noSheet) := goodIn_app (goodIn_of _ (by decide +kernel)) ggX4_years_X4_noSheet
set_option maxRecDepth 20000 in
theorem ggX4_years_X4_refused : GoodIn wsX4_years wsX4_refused := goodIn_r _ [23, 24, 85, 86, 87, 88, 89, 90, 91, 92, 93, 94, 95, 96, 97, 98, 99, 100, 101, 102, 103, 104, 105, 106, 107, 108, 109, 110, 111] (by decide +kernel) (by decide +kernel)
set_option maxRecDepth 20000 in
theorem gX4_years_X4_refused : GoodIn wsX4_years (wsV RX4 115 RX4 yX4_refused wsX4_refused) := goodIn_app (goodIn_of _ (by decide +kernel)) ggX4_years_X4_refused
set_option maxRecDepth 20000 in
theorem ggX4_years_X4_in : GoodIn wsX4_years wsX4_in := goodIn_r _ [19] (by decide +kernel) (by decide +kernel)
set_option maxRecDepth 20000 in
theorem gX4_years_X4_in : GoodIn wsX4_years (va_wsS RX4 68 yX4_in wsX4_in) := goodIn_app (goodIn_of _ (by decide +kernel)) ggX4_years_X4_in
set_option maxRecDepth 20000 in
theorem ggX4_years_X4_cellsBarred : GoodIn wsX4_years wsX4_cellsBarred := goodIn_r _ [28, 29, 30, 31, 32, 33, 15, 34, 24, 35, 36, 37, 85, 86, 87, 88, 89, 90, 91, 92, 93, 94, 95, 96, 97, 98, 99, 100, 101, 102, 103, 104, 105, 106, 107, 108, 109, 110, 111] (by decide +kernel) (by decide +kernel)
set_option maxRecDepth 20000 in
theorem gX4_years_X4_cellsBarred : GoodIn wsX4_years (wsV RX4 120 RX4 yX4_cellsBarred wsX4_cellsBarred) := goodIn_app (goodIn_of _ (by decide +kernel)) ggX4_years_X4_cellsBarred
set_option maxRecDepth 20000 in
theorem ggX4_years_X4_noSet : GoodIn wsX4_years wsX4_noSet := goodIn_r _ [41, 42, 43, 44, 15, 45, 46, 17, 18, 19, 85, 86, 87, 88, 89, 90, 91, 92, 93, 94, 95, 96, 97, 98, 99, 100, 101, 102, 103, 104, 105, 106, 107, 108, 109, 110, 111] (by decide +kernel) (by decide +kernel)
set_option maxRecDepth 20000 in
theorem gX4_years_X4_noSet : GoodIn wsX4_years (wsV RX4 152 RX4 yX4_noSet wsX4_noSet) := goodIn_app (goodIn_of _ (by decide +kernel)) ggX4_years_X4_noSet
set_option maxRecDepth 20000 in
theorem ggX4_years_X4_goYears : GoodIn wsX4_years wsX4_goYears := goodIn_r _ [50, 9, 10, 11, 12, 8, 51, 52, 53, 15, 54, 7, 55, 56, 57, 58, 59, 60, 61, 62, 63, 42, 43, 44, 45, 46, 64, 65, 66, 67, 68, 69, 70, 71, 72, 73, 74, 75, 76, 85, 86, 87, 88, 89, 90, 91, 92, 93, 94, 95, 96, 97, 98, 99, 100, 101, 102, 103, 104, 105, 106, 107, 108, 109, 110, 111] (by decide +kernel) (by decide +kernel)
set_option maxRecDepth 20000 in
theorem gX4_years_X4_goYears : GoodIn wsX4_years (wsV RX4 181 RX4 yX4_goYears wsX4_goYears) := goodIn_app (goodIn_of _ (by decide +kernel)) ggX4_years_X4_goYears
set_option maxRecDepth 20000 in
theorem ggX4_years_X4_noProphet : GoodIn wsX4_years wsX4_noProphet := goodIn_r _ [80, 7, 17, 18, 15, 19, 85, 86, 87, 88, 89, 90, 91, 92, 93, 94, 95, 96, 97, 98, 99, 100, 101, 102, 103, 104, 105, 106, 107, 108, 109, 110, 111] (by decide +kernel) (by decide +kernel)
set_option maxRecDepth 20000 in
theorem gX4_years_X4_noProphet : GoodIn wsX4_years (wsV RX4 135 RX4 yX4_noProphet wsX4_noProphet) := goodIn_app (goodIn_of _ (by decide +kernel)) ggX4_years_X4_noProphet
set_option maxRecDepth 20000 in
theorem ggX4_years_X4_paidBy : GoodIn wsX4_years wsX4_paidBy := goodIn_r _ [84, 8, 55, 56, 57, 15, 58, 59, 60, 61, 62, 63, 42, 43, 44, 45, 46, 64, 65, 66, 67, 68, 69, 70, 71, 72, 85, 86, 87, 88, 89, 90, 91, 92, 93, 94, 95, 96, 97, 98, 99, 100, 101, 102, 103, 104, 105, 106, 107, 108, 109, 110, 111] (by decide +kernel) (by decide +kernel)
set_option maxRecDepth 20000 in
theorem gX4_years_X4_paidBy : GoodIn wsX4_years (wsV RX4 185 RX4 yX4_paidBy wsX4_paidBy) := goodIn_app (goodIn_of _ (by decide +kernel)) ggX4_years_X4_paidBy
theorem dX4_years_0 : decode cX4_years 0 = .ok (.iload_n 2, 1) := by decide +kernel
theorem dX4_years_1 : decode cX4_years 1 = .ok (.invokestatic 111, 3) := by decide +kernel
theorem dX4_years_4 : decode cX4_years 4 = .ok (.ifCond .eq 9, 3) := by decide +kernel
theorem dX4_years_7 : decode cX4_years 7 = .ok (.aload_n 0, 1) := by decide +kernel
theorem dX4_years_8 : decode cX4_years 8 = .ok (.iconst (-1), 1) := by decide +kernel
theorem dX4_years_9 : decode cX4_years 9 = .ok (.invokevirtual 115, 3) := by decide +kernel
theorem dX4_years_12 : decode cX4_years 12 = .ok (.ireturn, 1) := by decide +kernel
theorem dX4_years_13 : decode cX4_years 13 = .ok (.iload 6, 2) := by decide +kernel
theorem dX4_years_15 : decode cX4_years 15 = .ok (.i2l, 1) := by decide +kernel
theorem dX4_years_16 : decode cX4_years 16 = .ok (.lconst 0, 1) := by decide +kernel
theorem dX4_years_17 : decode cX4_years 17 = .ok (.ldc2_w 173, 3) := by decide +kernel
theorem dX4_years_20 : decode cX4_years 20 = .ok (.invokestatic 68, 3) := by decide +kernel
theorem dX4_years_23 : decode cX4_years 23 = .ok (.ifCond .ne 18, 3) := by decide +kernel
theorem dX4_years_26 : decode cX4_years 26 = .ok (.iload 6, 2) := by decide +kernel
theorem dX4_years_28 : decode cX4_years 28 = .ok (.i2l, 1) := by decide +kernel
theorem dX4_years_29 : decode cX4_years 29 = .ok (.ldc2_w 175, 3) := by decide +kernel
theorem dX4_years_32 : decode cX4_years 32 = .ok (.ldc2_w 177, 3) := by decide +kernel
theorem dX4_years_35 : decode cX4_years 35 = .ok (.invokestatic 68, 3) := by decide +kernel
theorem dX4_years_38 : decode cX4_years 38 = .ok (.ifCond .eq 7, 3) := by decide +kernel
theorem dX4_years_41 : decode cX4_years 41 = .ok (.iconst 1, 1) := by decide +kernel
theorem dX4_years_42 : decode cX4_years 42 = .ok (.goto 4, 3) := by decide +kernel
theorem dX4_years_45 : decode cX4_years 45 = .ok (.iconst 0, 1) := by decide +kernel
theorem dX4_years_46 : decode cX4_years 46 = .ok (.istore 7, 2) := by decide +kernel
theorem dX4_years_48 : decode cX4_years 48 = .ok (.iload_n 1, 1) := by decide +kernel
theorem dX4_years_49 : decode cX4_years 49 = .ok (.i2l, 1) := by decide +kernel
theorem dX4_years_50 : decode cX4_years 50 = .ok (.lconst 0, 1) := by decide +kernel
theorem dX4_years_51 : decode cX4_years 51 = .ok (.ldc2_w 133, 3) := by decide +kernel
theorem dX4_years_54 : decode cX4_years 54 = .ok (.invokestatic 68, 3) := by decide +kernel
theorem dX4_years_57 : decode cX4_years 57 = .ok (.ifCond .eq 33, 3) := by decide +kernel
theorem dX4_years_60 : decode cX4_years 60 = .ok (.iload_n 3, 1) := by decide +kernel
theorem dX4_years_61 : decode cX4_years 61 = .ok (.i2l, 1) := by decide +kernel
theorem dX4_years_62 : decode cX4_years 62 = .ok (.lconst 0, 1) := by decide +kernel
theorem dX4_years_63 : decode cX4_years 63 = .ok (.ldc2_w 118, 3) := by decide +kernel
theorem dX4_years_66 : decode cX4_years 66 = .ok (.invokestatic 68, 3) := by decide +kernel
theorem dX4_years_69 : decode cX4_years 69 = .ok (.ifCond .eq 21, 3) := by decide +kernel
theorem dX4_years_72 : decode cX4_years 72 = .ok (.iload 5, 2) := by decide +kernel
theorem dX4_years_74 : decode cX4_years 74 = .ok (.i2l, 1) := by decide +kernel
theorem dX4_years_75 : decode cX4_years 75 = .ok (.lconst 0, 1) := by decide +kernel
theorem dX4_years_76 : decode cX4_years 76 = .ok (.ldc2_w 179, 3) := by decide +kernel
theorem dX4_years_79 : decode cX4_years 79 = .ok (.invokestatic 68, 3) := by decide +kernel
theorem dX4_years_82 : decode cX4_years 82 = .ok (.ifCond .eq 8, 3) := by decide +kernel
theorem dX4_years_85 : decode cX4_years 85 = .ok (.iload 7, 2) := by decide +kernel
theorem dX4_years_87 : decode cX4_years 87 = .ok (.ifCond .ne 10, 3) := by decide +kernel
theorem dX4_years_90 : decode cX4_years 90 = .ok (.aload_n 0, 1) := by decide +kernel
theorem dX4_years_91 : decode cX4_years 91 = .ok (.bipush (-2), 2) := by decide +kernel
theorem dX4_years_93 : decode cX4_years 93 = .ok (.invokevirtual 115, 3) := by decide +kernel
theorem dX4_years_96 : decode cX4_years 96 = .ok (.ireturn, 1) := by decide +kernel
theorem dX4_years_97 : decode cX4_years 97 = .ok (.aload_n 0, 1) := by decide +kernel
theorem dX4_years_98 : decode cX4_years 98 = .ok (.getfield 72, 3) := by decide +kernel
theorem dX4_years_101 : decode cX4_years 101 = .ok (.ifCond .ne 10, 3) := by decide +kernel
theorem dX4_years_104 : decode cX4_years 104 = .ok (.aload_n 0, 1) := by decide +kernel
theorem dX4_years_105 : decode cX4_years 105 = .ok (.bipush (-3), 2) := by decide +kernel
theorem dX4_years_107 : decode cX4_years 107 = .ok (.invokevirtual 115, 3) := by decide +kernel
theorem dX4_years_110 : decode cX4_years 110 = .ok (.ireturn, 1) := by decide +kernel
theorem dX4_years_111 : decode cX4_years 111 = .ok (.aload_n 0, 1) := by decide +kernel
theorem dX4_years_112 : decode cX4_years 112 = .ok (.iload_n 2, 1) := by decide +kernel
theorem dX4_years_113 : decode cX4_years 113 = .ok (.iload_n 3, 1) := by decide +kernel
theorem dX4_years_114 : decode cX4_years 114 = .ok (.iload 4, 2) := by decide +kernel
theorem dX4_years_116 : decode cX4_years 116 = .ok (.iload 5, 2) := by decide +kernel
theorem dX4_years_118 : decode cX4_years 118 = .ok (.i2l, 1) := by decide +kernel
theorem dX4_years_119 : decode cX4_years 119 = .ok (.invokevirtual 120, 3) := by decide +kernel
theorem dX4_years_122 : decode cX4_years 122 = .ok (.istore 8, 2) := by decide +kernel
theorem dX4_years_124 : decode cX4_years 124 = .ok (.iload 8, 2) := by decide +kernel
theorem dX4_years_126 : decode cX4_years 126 = .ok (.ifCond .ge 6, 3) := by decide +kernel
theorem dX4_years_129 : decode cX4_years 129 = .ok (.iload 8, 2) := by decide +kernel
theorem dX4_years_131 : decode cX4_years 131 = .ok (.ireturn, 1) := by decide +kernel
theorem dX4_years_132 : decode cX4_years 132 = .ok (.iconst 0, 1) := by decide +kernel
theorem dX4_years_133 : decode cX4_years 133 = .ok (.istore 9, 2) := by decide +kernel
theorem dX4_years_135 : decode cX4_years 135 = .ok (.iload 9, 2) := by decide +kernel
theorem dX4_years_137 : decode cX4_years 137 = .ok (.iload 5, 2) := by decide +kernel
theorem dX4_years_139 : decode cX4_years 139 = .ok (.if_icmp .ge 38, 3) := by decide +kernel
theorem dX4_years_142 : decode cX4_years 142 = .ok (.aload_n 0, 1) := by decide +kernel
theorem dX4_years_143 : decode cX4_years 143 = .ok (.aload_n 0, 1) := by decide +kernel
theorem dX4_years_144 : decode cX4_years 144 = .ok (.getfield 49, 3) := by decide +kernel
theorem dX4_years_147 : decode cX4_years 147 = .ok (.bipush 60, 2) := by decide +kernel
theorem dX4_years_149 : decode cX4_years 149 = .ok (.iload_n 2, 1) := by decide +kernel
theorem dX4_years_150 : decode cX4_years 150 = .ok (.imul, 1) := by decide +kernel
theorem dX4_years_151 : decode cX4_years 151 = .ok (.iload 4, 2) := by decide +kernel
theorem dX4_years_153 : decode cX4_years 153 = .ok (.iadd, 1) := by decide +kernel
theorem dX4_years_154 : decode cX4_years 154 = .ok (.iload 9, 2) := by decide +kernel
theorem dX4_years_156 : decode cX4_years 156 = .ok (.iadd, 1) := by decide +kernel
theorem dX4_years_157 : decode cX4_years 157 = .ok (.iaload, 1) := by decide +kernel
theorem dX4_years_158 : decode cX4_years 158 = .ok (.invokevirtual 152, 3) := by decide +kernel
theorem dX4_years_161 : decode cX4_years 161 = .ok (.ifCond .eq 10, 3) := by decide +kernel
theorem dX4_years_164 : decode cX4_years 164 = .ok (.aload_n 0, 1) := by decide +kernel
theorem dX4_years_165 : decode cX4_years 165 = .ok (.bipush (-2), 2) := by decide +kernel
theorem dX4_years_167 : decode cX4_years 167 = .ok (.invokevirtual 115, 3) := by decide +kernel
theorem dX4_years_170 : decode cX4_years 170 = .ok (.ireturn, 1) := by decide +kernel
theorem dX4_years_171 : decode cX4_years 171 = .ok (.iinc 9 1, 3) := by decide +kernel
theorem dX4_years_174 : decode cX4_years 174 = .ok (.goto (-39), 3) := by decide +kernel
theorem dX4_years_177 : decode cX4_years 177 = .ok (.aload_n 0, 1) := by decide +kernel
theorem dX4_years_178 : decode cX4_years 178 = .ok (.iload_n 1, 1) := by decide +kernel
theorem dX4_years_179 : decode cX4_years 179 = .ok (.bipush 60, 2) := by decide +kernel
theorem dX4_years_181 : decode cX4_years 181 = .ok (.iload_n 2, 1) := by decide +kernel
theorem dX4_years_182 : decode cX4_years 182 = .ok (.imul, 1) := by decide +kernel
theorem dX4_years_183 : decode cX4_years 183 = .ok (.iload 4, 2) := by decide +kernel
theorem dX4_years_185 : decode cX4_years 185 = .ok (.iadd, 1) := by decide +kernel
theorem dX4_years_186 : decode cX4_years 186 = .ok (.iload 5, 2) := by decide +kernel
theorem dX4_years_188 : decode cX4_years 188 = .ok (.invokevirtual 181, 3) := by decide +kernel
theorem dX4_years_191 : decode cX4_years 191 = .ok (.iload 6, 2) := by decide +kernel
theorem dX4_years_193 : decode cX4_years 193 = .ok (.bipush 9, 2) := by decide +kernel
theorem dX4_years_195 : decode cX4_years 195 = .ok (.if_icmp .le 43, 3) := by decide +kernel
theorem dX4_years_198 : decode cX4_years 198 = .ok (.aload_n 0, 1) := by decide +kernel
theorem dX4_years_199 : decode cX4_years 199 = .ok (.aload_n 0, 1) := by decide +kernel
theorem dX4_years_200 : decode cX4_years 200 = .ok (.iload 6, 2) := by decide +kernel
theorem dX4_years_202 : decode cX4_years 202 = .ok (.bipush 10, 2) := by decide +kernel
theorem dX4_years_204 : decode cX4_years 204 = .ok (.isub, 1) := by decide +kernel
theorem dX4_years_205 : decode cX4_years 205 = .ok (.invokevirtual 135, 3) := by decide +kernel
theorem dX4_years_208 : decode cX4_years 208 = .ok (.ifCond .eq 8, 3) := by decide +kernel
theorem dX4_years_211 : decode cX4_years 211 = .ok (.bipush (-9), 2) := by decide +kernel
theorem dX4_years_213 : decode cX4_years 213 = .ok (.goto 21, 3) := by decide +kernel
theorem dX4_years_216 : decode cX4_years 216 = .ok (.aload_n 0, 1) := by decide +kernel
theorem dX4_years_217 : decode cX4_years 217 = .ok (.iload 6, 2) := by decide +kernel
theorem dX4_years_219 : decode cX4_years 219 = .ok (.bipush 10, 2) := by decide +kernel
theorem dX4_years_221 : decode cX4_years 221 = .ok (.isub, 1) := by decide +kernel
theorem dX4_years_222 : decode cX4_years 222 = .ok (.bipush 60, 2) := by decide +kernel
theorem dX4_years_224 : decode cX4_years 224 = .ok (.iload_n 2, 1) := by decide +kernel
theorem dX4_years_225 : decode cX4_years 225 = .ok (.imul, 1) := by decide +kernel
theorem dX4_years_226 : decode cX4_years 226 = .ok (.iload 4, 2) := by decide +kernel
theorem dX4_years_228 : decode cX4_years 228 = .ok (.iadd, 1) := by decide +kernel
theorem dX4_years_229 : decode cX4_years 229 = .ok (.iload 5, 2) := by decide +kernel
theorem dX4_years_231 : decode cX4_years 231 = .ok (.invokevirtual 185, 3) := by decide +kernel
theorem dX4_years_234 : decode cX4_years 234 = .ok (.invokevirtual 115, 3) := by decide +kernel
theorem dX4_years_237 : decode cX4_years 237 = .ok (.ireturn, 1) := by decide +kernel
theorem dX4_years_238 : decode cX4_years 238 = .ok (.aload_n 0, 1) := by decide +kernel
theorem dX4_years_239 : decode cX4_years 239 = .ok (.iload 6, 2) := by decide +kernel
theorem dX4_years_241 : decode cX4_years 241 = .ok (.ifCond .ne 10, 3) := by decide +kernel
theorem dX4_years_244 : decode cX4_years 244 = .ok (.aload_n 0, 1) := by decide +kernel
theorem dX4_years_245 : decode cX4_years 245 = .ok (.getfield 158, 3) := by decide +kernel
theorem dX4_years_248 : decode cX4_years 248 = .ok (.goto 33, 3) := by decide +kernel
theorem dX4_years_251 : decode cX4_years 251 = .ok (.iload 6, 2) := by decide +kernel
theorem dX4_years_253 : decode cX4_years 253 = .ok (.iconst 1, 1) := by decide +kernel
theorem dX4_years_254 : decode cX4_years 254 = .ok (.if_icmp .ne 10, 3) := by decide +kernel
theorem dX4_years_257 : decode cX4_years 257 = .ok (.aload_n 0, 1) := by decide +kernel
theorem dX4_years_258 : decode cX4_years 258 = .ok (.getfield 161, 3) := by decide +kernel
theorem dX4_years_261 : decode cX4_years 261 = .ok (.goto 20, 3) := by decide +kernel
theorem dX4_years_264 : decode cX4_years 264 = .ok (.iload 6, 2) := by decide +kernel
theorem dX4_years_266 : decode cX4_years 266 = .ok (.iconst 2, 1) := by decide +kernel
theorem dX4_years_267 : decode cX4_years 267 = .ok (.if_icmp .ne 10, 3) := by decide +kernel
theorem dX4_years_270 : decode cX4_years 270 = .ok (.aload_n 0, 1) := by decide +kernel
theorem dX4_years_271 : decode cX4_years 271 = .ok (.getfield 164, 3) := by decide +kernel
theorem dX4_years_274 : decode cX4_years 274 = .ok (.goto 7, 3) := by decide +kernel
theorem dX4_years_277 : decode cX4_years 277 = .ok (.aload_n 0, 1) := by decide +kernel
theorem dX4_years_278 : decode cX4_years 278 = .ok (.getfield 167, 3) := by decide +kernel
theorem dX4_years_281 : decode cX4_years 281 = .ok (.invokevirtual 115, 3) := by decide +kernel
theorem dX4_years_284 : decode cX4_years 284 = .ok (.ireturn, 1) := by decide +kernel
set_option maxRecDepth 20000 in
theorem ggX4_fair_X4_noProphet : GoodIn wsX4_fair wsX4_noProphet := goodIn_r _ [9, 10, 11, 12, 8, 13, 38, 39, 40, 41, 42, 43, 44, 45, 46, 47, 48, 49, 50, 51, 52, 53, 54, 55, 56, 57, 58, 59, 60, 61, 62, 63, 64] (by decide +kernel) (by decide +kernel)
set_option maxRecDepth 20000 in
theorem gX4_fair_X4_noProphet : GoodIn wsX4_fair (wsV RX4 135 RX4 yX4_noProphet wsX4_noProphet) := goodIn_app (goodIn_of _ (by decide +kernel)) ggX4_fair_X4_noProphet
set_option maxRecDepth 20000 in
theorem ggX4_fair_X4_in : GoodIn wsX4_fair wsX4_in := goodIn_r _ [13] (by decide +kernel) (by decide +kernel)
set_option maxRecDepth 20000 in
theorem gX4_fair_X4_in : GoodIn wsX4_fair (va_wsS RX4 68 yX4_in wsX4_in) := goodIn_app (goodIn_of _ (by decide +kernel)) ggX4_fair_X4_in
set_option maxRecDepth 20000 in
theorem ggX4_fair_X4_lost : GoodIn wsX4_fair wsX4_lost := goodIn_r _ [16, 17] (by decide +kernel) (by decide +kernel)
set_option maxRecDepth 20000 in
theorem gX4_fair_X4_lost : GoodIn wsX4_fair (va_wsS RX4 61 yX4_lost wsX4_lost) := goodIn_app (goodIn_of _ (by decide +kernel)) ggX4_fair_X4_lost
set_option maxRecDepth 20000 in
theorem ggX4_fair_X4_isIn : GoodIn wsX4_fair wsX4_isIn := goodIn_r _ [20] (by decide +kernel) (by decide +kernel)
set_option maxRecDepth 20000 in
theorem gX4_fair_X4_isIn : GoodIn wsX4_fair (va_wsS RX4 188 yX4_isIn wsX4_isIn) := goodIn_app (goodIn_of _ (by decide +kernel)) ggX4_fair_X4_isIn
set_option maxRecDepth 20000 in
theorem ggX4_fair_X4_isFraud : GoodIn wsX4_fair wsX4_isFraud := goodIn_r _ [24, 2, 25, 26, 27, 8, 28, 1, 38, 39, 40, 41, 42, 43, 44, 45, 46, 47, 48, 49, 50, 51, 52, 53, 54, 55, 56, 57, 58, 59, 60, 61, 62, 63, 64] (by decide +kernel) (by decide +kernel)
set_option maxRecDepth 20000 in
theorem gX4_fair_X4_isFraud : GoodIn wsX4_fair (wsV RX4 141 RX4 yX4_isFraud wsX4_isFraud) := goodIn_app (goodIn_of _ (by decide +kernel)) ggX4_fair_X4_isFraud
set_option maxRecDepth 20000 in
theorem ggX4_fair_X4_paysOf : GoodIn wsX4_fair wsX4_paysOf := goodIn_r _ [32, 33, 34, 38, 39, 40, 41, 42, 43, 44, 45, 46, 47, 48, 49, 50, 51, 52, 53, 54, 55, 56, 57, 58, 59, 60, 61, 62, 63, 64] (by decide +kernel) (by decide +kernel)
set_option maxRecDepth 20000 in
theorem gX4_fair_X4_paysOf : GoodIn wsX4_fair (wsV RX4 138 RX4 yX4_paysOf wsX4_paysOf) := goodIn_app (goodIn_of _ (by decide +kernel)) ggX4_fair_X4_paysOf
set_option maxRecDepth 20000 in
theorem ggX4_fair_X4_share : GoodIn wsX4_fair wsX4_share := goodIn_r _ [37] (by decide +kernel) (by decide +kernel)
set_option maxRecDepth 20000 in
theorem gX4_fair_X4_share : GoodIn wsX4_fair (va_wsS RX4 191 yX4_share wsX4_share) := goodIn_app (goodIn_of _ (by decide +kernel)) ggX4_fair_X4_share
