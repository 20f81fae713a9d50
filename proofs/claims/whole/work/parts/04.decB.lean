theorem dX3_many_42 : decode cX3_many 42 = .ok (.aload_n 0, 1) := by decide +kernel
theorem dX3_many_43 : decode cX3_many 43 = .ok (.invokevirtual 208, 3) := by decide +kernel
theorem dX3_many_46 : decode cX3_many 46 = .ok (.ireturn, 1) := by decide +kernel
theorem dX3_many_47 : decode cX3_many 47 = .ok (.aload_n 0, 1) := by decide +kernel
theorem dX3_many_48 : decode cX3_many 48 = .ok (.getfield 40, 3) := by decide +kernel
theorem dX3_many_51 : decode cX3_many 51 = .ok (.ireturn, 1) := by decide +kernel
theorem dX3_many_52 : decode cX3_many 52 = .ok (.bipush (-2), 2) := by decide +kernel
theorem dX3_many_54 : decode cX3_many 54 = .ok (.ireturn, 1) := by decide +kernel
theorem dX3_isWithin_0 : decode cX3_isWithin 0 = .ok (.iload_n 0, 1) := by decide +kernel
theorem dX3_isWithin_1 : decode cX3_isWithin 1 = .ok (.ifCond .lt 12, 3) := by decide +kernel
theorem dX3_isWithin_4 : decode cX3_isWithin 4 = .ok (.iload_n 0, 1) := by decide +kernel
theorem dX3_isWithin_5 : decode cX3_isWithin 5 = .ok (.iload_n 1, 1) := by decide +kernel
theorem dX3_isWithin_6 : decode cX3_isWithin 6 = .ok (.if_icmp .gt 7, 3) := by decide +kernel
theorem dX3_isWithin_9 : decode cX3_isWithin 9 = .ok (.iconst 1, 1) := by decide +kernel
theorem dX3_isWithin_10 : decode cX3_isWithin 10 = .ok (.goto 4, 3) := by decide +kernel
theorem dX3_isWithin_13 : decode cX3_isWithin 13 = .ok (.iconst 0, 1) := by decide +kernel
theorem dX3_isWithin_14 : decode cX3_isWithin 14 = .ok (.ireturn, 1) := by decide +kernel
theorem dX3_isSheet_0 : decode cX3_isSheet 0 = .ok (.iload_n 0, 1) := by decide +kernel
theorem dX3_isSheet_1 : decode cX3_isSheet 1 = .ok (.ifCond .lt 12, 3) := by decide +kernel
theorem dX3_isSheet_4 : decode cX3_isSheet 4 = .ok (.iload_n 0, 1) := by decide +kernel
theorem dX3_isSheet_5 : decode cX3_isSheet 5 = .ok (.iconst 4, 1) := by decide +kernel
theorem dX3_isSheet_6 : decode cX3_isSheet 6 = .ok (.if_icmp .ge 7, 3) := by decide +kernel
theorem dX3_isSheet_9 : decode cX3_isSheet 9 = .ok (.iconst 1, 1) := by decide +kernel
theorem dX3_isSheet_10 : decode cX3_isSheet 10 = .ok (.goto 4, 3) := by decide +kernel
theorem dX3_isSheet_13 : decode cX3_isSheet 13 = .ok (.iconst 0, 1) := by decide +kernel
theorem dX3_isSheet_14 : decode cX3_isSheet 14 = .ok (.ireturn, 1) := by decide +kernel
theorem dX3_isLane_0 : decode cX3_isLane 0 = .ok (.iload_n 0, 1) := by decide +kernel
theorem dX3_isLane_1 : decode cX3_isLane 1 = .ok (.ifCond .lt 12, 3) := by decide +kernel
theorem dX3_isLane_4 : decode cX3_isLane 4 = .ok (.iload_n 0, 1) := by decide +kernel
theorem dX3_isLane_5 : decode cX3_isLane 5 = .ok (.iconst 3, 1) := by decide +kernel
theorem dX3_isLane_6 : decode cX3_isLane 6 = .ok (.if_icmp .ge 7, 3) := by decide +kernel
theorem dX3_isLane_9 : decode cX3_isLane 9 = .ok (.iconst 1, 1) := by decide +kernel
theorem dX3_isLane_10 : decode cX3_isLane 10 = .ok (.goto 4, 3) := by decide +kernel
theorem dX3_isLane_13 : decode cX3_isLane 13 = .ok (.iconst 0, 1) := by decide +kernel
theorem dX3_isLane_14 : decode cX3_isLane 14 = .ok (.ireturn, 1) := by decide +kernel
set_option maxRecDepth 20000 in
theorem ggX3_isYearsQuestion_X3_isWithin : GoodIn wsX3_isYearsQuestion wsX3_isWithin := goodIn_r _ [4] (by decide +kernel) (by decide +kernel)
set_option maxRecDepth 20000 in
theorem gX3_isYearsQuestion_X3_isWithin : GoodIn wsX3_isYearsQuestion (va_wsS RX3 81 yX3_isWithin wsX3_isWithin) := goodIn_app (goodIn_of _ (by decide +kernel)) ggX3_isYearsQuestion_X3_isWithin
theorem dX3_isYearsQuestion_0 : decode cX3_isYearsQuestion 0 = .ok (.iload_n 0, 1) := by decide +kernel
theorem dX3_isYearsQuestion_1 : decode cX3_isYearsQuestion 1 = .ok (.iconst 3, 1) := by decide +kernel
theorem dX3_isYearsQuestion_2 : decode cX3_isYearsQuestion 2 = .ok (.invokestatic 81, 3) := by decide +kernel
theorem dX3_isYearsQuestion_5 : decode cX3_isYearsQuestion 5 = .ok (.ifCond .ne 14, 3) := by decide +kernel
theorem dX3_isYearsQuestion_8 : decode cX3_isYearsQuestion 8 = .ok (.iload_n 0, 1) := by decide +kernel
theorem dX3_isYearsQuestion_9 : decode cX3_isYearsQuestion 9 = .ok (.bipush 10, 2) := by decide +kernel
theorem dX3_isYearsQuestion_11 : decode cX3_isYearsQuestion 11 = .ok (.isub, 1) := by decide +kernel
theorem dX3_isYearsQuestion_12 : decode cX3_isYearsQuestion 12 = .ok (.iconst 3, 1) := by decide +kernel
theorem dX3_isYearsQuestion_13 : decode cX3_isYearsQuestion 13 = .ok (.invokestatic 81, 3) := by decide +kernel
theorem dX3_isYearsQuestion_16 : decode cX3_isYearsQuestion 16 = .ok (.ifCond .eq 7, 3) := by decide +kernel
theorem dX3_isYearsQuestion_19 : decode cX3_isYearsQuestion 19 = .ok (.iconst 1, 1) := by decide +kernel
theorem dX3_isYearsQuestion_20 : decode cX3_isYearsQuestion 20 = .ok (.goto 4, 3) := by decide +kernel
theorem dX3_isYearsQuestion_23 : decode cX3_isYearsQuestion 23 = .ok (.iconst 0, 1) := by decide +kernel
theorem dX3_isYearsQuestion_24 : decode cX3_isYearsQuestion 24 = .ok (.ireturn, 1) := by decide +kernel
theorem dX3_isEvent_0 : decode cX3_isEvent 0 = .ok (.iload_n 1, 1) := by decide +kernel
theorem dX3_isEvent_1 : decode cX3_isEvent 1 = .ok (.ifCond .lt 15, 3) := by decide +kernel
theorem dX3_isEvent_4 : decode cX3_isEvent 4 = .ok (.iload_n 1, 1) := by decide +kernel
theorem dX3_isEvent_5 : decode cX3_isEvent 5 = .ok (.aload_n 0, 1) := by decide +kernel
theorem dX3_isEvent_6 : decode cX3_isEvent 6 = .ok (.getfield 33, 3) := by decide +kernel
theorem dX3_isEvent_9 : decode cX3_isEvent 9 = .ok (.if_icmp .ge 7, 3) := by decide +kernel
theorem dX3_isEvent_12 : decode cX3_isEvent 12 = .ok (.iconst 1, 1) := by decide +kernel
theorem dX3_isEvent_13 : decode cX3_isEvent 13 = .ok (.goto 4, 3) := by decide +kernel
theorem dX3_isEvent_16 : decode cX3_isEvent 16 = .ok (.iconst 0, 1) := by decide +kernel
theorem dX3_isEvent_17 : decode cX3_isEvent 17 = .ok (.ireturn, 1) := by decide +kernel
theorem dX3_isProphet_0 : decode cX3_isProphet 0 = .ok (.iload_n 1, 1) := by decide +kernel
theorem dX3_isProphet_1 : decode cX3_isProphet 1 = .ok (.ifCond .lt 15, 3) := by decide +kernel
theorem dX3_isProphet_4 : decode cX3_isProphet 4 = .ok (.iload_n 1, 1) := by decide +kernel
theorem dX3_isProphet_5 : decode cX3_isProphet 5 = .ok (.aload_n 0, 1) := by decide +kernel
theorem dX3_isProphet_6 : decode cX3_isProphet 6 = .ok (.getfield 37, 3) := by decide +kernel
theorem dX3_isProphet_9 : decode cX3_isProphet 9 = .ok (.if_icmp .ge 7, 3) := by decide +kernel
theorem dX3_isProphet_12 : decode cX3_isProphet 12 = .ok (.iconst 1, 1) := by decide +kernel
theorem dX3_isProphet_13 : decode cX3_isProphet 13 = .ok (.goto 4, 3) := by decide +kernel
theorem dX3_isProphet_16 : decode cX3_isProphet 16 = .ok (.iconst 0, 1) := by decide +kernel
theorem dX3_isProphet_17 : decode cX3_isProphet 17 = .ok (.ireturn, 1) := by decide +kernel
theorem dX3_hasOffice_0 : decode cX3_hasOffice 0 = .ok (.aload_n 0, 1) := by decide +kernel
theorem dX3_hasOffice_1 : decode cX3_hasOffice 1 = .ok (.getfield 37, 3) := by decide +kernel
theorem dX3_hasOffice_4 : decode cX3_hasOffice 4 = .ok (.ifCond .le 7, 3) := by decide +kernel
theorem dX3_hasOffice_7 : decode cX3_hasOffice 7 = .ok (.iconst 1, 1) := by decide +kernel
theorem dX3_hasOffice_8 : decode cX3_hasOffice 8 = .ok (.goto 4, 3) := by decide +kernel
theorem dX3_hasOffice_11 : decode cX3_hasOffice 11 = .ok (.iconst 0, 1) := by decide +kernel
theorem dX3_hasOffice_12 : decode cX3_hasOffice 12 = .ok (.ireturn, 1) := by decide +kernel
theorem dX3_isIn_0 : decode cX3_isIn 0 = .ok (.iload_n 0, 1) := by decide +kernel
theorem dX3_isIn_1 : decode cX3_isIn 1 = .ok (.iload_n 1, 1) := by decide +kernel
theorem dX3_isIn_2 : decode cX3_isIn 2 = .ok (.ishr, 1) := by decide +kernel
theorem dX3_isIn_3 : decode cX3_isIn 3 = .ok (.iconst 1, 1) := by decide +kernel
theorem dX3_isIn_4 : decode cX3_isIn 4 = .ok (.iand, 1) := by decide +kernel
theorem dX3_isIn_5 : decode cX3_isIn 5 = .ok (.iconst 1, 1) := by decide +kernel
theorem dX3_isIn_6 : decode cX3_isIn 6 = .ok (.if_icmp .ne 7, 3) := by decide +kernel
theorem dX3_isIn_9 : decode cX3_isIn 9 = .ok (.iconst 1, 1) := by decide +kernel
theorem dX3_isIn_10 : decode cX3_isIn 10 = .ok (.goto 4, 3) := by decide +kernel
theorem dX3_isIn_13 : decode cX3_isIn 13 = .ok (.iconst 0, 1) := by decide +kernel
theorem dX3_isIn_14 : decode cX3_isIn 14 = .ok (.ireturn, 1) := by decide +kernel
theorem dX3_allEvents_0 : decode cX3_allEvents 0 = .ok (.iconst 1, 1) := by decide +kernel
theorem dX3_allEvents_1 : decode cX3_allEvents 1 = .ok (.aload_n 0, 1) := by decide +kernel
theorem dX3_allEvents_2 : decode cX3_allEvents 2 = .ok (.getfield 33, 3) := by decide +kernel
theorem dX3_allEvents_5 : decode cX3_allEvents 5 = .ok (.ishl, 1) := by decide +kernel
theorem dX3_allEvents_6 : decode cX3_allEvents 6 = .ok (.iconst 1, 1) := by decide +kernel
theorem dX3_allEvents_7 : decode cX3_allEvents 7 = .ok (.isub, 1) := by decide +kernel
theorem dX3_allEvents_8 : decode cX3_allEvents 8 = .ok (.ireturn, 1) := by decide +kernel
set_option maxRecDepth 20000 in
theorem ggX3_isEventSet_X3_allEvents : GoodIn wsX3_isEventSet wsX3_allEvents := goodIn_r _ [5, 6, 10, 11, 12, 13, 14, 15, 16, 17, 18] (by decide +kernel) (by decide +kernel)
set_option maxRecDepth 20000 in
theorem gX3_isEventSet_X3_allEvents : GoodIn wsX3_isEventSet (wsV RX3 142 RX3 yX3_allEvents wsX3_allEvents) := goodIn_app (goodIn_of _ (by decide +kernel)) ggX3_isEventSet_X3_allEvents
set_option maxRecDepth 20000 in
theorem ggX3_isEventSet_X3_isWithin : GoodIn wsX3_isEventSet wsX3_isWithin := goodIn_r _ [9] (by decide +kernel) (by decide +kernel)
set_option maxRecDepth 20000 in
theorem gX3_isEventSet_X3_isWithin : GoodIn wsX3_isEventSet (va_wsS RX3 81 yX3_isWithin wsX3_isWithin) := goodIn_app (goodIn_of _ (by decide +kernel)) ggX3_isEventSet_X3_isWithin
theorem dX3_isEventSet_0 : decode cX3_isEventSet 0 = .ok (.iload_n 1, 1) := by decide +kernel
theorem dX3_isEventSet_1 : decode cX3_isEventSet 1 = .ok (.aload_n 0, 1) := by decide +kernel
theorem dX3_isEventSet_2 : decode cX3_isEventSet 2 = .ok (.invokevirtual 142, 3) := by decide +kernel
theorem dX3_isEventSet_5 : decode cX3_isEventSet 5 = .ok (.invokestatic 81, 3) := by decide +kernel
theorem dX3_isEventSet_8 : decode cX3_isEventSet 8 = .ok (.ireturn, 1) := by decide +kernel
set_option maxRecDepth 20000 in
theorem ggX3_areEventSets_X3_isEventSet : GoodIn wsX3_areEventSets wsX3_isEventSet := goodIn_r _ [5, 6, 7, 8, 4, 9, 10, 11, 12, 13, 14, 15, 16, 17, 18, 19, 20, 21, 22] (by decide +kernel) (by decide +kernel)
set_option maxRecDepth 20000 in
theorem gX3_areEventSets_X3_isEventSet : GoodIn wsX3_areEventSets (wsV RX3 104 RX3 yX3_isEventSet wsX3_isEventSet) := goodIn_app (goodIn_of _ (by decide +kernel)) ggX3_areEventSets_X3_isEventSet
theorem dX3_areEventSets_0 : decode cX3_areEventSets 0 = .ok (.iload_n 2, 1) := by decide +kernel
theorem dX3_areEventSets_1 : decode cX3_areEventSets 1 = .ok (.istore 4, 2) := by decide +kernel
theorem dX3_areEventSets_3 : decode cX3_areEventSets 3 = .ok (.iload 4, 2) := by decide +kernel
theorem dX3_areEventSets_5 : decode cX3_areEventSets 5 = .ok (.iload_n 3, 1) := by decide +kernel
theorem dX3_areEventSets_6 : decode cX3_areEventSets 6 = .ok (.if_icmp .ge 22, 3) := by decide +kernel
theorem dX3_areEventSets_9 : decode cX3_areEventSets 9 = .ok (.aload_n 0, 1) := by decide +kernel
theorem dX3_areEventSets_10 : decode cX3_areEventSets 10 = .ok (.aload_n 1, 1) := by decide +kernel
theorem dX3_areEventSets_11 : decode cX3_areEventSets 11 = .ok (.iload 4, 2) := by decide +kernel
theorem dX3_areEventSets_13 : decode cX3_areEventSets 13 = .ok (.iaload, 1) := by decide +kernel
theorem dX3_areEventSets_14 : decode cX3_areEventSets 14 = .ok (.invokevirtual 104, 3) := by decide +kernel
theorem dX3_areEventSets_17 : decode cX3_areEventSets 17 = .ok (.ifCond .ne 5, 3) := by decide +kernel
theorem dX3_areEventSets_20 : decode cX3_areEventSets 20 = .ok (.iconst 0, 1) := by decide +kernel
theorem dX3_areEventSets_21 : decode cX3_areEventSets 21 = .ok (.ireturn, 1) := by decide +kernel
theorem dX3_areEventSets_22 : decode cX3_areEventSets 22 = .ok (.iinc 4 1, 3) := by decide +kernel
theorem dX3_areEventSets_25 : decode cX3_areEventSets 25 = .ok (.goto (-22), 3) := by decide +kernel
theorem dX3_areEventSets_28 : decode cX3_areEventSets 28 = .ok (.iconst 1, 1) := by decide +kernel
theorem dX3_areEventSets_29 : decode cX3_areEventSets 29 = .ok (.ireturn, 1) := by decide +kernel
theorem dX3_faulty_0 : decode cX3_faulty 0 = .ok (.aload_n 0, 1) := by decide +kernel
theorem dX3_faulty_1 : decode cX3_faulty 1 = .ok (.iload_n 1, 1) := by decide +kernel
theorem dX3_faulty_2 : decode cX3_faulty 2 = .ok (.putfield 46, 3) := by decide +kernel
theorem dX3_faulty_5 : decode cX3_faulty 5 = .ok (.bipush (-10), 2) := by decide +kernel
theorem dX3_faulty_7 : decode cX3_faulty 7 = .ok (.iload_n 1, 1) := by decide +kernel
theorem dX3_faulty_8 : decode cX3_faulty 8 = .ok (.isub, 1) := by decide +kernel
theorem dX3_faulty_9 : decode cX3_faulty 9 = .ok (.ireturn, 1) := by decide +kernel
theorem dX3_isDigit_0 : decode cX3_isDigit 0 = .ok (.iload_n 0, 1) := by decide +kernel
theorem dX3_isDigit_1 : decode cX3_isDigit 1 = .ok (.bipush 48, 2) := by decide +kernel
theorem dX3_isDigit_3 : decode cX3_isDigit 3 = .ok (.if_icmp .lt 15, 3) := by decide +kernel
theorem dX3_isDigit_6 : decode cX3_isDigit 6 = .ok (.iload_n 0, 1) := by decide +kernel
theorem dX3_isDigit_7 : decode cX3_isDigit 7 = .ok (.bipush 48, 2) := by decide +kernel
theorem dX3_isDigit_9 : decode cX3_isDigit 9 = .ok (.iload_n 1, 1) := by decide +kernel
theorem dX3_isDigit_10 : decode cX3_isDigit 10 = .ok (.iadd, 1) := by decide +kernel
theorem dX3_isDigit_11 : decode cX3_isDigit 11 = .ok (.if_icmp .gt 7, 3) := by decide +kernel
theorem dX3_isDigit_14 : decode cX3_isDigit 14 = .ok (.iconst 1, 1) := by decide +kernel
theorem dX3_isDigit_15 : decode cX3_isDigit 15 = .ok (.goto 4, 3) := by decide +kernel
theorem dX3_isDigit_18 : decode cX3_isDigit 18 = .ok (.iconst 0, 1) := by decide +kernel
theorem dX3_isDigit_19 : decode cX3_isDigit 19 = .ok (.ireturn, 1) := by decide +kernel
theorem dX3_kindOf_0 : decode cX3_kindOf 0 = .ok (.iload_n 0, 1) := by decide +kernel
theorem dX3_kindOf_1 : decode cX3_kindOf 1 = .ok (.lookupswitch 41 #[(108, 39), (109, 35), (115, 37)], 35) := by decide +kernel
theorem dX3_kindOf_36 : decode cX3_kindOf 36 = .ok (.iconst 0, 1) := by decide +kernel
theorem dX3_kindOf_37 : decode cX3_kindOf 37 = .ok (.ireturn, 1) := by decide +kernel
theorem dX3_kindOf_38 : decode cX3_kindOf 38 = .ok (.iconst 1, 1) := by decide +kernel
theorem dX3_kindOf_39 : decode cX3_kindOf 39 = .ok (.ireturn, 1) := by decide +kernel
theorem dX3_kindOf_40 : decode cX3_kindOf 40 = .ok (.iconst 2, 1) := by decide +kernel
theorem dX3_kindOf_41 : decode cX3_kindOf 41 = .ok (.ireturn, 1) := by decide +kernel
theorem dX3_kindOf_42 : decode cX3_kindOf 42 = .ok (.bipush (-9), 2) := by decide +kernel
theorem dX3_kindOf_44 : decode cX3_kindOf 44 = .ok (.ireturn, 1) := by decide +kernel
set_option maxRecDepth 20000 in
theorem ggX3_firstFaultPlace_X3_isDigit : GoodIn wsX3_firstFaultPlace wsX3_isDigit := goodIn_r _ [4] (by decide +kernel) (by decide +kernel)
set_option maxRecDepth 20000 in
theorem gX3_firstFaultPlace_X3_isDigit : GoodIn wsX3_firstFaultPlace (va_wsS RX3 211 yX3_isDigit wsX3_isDigit) := goodIn_app (goodIn_of _ (by decide +kernel)) ggX3_firstFaultPlace_X3_isDigit
set_option maxRecDepth 20000 in
theorem ggX3_firstFaultPlace_X3_fitsProphet : GoodIn wsX3_firstFaultPlace wsX3_fitsProphet := goodIn_r _ [7, 8, 9, 3, 10, 1, 2, 4] (by decide +kernel) (by decide +kernel)
set_option maxRecDepth 20000 in
theorem gX3_firstFaultPlace_X3_fitsProphet : GoodIn wsX3_firstFaultPlace (va_wsS RX3 214 yX3_fitsProphet wsX3_fitsProphet) := goodIn_app (goodIn_of _ (by decide +kernel)) ggX3_firstFaultPlace_X3_fitsProphet
theorem dX3_firstFaultPlace_0 : decode cX3_firstFaultPlace 0 = .ok (.iload_n 1, 1) := by decide +kernel
theorem dX3_firstFaultPlace_1 : decode cX3_firstFaultPlace 1 = .ok (.iload_n 2, 1) := by decide +kernel
theorem dX3_firstFaultPlace_2 : decode cX3_firstFaultPlace 2 = .ok (.if_icmp .ge 11, 3) := by decide +kernel
theorem dX3_firstFaultPlace_5 : decode cX3_firstFaultPlace 5 = .ok (.aload_n 0, 1) := by decide +kernel
theorem dX3_firstFaultPlace_6 : decode cX3_firstFaultPlace 6 = .ok (.iload_n 1, 1) := by decide +kernel
theorem dX3_firstFaultPlace_7 : decode cX3_firstFaultPlace 7 = .ok (.iaload, 1) := by decide +kernel
theorem dX3_firstFaultPlace_8 : decode cX3_firstFaultPlace 8 = .ok (.bipush 119, 2) := by decide +kernel
theorem dX3_firstFaultPlace_10 : decode cX3_firstFaultPlace 10 = .ok (.if_icmp .eq 5, 3) := by decide +kernel
theorem dX3_firstFaultPlace_13 : decode cX3_firstFaultPlace 13 = .ok (.iload_n 1, 1) := by decide +kernel
theorem dX3_firstFaultPlace_14 : decode cX3_firstFaultPlace 14 = .ok (.ireturn, 1) := by decide +kernel
theorem dX3_firstFaultPlace_15 : decode cX3_firstFaultPlace 15 = .ok (.iload_n 1, 1) := by decide +kernel
theorem dX3_firstFaultPlace_16 : decode cX3_firstFaultPlace 16 = .ok (.iconst 1, 1) := by decide +kernel
theorem dX3_firstFaultPlace_17 : decode cX3_firstFaultPlace 17 = .ok (.iadd, 1) := by decide +kernel
theorem dX3_firstFaultPlace_18 : decode cX3_firstFaultPlace 18 = .ok (.istore_n 3, 1) := by decide +kernel
theorem dX3_firstFaultPlace_19 : decode cX3_firstFaultPlace 19 = .ok (.iconst 0, 1) := by decide +kernel
theorem dX3_firstFaultPlace_20 : decode cX3_firstFaultPlace 20 = .ok (.istore 4, 2) := by decide +kernel
theorem dX3_firstFaultPlace_22 : decode cX3_firstFaultPlace 22 = .ok (.iload 4, 2) := by decide +kernel
theorem dX3_firstFaultPlace_24 : decode cX3_firstFaultPlace 24 = .ok (.iconst 5, 1) := by decide +kernel
theorem dX3_firstFaultPlace_25 : decode cX3_firstFaultPlace 25 = .ok (.if_icmp .ge 49, 3) := by decide +kernel
theorem dX3_firstFaultPlace_28 : decode cX3_firstFaultPlace 28 = .ok (.iload_n 3, 1) := by decide +kernel
theorem dX3_firstFaultPlace_29 : decode cX3_firstFaultPlace 29 = .ok (.iload_n 2, 1) := by decide +kernel
theorem dX3_firstFaultPlace_30 : decode cX3_firstFaultPlace 30 = .ok (.if_icmp .ge 44, 3) := by decide +kernel
theorem dX3_firstFaultPlace_33 : decode cX3_firstFaultPlace 33 = .ok (.aload_n 0, 1) := by decide +kernel
theorem dX3_firstFaultPlace_34 : decode cX3_firstFaultPlace 34 = .ok (.iload_n 3, 1) := by decide +kernel
theorem dX3_firstFaultPlace_35 : decode cX3_firstFaultPlace 35 = .ok (.iaload, 1) := by decide +kernel
theorem dX3_firstFaultPlace_36 : decode cX3_firstFaultPlace 36 = .ok (.bipush 47, 2) := by decide +kernel
theorem dX3_firstFaultPlace_38 : decode cX3_firstFaultPlace 38 = .ok (.if_icmp .ne 36, 3) := by decide +kernel
theorem dX3_firstFaultPlace_41 : decode cX3_firstFaultPlace 41 = .ok (.iload_n 3, 1) := by decide +kernel
theorem dX3_firstFaultPlace_42 : decode cX3_firstFaultPlace 42 = .ok (.iconst 1, 1) := by decide +kernel
theorem dX3_firstFaultPlace_43 : decode cX3_firstFaultPlace 43 = .ok (.iadd, 1) := by decide +kernel
theorem dX3_firstFaultPlace_44 : decode cX3_firstFaultPlace 44 = .ok (.iload_n 2, 1) := by decide +kernel
theorem dX3_firstFaultPlace_45 : decode cX3_firstFaultPlace 45 = .ok (.if_icmp .ge 16, 3) := by decide +kernel
theorem dX3_firstFaultPlace_48 : decode cX3_firstFaultPlace 48 = .ok (.aload_n 0, 1) := by decide +kernel
theorem dX3_firstFaultPlace_49 : decode cX3_firstFaultPlace 49 = .ok (.iload_n 3, 1) := by decide +kernel
theorem dX3_firstFaultPlace_50 : decode cX3_firstFaultPlace 50 = .ok (.iconst 1, 1) := by decide +kernel
theorem dX3_firstFaultPlace_51 : decode cX3_firstFaultPlace 51 = .ok (.iadd, 1) := by decide +kernel
theorem dX3_firstFaultPlace_52 : decode cX3_firstFaultPlace 52 = .ok (.iaload, 1) := by decide +kernel
theorem dX3_firstFaultPlace_53 : decode cX3_firstFaultPlace 53 = .ok (.bipush 9, 2) := by decide +kernel
theorem dX3_firstFaultPlace_55 : decode cX3_firstFaultPlace 55 = .ok (.invokestatic 211, 3) := by decide +kernel
theorem dX3_firstFaultPlace_58 : decode cX3_firstFaultPlace 58 = .ok (.ifCond .ne 7, 3) := by decide +kernel
theorem dX3_firstFaultPlace_61 : decode cX3_firstFaultPlace 61 = .ok (.iload_n 3, 1) := by decide +kernel
theorem dX3_firstFaultPlace_62 : decode cX3_firstFaultPlace 62 = .ok (.iconst 1, 1) := by decide +kernel
theorem dX3_firstFaultPlace_63 : decode cX3_firstFaultPlace 63 = .ok (.iadd, 1) := by decide +kernel
theorem dX3_firstFaultPlace_64 : decode cX3_firstFaultPlace 64 = .ok (.ireturn, 1) := by decide +kernel
theorem dX3_firstFaultPlace_65 : decode cX3_firstFaultPlace 65 = .ok (.iinc 3 2, 3) := by decide +kernel
theorem dX3_firstFaultPlace_68 : decode cX3_firstFaultPlace 68 = .ok (.iinc 4 1, 3) := by decide +kernel
theorem dX3_firstFaultPlace_71 : decode cX3_firstFaultPlace 71 = .ok (.goto (-49), 3) := by decide +kernel
theorem dX3_firstFaultPlace_74 : decode cX3_firstFaultPlace 74 = .ok (.iload_n 3, 1) := by decide +kernel
theorem dX3_firstFaultPlace_75 : decode cX3_firstFaultPlace 75 = .ok (.istore 4, 2) := by decide +kernel
theorem dX3_firstFaultPlace_77 : decode cX3_firstFaultPlace 77 = .ok (.iload 4, 2) := by decide +kernel
theorem dX3_firstFaultPlace_79 : decode cX3_firstFaultPlace 79 = .ok (.iload_n 1, 1) := by decide +kernel
theorem dX3_firstFaultPlace_80 : decode cX3_firstFaultPlace 80 = .ok (.iconst 1, 1) := by decide +kernel
theorem dX3_firstFaultPlace_81 : decode cX3_firstFaultPlace 81 = .ok (.iadd, 1) := by decide +kernel
theorem dX3_firstFaultPlace_82 : decode cX3_firstFaultPlace 82 = .ok (.if_icmp .ne 6, 3) := by decide +kernel
theorem dX3_firstFaultPlace_85 : decode cX3_firstFaultPlace 85 = .ok (.iload 4, 2) := by decide +kernel
theorem dX3_firstFaultPlace_87 : decode cX3_firstFaultPlace 87 = .ok (.ireturn, 1) := by decide +kernel
theorem dX3_firstFaultPlace_88 : decode cX3_firstFaultPlace 88 = .ok (.iconst 0, 1) := by decide +kernel
theorem dX3_firstFaultPlace_89 : decode cX3_firstFaultPlace 89 = .ok (.istore 5, 2) := by decide +kernel
theorem dX3_firstFaultPlace_91 : decode cX3_firstFaultPlace 91 = .ok (.iload 5, 2) := by decide +kernel
theorem dX3_firstFaultPlace_93 : decode cX3_firstFaultPlace 93 = .ok (.iconst 4, 1) := by decide +kernel
theorem dX3_firstFaultPlace_94 : decode cX3_firstFaultPlace 94 = .ok (.if_icmp .ge 55, 3) := by decide +kernel
theorem dX3_firstFaultPlace_97 : decode cX3_firstFaultPlace 97 = .ok (.iload_n 3, 1) := by decide +kernel
theorem dX3_firstFaultPlace_98 : decode cX3_firstFaultPlace 98 = .ok (.iload_n 2, 1) := by decide +kernel
theorem dX3_firstFaultPlace_99 : decode cX3_firstFaultPlace 99 = .ok (.if_icmp .ge 50, 3) := by decide +kernel
theorem dX3_firstFaultPlace_102 : decode cX3_firstFaultPlace 102 = .ok (.iconst 0, 1) := by decide +kernel
theorem dX3_firstFaultPlace_103 : decode cX3_firstFaultPlace 103 = .ok (.istore 6, 2) := by decide +kernel
theorem dX3_firstFaultPlace_105 : decode cX3_firstFaultPlace 105 = .ok (.iload 6, 2) := by decide +kernel
theorem dX3_firstFaultPlace_107 : decode cX3_firstFaultPlace 107 = .ok (.iconst 5, 1) := by decide +kernel
theorem dX3_firstFaultPlace_108 : decode cX3_firstFaultPlace 108 = .ok (.if_icmp .ge 32, 3) := by decide +kernel
theorem dX3_firstFaultPlace_111 : decode cX3_firstFaultPlace 111 = .ok (.iload_n 3, 1) := by decide +kernel
theorem dX3_firstFaultPlace_112 : decode cX3_firstFaultPlace 112 = .ok (.iload 6, 2) := by decide +kernel
theorem dX3_firstFaultPlace_114 : decode cX3_firstFaultPlace 114 = .ok (.iadd, 1) := by decide +kernel
theorem dX3_firstFaultPlace_115 : decode cX3_firstFaultPlace 115 = .ok (.iload_n 2, 1) := by decide +kernel
theorem dX3_firstFaultPlace_116 : decode cX3_firstFaultPlace 116 = .ok (.if_icmp .ge 13, 3) := by decide +kernel
theorem dX3_firstFaultPlace_119 : decode cX3_firstFaultPlace 119 = .ok (.aload_n 0, 1) := by decide +kernel
theorem dX3_firstFaultPlace_120 : decode cX3_firstFaultPlace 120 = .ok (.iload_n 3, 1) := by decide +kernel
theorem dX3_firstFaultPlace_121 : decode cX3_firstFaultPlace 121 = .ok (.iload 6, 2) := by decide +kernel
theorem dX3_firstFaultPlace_123 : decode cX3_firstFaultPlace 123 = .ok (.invokestatic 214, 3) := by decide +kernel
theorem dX3_firstFaultPlace_126 : decode cX3_firstFaultPlace 126 = .ok (.ifCond .ne 8, 3) := by decide +kernel
theorem dX3_firstFaultPlace_129 : decode cX3_firstFaultPlace 129 = .ok (.iload_n 3, 1) := by decide +kernel
theorem dX3_firstFaultPlace_130 : decode cX3_firstFaultPlace 130 = .ok (.iload 6, 2) := by decide +kernel
theorem dX3_firstFaultPlace_132 : decode cX3_firstFaultPlace 132 = .ok (.iadd, 1) := by decide +kernel
theorem dX3_firstFaultPlace_133 : decode cX3_firstFaultPlace 133 = .ok (.ireturn, 1) := by decide +kernel
theorem dX3_firstFaultPlace_134 : decode cX3_firstFaultPlace 134 = .ok (.iinc 6 1, 3) := by decide +kernel
theorem dX3_firstFaultPlace_137 : decode cX3_firstFaultPlace 137 = .ok (.goto (-32), 3) := by decide +kernel
theorem dX3_firstFaultPlace_140 : decode cX3_firstFaultPlace 140 = .ok (.iinc 3 5, 3) := by decide +kernel
theorem dX3_firstFaultPlace_143 : decode cX3_firstFaultPlace 143 = .ok (.iinc 5 1, 3) := by decide +kernel
theorem dX3_firstFaultPlace_146 : decode cX3_firstFaultPlace 146 = .ok (.goto (-55), 3) := by decide +kernel
theorem dX3_firstFaultPlace_149 : decode cX3_firstFaultPlace 149 = .ok (.iload_n 3, 1) := by decide +kernel
theorem dX3_firstFaultPlace_150 : decode cX3_firstFaultPlace 150 = .ok (.iload_n 2, 1) := by decide +kernel
theorem dX3_firstFaultPlace_151 : decode cX3_firstFaultPlace 151 = .ok (.if_icmp .ne 14, 3) := by decide +kernel
theorem dX3_firstFaultPlace_154 : decode cX3_firstFaultPlace 154 = .ok (.iload_n 3, 1) := by decide +kernel
theorem dX3_firstFaultPlace_155 : decode cX3_firstFaultPlace 155 = .ok (.iload 4, 2) := by decide +kernel
theorem dX3_firstFaultPlace_157 : decode cX3_firstFaultPlace 157 = .ok (.if_icmp .le 8, 3) := by decide +kernel
theorem dX3_firstFaultPlace_160 : decode cX3_firstFaultPlace 160 = .ok (.bipush (-9), 2) := by decide +kernel
theorem dX3_firstFaultPlace_162 : decode cX3_firstFaultPlace 162 = .ok (.goto 4, 3) := by decide +kernel
theorem dX3_firstFaultPlace_165 : decode cX3_firstFaultPlace 165 = .ok (.iload_n 3, 1) := by decide +kernel
theorem dX3_firstFaultPlace_166 : decode cX3_firstFaultPlace 166 = .ok (.ireturn, 1) := by decide +kernel
set_option maxRecDepth 20000 in
theorem ggX3_fitsProphet_X3_kindOf : GoodIn wsX3_fitsProphet wsX3_kindOf := goodIn_r _ [4] (by decide +kernel) (by decide +kernel)
set_option maxRecDepth 20000 in
theorem gX3_fitsProphet_X3_kindOf : GoodIn wsX3_fitsProphet (va_wsS RX3 217 yX3_kindOf wsX3_kindOf) := goodIn_app (goodIn_of _ (by decide +kernel)) ggX3_fitsProphet_X3_kindOf
set_option maxRecDepth 20000 in
theorem ggX3_fitsProphet_X3_isDigit : GoodIn wsX3_fitsProphet wsX3_isDigit := goodIn_r _ [7] (by decide +kernel) (by decide +kernel)
set_option maxRecDepth 20000 in
theorem gX3_fitsProphet_X3_isDigit : GoodIn wsX3_fitsProphet (va_wsS RX3 211 yX3_isDigit wsX3_isDigit) := goodIn_app (goodIn_of _ (by decide +kernel)) ggX3_fitsProphet_X3_isDigit
theorem dX3_fitsProphet_0 : decode cX3_fitsProphet 0 = .ok (.aload_n 0, 1) := by decide +kernel
theorem dX3_fitsProphet_1 : decode cX3_fitsProphet 1 = .ok (.iload_n 1, 1) := by decide +kernel
theorem dX3_fitsProphet_2 : decode cX3_fitsProphet 2 = .ok (.iload_n 2, 1) := by decide +kernel
theorem dX3_fitsProphet_3 : decode cX3_fitsProphet 3 = .ok (.iadd, 1) := by decide +kernel
theorem dX3_fitsProphet_4 : decode cX3_fitsProphet 4 = .ok (.iaload, 1) := by decide +kernel
theorem dX3_fitsProphet_5 : decode cX3_fitsProphet 5 = .ok (.istore_n 3, 1) := by decide +kernel
theorem dX3_fitsProphet_6 : decode cX3_fitsProphet 6 = .ok (.iload_n 2, 1) := by decide +kernel
theorem dX3_fitsProphet_7 : decode cX3_fitsProphet 7 = .ok (.tableswitch 69 0 3 #[29, 41, 56, 63], 29) := by decide +kernel
theorem dX3_fitsProphet_36 : decode cX3_fitsProphet 36 = .ok (.iload_n 3, 1) := by decide +kernel
theorem dX3_fitsProphet_37 : decode cX3_fitsProphet 37 = .ok (.bipush 59, 2) := by decide +kernel
theorem dX3_fitsProphet_39 : decode cX3_fitsProphet 39 = .ok (.if_icmp .ne 7, 3) := by decide +kernel
theorem dX3_fitsProphet_42 : decode cX3_fitsProphet 42 = .ok (.iconst 1, 1) := by decide +kernel
theorem dX3_fitsProphet_43 : decode cX3_fitsProphet 43 = .ok (.goto 4, 3) := by decide +kernel
theorem dX3_fitsProphet_46 : decode cX3_fitsProphet 46 = .ok (.iconst 0, 1) := by decide +kernel
theorem dX3_fitsProphet_47 : decode cX3_fitsProphet 47 = .ok (.ireturn, 1) := by decide +kernel
theorem dX3_fitsProphet_48 : decode cX3_fitsProphet 48 = .ok (.iload_n 3, 1) := by decide +kernel
theorem dX3_fitsProphet_49 : decode cX3_fitsProphet 49 = .ok (.invokestatic 217, 3) := by decide +kernel
theorem dX3_fitsProphet_52 : decode cX3_fitsProphet 52 = .ok (.bipush (-9), 2) := by decide +kernel
theorem dX3_fitsProphet_54 : decode cX3_fitsProphet 54 = .ok (.if_icmp .eq 7, 3) := by decide +kernel
theorem dX3_fitsProphet_57 : decode cX3_fitsProphet 57 = .ok (.iconst 1, 1) := by decide +kernel
theorem dX3_fitsProphet_58 : decode cX3_fitsProphet 58 = .ok (.goto 4, 3) := by decide +kernel
theorem dX3_fitsProphet_61 : decode cX3_fitsProphet 61 = .ok (.iconst 0, 1) := by decide +kernel
theorem dX3_fitsProphet_62 : decode cX3_fitsProphet 62 = .ok (.ireturn, 1) := by decide +kernel
theorem dX3_fitsProphet_63 : decode cX3_fitsProphet 63 = .ok (.iload_n 3, 1) := by decide +kernel
theorem dX3_fitsProphet_64 : decode cX3_fitsProphet 64 = .ok (.bipush 9, 2) := by decide +kernel
theorem dX3_fitsProphet_66 : decode cX3_fitsProphet 66 = .ok (.invokestatic 211, 3) := by decide +kernel
theorem dX3_fitsProphet_69 : decode cX3_fitsProphet 69 = .ok (.ireturn, 1) := by decide +kernel
theorem dX3_fitsProphet_70 : decode cX3_fitsProphet 70 = .ok (.iload_n 3, 1) := by decide +kernel
theorem dX3_fitsProphet_71 : decode cX3_fitsProphet 71 = .ok (.iconst 3, 1) := by decide +kernel
theorem dX3_fitsProphet_72 : decode cX3_fitsProphet 72 = .ok (.invokestatic 211, 3) := by decide +kernel
theorem dX3_fitsProphet_75 : decode cX3_fitsProphet 75 = .ok (.ireturn, 1) := by decide +kernel
theorem dX3_fitsProphet_76 : decode cX3_fitsProphet 76 = .ok (.iload_n 3, 1) := by decide +kernel
theorem dX3_fitsProphet_77 : decode cX3_fitsProphet 77 = .ok (.aload_n 0, 1) := by decide +kernel
theorem dX3_fitsProphet_78 : decode cX3_fitsProphet 78 = .ok (.iload_n 1, 1) := by decide +kernel
theorem dX3_fitsProphet_79 : decode cX3_fitsProphet 79 = .ok (.iconst 3, 1) := by decide +kernel
theorem dX3_fitsProphet_80 : decode cX3_fitsProphet 80 = .ok (.iadd, 1) := by decide +kernel
theorem dX3_fitsProphet_81 : decode cX3_fitsProphet 81 = .ok (.iaload, 1) := by decide +kernel
theorem dX3_fitsProphet_82 : decode cX3_fitsProphet 82 = .ok (.bipush 51, 2) := by decide +kernel
theorem dX3_fitsProphet_84 : decode cX3_fitsProphet 84 = .ok (.if_icmp .ne 7, 3) := by decide +kernel
theorem dX3_fitsProphet_87 : decode cX3_fitsProphet 87 = .ok (.iconst 1, 1) := by decide +kernel
theorem dX3_fitsProphet_88 : decode cX3_fitsProphet 88 = .ok (.goto 5, 3) := by decide +kernel
theorem dX3_fitsProphet_91 : decode cX3_fitsProphet 91 = .ok (.bipush 9, 2) := by decide +kernel
theorem dX3_fitsProphet_93 : decode cX3_fitsProphet 93 = .ok (.invokestatic 211, 3) := by decide +kernel
theorem dX3_fitsProphet_96 : decode cX3_fitsProphet 96 = .ok (.ireturn, 1) := by decide +kernel
theorem dX3_behindEvents_0 : decode cX3_behindEvents 0 = .ok (.iload_n 1, 1) := by decide +kernel
theorem dX3_behindEvents_1 : decode cX3_behindEvents 1 = .ok (.iconst 1, 1) := by decide +kernel
theorem dX3_behindEvents_2 : decode cX3_behindEvents 2 = .ok (.iadd, 1) := by decide +kernel
theorem dX3_behindEvents_3 : decode cX3_behindEvents 3 = .ok (.istore_n 3, 1) := by decide +kernel
theorem dX3_behindEvents_4 : decode cX3_behindEvents 4 = .ok (.iconst 0, 1) := by decide +kernel
theorem dX3_behindEvents_5 : decode cX3_behindEvents 5 = .ok (.istore 4, 2) := by decide +kernel
theorem dX3_behindEvents_7 : decode cX3_behindEvents 7 = .ok (.iload 4, 2) := by decide +kernel
theorem dX3_behindEvents_9 : decode cX3_behindEvents 9 = .ok (.iconst 5, 1) := by decide +kernel
theorem dX3_behindEvents_10 : decode cX3_behindEvents 10 = .ok (.if_icmp .ge 25, 3) := by decide +kernel
theorem dX3_behindEvents_13 : decode cX3_behindEvents 13 = .ok (.iload_n 3, 1) := by decide +kernel
theorem dX3_behindEvents_14 : decode cX3_behindEvents 14 = .ok (.iload_n 2, 1) := by decide +kernel
theorem dX3_behindEvents_15 : decode cX3_behindEvents 15 = .ok (.if_icmp .ge 20, 3) := by decide +kernel
theorem dX3_behindEvents_18 : decode cX3_behindEvents 18 = .ok (.aload_n 0, 1) := by decide +kernel
theorem dX3_behindEvents_19 : decode cX3_behindEvents 19 = .ok (.iload_n 3, 1) := by decide +kernel
theorem dX3_behindEvents_20 : decode cX3_behindEvents 20 = .ok (.iaload, 1) := by decide +kernel
theorem dX3_behindEvents_21 : decode cX3_behindEvents 21 = .ok (.bipush 47, 2) := by decide +kernel
theorem dX3_behindEvents_23 : decode cX3_behindEvents 23 = .ok (.if_icmp .ne 12, 3) := by decide +kernel
theorem dX3_behindEvents_26 : decode cX3_behindEvents 26 = .ok (.iinc 3 2, 3) := by decide +kernel
theorem dX3_behindEvents_29 : decode cX3_behindEvents 29 = .ok (.iinc 4 1, 3) := by decide +kernel
theorem dX3_behindEvents_32 : decode cX3_behindEvents 32 = .ok (.goto (-25), 3) := by decide +kernel
theorem dX3_behindEvents_35 : decode cX3_behindEvents 35 = .ok (.iload_n 3, 1) := by decide +kernel
theorem dX3_behindEvents_36 : decode cX3_behindEvents 36 = .ok (.ireturn, 1) := by decide +kernel
set_option maxRecDepth 20000 in
theorem ggX3_takeOffice_X3_behindEvents : GoodIn wsX3_takeOffice wsX3_behindEvents := goodIn_r _ [12] (by decide +kernel) (by decide +kernel)
set_option maxRecDepth 20000 in
theorem gX3_takeOffice_X3_behindEvents : GoodIn wsX3_takeOffice (va_wsS RX3 220 yX3_behindEvents wsX3_behindEvents) := goodIn_app (goodIn_of _ (by decide +kernel)) ggX3_takeOffice_X3_behindEvents
set_option maxRecDepth 20000 in
theorem ggX3_takeOffice_X3_kindOf : GoodIn wsX3_takeOffice wsX3_kindOf := goodIn_r _ [15] (by decide +kernel) (by decide +kernel)
set_option maxRecDepth 20000 in
theorem gX3_takeOffice_X3_kindOf : GoodIn wsX3_takeOffice (va_wsS RX3 217 yX3_kindOf wsX3_kindOf) := goodIn_app (goodIn_of _ (by decide +kernel)) ggX3_takeOffice_X3_kindOf
theorem dX3_takeOffice_0 : decode cX3_takeOffice 0 = .ok (.aload_n 1, 1) := by decide +kernel
theorem dX3_takeOffice_1 : decode cX3_takeOffice 1 = .ok (.iload_n 2, 1) := by decide +kernel
theorem dX3_takeOffice_2 : decode cX3_takeOffice 2 = .ok (.iload_n 3, 1) := by decide +kernel
theorem dX3_takeOffice_3 : decode cX3_takeOffice 3 = .ok (.invokestatic 220, 3) := by decide +kernel
theorem dX3_takeOffice_6 : decode cX3_takeOffice 6 = .ok (.istore 4, 2) := by decide +kernel
theorem dX3_takeOffice_8 : decode cX3_takeOffice 8 = .ok (.aload_n 0, 1) := by decide +kernel
theorem dX3_takeOffice_9 : decode cX3_takeOffice 9 = .ok (.iconst 0, 1) := by decide +kernel
theorem dX3_takeOffice_10 : decode cX3_takeOffice 10 = .ok (.putfield 40, 3) := by decide +kernel
theorem dX3_takeOffice_13 : decode cX3_takeOffice 13 = .ok (.aload_n 0, 1) := by decide +kernel
theorem dX3_takeOffice_14 : decode cX3_takeOffice 14 = .ok (.iconst 0, 1) := by decide +kernel
theorem dX3_takeOffice_15 : decode cX3_takeOffice 15 = .ok (.putfield 33, 3) := by decide +kernel
theorem dX3_takeOffice_18 : decode cX3_takeOffice 18 = .ok (.aload_n 0, 1) := by decide +kernel
theorem dX3_takeOffice_19 : decode cX3_takeOffice 19 = .ok (.iconst 0, 1) := by decide +kernel
theorem dX3_takeOffice_20 : decode cX3_takeOffice 20 = .ok (.putfield 37, 3) := by decide +kernel
theorem dX3_takeOffice_23 : decode cX3_takeOffice 23 = .ok (.iload_n 2, 1) := by decide +kernel
theorem dX3_takeOffice_24 : decode cX3_takeOffice 24 = .ok (.iconst 2, 1) := by decide +kernel
theorem dX3_takeOffice_25 : decode cX3_takeOffice 25 = .ok (.iadd, 1) := by decide +kernel
theorem dX3_takeOffice_26 : decode cX3_takeOffice 26 = .ok (.istore 5, 2) := by decide +kernel
theorem dX3_takeOffice_28 : decode cX3_takeOffice 28 = .ok (.iload 5, 2) := by decide +kernel
theorem dX3_takeOffice_30 : decode cX3_takeOffice 30 = .ok (.iload 4, 2) := by decide +kernel
theorem dX3_takeOffice_32 : decode cX3_takeOffice 32 = .ok (.if_icmp .ge 43, 3) := by decide +kernel
theorem dX3_takeOffice_35 : decode cX3_takeOffice 35 = .ok (.aload_n 0, 1) := by decide +kernel
theorem dX3_takeOffice_36 : decode cX3_takeOffice 36 = .ok (.getfield 33, 3) := by decide +kernel
theorem dX3_takeOffice_39 : decode cX3_takeOffice 39 = .ok (.iconst 5, 1) := by decide +kernel
theorem dX3_takeOffice_40 : decode cX3_takeOffice 40 = .ok (.if_icmp .ge 35, 3) := by decide +kernel
theorem dX3_takeOffice_43 : decode cX3_takeOffice 43 = .ok (.aload_n 0, 1) := by decide +kernel
theorem dX3_takeOffice_44 : decode cX3_takeOffice 44 = .ok (.getfield 17, 3) := by decide +kernel
theorem dX3_takeOffice_47 : decode cX3_takeOffice 47 = .ok (.aload_n 0, 1) := by decide +kernel
theorem dX3_takeOffice_48 : decode cX3_takeOffice 48 = .ok (.getfield 33, 3) := by decide +kernel
theorem dX3_takeOffice_51 : decode cX3_takeOffice 51 = .ok (.aload_n 1, 1) := by decide +kernel
theorem dX3_takeOffice_52 : decode cX3_takeOffice 52 = .ok (.iload 5, 2) := by decide +kernel
theorem dX3_takeOffice_54 : decode cX3_takeOffice 54 = .ok (.iaload, 1) := by decide +kernel
theorem dX3_takeOffice_55 : decode cX3_takeOffice 55 = .ok (.bipush 48, 2) := by decide +kernel
theorem dX3_takeOffice_57 : decode cX3_takeOffice 57 = .ok (.isub, 1) := by decide +kernel
theorem dX3_takeOffice_58 : decode cX3_takeOffice 58 = .ok (.iastore, 1) := by decide +kernel
theorem dX3_takeOffice_59 : decode cX3_takeOffice 59 = .ok (.aload_n 0, 1) := by decide +kernel
theorem dX3_takeOffice_60 : decode cX3_takeOffice 60 = .ok (.dup, 1) := by decide +kernel
theorem dX3_takeOffice_61 : decode cX3_takeOffice 61 = .ok (.getfield 33, 3) := by decide +kernel
theorem dX3_takeOffice_64 : decode cX3_takeOffice 64 = .ok (.iconst 1, 1) := by decide +kernel
theorem dX3_takeOffice_65 : decode cX3_takeOffice 65 = .ok (.iadd, 1) := by decide +kernel
theorem dX3_takeOffice_66 : decode cX3_takeOffice 66 = .ok (.putfield 33, 3) := by decide +kernel
theorem dX3_takeOffice_69 : decode cX3_takeOffice 69 = .ok (.iinc 5 2, 3) := by decide +kernel
theorem dX3_takeOffice_72 : decode cX3_takeOffice 72 = .ok (.goto (-44), 3) := by decide +kernel
theorem dX3_takeOffice_75 : decode cX3_takeOffice 75 = .ok (.iload 4, 2) := by decide +kernel
theorem dX3_takeOffice_77 : decode cX3_takeOffice 77 = .ok (.istore 5, 2) := by decide +kernel
theorem dX3_takeOffice_79 : decode cX3_takeOffice 79 = .ok (.iload 5, 2) := by decide +kernel
theorem dX3_takeOffice_81 : decode cX3_takeOffice 81 = .ok (.iconst 5, 1) := by decide +kernel
theorem dX3_takeOffice_82 : decode cX3_takeOffice 82 = .ok (.iadd, 1) := by decide +kernel
theorem dX3_takeOffice_83 : decode cX3_takeOffice 83 = .ok (.iload_n 3, 1) := by decide +kernel
theorem dX3_takeOffice_84 : decode cX3_takeOffice 84 = .ok (.if_icmp .gt 93, 3) := by decide +kernel
theorem dX3_takeOffice_87 : decode cX3_takeOffice 87 = .ok (.aload_n 0, 1) := by decide +kernel
theorem dX3_takeOffice_88 : decode cX3_takeOffice 88 = .ok (.getfield 37, 3) := by decide +kernel
theorem dX3_takeOffice_91 : decode cX3_takeOffice 91 = .ok (.iconst 4, 1) := by decide +kernel
theorem dX3_takeOffice_92 : decode cX3_takeOffice 92 = .ok (.if_icmp .ge 85, 3) := by decide +kernel
theorem dX3_takeOffice_95 : decode cX3_takeOffice 95 = .ok (.aload_n 0, 1) := by decide +kernel
theorem dX3_takeOffice_96 : decode cX3_takeOffice 96 = .ok (.getfield 23, 3) := by decide +kernel
theorem dX3_takeOffice_99 : decode cX3_takeOffice 99 = .ok (.aload_n 0, 1) := by decide +kernel
theorem dX3_takeOffice_100 : decode cX3_takeOffice 100 = .ok (.getfield 37, 3) := by decide +kernel
theorem dX3_takeOffice_103 : decode cX3_takeOffice 103 = .ok (.aaload, 1) := by decide +kernel
theorem dX3_takeOffice_104 : decode cX3_takeOffice 104 = .ok (.astore 6, 2) := by decide +kernel
theorem dX3_takeOffice_106 : decode cX3_takeOffice 106 = .ok (.aload 6, 2) := by decide +kernel
theorem dX3_takeOffice_108 : decode cX3_takeOffice 108 = .ok (.aload_n 1, 1) := by decide +kernel
theorem dX3_takeOffice_109 : decode cX3_takeOffice 109 = .ok (.iload 5, 2) := by decide +kernel
theorem dX3_takeOffice_111 : decode cX3_takeOffice 111 = .ok (.iconst 1, 1) := by decide +kernel
theorem dX3_takeOffice_112 : decode cX3_takeOffice 112 = .ok (.iadd, 1) := by decide +kernel
theorem dX3_takeOffice_113 : decode cX3_takeOffice 113 = .ok (.iaload, 1) := by decide +kernel
theorem dX3_takeOffice_114 : decode cX3_takeOffice 114 = .ok (.invokestatic 217, 3) := by decide +kernel
theorem dX3_takeOffice_117 : decode cX3_takeOffice 117 = .ok (.putfield 88, 3) := by decide +kernel
theorem dX3_takeOffice_120 : decode cX3_takeOffice 120 = .ok (.aload 6, 2) := by decide +kernel
theorem dX3_takeOffice_122 : decode cX3_takeOffice 122 = .ok (.aload_n 1, 1) := by decide +kernel
theorem dX3_takeOffice_123 : decode cX3_takeOffice 123 = .ok (.iload 5, 2) := by decide +kernel
theorem dX3_takeOffice_125 : decode cX3_takeOffice 125 = .ok (.iconst 2, 1) := by decide +kernel
theorem dX3_takeOffice_126 : decode cX3_takeOffice 126 = .ok (.iadd, 1) := by decide +kernel
theorem dX3_takeOffice_127 : decode cX3_takeOffice 127 = .ok (.iaload, 1) := by decide +kernel
theorem dX3_takeOffice_128 : decode cX3_takeOffice 128 = .ok (.bipush 48, 2) := by decide +kernel
theorem dX3_takeOffice_130 : decode cX3_takeOffice 130 = .ok (.isub, 1) := by decide +kernel
theorem dX3_takeOffice_131 : decode cX3_takeOffice 131 = .ok (.putfield 91, 3) := by decide +kernel
theorem dX3_takeOffice_134 : decode cX3_takeOffice 134 = .ok (.aload 6, 2) := by decide +kernel
theorem dX3_takeOffice_136 : decode cX3_takeOffice 136 = .ok (.bipush 10, 2) := by decide +kernel
theorem dX3_takeOffice_138 : decode cX3_takeOffice 138 = .ok (.aload_n 1, 1) := by decide +kernel
theorem dX3_takeOffice_139 : decode cX3_takeOffice 139 = .ok (.iload 5, 2) := by decide +kernel
theorem dX3_takeOffice_141 : decode cX3_takeOffice 141 = .ok (.iconst 3, 1) := by decide +kernel
theorem dX3_takeOffice_142 : decode cX3_takeOffice 142 = .ok (.iadd, 1) := by decide +kernel
theorem dX3_takeOffice_143 : decode cX3_takeOffice 143 = .ok (.iaload, 1) := by decide +kernel
theorem dX3_takeOffice_144 : decode cX3_takeOffice 144 = .ok (.bipush 48, 2) := by decide +kernel
theorem dX3_takeOffice_146 : decode cX3_takeOffice 146 = .ok (.isub, 1) := by decide +kernel
theorem dX3_takeOffice_147 : decode cX3_takeOffice 147 = .ok (.imul, 1) := by decide +kernel
theorem dX3_takeOffice_148 : decode cX3_takeOffice 148 = .ok (.aload_n 1, 1) := by decide +kernel
theorem dX3_takeOffice_149 : decode cX3_takeOffice 149 = .ok (.iload 5, 2) := by decide +kernel
theorem dX3_takeOffice_151 : decode cX3_takeOffice 151 = .ok (.iconst 4, 1) := by decide +kernel
theorem dX3_takeOffice_152 : decode cX3_takeOffice 152 = .ok (.iadd, 1) := by decide +kernel
theorem dX3_takeOffice_153 : decode cX3_takeOffice 153 = .ok (.iaload, 1) := by decide +kernel
theorem dX3_takeOffice_154 : decode cX3_takeOffice 154 = .ok (.iadd, 1) := by decide +kernel
theorem dX3_takeOffice_155 : decode cX3_takeOffice 155 = .ok (.bipush 48, 2) := by decide +kernel
theorem dX3_takeOffice_157 : decode cX3_takeOffice 157 = .ok (.isub, 1) := by decide +kernel
theorem dX3_takeOffice_158 : decode cX3_takeOffice 158 = .ok (.putfield 94, 3) := by decide +kernel
theorem dX3_takeOffice_161 : decode cX3_takeOffice 161 = .ok (.aload_n 0, 1) := by decide +kernel
theorem dX3_takeOffice_162 : decode cX3_takeOffice 162 = .ok (.dup, 1) := by decide +kernel
theorem dX3_takeOffice_163 : decode cX3_takeOffice 163 = .ok (.getfield 37, 3) := by decide +kernel
theorem dX3_takeOffice_166 : decode cX3_takeOffice 166 = .ok (.iconst 1, 1) := by decide +kernel
theorem dX3_takeOffice_167 : decode cX3_takeOffice 167 = .ok (.iadd, 1) := by decide +kernel
theorem dX3_takeOffice_168 : decode cX3_takeOffice 168 = .ok (.putfield 37, 3) := by decide +kernel
theorem dX3_takeOffice_171 : decode cX3_takeOffice 171 = .ok (.iinc 5 5, 3) := by decide +kernel
theorem dX3_takeOffice_174 : decode cX3_takeOffice 174 = .ok (.goto (-95), 3) := by decide +kernel
theorem dX3_takeOffice_177 : decode cX3_takeOffice 177 = .ok (.return_, 1) := by decide +kernel
theorem dX3_paysEach_0 : decode cX3_paysEach 0 = .ok (.iload_n 0, 1) := by decide +kernel
theorem dX3_paysEach_1 : decode cX3_paysEach 1 = .ok (.lookupswitch 33 #[(0, 27), (1, 29)], 27) := by decide +kernel
theorem dX3_paysEach_28 : decode cX3_paysEach 28 = .ok (.iload_n 1, 1) := by decide +kernel
theorem dX3_paysEach_29 : decode cX3_paysEach 29 = .ok (.ireturn, 1) := by decide +kernel
theorem dX3_paysEach_30 : decode cX3_paysEach 30 = .ok (.iload_n 1, 1) := by decide +kernel
theorem dX3_paysEach_31 : decode cX3_paysEach 31 = .ok (.iconst 1, 1) := by decide +kernel
theorem dX3_paysEach_32 : decode cX3_paysEach 32 = .ok (.iadd, 1) := by decide +kernel
theorem dX3_paysEach_33 : decode cX3_paysEach 33 = .ok (.ireturn, 1) := by decide +kernel
theorem dX3_paysEach_34 : decode cX3_paysEach 34 = .ok (.iconst 2, 1) := by decide +kernel
theorem dX3_paysEach_35 : decode cX3_paysEach 35 = .ok (.iload_n 1, 1) := by decide +kernel
theorem dX3_paysEach_36 : decode cX3_paysEach 36 = .ok (.iconst 1, 1) := by decide +kernel
theorem dX3_paysEach_37 : decode cX3_paysEach 37 = .ok (.iadd, 1) := by decide +kernel
theorem dX3_paysEach_38 : decode cX3_paysEach 38 = .ok (.imul, 1) := by decide +kernel
theorem dX3_paysEach_39 : decode cX3_paysEach 39 = .ok (.ireturn, 1) := by decide +kernel
set_option maxRecDepth 20000 in
theorem ggX3_isFraud_X3_allEvents : GoodIn wsX3_isFraud wsX3_allEvents := goodIn_r _ [5, 6, 7, 8, 9, 10, 11, 12, 13, 14, 15] (by decide +kernel) (by decide +kernel)
set_option maxRecDepth 20000 in
theorem gX3_isFraud_X3_allEvents : GoodIn wsX3_isFraud (wsV RX3 142 RX3 yX3_allEvents wsX3_allEvents) := goodIn_app (goodIn_of _ (by decide +kernel)) ggX3_isFraud_X3_allEvents
theorem dX3_isFraud_0 : decode cX3_isFraud 0 = .ok (.iload_n 1, 1) := by decide +kernel
theorem dX3_isFraud_1 : decode cX3_isFraud 1 = .ok (.aload_n 0, 1) := by decide +kernel
theorem dX3_isFraud_2 : decode cX3_isFraud 2 = .ok (.invokevirtual 142, 3) := by decide +kernel
theorem dX3_isFraud_5 : decode cX3_isFraud 5 = .ok (.iand, 1) := by decide +kernel
theorem dX3_isFraud_6 : decode cX3_isFraud 6 = .ok (.aload_n 0, 1) := by decide +kernel
theorem dX3_isFraud_7 : decode cX3_isFraud 7 = .ok (.invokevirtual 142, 3) := by decide +kernel
theorem dX3_isFraud_10 : decode cX3_isFraud 10 = .ok (.if_icmp .ne 7, 3) := by decide +kernel
theorem dX3_isFraud_13 : decode cX3_isFraud 13 = .ok (.iconst 1, 1) := by decide +kernel
theorem dX3_isFraud_14 : decode cX3_isFraud 14 = .ok (.goto 4, 3) := by decide +kernel
theorem dX3_isFraud_17 : decode cX3_isFraud 17 = .ok (.iconst 0, 1) := by decide +kernel
theorem dX3_isFraud_18 : decode cX3_isFraud 18 = .ok (.ireturn, 1) := by decide +kernel
set_option maxRecDepth 20000 in
theorem ggX3_payment_X3_isFraud : GoodIn wsX3_payment wsX3_isFraud := goodIn_r _ [5, 6, 7, 8, 4, 9, 10, 21, 22, 23, 24, 25, 26, 27, 28, 29] (by decide +kernel) (by decide +kernel)
set_option maxRecDepth 20000 in
theorem gX3_payment_X3_isFraud : GoodIn wsX3_payment (wsV RX3 101 RX3 yX3_isFraud wsX3_isFraud) := goodIn_app (goodIn_of _ (by decide +kernel)) ggX3_payment_X3_isFraud
set_option maxRecDepth 20000 in
theorem ggX3_payment_X3_paysEach : GoodIn wsX3_payment wsX3_paysEach := goodIn_r _ [13] (by decide +kernel) (by decide +kernel)
set_option maxRecDepth 20000 in
theorem gX3_payment_X3_paysEach : GoodIn wsX3_payment (va_wsS RX3 97 yX3_paysEach wsX3_paysEach) := goodIn_app (goodIn_of _ (by decide +kernel)) ggX3_payment_X3_paysEach
set_option maxRecDepth 20000 in
theorem ggX3_payment_J6_bitCount_0f7a4 : GoodIn wsX3_payment wsJ6_bitCount_0f7a4 := goodIn_r _ [17, 18, 19, 20] (by decide +kernel) (by decide +kernel)
set_option maxRecDepth 20000 in
theorem gX3_payment_J6_bitCount_0f7a4 : GoodIn wsX3_payment (va_wsS RX3 223 yJ6_bitCount_0f7a4 wsJ6_bitCount_0f7a4) := goodIn_app (goodIn_of _ (by decide +kernel)) ggX3_payment_J6_bitCount_0f7a4
theorem dX3_payment_0 : decode cX3_payment 0 = .ok (.aload_n 0, 1) := by decide +kernel
theorem dX3_payment_1 : decode cX3_payment 1 = .ok (.iload_n 3, 1) := by decide +kernel
theorem dX3_payment_2 : decode cX3_payment 2 = .ok (.invokevirtual 101, 3) := by decide +kernel
theorem dX3_payment_5 : decode cX3_payment 5 = .ok (.ifCond .eq 7, 3) := by decide +kernel
theorem dX3_payment_8 : decode cX3_payment 8 = .ok (.iconst 0, 1) := by decide +kernel
theorem dX3_payment_9 : decode cX3_payment 9 = .ok (.goto 16, 3) := by decide +kernel
theorem dX3_payment_12 : decode cX3_payment 12 = .ok (.iload_n 1, 1) := by decide +kernel
theorem dX3_payment_13 : decode cX3_payment 13 = .ok (.iload_n 2, 1) := by decide +kernel
theorem dX3_payment_14 : decode cX3_payment 14 = .ok (.invokestatic 97, 3) := by decide +kernel
theorem dX3_payment_17 : decode cX3_payment 17 = .ok (.iload_n 3, 1) := by decide +kernel
theorem dX3_payment_18 : decode cX3_payment 18 = .ok (.iload 4, 2) := by decide +kernel
theorem dX3_payment_20 : decode cX3_payment 20 = .ok (.iand, 1) := by decide +kernel
theorem dX3_payment_21 : decode cX3_payment 21 = .ok (.invokestatic 223, 3) := by decide +kernel
theorem dX3_payment_24 : decode cX3_payment 24 = .ok (.imul, 1) := by decide +kernel
theorem dX3_payment_25 : decode cX3_payment 25 = .ok (.ireturn, 1) := by decide +kernel
set_option maxRecDepth 20000 in
theorem ggX3_paidTo_X3_payment : GoodIn wsX3_paidTo wsX3_payment := goodIn_r _ [9, 10, 11, 12, 8, 13, 14, 15, 16, 17, 18, 19, 20, 21, 22, 23, 24, 25, 26, 27, 28, 29, 30, 31, 32, 33, 34, 35, 36, 37] (by decide +kernel) (by decide +kernel)
set_option maxRecDepth 20000 in
theorem gX3_paidTo_X3_payment : GoodIn wsX3_paidTo (wsV RX3 134 RX3 yX3_payment wsX3_payment) := goodIn_app (goodIn_of _ (by decide +kernel)) ggX3_paidTo_X3_payment
theorem dX3_paidTo_0 : decode cX3_paidTo 0 = .ok (.aload_n 0, 1) := by decide +kernel
theorem dX3_paidTo_1 : decode cX3_paidTo 1 = .ok (.getfield 23, 3) := by decide +kernel
theorem dX3_paidTo_4 : decode cX3_paidTo 4 = .ok (.iload_n 1, 1) := by decide +kernel
theorem dX3_paidTo_5 : decode cX3_paidTo 5 = .ok (.aaload, 1) := by decide +kernel
theorem dX3_paidTo_6 : decode cX3_paidTo 6 = .ok (.astore_n 3, 1) := by decide +kernel
theorem dX3_paidTo_7 : decode cX3_paidTo 7 = .ok (.aload_n 0, 1) := by decide +kernel
theorem dX3_paidTo_8 : decode cX3_paidTo 8 = .ok (.aload_n 3, 1) := by decide +kernel
theorem dX3_paidTo_9 : decode cX3_paidTo 9 = .ok (.getfield 88, 3) := by decide +kernel
theorem dX3_paidTo_12 : decode cX3_paidTo 12 = .ok (.aload_n 3, 1) := by decide +kernel
theorem dX3_paidTo_13 : decode cX3_paidTo 13 = .ok (.getfield 91, 3) := by decide +kernel
theorem dX3_paidTo_16 : decode cX3_paidTo 16 = .ok (.aload_n 3, 1) := by decide +kernel
theorem dX3_paidTo_17 : decode cX3_paidTo 17 = .ok (.getfield 94, 3) := by decide +kernel
theorem dX3_paidTo_20 : decode cX3_paidTo 20 = .ok (.iload_n 2, 1) := by decide +kernel
theorem dX3_paidTo_21 : decode cX3_paidTo 21 = .ok (.invokevirtual 134, 3) := by decide +kernel
theorem dX3_paidTo_24 : decode cX3_paidTo 24 = .ok (.ireturn, 1) := by decide +kernel
set_option maxRecDepth 20000 in
theorem ggX3_paidToAll_X3_paidTo : GoodIn wsX3_paidToAll wsX3_paidTo := goodIn_r _ [6, 7, 8, 9, 10, 11, 12, 13, 5, 14, 15, 16, 17, 18, 19, 20, 21, 22, 23, 24, 25, 26, 27, 28, 29, 30, 31, 32, 33, 34, 35, 36, 37, 38, 39, 40, 41, 42, 43, 44, 45] (by decide +kernel) (by decide +kernel)
set_option maxRecDepth 20000 in
theorem gX3_paidToAll_X3_paidTo : GoodIn wsX3_paidToAll (wsV RX3 107 RX3 yX3_paidTo wsX3_paidTo) := goodIn_app (goodIn_of _ (by decide +kernel)) ggX3_paidToAll_X3_paidTo
theorem dX3_paidToAll_0 : decode cX3_paidToAll 0 = .ok (.iconst 0, 1) := by decide +kernel
theorem dX3_paidToAll_1 : decode cX3_paidToAll 1 = .ok (.istore_n 2, 1) := by decide +kernel
theorem dX3_paidToAll_2 : decode cX3_paidToAll 2 = .ok (.iconst 0, 1) := by decide +kernel
theorem dX3_paidToAll_3 : decode cX3_paidToAll 3 = .ok (.istore_n 3, 1) := by decide +kernel
theorem dX3_paidToAll_4 : decode cX3_paidToAll 4 = .ok (.iload_n 3, 1) := by decide +kernel
theorem dX3_paidToAll_5 : decode cX3_paidToAll 5 = .ok (.aload_n 0, 1) := by decide +kernel
theorem dX3_paidToAll_6 : decode cX3_paidToAll 6 = .ok (.getfield 37, 3) := by decide +kernel
theorem dX3_paidToAll_9 : decode cX3_paidToAll 9 = .ok (.if_icmp .ge 18, 3) := by decide +kernel
theorem dX3_paidToAll_12 : decode cX3_paidToAll 12 = .ok (.iload_n 2, 1) := by decide +kernel
theorem dX3_paidToAll_13 : decode cX3_paidToAll 13 = .ok (.aload_n 0, 1) := by decide +kernel
theorem dX3_paidToAll_14 : decode cX3_paidToAll 14 = .ok (.iload_n 3, 1) := by decide +kernel
theorem dX3_paidToAll_15 : decode cX3_paidToAll 15 = .ok (.iload_n 1, 1) := by decide +kernel
theorem dX3_paidToAll_16 : decode cX3_paidToAll 16 = .ok (.invokevirtual 107, 3) := by decide +kernel
theorem dX3_paidToAll_19 : decode cX3_paidToAll 19 = .ok (.iadd, 1) := by decide +kernel
theorem dX3_paidToAll_20 : decode cX3_paidToAll 20 = .ok (.istore_n 2, 1) := by decide +kernel
theorem dX3_paidToAll_21 : decode cX3_paidToAll 21 = .ok (.iinc 3 1, 3) := by decide +kernel
theorem dX3_paidToAll_24 : decode cX3_paidToAll 24 = .ok (.goto (-20), 3) := by decide +kernel
theorem dX3_paidToAll_27 : decode cX3_paidToAll 27 = .ok (.iload_n 2, 1) := by decide +kernel
theorem dX3_paidToAll_28 : decode cX3_paidToAll 28 = .ok (.ireturn, 1) := by decide +kernel
set_option maxRecDepth 20000 in
theorem ggX3_countFrauds_X3_isFraud : GoodIn wsX3_countFrauds wsX3_isFraud := goodIn_r _ [8, 9, 10, 11, 7, 12, 13, 14, 15, 16, 17, 18, 19, 20, 21, 22] (by decide +kernel) (by decide +kernel)
set_option maxRecDepth 20000 in
theorem gX3_countFrauds_X3_isFraud : GoodIn wsX3_countFrauds (wsV RX3 101 RX3 yX3_isFraud wsX3_isFraud) := goodIn_app (goodIn_of _ (by decide +kernel)) ggX3_countFrauds_X3_isFraud
theorem dX3_countFrauds_0 : decode cX3_countFrauds 0 = .ok (.iconst 0, 1) := by decide +kernel
theorem dX3_countFrauds_1 : decode cX3_countFrauds 1 = .ok (.istore_n 1, 1) := by decide +kernel
theorem dX3_countFrauds_2 : decode cX3_countFrauds 2 = .ok (.iconst 0, 1) := by decide +kernel
theorem dX3_countFrauds_3 : decode cX3_countFrauds 3 = .ok (.istore_n 2, 1) := by decide +kernel
theorem dX3_countFrauds_4 : decode cX3_countFrauds 4 = .ok (.iload_n 2, 1) := by decide +kernel
theorem dX3_countFrauds_5 : decode cX3_countFrauds 5 = .ok (.aload_n 0, 1) := by decide +kernel
theorem dX3_countFrauds_6 : decode cX3_countFrauds 6 = .ok (.getfield 37, 3) := by decide +kernel
theorem dX3_countFrauds_9 : decode cX3_countFrauds 9 = .ok (.if_icmp .ge 28, 3) := by decide +kernel
theorem dX3_countFrauds_12 : decode cX3_countFrauds 12 = .ok (.aload_n 0, 1) := by decide +kernel
theorem dX3_countFrauds_13 : decode cX3_countFrauds 13 = .ok (.aload_n 0, 1) := by decide +kernel
theorem dX3_countFrauds_14 : decode cX3_countFrauds 14 = .ok (.getfield 23, 3) := by decide +kernel
theorem dX3_countFrauds_17 : decode cX3_countFrauds 17 = .ok (.iload_n 2, 1) := by decide +kernel
theorem dX3_countFrauds_18 : decode cX3_countFrauds 18 = .ok (.aaload, 1) := by decide +kernel
theorem dX3_countFrauds_19 : decode cX3_countFrauds 19 = .ok (.getfield 94, 3) := by decide +kernel
theorem dX3_countFrauds_22 : decode cX3_countFrauds 22 = .ok (.invokevirtual 101, 3) := by decide +kernel
theorem dX3_countFrauds_25 : decode cX3_countFrauds 25 = .ok (.ifCond .eq 6, 3) := by decide +kernel
theorem dX3_countFrauds_28 : decode cX3_countFrauds 28 = .ok (.iinc 1 1, 3) := by decide +kernel
theorem dX3_countFrauds_31 : decode cX3_countFrauds 31 = .ok (.iinc 2 1, 3) := by decide +kernel
theorem dX3_countFrauds_34 : decode cX3_countFrauds 34 = .ok (.goto (-30), 3) := by decide +kernel
theorem dX3_countFrauds_37 : decode cX3_countFrauds 37 = .ok (.iload_n 1, 1) := by decide +kernel
theorem dX3_countFrauds_38 : decode cX3_countFrauds 38 = .ok (.ireturn, 1) := by decide +kernel
set_option maxRecDepth 20000 in
theorem ggX3_premiumsOfYear_X3_allEvents : GoodIn wsX3_premiumsOfYear wsX3_allEvents := goodIn_r _ [8, 9, 17, 18, 19, 20, 21, 22, 23, 24, 25] (by decide +kernel) (by decide +kernel)
set_option maxRecDepth 20000 in
theorem gX3_premiumsOfYear_X3_allEvents : GoodIn wsX3_premiumsOfYear (wsV RX3 142 RX3 yX3_allEvents wsX3_allEvents) := goodIn_app (goodIn_of _ (by decide +kernel)) ggX3_premiumsOfYear_X3_allEvents
set_option maxRecDepth 20000 in
theorem ggX3_premiumsOfYear_J6_bitCount_0f7a4 : GoodIn wsX3_premiumsOfYear wsJ6_bitCount_0f7a4 := goodIn_r _ [13, 14, 15, 16] (by decide +kernel) (by decide +kernel)
set_option maxRecDepth 20000 in
theorem gX3_premiumsOfYear_J6_bitCount_0f7a4 : GoodIn wsX3_premiumsOfYear (va_wsS RX3 223 yJ6_bitCount_0f7a4 wsJ6_bitCount_0f7a4) := goodIn_app (goodIn_of _ (by decide +kernel)) ggX3_premiumsOfYear_J6_bitCount_0f7a4
theorem dX3_premiumsOfYear_0 : decode cX3_premiumsOfYear 0 = .ok (.iconst 0, 1) := by decide +kernel
theorem dX3_premiumsOfYear_1 : decode cX3_premiumsOfYear 1 = .ok (.istore_n 2, 1) := by decide +kernel
theorem dX3_premiumsOfYear_2 : decode cX3_premiumsOfYear 2 = .ok (.iconst 0, 1) := by decide +kernel
theorem dX3_premiumsOfYear_3 : decode cX3_premiumsOfYear 3 = .ok (.istore_n 3, 1) := by decide +kernel
theorem dX3_premiumsOfYear_4 : decode cX3_premiumsOfYear 4 = .ok (.iload_n 3, 1) := by decide +kernel
theorem dX3_premiumsOfYear_5 : decode cX3_premiumsOfYear 5 = .ok (.aload_n 0, 1) := by decide +kernel
theorem dX3_premiumsOfYear_6 : decode cX3_premiumsOfYear 6 = .ok (.getfield 37, 3) := by decide +kernel
theorem dX3_premiumsOfYear_9 : decode cX3_premiumsOfYear 9 = .ok (.if_icmp .ge 31, 3) := by decide +kernel
theorem dX3_premiumsOfYear_12 : decode cX3_premiumsOfYear 12 = .ok (.iload_n 2, 1) := by decide +kernel
theorem dX3_premiumsOfYear_13 : decode cX3_premiumsOfYear 13 = .ok (.iload_n 1, 1) := by decide +kernel
theorem dX3_premiumsOfYear_14 : decode cX3_premiumsOfYear 14 = .ok (.aload_n 0, 1) := by decide +kernel
theorem dX3_premiumsOfYear_15 : decode cX3_premiumsOfYear 15 = .ok (.getfield 23, 3) := by decide +kernel
theorem dX3_premiumsOfYear_18 : decode cX3_premiumsOfYear 18 = .ok (.iload_n 3, 1) := by decide +kernel
theorem dX3_premiumsOfYear_19 : decode cX3_premiumsOfYear 19 = .ok (.aaload, 1) := by decide +kernel
theorem dX3_premiumsOfYear_20 : decode cX3_premiumsOfYear 20 = .ok (.getfield 94, 3) := by decide +kernel
theorem dX3_premiumsOfYear_23 : decode cX3_premiumsOfYear 23 = .ok (.aload_n 0, 1) := by decide +kernel
theorem dX3_premiumsOfYear_24 : decode cX3_premiumsOfYear 24 = .ok (.invokevirtual 142, 3) := by decide +kernel
theorem dX3_premiumsOfYear_27 : decode cX3_premiumsOfYear 27 = .ok (.iand, 1) := by decide +kernel
theorem dX3_premiumsOfYear_28 : decode cX3_premiumsOfYear 28 = .ok (.invokestatic 223, 3) := by decide +kernel
theorem dX3_premiumsOfYear_31 : decode cX3_premiumsOfYear 31 = .ok (.imul, 1) := by decide +kernel
theorem dX3_premiumsOfYear_32 : decode cX3_premiumsOfYear 32 = .ok (.iadd, 1) := by decide +kernel
theorem dX3_premiumsOfYear_33 : decode cX3_premiumsOfYear 33 = .ok (.istore_n 2, 1) := by decide +kernel
theorem dX3_premiumsOfYear_34 : decode cX3_premiumsOfYear 34 = .ok (.iinc 3 1, 3) := by decide +kernel
theorem dX3_premiumsOfYear_37 : decode cX3_premiumsOfYear 37 = .ok (.goto (-33), 3) := by decide +kernel
theorem dX3_premiumsOfYear_40 : decode cX3_premiumsOfYear 40 = .ok (.iload_n 2, 1) := by decide +kernel
theorem dX3_premiumsOfYear_41 : decode cX3_premiumsOfYear 41 = .ok (.ireturn, 1) := by decide +kernel
set_option maxRecDepth 20000 in
theorem ggX3_officeOverYears_X3_premiumsOfYear : GoodIn wsX3_officeOverYears wsX3_premiumsOfYear := goodIn_r _ [9, 10, 11, 12, 13, 14, 15, 8, 16, 17, 18, 19, 20, 21, 22, 23, 24, 46, 47, 48, 49, 50, 51, 52, 53, 54, 55, 56, 57] (by decide +kernel) (by decide +kernel)
set_option maxRecDepth 20000 in
theorem gX3_officeOverYears_X3_premiumsOfYear : GoodIn wsX3_officeOverYears (wsV RX3 228 RX3 yX3_premiumsOfYear wsX3_premiumsOfYear) := goodIn_app (goodIn_of _ (by decide +kernel)) ggX3_officeOverYears_X3_premiumsOfYear
set_option maxRecDepth 20000 in
theorem ggX3_officeOverYears_X3_paidToAll : GoodIn wsX3_officeOverYears wsX3_paidToAll := goodIn_r _ [28, 10, 29, 30, 31, 8, 32, 11, 33, 34, 12, 35, 36, 37, 38, 39, 40, 41, 42, 13, 14, 15, 16, 17, 43, 44, 45, 18, 19, 20, 21, 22, 23, 24, 46, 47, 48, 49, 50, 51, 52, 53, 54, 55, 56, 57] (by decide +kernel) (by decide +kernel)
set_option maxRecDepth 20000 in
theorem gX3_officeOverYears_X3_paidToAll : GoodIn wsX3_officeOverYears (wsV RX3 114 RX3 yX3_paidToAll wsX3_paidToAll) := goodIn_app (goodIn_of _ (by decide +kernel)) ggX3_officeOverYears_X3_paidToAll
theorem dX3_officeOverYears_0 : decode cX3_officeOverYears 0 = .ok (.aload_n 0, 1) := by decide +kernel
theorem dX3_officeOverYears_1 : decode cX3_officeOverYears 1 = .ok (.iload_n 1, 1) := by decide +kernel
theorem dX3_officeOverYears_2 : decode cX3_officeOverYears 2 = .ok (.invokevirtual 228, 3) := by decide +kernel
theorem dX3_officeOverYears_5 : decode cX3_officeOverYears 5 = .ok (.istore 6, 2) := by decide +kernel
theorem dX3_officeOverYears_7 : decode cX3_officeOverYears 7 = .ok (.iconst 0, 1) := by decide +kernel
theorem dX3_officeOverYears_8 : decode cX3_officeOverYears 8 = .ok (.istore 7, 2) := by decide +kernel
theorem dX3_officeOverYears_10 : decode cX3_officeOverYears 10 = .ok (.bipush (-9), 2) := by decide +kernel
theorem dX3_officeOverYears_12 : decode cX3_officeOverYears 12 = .ok (.istore 8, 2) := by decide +kernel
theorem dX3_officeOverYears_14 : decode cX3_officeOverYears 14 = .ok (.iconst 0, 1) := by decide +kernel
theorem dX3_officeOverYears_15 : decode cX3_officeOverYears 15 = .ok (.istore 9, 2) := by decide +kernel
theorem dX3_officeOverYears_17 : decode cX3_officeOverYears 17 = .ok (.iconst 0, 1) := by decide +kernel
theorem dX3_officeOverYears_18 : decode cX3_officeOverYears 18 = .ok (.istore 10, 2) := by decide +kernel
theorem dX3_officeOverYears_20 : decode cX3_officeOverYears 20 = .ok (.iload_n 3, 1) := by decide +kernel
theorem dX3_officeOverYears_21 : decode cX3_officeOverYears 21 = .ok (.istore 11, 2) := by decide +kernel
theorem dX3_officeOverYears_23 : decode cX3_officeOverYears 23 = .ok (.iload 11, 2) := by decide +kernel
theorem dX3_officeOverYears_25 : decode cX3_officeOverYears 25 = .ok (.iload 4, 2) := by decide +kernel
theorem dX3_officeOverYears_27 : decode cX3_officeOverYears 27 = .ok (.if_icmp .ge 63, 3) := by decide +kernel
theorem dX3_officeOverYears_30 : decode cX3_officeOverYears 30 = .ok (.aload_n 0, 1) := by decide +kernel
theorem dX3_officeOverYears_31 : decode cX3_officeOverYears 31 = .ok (.aload_n 2, 1) := by decide +kernel
theorem dX3_officeOverYears_32 : decode cX3_officeOverYears 32 = .ok (.iload 11, 2) := by decide +kernel
theorem dX3_officeOverYears_34 : decode cX3_officeOverYears 34 = .ok (.iaload, 1) := by decide +kernel
theorem dX3_officeOverYears_35 : decode cX3_officeOverYears 35 = .ok (.invokevirtual 114, 3) := by decide +kernel
theorem dX3_officeOverYears_38 : decode cX3_officeOverYears 38 = .ok (.istore 12, 2) := by decide +kernel
theorem dX3_officeOverYears_40 : decode cX3_officeOverYears 40 = .ok (.iload 7, 2) := by decide +kernel
theorem dX3_officeOverYears_42 : decode cX3_officeOverYears 42 = .ok (.iload 6, 2) := by decide +kernel
theorem dX3_officeOverYears_44 : decode cX3_officeOverYears 44 = .ok (.iload 12, 2) := by decide +kernel
theorem dX3_officeOverYears_46 : decode cX3_officeOverYears 46 = .ok (.isub, 1) := by decide +kernel
theorem dX3_officeOverYears_47 : decode cX3_officeOverYears 47 = .ok (.iadd, 1) := by decide +kernel
theorem dX3_officeOverYears_48 : decode cX3_officeOverYears 48 = .ok (.istore 7, 2) := by decide +kernel
theorem dX3_officeOverYears_50 : decode cX3_officeOverYears 50 = .ok (.iload 7, 2) := by decide +kernel
theorem dX3_officeOverYears_52 : decode cX3_officeOverYears 52 = .ok (.ifCond .ge 16, 3) := by decide +kernel
theorem dX3_officeOverYears_55 : decode cX3_officeOverYears 55 = .ok (.iload 8, 2) := by decide +kernel
theorem dX3_officeOverYears_57 : decode cX3_officeOverYears 57 = .ok (.bipush (-9), 2) := by decide +kernel
theorem dX3_officeOverYears_59 : decode cX3_officeOverYears 59 = .ok (.if_icmp .ne 9, 3) := by decide +kernel
theorem dX3_officeOverYears_62 : decode cX3_officeOverYears 62 = .ok (.iload 11, 2) := by decide +kernel
theorem dX3_officeOverYears_64 : decode cX3_officeOverYears 64 = .ok (.iload_n 3, 1) := by decide +kernel
theorem dX3_officeOverYears_65 : decode cX3_officeOverYears 65 = .ok (.isub, 1) := by decide +kernel
theorem dX3_officeOverYears_66 : decode cX3_officeOverYears 66 = .ok (.istore 8, 2) := by decide +kernel
theorem dX3_officeOverYears_68 : decode cX3_officeOverYears 68 = .ok (.iload 9, 2) := by decide +kernel
theorem dX3_officeOverYears_70 : decode cX3_officeOverYears 70 = .ok (.iload 12, 2) := by decide +kernel
theorem dX3_officeOverYears_72 : decode cX3_officeOverYears 72 = .ok (.iadd, 1) := by decide +kernel
theorem dX3_officeOverYears_73 : decode cX3_officeOverYears 73 = .ok (.istore 9, 2) := by decide +kernel
theorem dX3_officeOverYears_75 : decode cX3_officeOverYears 75 = .ok (.iload 10, 2) := by decide +kernel
theorem dX3_officeOverYears_77 : decode cX3_officeOverYears 77 = .ok (.iload 12, 2) := by decide +kernel
theorem dX3_officeOverYears_79 : decode cX3_officeOverYears 79 = .ok (.invokestatic 231, 3) := by decide +kernel
theorem dX3_officeOverYears_82 : decode cX3_officeOverYears 82 = .ok (.istore 10, 2) := by decide +kernel
theorem dX3_officeOverYears_84 : decode cX3_officeOverYears 84 = .ok (.iinc 11 1, 3) := by decide +kernel
theorem dX3_officeOverYears_87 : decode cX3_officeOverYears 87 = .ok (.goto (-64), 3) := by decide +kernel
theorem dX3_officeOverYears_90 : decode cX3_officeOverYears 90 = .ok (.iload 5, 2) := by decide +kernel
theorem dX3_officeOverYears_92 : decode cX3_officeOverYears 92 = .ok (.tableswitch 37 0 2 #[28, 31, 34], 28) := by decide +kernel
theorem dX3_officeOverYears_120 : decode cX3_officeOverYears 120 = .ok (.iload 7, 2) := by decide +kernel
theorem dX3_officeOverYears_122 : decode cX3_officeOverYears 122 = .ok (.ireturn, 1) := by decide +kernel
theorem dX3_officeOverYears_123 : decode cX3_officeOverYears 123 = .ok (.iload 8, 2) := by decide +kernel
theorem dX3_officeOverYears_125 : decode cX3_officeOverYears 125 = .ok (.ireturn, 1) := by decide +kernel
theorem dX3_officeOverYears_126 : decode cX3_officeOverYears 126 = .ok (.iload 9, 2) := by decide +kernel
theorem dX3_officeOverYears_128 : decode cX3_officeOverYears 128 = .ok (.ireturn, 1) := by decide +kernel
theorem dX3_officeOverYears_129 : decode cX3_officeOverYears 129 = .ok (.iload 10, 2) := by decide +kernel
theorem dX3_officeOverYears_131 : decode cX3_officeOverYears 131 = .ok (.ireturn, 1) := by decide +kernel
set_option maxRecDepth 20000 in
theorem ggX3_paidOverYears_X3_isProphet : GoodIn wsX3_paidOverYears wsX3_isProphet := goodIn_r _ [5, 6, 38, 39, 40, 41, 42, 43, 44, 45, 46] (by decide +kernel) (by decide +kernel)
set_option maxRecDepth 20000 in
theorem gX3_paidOverYears_X3_isProphet : GoodIn wsX3_paidOverYears (wsV RX3 85 RX3 yX3_isProphet wsX3_isProphet) := goodIn_app (goodIn_of _ (by decide +kernel)) ggX3_paidOverYears_X3_isProphet
set_option maxRecDepth 20000 in
theorem ggX3_paidOverYears_X3_paidTo : GoodIn wsX3_paidOverYears wsX3_paidTo := goodIn_r _ [10, 11, 12, 13, 14, 15, 16, 17, 4, 18, 19, 20, 21, 22, 23, 24, 25, 26, 27, 28, 29, 30, 31, 32, 33, 34, 35, 36, 37, 38, 39, 40, 41, 42, 43, 44, 45, 46, 47, 48, 49] (by decide +kernel) (by decide +kernel)
set_option maxRecDepth 20000 in
theorem gX3_paidOverYears_X3_paidTo : GoodIn wsX3_paidOverYears (wsV RX3 107 RX3 yX3_paidTo wsX3_paidTo) := goodIn_app (goodIn_of _ (by decide +kernel)) ggX3_paidOverYears_X3_paidTo
theorem dX3_paidOverYears_0 : decode cX3_paidOverYears 0 = .ok (.aload_n 0, 1) := by decide +kernel
theorem dX3_paidOverYears_1 : decode cX3_paidOverYears 1 = .ok (.iload_n 1, 1) := by decide +kernel
theorem dX3_paidOverYears_2 : decode cX3_paidOverYears 2 = .ok (.invokevirtual 85, 3) := by decide +kernel
theorem dX3_paidOverYears_5 : decode cX3_paidOverYears 5 = .ok (.ifCond .ne 6, 3) := by decide +kernel
theorem dX3_paidOverYears_8 : decode cX3_paidOverYears 8 = .ok (.bipush (-9), 2) := by decide +kernel
theorem dX3_paidOverYears_10 : decode cX3_paidOverYears 10 = .ok (.ireturn, 1) := by decide +kernel
theorem dX3_paidOverYears_11 : decode cX3_paidOverYears 11 = .ok (.iconst 0, 1) := by decide +kernel
theorem dX3_paidOverYears_12 : decode cX3_paidOverYears 12 = .ok (.istore 5, 2) := by decide +kernel
theorem dX3_paidOverYears_14 : decode cX3_paidOverYears 14 = .ok (.iload_n 3, 1) := by decide +kernel
theorem dX3_paidOverYears_15 : decode cX3_paidOverYears 15 = .ok (.istore 6, 2) := by decide +kernel
theorem dX3_paidOverYears_17 : decode cX3_paidOverYears 17 = .ok (.iload 6, 2) := by decide +kernel
theorem dX3_paidOverYears_19 : decode cX3_paidOverYears 19 = .ok (.iload 4, 2) := by decide +kernel
theorem dX3_paidOverYears_21 : decode cX3_paidOverYears 21 = .ok (.if_icmp .ge 23, 3) := by decide +kernel
theorem dX3_paidOverYears_24 : decode cX3_paidOverYears 24 = .ok (.iload 5, 2) := by decide +kernel
theorem dX3_paidOverYears_26 : decode cX3_paidOverYears 26 = .ok (.aload_n 0, 1) := by decide +kernel
theorem dX3_paidOverYears_27 : decode cX3_paidOverYears 27 = .ok (.iload_n 1, 1) := by decide +kernel
theorem dX3_paidOverYears_28 : decode cX3_paidOverYears 28 = .ok (.aload_n 2, 1) := by decide +kernel
theorem dX3_paidOverYears_29 : decode cX3_paidOverYears 29 = .ok (.iload 6, 2) := by decide +kernel
theorem dX3_paidOverYears_31 : decode cX3_paidOverYears 31 = .ok (.iaload, 1) := by decide +kernel
theorem dX3_paidOverYears_32 : decode cX3_paidOverYears 32 = .ok (.invokevirtual 107, 3) := by decide +kernel
theorem dX3_paidOverYears_35 : decode cX3_paidOverYears 35 = .ok (.iadd, 1) := by decide +kernel
theorem dX3_paidOverYears_36 : decode cX3_paidOverYears 36 = .ok (.istore 5, 2) := by decide +kernel
theorem dX3_paidOverYears_38 : decode cX3_paidOverYears 38 = .ok (.iinc 6 1, 3) := by decide +kernel
theorem dX3_paidOverYears_41 : decode cX3_paidOverYears 41 = .ok (.goto (-24), 3) := by decide +kernel
theorem dX3_paidOverYears_44 : decode cX3_paidOverYears 44 = .ok (.iload 5, 2) := by decide +kernel
theorem dX3_paidOverYears_46 : decode cX3_paidOverYears 46 = .ok (.ireturn, 1) := by decide +kernel
set_option maxRecDepth 20000 in
theorem ggX3_weightOf_X3_isIn : GoodIn wsX3_weightOf wsX3_isIn := goodIn_r _ [6] (by decide +kernel) (by decide +kernel)
set_option maxRecDepth 20000 in
theorem gX3_weightOf_X3_isIn : GoodIn wsX3_weightOf (va_wsS RX3 236 yX3_isIn wsX3_isIn) := goodIn_app (goodIn_of _ (by decide +kernel)) ggX3_weightOf_X3_isIn
theorem dX3_weightOf_0 : decode cX3_weightOf 0 = .ok (.iconst 1, 1) := by decide +kernel
theorem dX3_weightOf_1 : decode cX3_weightOf 1 = .ok (.istore_n 2, 1) := by decide +kernel
theorem dX3_weightOf_2 : decode cX3_weightOf 2 = .ok (.iconst 0, 1) := by decide +kernel
theorem dX3_weightOf_3 : decode cX3_weightOf 3 = .ok (.istore_n 3, 1) := by decide +kernel
theorem dX3_weightOf_4 : decode cX3_weightOf 4 = .ok (.iload_n 3, 1) := by decide +kernel
theorem dX3_weightOf_5 : decode cX3_weightOf 5 = .ok (.aload_n 0, 1) := by decide +kernel
theorem dX3_weightOf_6 : decode cX3_weightOf 6 = .ok (.getfield 33, 3) := by decide +kernel
theorem dX3_weightOf_9 : decode cX3_weightOf 9 = .ok (.if_icmp .ge 38, 3) := by decide +kernel
theorem dX3_weightOf_12 : decode cX3_weightOf 12 = .ok (.iload_n 2, 1) := by decide +kernel
theorem dX3_weightOf_13 : decode cX3_weightOf 13 = .ok (.iload_n 1, 1) := by decide +kernel
theorem dX3_weightOf_14 : decode cX3_weightOf 14 = .ok (.iload_n 3, 1) := by decide +kernel
theorem dX3_weightOf_15 : decode cX3_weightOf 15 = .ok (.invokestatic 236, 3) := by decide +kernel
theorem dX3_weightOf_18 : decode cX3_weightOf 18 = .ok (.ifCond .eq 12, 3) := by decide +kernel
theorem dX3_weightOf_21 : decode cX3_weightOf 21 = .ok (.aload_n 0, 1) := by decide +kernel
theorem dX3_weightOf_22 : decode cX3_weightOf 22 = .ok (.getfield 17, 3) := by decide +kernel
theorem dX3_weightOf_25 : decode cX3_weightOf 25 = .ok (.iload_n 3, 1) := by decide +kernel
theorem dX3_weightOf_26 : decode cX3_weightOf 26 = .ok (.iaload, 1) := by decide +kernel
theorem dX3_weightOf_27 : decode cX3_weightOf 27 = .ok (.goto 12, 3) := by decide +kernel
theorem dX3_weightOf_30 : decode cX3_weightOf 30 = .ok (.bipush 10, 2) := by decide +kernel
theorem dX3_weightOf_32 : decode cX3_weightOf 32 = .ok (.aload_n 0, 1) := by decide +kernel
theorem dX3_weightOf_33 : decode cX3_weightOf 33 = .ok (.getfield 17, 3) := by decide +kernel
theorem dX3_weightOf_36 : decode cX3_weightOf 36 = .ok (.iload_n 3, 1) := by decide +kernel
theorem dX3_weightOf_37 : decode cX3_weightOf 37 = .ok (.iaload, 1) := by decide +kernel
theorem dX3_weightOf_38 : decode cX3_weightOf 38 = .ok (.isub, 1) := by decide +kernel
theorem dX3_weightOf_39 : decode cX3_weightOf 39 = .ok (.imul, 1) := by decide +kernel
theorem dX3_weightOf_40 : decode cX3_weightOf 40 = .ok (.istore_n 2, 1) := by decide +kernel
theorem dX3_weightOf_41 : decode cX3_weightOf 41 = .ok (.iinc 3 1, 3) := by decide +kernel
theorem dX3_weightOf_44 : decode cX3_weightOf 44 = .ok (.goto (-40), 3) := by decide +kernel
theorem dX3_weightOf_47 : decode cX3_weightOf 47 = .ok (.iload_n 2, 1) := by decide +kernel
theorem dX3_weightOf_48 : decode cX3_weightOf 48 = .ok (.ireturn, 1) := by decide +kernel
theorem dX3_weightOfAll_0 : decode cX3_weightOfAll 0 = .ok (.iconst 1, 1) := by decide +kernel
theorem dX3_weightOfAll_1 : decode cX3_weightOfAll 1 = .ok (.istore_n 1, 1) := by decide +kernel
theorem dX3_weightOfAll_2 : decode cX3_weightOfAll 2 = .ok (.iconst 0, 1) := by decide +kernel
theorem dX3_weightOfAll_3 : decode cX3_weightOfAll 3 = .ok (.istore_n 2, 1) := by decide +kernel
theorem dX3_weightOfAll_4 : decode cX3_weightOfAll 4 = .ok (.iload_n 2, 1) := by decide +kernel
theorem dX3_weightOfAll_5 : decode cX3_weightOfAll 5 = .ok (.aload_n 0, 1) := by decide +kernel
theorem dX3_weightOfAll_6 : decode cX3_weightOfAll 6 = .ok (.getfield 33, 3) := by decide +kernel
theorem dX3_weightOfAll_9 : decode cX3_weightOfAll 9 = .ok (.if_icmp .ge 14, 3) := by decide +kernel
theorem dX3_weightOfAll_12 : decode cX3_weightOfAll 12 = .ok (.iload_n 1, 1) := by decide +kernel
theorem dX3_weightOfAll_13 : decode cX3_weightOfAll 13 = .ok (.bipush 10, 2) := by decide +kernel
theorem dX3_weightOfAll_15 : decode cX3_weightOfAll 15 = .ok (.imul, 1) := by decide +kernel
theorem dX3_weightOfAll_16 : decode cX3_weightOfAll 16 = .ok (.istore_n 1, 1) := by decide +kernel
theorem dX3_weightOfAll_17 : decode cX3_weightOfAll 17 = .ok (.iinc 2 1, 3) := by decide +kernel
theorem dX3_weightOfAll_20 : decode cX3_weightOfAll 20 = .ok (.goto (-16), 3) := by decide +kernel
theorem dX3_weightOfAll_23 : decode cX3_weightOfAll 23 = .ok (.iload_n 1, 1) := by decide +kernel
theorem dX3_weightOfAll_24 : decode cX3_weightOfAll 24 = .ok (.ireturn, 1) := by decide +kernel
set_option maxRecDepth 20000 in
theorem ggX3_weightFrom_X3_allEvents : GoodIn wsX3_weightFrom wsX3_allEvents := goodIn_r _ [5, 6, 46, 47, 48, 49, 50, 51, 52, 53, 54] (by decide +kernel) (by decide +kernel)
set_option maxRecDepth 20000 in
theorem gX3_weightFrom_X3_allEvents : GoodIn wsX3_weightFrom (wsV RX3 142 RX3 yX3_allEvents wsX3_allEvents) := goodIn_app (goodIn_of _ (by decide +kernel)) ggX3_weightFrom_X3_allEvents
set_option maxRecDepth 20000 in
theorem ggX3_weightFrom_X3_paidToAll : GoodIn wsX3_weightFrom wsX3_paidToAll := goodIn_r _ [10, 11, 12, 13, 14, 4, 15, 16, 17, 18, 19, 20, 21, 22, 23, 24, 25, 26, 27, 1, 2, 3, 5, 6, 28, 29, 30, 31, 32, 33, 34, 35, 36, 37, 46, 47, 48, 49, 50, 51, 52, 53, 54, 55, 56, 57] (by decide +kernel) (by decide +kernel)
set_option maxRecDepth 20000 in
theorem gX3_weightFrom_X3_paidToAll : GoodIn wsX3_weightFrom (wsV RX3 114 RX3 yX3_paidToAll wsX3_paidToAll) := goodIn_app (goodIn_of _ (by decide +kernel)) ggX3_weightFrom_X3_paidToAll
set_option maxRecDepth 20000 in
theorem ggX3_weightFrom_X3_weightOf : GoodIn wsX3_weightFrom wsX3_weightOf := goodIn_r _ [41, 6, 42, 43, 44, 4, 45, 46, 47, 48, 49, 50, 51, 52, 53, 54] (by decide +kernel) (by decide +kernel)
set_option maxRecDepth 20000 in
theorem gX3_weightFrom_X3_weightOf : GoodIn wsX3_weightFrom (wsV RX3 239 RX3 yX3_weightOf wsX3_weightOf) := goodIn_app (goodIn_of _ (by decide +kernel)) ggX3_weightFrom_X3_weightOf
theorem dX3_weightFrom_0 : decode cX3_weightFrom 0 = .ok (.iconst 0, 1) := by decide +kernel
theorem dX3_weightFrom_1 : decode cX3_weightFrom 1 = .ok (.istore_n 2, 1) := by decide +kernel
theorem dX3_weightFrom_2 : decode cX3_weightFrom 2 = .ok (.iconst 0, 1) := by decide +kernel
theorem dX3_weightFrom_3 : decode cX3_weightFrom 3 = .ok (.istore_n 3, 1) := by decide +kernel
theorem dX3_weightFrom_4 : decode cX3_weightFrom 4 = .ok (.iload_n 3, 1) := by decide +kernel
theorem dX3_weightFrom_5 : decode cX3_weightFrom 5 = .ok (.aload_n 0, 1) := by decide +kernel
theorem dX3_weightFrom_6 : decode cX3_weightFrom 6 = .ok (.invokevirtual 142, 3) := by decide +kernel
theorem dX3_weightFrom_9 : decode cX3_weightFrom 9 = .ok (.if_icmp .gt 26, 3) := by decide +kernel
theorem dX3_weightFrom_12 : decode cX3_weightFrom 12 = .ok (.aload_n 0, 1) := by decide +kernel
theorem dX3_weightFrom_13 : decode cX3_weightFrom 13 = .ok (.iload_n 3, 1) := by decide +kernel
theorem dX3_weightFrom_14 : decode cX3_weightFrom 14 = .ok (.invokevirtual 114, 3) := by decide +kernel
theorem dX3_weightFrom_17 : decode cX3_weightFrom 17 = .ok (.iload_n 1, 1) := by decide +kernel
theorem dX3_weightFrom_18 : decode cX3_weightFrom 18 = .ok (.if_icmp .lt 11, 3) := by decide +kernel
theorem dX3_weightFrom_21 : decode cX3_weightFrom 21 = .ok (.iload_n 2, 1) := by decide +kernel
theorem dX3_weightFrom_22 : decode cX3_weightFrom 22 = .ok (.aload_n 0, 1) := by decide +kernel
theorem dX3_weightFrom_23 : decode cX3_weightFrom 23 = .ok (.iload_n 3, 1) := by decide +kernel
theorem dX3_weightFrom_24 : decode cX3_weightFrom 24 = .ok (.invokevirtual 239, 3) := by decide +kernel
theorem dX3_weightFrom_27 : decode cX3_weightFrom 27 = .ok (.iadd, 1) := by decide +kernel
theorem dX3_weightFrom_28 : decode cX3_weightFrom 28 = .ok (.istore_n 2, 1) := by decide +kernel
theorem dX3_weightFrom_29 : decode cX3_weightFrom 29 = .ok (.iinc 3 1, 3) := by decide +kernel
theorem dX3_weightFrom_32 : decode cX3_weightFrom 32 = .ok (.goto (-28), 3) := by decide +kernel
theorem dX3_weightFrom_35 : decode cX3_weightFrom 35 = .ok (.iload_n 2, 1) := by decide +kernel
theorem dX3_weightFrom_36 : decode cX3_weightFrom 36 = .ok (.ireturn, 1) := by decide +kernel
set_option maxRecDepth 20000 in
theorem ggX3_tenthsGained_X3_isIn : GoodIn wsX3_tenthsGained wsX3_isIn := goodIn_r _ [6] (by decide +kernel) (by decide +kernel)
set_option maxRecDepth 20000 in
theorem gX3_tenthsGained_X3_isIn : GoodIn wsX3_tenthsGained (va_wsS RX3 236 yX3_isIn wsX3_isIn) := goodIn_app (goodIn_of _ (by decide +kernel)) ggX3_tenthsGained_X3_isIn
theorem dX3_tenthsGained_0 : decode cX3_tenthsGained 0 = .ok (.iconst 0, 1) := by decide +kernel
theorem dX3_tenthsGained_1 : decode cX3_tenthsGained 1 = .ok (.istore 4, 2) := by decide +kernel
theorem dX3_tenthsGained_3 : decode cX3_tenthsGained 3 = .ok (.iconst 0, 1) := by decide +kernel
theorem dX3_tenthsGained_4 : decode cX3_tenthsGained 4 = .ok (.istore 5, 2) := by decide +kernel
theorem dX3_tenthsGained_6 : decode cX3_tenthsGained 6 = .ok (.iload 5, 2) := by decide +kernel
theorem dX3_tenthsGained_8 : decode cX3_tenthsGained 8 = .ok (.aload_n 0, 1) := by decide +kernel
theorem dX3_tenthsGained_9 : decode cX3_tenthsGained 9 = .ok (.getfield 33, 3) := by decide +kernel
theorem dX3_tenthsGained_12 : decode cX3_tenthsGained 12 = .ok (.if_icmp .ge 37, 3) := by decide +kernel
theorem dX3_tenthsGained_15 : decode cX3_tenthsGained 15 = .ok (.iload_n 3, 1) := by decide +kernel
theorem dX3_tenthsGained_16 : decode cX3_tenthsGained 16 = .ok (.iload 5, 2) := by decide +kernel
theorem dX3_tenthsGained_18 : decode cX3_tenthsGained 18 = .ok (.invokestatic 236, 3) := by decide +kernel
theorem dX3_tenthsGained_21 : decode cX3_tenthsGained 21 = .ok (.ifCond .eq 22, 3) := by decide +kernel
theorem dX3_tenthsGained_24 : decode cX3_tenthsGained 24 = .ok (.iload 4, 2) := by decide +kernel
theorem dX3_tenthsGained_26 : decode cX3_tenthsGained 26 = .ok (.iload_n 1, 1) := by decide +kernel
theorem dX3_tenthsGained_27 : decode cX3_tenthsGained 27 = .ok (.aload_n 0, 1) := by decide +kernel
theorem dX3_tenthsGained_28 : decode cX3_tenthsGained 28 = .ok (.getfield 17, 3) := by decide +kernel
theorem dX3_tenthsGained_31 : decode cX3_tenthsGained 31 = .ok (.iload 5, 2) := by decide +kernel
theorem dX3_tenthsGained_33 : decode cX3_tenthsGained 33 = .ok (.iaload, 1) := by decide +kernel
theorem dX3_tenthsGained_34 : decode cX3_tenthsGained 34 = .ok (.imul, 1) := by decide +kernel
theorem dX3_tenthsGained_35 : decode cX3_tenthsGained 35 = .ok (.bipush 10, 2) := by decide +kernel
theorem dX3_tenthsGained_37 : decode cX3_tenthsGained 37 = .ok (.iload_n 2, 1) := by decide +kernel
theorem dX3_tenthsGained_38 : decode cX3_tenthsGained 38 = .ok (.imul, 1) := by decide +kernel
theorem dX3_tenthsGained_39 : decode cX3_tenthsGained 39 = .ok (.isub, 1) := by decide +kernel
theorem dX3_tenthsGained_40 : decode cX3_tenthsGained 40 = .ok (.iadd, 1) := by decide +kernel
theorem dX3_tenthsGained_41 : decode cX3_tenthsGained 41 = .ok (.istore 4, 2) := by decide +kernel
theorem dX3_tenthsGained_43 : decode cX3_tenthsGained 43 = .ok (.iinc 5 1, 3) := by decide +kernel
theorem dX3_tenthsGained_46 : decode cX3_tenthsGained 46 = .ok (.goto (-40), 3) := by decide +kernel
theorem dX3_tenthsGained_49 : decode cX3_tenthsGained 49 = .ok (.iload 4, 2) := by decide +kernel
theorem dX3_tenthsGained_51 : decode cX3_tenthsGained 51 = .ok (.ireturn, 1) := by decide +kernel
set_option maxRecDepth 20000 in
theorem ggX3_shareNumber_X3_greatestDivisor : GoodIn wsX3_shareNumber wsX3_greatestDivisor := goodIn_r _ [4, 5, 6, 7, 8] (by decide +kernel) (by decide +kernel)
set_option maxRecDepth 20000 in
theorem gX3_shareNumber_X3_greatestDivisor : GoodIn wsX3_shareNumber (va_wsS RX3 242 yX3_greatestDivisor wsX3_greatestDivisor) := goodIn_app (goodIn_of _ (by decide +kernel)) ggX3_shareNumber_X3_greatestDivisor
theorem dX3_shareNumber_0 : decode cX3_shareNumber 0 = .ok (.iload_n 0, 1) := by decide +kernel
theorem dX3_shareNumber_1 : decode cX3_shareNumber 1 = .ok (.iload_n 1, 1) := by decide +kernel
theorem dX3_shareNumber_2 : decode cX3_shareNumber 2 = .ok (.invokestatic 242, 3) := by decide +kernel
theorem dX3_shareNumber_5 : decode cX3_shareNumber 5 = .ok (.istore_n 3, 1) := by decide +kernel
theorem dX3_shareNumber_6 : decode cX3_shareNumber 6 = .ok (.iload_n 2, 1) := by decide +kernel
theorem dX3_shareNumber_7 : decode cX3_shareNumber 7 = .ok (.ifCond .ne 7, 3) := by decide +kernel
theorem dX3_shareNumber_10 : decode cX3_shareNumber 10 = .ok (.iload_n 0, 1) := by decide +kernel
theorem dX3_shareNumber_11 : decode cX3_shareNumber 11 = .ok (.goto 4, 3) := by decide +kernel
theorem dX3_shareNumber_14 : decode cX3_shareNumber 14 = .ok (.iload_n 1, 1) := by decide +kernel
theorem dX3_shareNumber_15 : decode cX3_shareNumber 15 = .ok (.iload_n 3, 1) := by decide +kernel
theorem dX3_shareNumber_16 : decode cX3_shareNumber 16 = .ok (.idiv, 1) := by decide +kernel
theorem dX3_shareNumber_17 : decode cX3_shareNumber 17 = .ok (.i2l, 1) := by decide +kernel
theorem dX3_shareNumber_18 : decode cX3_shareNumber 18 = .ok (.lreturn, 1) := by decide +kernel
theorem dX3_greatestDivisor_0 : decode cX3_greatestDivisor 0 = .ok (.iload_n 0, 1) := by decide +kernel
theorem dX3_greatestDivisor_1 : decode cX3_greatestDivisor 1 = .ok (.istore_n 2, 1) := by decide +kernel
theorem dX3_greatestDivisor_2 : decode cX3_greatestDivisor 2 = .ok (.iload_n 1, 1) := by decide +kernel
theorem dX3_greatestDivisor_3 : decode cX3_greatestDivisor 3 = .ok (.istore_n 3, 1) := by decide +kernel
theorem dX3_greatestDivisor_4 : decode cX3_greatestDivisor 4 = .ok (.iconst 0, 1) := by decide +kernel
theorem dX3_greatestDivisor_5 : decode cX3_greatestDivisor 5 = .ok (.istore 4, 2) := by decide +kernel
theorem dX3_greatestDivisor_7 : decode cX3_greatestDivisor 7 = .ok (.iload 4, 2) := by decide +kernel
theorem dX3_greatestDivisor_9 : decode cX3_greatestDivisor 9 = .ok (.bipush 100, 2) := by decide +kernel
theorem dX3_greatestDivisor_11 : decode cX3_greatestDivisor 11 = .ok (.if_icmp .ge 23, 3) := by decide +kernel
theorem dX3_greatestDivisor_14 : decode cX3_greatestDivisor 14 = .ok (.iload_n 3, 1) := by decide +kernel
theorem dX3_greatestDivisor_15 : decode cX3_greatestDivisor 15 = .ok (.ifCond .eq 19, 3) := by decide +kernel
theorem dX3_greatestDivisor_18 : decode cX3_greatestDivisor 18 = .ok (.iload_n 2, 1) := by decide +kernel
theorem dX3_greatestDivisor_19 : decode cX3_greatestDivisor 19 = .ok (.iload_n 3, 1) := by decide +kernel
theorem dX3_greatestDivisor_20 : decode cX3_greatestDivisor 20 = .ok (.irem, 1) := by decide +kernel
theorem dX3_greatestDivisor_21 : decode cX3_greatestDivisor 21 = .ok (.istore 5, 2) := by decide +kernel
theorem dX3_greatestDivisor_23 : decode cX3_greatestDivisor 23 = .ok (.iload_n 3, 1) := by decide +kernel
theorem dX3_greatestDivisor_24 : decode cX3_greatestDivisor 24 = .ok (.istore_n 2, 1) := by decide +kernel
theorem dX3_greatestDivisor_25 : decode cX3_greatestDivisor 25 = .ok (.iload 5, 2) := by decide +kernel
theorem dX3_greatestDivisor_27 : decode cX3_greatestDivisor 27 = .ok (.istore_n 3, 1) := by decide +kernel
theorem dX3_greatestDivisor_28 : decode cX3_greatestDivisor 28 = .ok (.iinc 4 1, 3) := by decide +kernel
theorem dX3_greatestDivisor_31 : decode cX3_greatestDivisor 31 = .ok (.goto (-24), 3) := by decide +kernel
theorem dX3_greatestDivisor_34 : decode cX3_greatestDivisor 34 = .ok (.iload_n 2, 1) := by decide +kernel
theorem dX3_greatestDivisor_35 : decode cX3_greatestDivisor 35 = .ok (.iconst 1, 1) := by decide +kernel
theorem dX3_greatestDivisor_36 : decode cX3_greatestDivisor 36 = .ok (.invokestatic 231, 3) := by decide +kernel
theorem dX3_greatestDivisor_39 : decode cX3_greatestDivisor 39 = .ok (.ireturn, 1) := by decide +kernel
set_option maxRecDepth 20000 in
theorem ggX3_agreesWithReadings_X3_payment : GoodIn wsX3_agreesWithReadings wsX3_payment := goodIn_r _ [10, 11, 12, 13, 9, 14, 15, 16, 17, 18, 19, 20, 21, 22, 23, 24, 25, 26, 27, 28, 29, 38, 39, 40, 41, 42, 43, 44, 45, 46] (by decide +kernel) (by decide +kernel)
set_option maxRecDepth 20000 in
theorem gX3_agreesWithReadings_X3_payment : GoodIn wsX3_agreesWithReadings (wsV RX3 134 RX3 yX3_payment wsX3_payment) := goodIn_app (goodIn_of _ (by decide +kernel)) ggX3_agreesWithReadings_X3_payment
set_option maxRecDepth 20000 in
theorem ggX3_agreesWithReadings_X3_paidTo : GoodIn wsX3_agreesWithReadings wsX3_paidTo := goodIn_r _ [33, 34, 35, 36, 37, 6, 7, 8, 9, 10, 11, 12, 13, 14, 15, 16, 17, 18, 19, 20, 21, 22, 23, 24, 25, 26, 27, 28, 29, 38, 39, 40, 41, 42, 43, 44, 45, 46, 50, 51, 52] (by decide +kernel) (by decide +kernel)
set_option maxRecDepth 20000 in
theorem gX3_agreesWithReadings_X3_paidTo : GoodIn wsX3_agreesWithReadings (wsV RX3 107 RX3 yX3_paidTo wsX3_paidTo) := goodIn_app (goodIn_of _ (by decide +kernel)) ggX3_agreesWithReadings_X3_paidTo
theorem dX3_agreesWithReadings_0 : decode cX3_agreesWithReadings 0 = .ok (.iconst 0, 1) := by decide +kernel
theorem dX3_agreesWithReadings_1 : decode cX3_agreesWithReadings 1 = .ok (.istore 5, 2) := by decide +kernel
theorem dX3_agreesWithReadings_3 : decode cX3_agreesWithReadings 3 = .ok (.iload 5, 2) := by decide +kernel
theorem dX3_agreesWithReadings_5 : decode cX3_agreesWithReadings 5 = .ok (.aload_n 0, 1) := by decide +kernel
theorem dX3_agreesWithReadings_6 : decode cX3_agreesWithReadings 6 = .ok (.getfield 40, 3) := by decide +kernel
theorem dX3_agreesWithReadings_9 : decode cX3_agreesWithReadings 9 = .ok (.if_icmp .ge 71, 3) := by decide +kernel
theorem dX3_agreesWithReadings_12 : decode cX3_agreesWithReadings 12 = .ok (.aload_n 0, 1) := by decide +kernel
theorem dX3_agreesWithReadings_13 : decode cX3_agreesWithReadings 13 = .ok (.getfield 29, 3) := by decide +kernel
theorem dX3_agreesWithReadings_16 : decode cX3_agreesWithReadings 16 = .ok (.iload 5, 2) := by decide +kernel
theorem dX3_agreesWithReadings_18 : decode cX3_agreesWithReadings 18 = .ok (.aaload, 1) := by decide +kernel
theorem dX3_agreesWithReadings_19 : decode cX3_agreesWithReadings 19 = .ok (.astore 6, 2) := by decide +kernel
theorem dX3_agreesWithReadings_21 : decode cX3_agreesWithReadings 21 = .ok (.aload 6, 2) := by decide +kernel
theorem dX3_agreesWithReadings_23 : decode cX3_agreesWithReadings 23 = .ok (.getfield 155, 3) := by decide +kernel
theorem dX3_agreesWithReadings_26 : decode cX3_agreesWithReadings 26 = .ok (.iload_n 1, 1) := by decide +kernel
theorem dX3_agreesWithReadings_27 : decode cX3_agreesWithReadings 27 = .ok (.if_icmp .ne 19, 3) := by decide +kernel
theorem dX3_agreesWithReadings_30 : decode cX3_agreesWithReadings 30 = .ok (.aload_n 0, 1) := by decide +kernel
theorem dX3_agreesWithReadings_31 : decode cX3_agreesWithReadings 31 = .ok (.iload_n 2, 1) := by decide +kernel
theorem dX3_agreesWithReadings_32 : decode cX3_agreesWithReadings 32 = .ok (.iload_n 3, 1) := by decide +kernel
theorem dX3_agreesWithReadings_33 : decode cX3_agreesWithReadings 33 = .ok (.iload 4, 2) := by decide +kernel
theorem dX3_agreesWithReadings_35 : decode cX3_agreesWithReadings 35 = .ok (.aload 6, 2) := by decide +kernel
theorem dX3_agreesWithReadings_37 : decode cX3_agreesWithReadings 37 = .ok (.getfield 158, 3) := by decide +kernel
theorem dX3_agreesWithReadings_40 : decode cX3_agreesWithReadings 40 = .ok (.invokevirtual 134, 3) := by decide +kernel
theorem dX3_agreesWithReadings_43 : decode cX3_agreesWithReadings 43 = .ok (.goto 17, 3) := by decide +kernel
theorem dX3_agreesWithReadings_46 : decode cX3_agreesWithReadings 46 = .ok (.aload_n 0, 1) := by decide +kernel
theorem dX3_agreesWithReadings_47 : decode cX3_agreesWithReadings 47 = .ok (.aload 6, 2) := by decide +kernel
theorem dX3_agreesWithReadings_49 : decode cX3_agreesWithReadings 49 = .ok (.getfield 155, 3) := by decide +kernel
theorem dX3_agreesWithReadings_52 : decode cX3_agreesWithReadings 52 = .ok (.aload 6, 2) := by decide +kernel
theorem dX3_agreesWithReadings_54 : decode cX3_agreesWithReadings 54 = .ok (.getfield 158, 3) := by decide +kernel
theorem dX3_agreesWithReadings_57 : decode cX3_agreesWithReadings 57 = .ok (.invokevirtual 107, 3) := by decide +kernel
theorem dX3_agreesWithReadings_60 : decode cX3_agreesWithReadings 60 = .ok (.istore 7, 2) := by decide +kernel
theorem dX3_agreesWithReadings_62 : decode cX3_agreesWithReadings 62 = .ok (.iload 7, 2) := by decide +kernel
theorem dX3_agreesWithReadings_64 : decode cX3_agreesWithReadings 64 = .ok (.aload 6, 2) := by decide +kernel
theorem dX3_agreesWithReadings_66 : decode cX3_agreesWithReadings 66 = .ok (.getfield 161, 3) := by decide +kernel
theorem dX3_agreesWithReadings_69 : decode cX3_agreesWithReadings 69 = .ok (.if_icmp .eq 5, 3) := by decide +kernel
theorem dX3_agreesWithReadings_72 : decode cX3_agreesWithReadings 72 = .ok (.iconst 0, 1) := by decide +kernel
theorem dX3_agreesWithReadings_73 : decode cX3_agreesWithReadings 73 = .ok (.ireturn, 1) := by decide +kernel
theorem dX3_agreesWithReadings_74 : decode cX3_agreesWithReadings 74 = .ok (.iinc 5 1, 3) := by decide +kernel
theorem dX3_agreesWithReadings_77 : decode cX3_agreesWithReadings 77 = .ok (.goto (-74), 3) := by decide +kernel
theorem dX3_agreesWithReadings_80 : decode cX3_agreesWithReadings 80 = .ok (.iconst 1, 1) := by decide +kernel
theorem dX3_agreesWithReadings_81 : decode cX3_agreesWithReadings 81 = .ok (.ireturn, 1) := by decide +kernel
theorem dX3_leaveInTrace_0 : decode cX3_leaveInTrace 0 = .ok (.aload_n 0, 1) := by decide +kernel
theorem dX3_leaveInTrace_1 : decode cX3_leaveInTrace 1 = .ok (.bipush 31, 2) := by decide +kernel
theorem dX3_leaveInTrace_3 : decode cX3_leaveInTrace 3 = .ok (.aload_n 0, 1) := by decide +kernel
theorem dX3_leaveInTrace_4 : decode cX3_leaveInTrace 4 = .ok (.getfield 43, 3) := by decide +kernel
theorem dX3_leaveInTrace_7 : decode cX3_leaveInTrace 7 = .ok (.imul, 1) := by decide +kernel
theorem dX3_leaveInTrace_8 : decode cX3_leaveInTrace 8 = .ok (.iload_n 1, 1) := by decide +kernel
theorem dX3_leaveInTrace_9 : decode cX3_leaveInTrace 9 = .ok (.iadd, 1) := by decide +kernel
theorem dX3_leaveInTrace_10 : decode cX3_leaveInTrace 10 = .ok (.putfield 43, 3) := by decide +kernel
theorem dX3_leaveInTrace_13 : decode cX3_leaveInTrace 13 = .ok (.return_, 1) := by decide +kernel
set_option maxRecDepth 20000 in
theorem ggX3_modestTells_X3_leaveInTrace : GoodIn wsX3_modestTells wsX3_leaveInTrace := goodIn_r _ [5, 6, 7, 8, 9, 10, 11, 12, 13, 14, 15] (by decide +kernel) (by decide +kernel)
set_option maxRecDepth 20000 in
theorem gX3_modestTells_X3_leaveInTrace : GoodIn wsX3_modestTells (wsV RX3 245 RX3 yX3_leaveInTrace wsX3_leaveInTrace) := goodIn_app (goodIn_of _ (by decide +kernel)) ggX3_modestTells_X3_leaveInTrace
theorem dX3_modestTells_0 : decode cX3_modestTells 0 = .ok (.aload_n 0, 1) := by decide +kernel
theorem dX3_modestTells_1 : decode cX3_modestTells 1 = .ok (.iconst 1, 1) := by decide +kernel
theorem dX3_modestTells_2 : decode cX3_modestTells 2 = .ok (.invokevirtual 245, 3) := by decide +kernel
theorem dX3_modestTells_5 : decode cX3_modestTells 5 = .ok (.iload_n 1, 1) := by decide +kernel
theorem dX3_modestTells_6 : decode cX3_modestTells 6 = .ok (.ireturn, 1) := by decide +kernel
set_option maxRecDepth 20000 in
theorem ggX3_sureTells_X3_leaveInTrace : GoodIn wsX3_sureTells wsX3_leaveInTrace := goodIn_r _ [5, 6, 11, 12, 13, 14, 15, 16, 17, 18, 19] (by decide +kernel) (by decide +kernel)
set_option maxRecDepth 20000 in
theorem gX3_sureTells_X3_leaveInTrace : GoodIn wsX3_sureTells (wsV RX3 245 RX3 yX3_leaveInTrace wsX3_leaveInTrace) := goodIn_app (goodIn_of _ (by decide +kernel)) ggX3_sureTells_X3_leaveInTrace
set_option maxRecDepth 20000 in
theorem ggX3_sureTells_X3_modestTells : GoodIn wsX3_sureTells wsX3_modestTells := goodIn_r _ [10, 1, 2, 3, 4, 5, 6, 11, 12, 13, 14, 15, 16, 17, 18, 19] (by decide +kernel) (by decide +kernel)
set_option maxRecDepth 20000 in
theorem gX3_sureTells_X3_modestTells : GoodIn wsX3_sureTells (wsV RX3 193 RX3 yX3_modestTells wsX3_modestTells) := goodIn_app (goodIn_of _ (by decide +kernel)) ggX3_sureTells_X3_modestTells
theorem dX3_sureTells_0 : decode cX3_sureTells 0 = .ok (.aload_n 0, 1) := by decide +kernel
theorem dX3_sureTells_1 : decode cX3_sureTells 1 = .ok (.iconst 2, 1) := by decide +kernel
theorem dX3_sureTells_2 : decode cX3_sureTells 2 = .ok (.invokevirtual 245, 3) := by decide +kernel
theorem dX3_sureTells_5 : decode cX3_sureTells 5 = .ok (.aload_n 0, 1) := by decide +kernel
theorem dX3_sureTells_6 : decode cX3_sureTells 6 = .ok (.iload_n 1, 1) := by decide +kernel
theorem dX3_sureTells_7 : decode cX3_sureTells 7 = .ok (.invokevirtual 193, 3) := by decide +kernel
theorem dX3_sureTells_10 : decode cX3_sureTells 10 = .ok (.bipush 100, 2) := by decide +kernel
theorem dX3_sureTells_12 : decode cX3_sureTells 12 = .ok (.iadd, 1) := by decide +kernel
theorem dX3_sureTells_13 : decode cX3_sureTells 13 = .ok (.ireturn, 1) := by decide +kernel
set_option maxRecDepth 20000 in
theorem ggX3_loudTells_X3_leaveInTrace : GoodIn wsX3_loudTells wsX3_leaveInTrace := goodIn_r _ [5, 6, 15, 16, 17, 18, 19, 20, 21, 22, 23] (by decide +kernel) (by decide +kernel)
set_option maxRecDepth 20000 in
theorem gX3_loudTells_X3_leaveInTrace : GoodIn wsX3_loudTells (wsV RX3 245 RX3 yX3_leaveInTrace wsX3_leaveInTrace) := goodIn_app (goodIn_of _ (by decide +kernel)) ggX3_loudTells_X3_leaveInTrace
set_option maxRecDepth 20000 in
theorem ggX3_loudTells_X3_sureTells : GoodIn wsX3_loudTells wsX3_sureTells := goodIn_r _ [10, 1, 2, 3, 4, 5, 6, 11, 12, 13, 14, 15, 16, 17, 18, 19, 20, 21, 22, 23] (by decide +kernel) (by decide +kernel)
set_option maxRecDepth 20000 in
theorem gX3_loudTells_X3_sureTells : GoodIn wsX3_loudTells (wsV RX3 196 RX3 yX3_sureTells wsX3_sureTells) := goodIn_app (goodIn_of _ (by decide +kernel)) ggX3_loudTells_X3_sureTells
set_option maxRecDepth 20000 in
theorem ggX3_loudTells_X3_modestTells : GoodIn wsX3_loudTells wsX3_modestTells := goodIn_r _ [14, 1, 2, 3, 4, 5, 6, 15, 16, 17, 18, 19, 20, 21, 22, 23] (by decide +kernel) (by decide +kernel)
set_option maxRecDepth 20000 in
theorem gX3_loudTells_X3_modestTells : GoodIn wsX3_loudTells (wsV RX3 193 RX3 yX3_modestTells wsX3_modestTells) := goodIn_app (goodIn_of _ (by decide +kernel)) ggX3_loudTells_X3_modestTells
theorem dX3_loudTells_0 : decode cX3_loudTells 0 = .ok (.aload_n 0, 1) := by decide +kernel
theorem dX3_loudTells_1 : decode cX3_loudTells 1 = .ok (.iconst 3, 1) := by decide +kernel
theorem dX3_loudTells_2 : decode cX3_loudTells 2 = .ok (.invokevirtual 245, 3) := by decide +kernel
theorem dX3_loudTells_5 : decode cX3_loudTells 5 = .ok (.aload_n 0, 1) := by decide +kernel
theorem dX3_loudTells_6 : decode cX3_loudTells 6 = .ok (.iload_n 1, 1) := by decide +kernel
theorem dX3_loudTells_7 : decode cX3_loudTells 7 = .ok (.invokevirtual 196, 3) := by decide +kernel
theorem dX3_loudTells_10 : decode cX3_loudTells 10 = .ok (.istore_n 2, 1) := by decide +kernel
theorem dX3_loudTells_11 : decode cX3_loudTells 11 = .ok (.iload_n 2, 1) := by decide +kernel
theorem dX3_loudTells_12 : decode cX3_loudTells 12 = .ok (.aload_n 0, 1) := by decide +kernel
theorem dX3_loudTells_13 : decode cX3_loudTells 13 = .ok (.iload_n 1, 1) := by decide +kernel
theorem dX3_loudTells_14 : decode cX3_loudTells 14 = .ok (.invokevirtual 193, 3) := by decide +kernel
theorem dX3_loudTells_17 : decode cX3_loudTells 17 = .ok (.iadd, 1) := by decide +kernel
theorem dX3_loudTells_18 : decode cX3_loudTells 18 = .ok (.ireturn, 1) := by decide +kernel
set_option maxRecDepth 20000 in
theorem ggX3_lentBodyHears_X3_leaveInTrace : GoodIn wsX3_lentBodyHears wsX3_leaveInTrace := goodIn_r _ [5, 6, 7, 8, 9, 10, 11, 12, 13, 14, 15] (by decide +kernel) (by decide +kernel)
set_option maxRecDepth 20000 in
theorem gX3_lentBodyHears_X3_leaveInTrace : GoodIn wsX3_lentBodyHears (wsV RX3 245 RX3 yX3_leaveInTrace wsX3_leaveInTrace) := goodIn_app (goodIn_of _ (by decide +kernel)) ggX3_lentBodyHears_X3_leaveInTrace
theorem dX3_lentBodyHears_0 : decode cX3_lentBodyHears 0 = .ok (.aload_n 0, 1) := by decide +kernel
theorem dX3_lentBodyHears_1 : decode cX3_lentBodyHears 1 = .ok (.iconst 4, 1) := by decide +kernel
theorem dX3_lentBodyHears_2 : decode cX3_lentBodyHears 2 = .ok (.invokevirtual 245, 3) := by decide +kernel
theorem dX3_lentBodyHears_5 : decode cX3_lentBodyHears 5 = .ok (.iload_n 1, 1) := by decide +kernel
theorem dX3_lentBodyHears_6 : decode cX3_lentBodyHears 6 = .ok (.ireturn, 1) := by decide +kernel
set_option maxRecDepth 20000 in
theorem ggX3_loudIsHeard_X3_leaveInTrace : GoodIn wsX3_loudIsHeard wsX3_leaveInTrace := goodIn_r _ [5, 6, 7, 8, 9, 10, 11, 12, 13, 14, 15] (by decide +kernel) (by decide +kernel)
set_option maxRecDepth 20000 in
theorem gX3_loudIsHeard_X3_leaveInTrace : GoodIn wsX3_loudIsHeard (wsV RX3 245 RX3 yX3_leaveInTrace wsX3_leaveInTrace) := goodIn_app (goodIn_of _ (by decide +kernel)) ggX3_loudIsHeard_X3_leaveInTrace
theorem dX3_loudIsHeard_0 : decode cX3_loudIsHeard 0 = .ok (.aload_n 0, 1) := by decide +kernel
theorem dX3_loudIsHeard_1 : decode cX3_loudIsHeard 1 = .ok (.iconst 5, 1) := by decide +kernel
theorem dX3_loudIsHeard_2 : decode cX3_loudIsHeard 2 = .ok (.invokevirtual 245, 3) := by decide +kernel
theorem dX3_loudIsHeard_5 : decode cX3_loudIsHeard 5 = .ok (.bipush 20, 2) := by decide +kernel
theorem dX3_loudIsHeard_7 : decode cX3_loudIsHeard 7 = .ok (.ireturn, 1) := by decide +kernel
