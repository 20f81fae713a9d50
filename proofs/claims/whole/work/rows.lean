section
-- ===== PART A: goes FIRST, ahead of the names: the tables' words, and 'selects' of the private methods out of them =====
/-- a private method of a class that the tables say can be made, by its rows of tables_1 -/
def lw_okq (q : MethodName × Nat) : Prop := (q.1.cls ≠ "java/lang/invoke/MethodHandle" ∧ q.1.cls ≠ "java/lang/invoke/VarHandle") ∧ Cond.instantiable q.1.cls q.2 ∈ tables_1 ∧ Cond.privateMethod q.1 ∈ tables_1 ∧ Cond.instanceMethod q.1 ∈ tables_1
theorem lw_p0 : lw_okq (⟨"ProphetCover", "faulty", "(I)I"⟩, 9) := ⟨⟨by decide +kernel, by decide +kernel⟩, List.mem_of_getElem? (i := 10) (by decide +kernel), List.mem_of_getElem? (i := 129) (by decide +kernel), List.mem_of_getElem? (i := 130) (by decide +kernel)⟩
theorem lw_p1 : lw_okq (⟨"ProphetCover", "takeOffice", "([III)V"⟩, 9) := ⟨⟨by decide +kernel, by decide +kernel⟩, List.mem_of_getElem? (i := 10) (by decide +kernel), List.mem_of_getElem? (i := 145) (by decide +kernel), List.mem_of_getElem? (i := 146) (by decide +kernel)⟩
theorem lw_p2 : lw_okq (⟨"ProphetCover", "isEvent", "(I)Z"⟩, 9) := ⟨⟨by decide +kernel, by decide +kernel⟩, List.mem_of_getElem? (i := 10) (by decide +kernel), List.mem_of_getElem? (i := 156) (by decide +kernel), List.mem_of_getElem? (i := 157) (by decide +kernel)⟩
theorem lw_p3 : lw_okq (⟨"ProphetCover", "isProphet", "(I)Z"⟩, 9) := ⟨⟨by decide +kernel, by decide +kernel⟩, List.mem_of_getElem? (i := 10) (by decide +kernel), List.mem_of_getElem? (i := 171) (by decide +kernel), List.mem_of_getElem? (i := 172) (by decide +kernel)⟩
theorem lw_p4 : lw_okq (⟨"ProphetCover", "isFraud", "(I)Z"⟩, 9) := ⟨⟨by decide +kernel, by decide +kernel⟩, List.mem_of_getElem? (i := 10) (by decide +kernel), List.mem_of_getElem? (i := 178) (by decide +kernel), List.mem_of_getElem? (i := 179) (by decide +kernel)⟩
theorem lw_p5 : lw_okq (⟨"ProphetCover", "allEvents", "()I"⟩, 9) := ⟨⟨by decide +kernel, by decide +kernel⟩, List.mem_of_getElem? (i := 10) (by decide +kernel), List.mem_of_getElem? (i := 182) (by decide +kernel), List.mem_of_getElem? (i := 183) (by decide +kernel)⟩
theorem lw_p6 : lw_okq (⟨"ProphetCover", "isEventSet", "(I)Z"⟩, 9) := ⟨⟨by decide +kernel, by decide +kernel⟩, List.mem_of_getElem? (i := 10) (by decide +kernel), List.mem_of_getElem? (i := 194) (by decide +kernel), List.mem_of_getElem? (i := 195) (by decide +kernel)⟩
theorem lw_p7 : lw_okq (⟨"ProphetCover", "paidTo", "(II)I"⟩, 9) := ⟨⟨by decide +kernel, by decide +kernel⟩, List.mem_of_getElem? (i := 10) (by decide +kernel), List.mem_of_getElem? (i := 198) (by decide +kernel), List.mem_of_getElem? (i := 199) (by decide +kernel)⟩
theorem lw_p8 : lw_okq (⟨"ProphetCover", "payment", "(IIII)I"⟩, 9) := ⟨⟨by decide +kernel, by decide +kernel⟩, List.mem_of_getElem? (i := 10) (by decide +kernel), List.mem_of_getElem? (i := 202) (by decide +kernel), List.mem_of_getElem? (i := 203) (by decide +kernel)⟩
theorem lw_p9 : lw_okq (⟨"ProphetCover", "hasOffice", "()Z"⟩, 9) := ⟨⟨by decide +kernel, by decide +kernel⟩, List.mem_of_getElem? (i := 10) (by decide +kernel), List.mem_of_getElem? (i := 216) (by decide +kernel), List.mem_of_getElem? (i := 217) (by decide +kernel)⟩
theorem lw_p10 : lw_okq (⟨"ProphetCover", "paidToAll", "(I)I"⟩, 9) := ⟨⟨by decide +kernel, by decide +kernel⟩, List.mem_of_getElem? (i := 10) (by decide +kernel), List.mem_of_getElem? (i := 220) (by decide +kernel), List.mem_of_getElem? (i := 221) (by decide +kernel)⟩
theorem lw_p11 : lw_okq (⟨"ProphetCover", "areEventSets", "([III)Z"⟩, 9) := ⟨⟨by decide +kernel, by decide +kernel⟩, List.mem_of_getElem? (i := 10) (by decide +kernel), List.mem_of_getElem? (i := 231) (by decide +kernel), List.mem_of_getElem? (i := 232) (by decide +kernel)⟩
theorem lw_p12 : lw_okq (⟨"ProphetCover", "paidOverYears", "(I[III)I"⟩, 9) := ⟨⟨by decide +kernel, by decide +kernel⟩, List.mem_of_getElem? (i := 10) (by decide +kernel), List.mem_of_getElem? (i := 235) (by decide +kernel), List.mem_of_getElem? (i := 236) (by decide +kernel)⟩
theorem lw_p13 : lw_okq (⟨"ProphetCover", "officeOverYears", "(I[IIII)I"⟩, 9) := ⟨⟨by decide +kernel, by decide +kernel⟩, List.mem_of_getElem? (i := 10) (by decide +kernel), List.mem_of_getElem? (i := 239) (by decide +kernel), List.mem_of_getElem? (i := 240) (by decide +kernel)⟩
theorem lw_p14 : lw_okq (⟨"ProphetCover", "premiumsOfYear", "(I)I"⟩, 9) := ⟨⟨by decide +kernel, by decide +kernel⟩, List.mem_of_getElem? (i := 10) (by decide +kernel), List.mem_of_getElem? (i := 243) (by decide +kernel), List.mem_of_getElem? (i := 244) (by decide +kernel)⟩
theorem lw_p15 : lw_okq (⟨"ProphetCover", "weightOfAll", "()I"⟩, 9) := ⟨⟨by decide +kernel, by decide +kernel⟩, List.mem_of_getElem? (i := 10) (by decide +kernel), List.mem_of_getElem? (i := 269) (by decide +kernel), List.mem_of_getElem? (i := 270) (by decide +kernel)⟩
def lw_privs_1 : List (MethodName × Nat) := [(⟨"ProphetCover", "faulty", "(I)I"⟩, 9), (⟨"ProphetCover", "takeOffice", "([III)V"⟩, 9), (⟨"ProphetCover", "isEvent", "(I)Z"⟩, 9), (⟨"ProphetCover", "isProphet", "(I)Z"⟩, 9), (⟨"ProphetCover", "isFraud", "(I)Z"⟩, 9), (⟨"ProphetCover", "allEvents", "()I"⟩, 9), (⟨"ProphetCover", "isEventSet", "(I)Z"⟩, 9), (⟨"ProphetCover", "paidTo", "(II)I"⟩, 9), (⟨"ProphetCover", "payment", "(IIII)I"⟩, 9), (⟨"ProphetCover", "hasOffice", "()Z"⟩, 9), (⟨"ProphetCover", "paidToAll", "(I)I"⟩, 9), (⟨"ProphetCover", "areEventSets", "([III)Z"⟩, 9), (⟨"ProphetCover", "paidOverYears", "(I[III)I"⟩, 9), (⟨"ProphetCover", "officeOverYears", "(I[IIII)I"⟩, 9), (⟨"ProphetCover", "premiumsOfYear", "(I)I"⟩, 9), (⟨"ProphetCover", "weightOfAll", "()I"⟩, 9)]
theorem lw_r1 : ∀ q ∈ lw_privs_1, lw_okq q := List.forall_mem_cons.mpr ⟨lw_p0, List.forall_mem_cons.mpr ⟨lw_p1, List.forall_mem_cons.mpr ⟨lw_p2, List.forall_mem_cons.mpr ⟨lw_p3, List.forall_mem_cons.mpr ⟨lw_p4, List.forall_mem_cons.mpr ⟨lw_p5, List.forall_mem_cons.mpr ⟨lw_p6, List.forall_mem_cons.mpr ⟨lw_p7, List.forall_mem_cons.mpr ⟨lw_p8, List.forall_mem_cons.mpr ⟨lw_p9, List.forall_mem_cons.mpr ⟨lw_p10, List.forall_mem_cons.mpr ⟨lw_p11, List.forall_mem_cons.mpr ⟨lw_p12, List.forall_mem_cons.mpr ⟨lw_p13, List.forall_mem_cons.mpr ⟨lw_p14, List.forall_mem_cons.mpr ⟨lw_p15, fun _ h => absurd h List.not_mem_nil⟩⟩⟩⟩⟩⟩⟩⟩⟩⟩⟩⟩⟩⟩⟩⟩
theorem lw_p16 : lw_okq (⟨"ProphetCover", "weightFrom", "(I)I"⟩, 9) := ⟨⟨by decide +kernel, by decide +kernel⟩, List.mem_of_getElem? (i := 10) (by decide +kernel), List.mem_of_getElem? (i := 273) (by decide +kernel), List.mem_of_getElem? (i := 274) (by decide +kernel)⟩
theorem lw_p17 : lw_okq (⟨"ProphetCover", "weightOf", "(I)I"⟩, 9) := ⟨⟨by decide +kernel, by decide +kernel⟩, List.mem_of_getElem? (i := 10) (by decide +kernel), List.mem_of_getElem? (i := 277) (by decide +kernel), List.mem_of_getElem? (i := 278) (by decide +kernel)⟩
theorem lw_p18 : lw_okq (⟨"ProphetCover", "tenthsGained", "(III)I"⟩, 9) := ⟨⟨by decide +kernel, by decide +kernel⟩, List.mem_of_getElem? (i := 10) (by decide +kernel), List.mem_of_getElem? (i := 288) (by decide +kernel), List.mem_of_getElem? (i := 289) (by decide +kernel)⟩
theorem lw_p19 : lw_okq (⟨"ProphetCover", "agreesWithReadings", "(IIII)Z"⟩, 9) := ⟨⟨by decide +kernel, by decide +kernel⟩, List.mem_of_getElem? (i := 10) (by decide +kernel), List.mem_of_getElem? (i := 308) (by decide +kernel), List.mem_of_getElem? (i := 309) (by decide +kernel)⟩
theorem lw_p20 : lw_okq (⟨"ProphetCover$Sheet", "cut", "(I)I"⟩, 3) := ⟨⟨by decide +kernel, by decide +kernel⟩, List.mem_of_getElem? (i := 23) (by decide +kernel), List.mem_of_getElem? (i := 345) (by decide +kernel), List.mem_of_getElem? (i := 346) (by decide +kernel)⟩
theorem lw_p21 : lw_okq (⟨"ProphetCover", "modestTells", "(I)I"⟩, 9) := ⟨⟨by decide +kernel, by decide +kernel⟩, List.mem_of_getElem? (i := 10) (by decide +kernel), List.mem_of_getElem? (i := 365) (by decide +kernel), List.mem_of_getElem? (i := 366) (by decide +kernel)⟩
theorem lw_p22 : lw_okq (⟨"ProphetCover", "leaveInTrace", "(I)V"⟩, 9) := ⟨⟨by decide +kernel, by decide +kernel⟩, List.mem_of_getElem? (i := 10) (by decide +kernel), List.mem_of_getElem? (i := 369) (by decide +kernel), List.mem_of_getElem? (i := 370) (by decide +kernel)⟩
theorem lw_p23 : lw_okq (⟨"ProphetCover", "sureTells", "(I)I"⟩, 9) := ⟨⟨by decide +kernel, by decide +kernel⟩, List.mem_of_getElem? (i := 10) (by decide +kernel), List.mem_of_getElem? (i := 373) (by decide +kernel), List.mem_of_getElem? (i := 374) (by decide +kernel)⟩
theorem lw_p24 : lw_okq (⟨"ProphetCover", "loudTells", "(I)I"⟩, 9) := ⟨⟨by decide +kernel, by decide +kernel⟩, List.mem_of_getElem? (i := 10) (by decide +kernel), List.mem_of_getElem? (i := 377) (by decide +kernel), List.mem_of_getElem? (i := 378) (by decide +kernel)⟩
theorem lw_p25 : lw_okq (⟨"ProphetCover", "loudIsHeard", "()I"⟩, 9) := ⟨⟨by decide +kernel, by decide +kernel⟩, List.mem_of_getElem? (i := 10) (by decide +kernel), List.mem_of_getElem? (i := 385) (by decide +kernel), List.mem_of_getElem? (i := 386) (by decide +kernel)⟩
theorem lw_p26 : lw_okq (⟨"ProphetCover", "lentBodyHears", "(I)I"⟩, 9) := ⟨⟨by decide +kernel, by decide +kernel⟩, List.mem_of_getElem? (i := 10) (by decide +kernel), List.mem_of_getElem? (i := 389) (by decide +kernel), List.mem_of_getElem? (i := 390) (by decide +kernel)⟩
theorem lw_p27 : lw_okq (⟨"ProphetCover", "countFrauds", "()I"⟩, 9) := ⟨⟨by decide +kernel, by decide +kernel⟩, List.mem_of_getElem? (i := 10) (by decide +kernel), List.mem_of_getElem? (i := 409) (by decide +kernel), List.mem_of_getElem? (i := 410) (by decide +kernel)⟩
theorem lw_p28 : lw_okq (⟨"ProphetCoverModel", "refused", "(I)I"⟩, 27) := ⟨⟨by decide +kernel, by decide +kernel⟩, List.mem_of_getElem? (i := 413) (by decide +kernel), List.mem_of_getElem? (i := 512) (by decide +kernel), List.mem_of_getElem? (i := 513) (by decide +kernel)⟩
theorem lw_p29 : lw_okq (⟨"ProphetCoverModel", "cellsBarred", "(IIIJ)I"⟩, 27) := ⟨⟨by decide +kernel, by decide +kernel⟩, List.mem_of_getElem? (i := 413) (by decide +kernel), List.mem_of_getElem? (i := 517) (by decide +kernel), List.mem_of_getElem? (i := 518) (by decide +kernel)⟩
theorem lw_p30 : lw_okq (⟨"ProphetCoverModel", "failed", "(I)I"⟩, 27) := ⟨⟨by decide +kernel, by decide +kernel⟩, List.mem_of_getElem? (i := 413) (by decide +kernel), List.mem_of_getElem? (i := 521) (by decide +kernel), List.mem_of_getElem? (i := 522) (by decide +kernel)⟩
theorem lw_p31 : lw_okq (⟨"ProphetCoverModel", "readsOffice", "(II)Z"⟩, 27) := ⟨⟨by decide +kernel, by decide +kernel⟩, List.mem_of_getElem? (i := 413) (by decide +kernel), List.mem_of_getElem? (i := 528) (by decide +kernel), List.mem_of_getElem? (i := 529) (by decide +kernel)⟩
def lw_privs_2 : List (MethodName × Nat) := [(⟨"ProphetCover", "weightFrom", "(I)I"⟩, 9), (⟨"ProphetCover", "weightOf", "(I)I"⟩, 9), (⟨"ProphetCover", "tenthsGained", "(III)I"⟩, 9), (⟨"ProphetCover", "agreesWithReadings", "(IIII)Z"⟩, 9), (⟨"ProphetCover$Sheet", "cut", "(I)I"⟩, 3), (⟨"ProphetCover", "modestTells", "(I)I"⟩, 9), (⟨"ProphetCover", "leaveInTrace", "(I)V"⟩, 9), (⟨"ProphetCover", "sureTells", "(I)I"⟩, 9), (⟨"ProphetCover", "loudTells", "(I)I"⟩, 9), (⟨"ProphetCover", "loudIsHeard", "()I"⟩, 9), (⟨"ProphetCover", "lentBodyHears", "(I)I"⟩, 9), (⟨"ProphetCover", "countFrauds", "()I"⟩, 9), (⟨"ProphetCoverModel", "refused", "(I)I"⟩, 27), (⟨"ProphetCoverModel", "cellsBarred", "(IIIJ)I"⟩, 27), (⟨"ProphetCoverModel", "failed", "(I)I"⟩, 27), (⟨"ProphetCoverModel", "readsOffice", "(II)Z"⟩, 27)]
theorem lw_r2 : ∀ q ∈ lw_privs_2, lw_okq q := List.forall_mem_cons.mpr ⟨lw_p16, List.forall_mem_cons.mpr ⟨lw_p17, List.forall_mem_cons.mpr ⟨lw_p18, List.forall_mem_cons.mpr ⟨lw_p19, List.forall_mem_cons.mpr ⟨lw_p20, List.forall_mem_cons.mpr ⟨lw_p21, List.forall_mem_cons.mpr ⟨lw_p22, List.forall_mem_cons.mpr ⟨lw_p23, List.forall_mem_cons.mpr ⟨lw_p24, List.forall_mem_cons.mpr ⟨lw_p25, List.forall_mem_cons.mpr ⟨lw_p26, List.forall_mem_cons.mpr ⟨lw_p27, List.forall_mem_cons.mpr ⟨lw_p28, List.forall_mem_cons.mpr ⟨lw_p29, List.forall_mem_cons.mpr ⟨lw_p30, List.forall_mem_cons.mpr ⟨lw_p31, fun _ h => absurd h List.not_mem_nil⟩⟩⟩⟩⟩⟩⟩⟩⟩⟩⟩⟩⟩⟩⟩⟩
theorem lw_p32 : lw_okq (⟨"ProphetCoverModel", "codeAt", "(II)I"⟩, 27) := ⟨⟨by decide +kernel, by decide +kernel⟩, List.mem_of_getElem? (i := 413) (by decide +kernel), List.mem_of_getElem? (i := 532) (by decide +kernel), List.mem_of_getElem? (i := 533) (by decide +kernel)⟩
theorem lw_p33 : lw_okq (⟨"ProphetCoverModel", "readsEvent", "(II)Z"⟩, 27) := ⟨⟨by decide +kernel, by decide +kernel⟩, List.mem_of_getElem? (i := 413) (by decide +kernel), List.mem_of_getElem? (i := 536) (by decide +kernel), List.mem_of_getElem? (i := 537) (by decide +kernel)⟩
theorem lw_p34 : lw_okq (⟨"ProphetCoverModel", "figure", "(III)I"⟩, 27) := ⟨⟨by decide +kernel, by decide +kernel⟩, List.mem_of_getElem? (i := 413) (by decide +kernel), List.mem_of_getElem? (i := 540) (by decide +kernel), List.mem_of_getElem? (i := 541) (by decide +kernel)⟩
theorem lw_p35 : lw_okq (⟨"ProphetCoverModel", "readsProphet", "(II)Z"⟩, 27) := ⟨⟨by decide +kernel, by decide +kernel⟩, List.mem_of_getElem? (i := 413) (by decide +kernel), List.mem_of_getElem? (i := 544) (by decide +kernel), List.mem_of_getElem? (i := 545) (by decide +kernel)⟩
theorem lw_p36 : lw_okq (⟨"ProphetCoverModel", "noEvent", "(I)Z"⟩, 27) := ⟨⟨by decide +kernel, by decide +kernel⟩, List.mem_of_getElem? (i := 413) (by decide +kernel), List.mem_of_getElem? (i := 552) (by decide +kernel), List.mem_of_getElem? (i := 553) (by decide +kernel)⟩
theorem lw_p37 : lw_okq (⟨"ProphetCoverModel", "noProphet", "(I)Z"⟩, 27) := ⟨⟨by decide +kernel, by decide +kernel⟩, List.mem_of_getElem? (i := 413) (by decide +kernel), List.mem_of_getElem? (i := 565) (by decide +kernel), List.mem_of_getElem? (i := 566) (by decide +kernel)⟩
theorem lw_p38 : lw_okq (⟨"ProphetCoverModel", "paysOf", "(I)I"⟩, 27) := ⟨⟨by decide +kernel, by decide +kernel⟩, List.mem_of_getElem? (i := 413) (by decide +kernel), List.mem_of_getElem? (i := 569) (by decide +kernel), List.mem_of_getElem? (i := 570) (by decide +kernel)⟩
theorem lw_p39 : lw_okq (⟨"ProphetCoverModel", "isFraud", "(I)Z"⟩, 27) := ⟨⟨by decide +kernel, by decide +kernel⟩, List.mem_of_getElem? (i := 413) (by decide +kernel), List.mem_of_getElem? (i := 573) (by decide +kernel), List.mem_of_getElem? (i := 574) (by decide +kernel)⟩
theorem lw_p40 : lw_okq (⟨"ProphetCoverModel", "allEvents", "()I"⟩, 27) := ⟨⟨by decide +kernel, by decide +kernel⟩, List.mem_of_getElem? (i := 413) (by decide +kernel), List.mem_of_getElem? (i := 577) (by decide +kernel), List.mem_of_getElem? (i := 578) (by decide +kernel)⟩
theorem lw_p41 : lw_okq (⟨"ProphetCoverModel", "noSet", "(I)Z"⟩, 27) := ⟨⟨by decide +kernel, by decide +kernel⟩, List.mem_of_getElem? (i := 413) (by decide +kernel), List.mem_of_getElem? (i := 590) (by decide +kernel), List.mem_of_getElem? (i := 591) (by decide +kernel)⟩
theorem lw_p42 : lw_okq (⟨"ProphetCoverModel", "paidTo", "(II)I"⟩, 27) := ⟨⟨by decide +kernel, by decide +kernel⟩, List.mem_of_getElem? (i := 413) (by decide +kernel), List.mem_of_getElem? (i := 594) (by decide +kernel), List.mem_of_getElem? (i := 595) (by decide +kernel)⟩
theorem lw_p43 : lw_okq (⟨"ProphetCoverModel", "paidToAll", "(I)I"⟩, 27) := ⟨⟨by decide +kernel, by decide +kernel⟩, List.mem_of_getElem? (i := 413) (by decide +kernel), List.mem_of_getElem? (i := 605) (by decide +kernel), List.mem_of_getElem? (i := 606) (by decide +kernel)⟩
theorem lw_p44 : lw_okq (⟨"ProphetCoverModel", "goYears", "(III)V"⟩, 27) := ⟨⟨by decide +kernel, by decide +kernel⟩, List.mem_of_getElem? (i := 413) (by decide +kernel), List.mem_of_getElem? (i := 616) (by decide +kernel), List.mem_of_getElem? (i := 617) (by decide +kernel)⟩
theorem lw_p45 : lw_okq (⟨"ProphetCoverModel", "premiumsOf", "(I)I"⟩, 27) := ⟨⟨by decide +kernel, by decide +kernel⟩, List.mem_of_getElem? (i := 413) (by decide +kernel), List.mem_of_getElem? (i := 620) (by decide +kernel), List.mem_of_getElem? (i := 621) (by decide +kernel)⟩
theorem lw_p46 : lw_okq (⟨"ProphetCoverModel", "paidBy", "(III)I"⟩, 27) := ⟨⟨by decide +kernel, by decide +kernel⟩, List.mem_of_getElem? (i := 413) (by decide +kernel), List.mem_of_getElem? (i := 624) (by decide +kernel), List.mem_of_getElem? (i := 625) (by decide +kernel)⟩
theorem lw_p47 : lw_okq (⟨"ProphetCoverModel", "weightOfAll", "()J"⟩, 27) := ⟨⟨by decide +kernel, by decide +kernel⟩, List.mem_of_getElem? (i := 413) (by decide +kernel), List.mem_of_getElem? (i := 650) (by decide +kernel), List.mem_of_getElem? (i := 651) (by decide +kernel)⟩
def lw_privs_3 : List (MethodName × Nat) := [(⟨"ProphetCoverModel", "codeAt", "(II)I"⟩, 27), (⟨"ProphetCoverModel", "readsEvent", "(II)Z"⟩, 27), (⟨"ProphetCoverModel", "figure", "(III)I"⟩, 27), (⟨"ProphetCoverModel", "readsProphet", "(II)Z"⟩, 27), (⟨"ProphetCoverModel", "noEvent", "(I)Z"⟩, 27), (⟨"ProphetCoverModel", "noProphet", "(I)Z"⟩, 27), (⟨"ProphetCoverModel", "paysOf", "(I)I"⟩, 27), (⟨"ProphetCoverModel", "isFraud", "(I)Z"⟩, 27), (⟨"ProphetCoverModel", "allEvents", "()I"⟩, 27), (⟨"ProphetCoverModel", "noSet", "(I)Z"⟩, 27), (⟨"ProphetCoverModel", "paidTo", "(II)I"⟩, 27), (⟨"ProphetCoverModel", "paidToAll", "(I)I"⟩, 27), (⟨"ProphetCoverModel", "goYears", "(III)V"⟩, 27), (⟨"ProphetCoverModel", "premiumsOf", "(I)I"⟩, 27), (⟨"ProphetCoverModel", "paidBy", "(III)I"⟩, 27), (⟨"ProphetCoverModel", "weightOfAll", "()J"⟩, 27)]
theorem lw_r3 : ∀ q ∈ lw_privs_3, lw_okq q := List.forall_mem_cons.mpr ⟨lw_p32, List.forall_mem_cons.mpr ⟨lw_p33, List.forall_mem_cons.mpr ⟨lw_p34, List.forall_mem_cons.mpr ⟨lw_p35, List.forall_mem_cons.mpr ⟨lw_p36, List.forall_mem_cons.mpr ⟨lw_p37, List.forall_mem_cons.mpr ⟨lw_p38, List.forall_mem_cons.mpr ⟨lw_p39, List.forall_mem_cons.mpr ⟨lw_p40, List.forall_mem_cons.mpr ⟨lw_p41, List.forall_mem_cons.mpr ⟨lw_p42, List.forall_mem_cons.mpr ⟨lw_p43, List.forall_mem_cons.mpr ⟨lw_p44, List.forall_mem_cons.mpr ⟨lw_p45, List.forall_mem_cons.mpr ⟨lw_p46, List.forall_mem_cons.mpr ⟨lw_p47, fun _ h => absurd h List.not_mem_nil⟩⟩⟩⟩⟩⟩⟩⟩⟩⟩⟩⟩⟩⟩⟩⟩
theorem lw_p48 : lw_okq (⟨"ProphetCoverModel", "weightFrom", "(I)J"⟩, 27) := ⟨⟨by decide +kernel, by decide +kernel⟩, List.mem_of_getElem? (i := 413) (by decide +kernel), List.mem_of_getElem? (i := 654) (by decide +kernel), List.mem_of_getElem? (i := 655) (by decide +kernel)⟩
theorem lw_p49 : lw_okq (⟨"ProphetCoverModel", "weightOf", "(I)J"⟩, 27) := ⟨⟨by decide +kernel, by decide +kernel⟩, List.mem_of_getElem? (i := 413) (by decide +kernel), List.mem_of_getElem? (i := 658) (by decide +kernel), List.mem_of_getElem? (i := 659) (by decide +kernel)⟩
theorem lw_p50 : lw_okq (⟨"ProphetCoverModel", "areSo", "()Z"⟩, 27) := ⟨⟨by decide +kernel, by decide +kernel⟩, List.mem_of_getElem? (i := 413) (by decide +kernel), List.mem_of_getElem? (i := 683) (by decide +kernel), List.mem_of_getElem? (i := 684) (by decide +kernel)⟩
theorem lw_p51 : lw_okq (⟨"ProphetCoverModel", "noCell", "(II)I"⟩, 27) := ⟨⟨by decide +kernel, by decide +kernel⟩, List.mem_of_getElem? (i := 413) (by decide +kernel), List.mem_of_getElem? (i := 711) (by decide +kernel), List.mem_of_getElem? (i := 712) (by decide +kernel)⟩
theorem lw_p52 : lw_okq (⟨"ProphetCoverModel", "failedLong", "(I)J"⟩, 27) := ⟨⟨by decide +kernel, by decide +kernel⟩, List.mem_of_getElem? (i := 413) (by decide +kernel), List.mem_of_getElem? (i := 719) (by decide +kernel), List.mem_of_getElem? (i := 720) (by decide +kernel)⟩
theorem lw_p53 : lw_okq (⟨"ProphetCoverModel", "traced", "(I)V"⟩, 27) := ⟨⟨by decide +kernel, by decide +kernel⟩, List.mem_of_getElem? (i := 413) (by decide +kernel), List.mem_of_getElem? (i := 731) (by decide +kernel), List.mem_of_getElem? (i := 732) (by decide +kernel)⟩
theorem lw_p54 : lw_okq (⟨"ProphetCoverModel", "fraudsNow", "()I"⟩, 27) := ⟨⟨by decide +kernel, by decide +kernel⟩, List.mem_of_getElem? (i := 413) (by decide +kernel), List.mem_of_getElem? (i := 755) (by decide +kernel), List.mem_of_getElem? (i := 756) (by decide +kernel)⟩
def lw_privs_4 : List (MethodName × Nat) := [(⟨"ProphetCoverModel", "weightFrom", "(I)J"⟩, 27), (⟨"ProphetCoverModel", "weightOf", "(I)J"⟩, 27), (⟨"ProphetCoverModel", "areSo", "()Z"⟩, 27), (⟨"ProphetCoverModel", "noCell", "(II)I"⟩, 27), (⟨"ProphetCoverModel", "failedLong", "(I)J"⟩, 27), (⟨"ProphetCoverModel", "traced", "(I)V"⟩, 27), (⟨"ProphetCoverModel", "fraudsNow", "()I"⟩, 27)]
theorem lw_r4 : ∀ q ∈ lw_privs_4, lw_okq q := List.forall_mem_cons.mpr ⟨lw_p48, List.forall_mem_cons.mpr ⟨lw_p49, List.forall_mem_cons.mpr ⟨lw_p50, List.forall_mem_cons.mpr ⟨lw_p51, List.forall_mem_cons.mpr ⟨lw_p52, List.forall_mem_cons.mpr ⟨lw_p53, List.forall_mem_cons.mpr ⟨lw_p54, fun _ h => absurd h List.not_mem_nil⟩⟩⟩⟩⟩⟩⟩
def lw_privs : List (MethodName × Nat) := lw_privs_1 ++ (lw_privs_2 ++ (lw_privs_3 ++ (lw_privs_4)))
def lw_tbl : List Cond := k2_sels lw_privs ++ tables_1
theorem lw_privs_ok : ∀ q ∈ lw_privs, lw_okq q := by
  show ∀ q ∈ lw_privs_1 ++ (lw_privs_2 ++ (lw_privs_3 ++ (lw_privs_4))), lw_okq q
  exact List.forall_mem_append.mpr ⟨lw_r1, List.forall_mem_append.mpr ⟨lw_r2, List.forall_mem_append.mpr ⟨lw_r3, lw_r4⟩⟩⟩
end
section
/-! ===== BEGIN words of one list among another's, by their places ===== -/
theorem goodIn_r {big : List Cond} (ws : List Cond) (ps : List Nat) (hp : ws = ps.filterMap (fun i => big[i]?)) (h : ws.all goodWord = true) : GoodIn big ws := by
  intro w hw
  have h1 := List.all_eq_true.mp h w hw
  rw [hp] at hw
  obtain ⟨i, -, hi⟩ := List.mem_filterMap.mp hw
  have hm : w ∈ big := by first | exact List.mem_of_getElem? hi | exact List.getElem?_mem hi
  exact ⟨hm, good_of_word h1⟩
theorem goodIn_app {big a b : List Cond} (ha : GoodIn big a) (hb : GoodIn big b) : GoodIn big (a ++ b) := fun w h => (List.mem_append.mp h).elim (ha w) (hb w)
theorem goodIn_ca {big a b : List Cond} {c : Cond} (ha : GoodIn big (c :: a)) (hb : GoodIn big b) : GoodIn big (c :: (a ++ b)) := fun w h => (List.mem_cons.mp h).elim (fun e => ha w (List.mem_cons.mpr (Or.inl e))) (fun h => (List.mem_append.mp h).elim (fun h => ha w (List.mem_cons.mpr (Or.inr h))) (hb w))
theorem goodIn_sub {big ws : List Cond} (hm : ∀ w ∈ ws, w ∈ big) (h : ws.all goodWord = true) : GoodIn big ws := fun w hw => ⟨hm w hw, good_of_word (List.all_eq_true.mp h w hw)⟩
/-! ===== END ===== -/

/-! ===== BEGIN printed: names, fields, word lists, decode rows ===== -/
def RX0 : String := "ProphetCover$Prophet"
def TX0 : u_T := fun k => match k with
  | 0 => ("ProphetCover$Prophet", "kind", "I", false)
  | 1 => ("ProphetCover$Prophet", "cover", "I", false)
  | _ => ("ProphetCover$Prophet", "saidSet", "I", false)
def tyX0 : Nat → FieldType := fun k => match k with
  | 0 => .int
  | 1 => .int
  | _ => .int
abbrev wsX00 : List Cond := u_ws RX0 TX0 3
theorem nmX0 : ∀ a, a < 3 → ∀ b, b < 3 → a ≠ b → (TX0 a).2.1 ≠ (TX0 b).2.1 := by decide +kernel
theorem tyX0_ok : ∀ k, k < 3 → parseFieldDescriptor (TX0 k).2.2.1 = some (tyX0 k) := by decide +kernel
abbrev cX0_init : ByteArray := prog_2_method_1_code
def yX0_init : MethodName := ⟨RX0, "<init>", "()V"⟩
def RX1 : String := "ProphetCover$Reading"
def TX1 : u_T := fun k => match k with
  | 0 => ("ProphetCover$Reading", "prophet", "I", false)
  | 1 => ("ProphetCover$Reading", "cameSet", "I", false)
  | _ => ("ProphetCover$Reading", "amount", "I", false)
def tyX1 : Nat → FieldType := fun k => match k with
  | 0 => .int
  | 1 => .int
  | _ => .int
abbrev wsX10 : List Cond := u_ws RX1 TX1 3
theorem nmX1 : ∀ a, a < 3 → ∀ b, b < 3 → a ≠ b → (TX1 a).2.1 ≠ (TX1 b).2.1 := by decide +kernel
theorem tyX1_ok : ∀ k, k < 3 → parseFieldDescriptor (TX1 k).2.2.1 = some (tyX1 k) := by decide +kernel
abbrev cX1_init : ByteArray := prog_3_method_1_code
def yX1_init : MethodName := ⟨RX1, "<init>", "()V"⟩
def RX2 : String := "ProphetCover$Sheet"
def TX2 : u_T := fun k => match k with
  | 0 => ("ProphetCover$Sheet", "cells", "[I", true)
  | 1 => ("ProphetCover$Sheet", "lane", "I", false)
  | _ => ("ProphetCover$Sheet", "size", "I", false)
def tyX2 : Nat → FieldType := fun k => match k with
  | 0 => .array .int
  | 1 => .int
  | _ => .int
abbrev wsX20 : List Cond := u_ws RX2 TX2 3
theorem nmX2 : ∀ a, a < 3 → ∀ b, b < 3 → a ≠ b → (TX2 a).2.1 ≠ (TX2 b).2.1 := by decide +kernel
theorem tyX2_ok : ∀ k, k < 3 → parseFieldDescriptor (TX2 k).2.2.1 = some (tyX2 k) := by decide +kernel
abbrev cX2_init : ByteArray := prog_4_method_1_code
def yX2_init : MethodName := ⟨RX2, "<init>", "()V"⟩
abbrev cX2_isEmpty : ByteArray := prog_4_method_2_code
def yX2_isEmpty : MethodName := ⟨RX2, "isEmpty", "()Z"⟩
abbrev cX2_makeRow : ByteArray := prog_4_method_3_code
def yX2_makeRow : MethodName := ⟨RX2, "makeRow", "(II)V"⟩
abbrev cX2_reaches : ByteArray := prog_4_method_4_code
def yX2_reaches : MethodName := ⟨RX2, "reaches", "(II)Z"⟩
abbrev cX2_flaw : ByteArray := prog_4_method_5_code
def yX2_flaw : MethodName := ⟨RX2, "flaw", "(III)I"⟩
abbrev cX2_store : ByteArray := prog_4_method_6_code
def yX2_store : MethodName := ⟨RX2, "store", "(II)V"⟩
abbrev cX2_cut : ByteArray := prog_4_method_7_code
def yX2_cut : MethodName := ⟨RX2, "cut", "(I)I"⟩
def RX3 : String := "ProphetCover"
def TX3 : u_T := fun k => match k with
  | 0 => ("ProphetCover", "sheets", "[LProphetCover$Sheet;", true)
  | 1 => ("ProphetCover", "chances", "[I", true)
  | 2 => ("ProphetCover", "prophets", "[LProphetCover$Prophet;", true)
  | 3 => ("ProphetCover", "readings", "[LProphetCover$Reading;", true)
  | 4 => ("ProphetCover", "eventCount", "I", false)
  | 5 => ("ProphetCover", "prophetCount", "I", false)
  | 6 => ("ProphetCover", "readingCount", "I", false)
  | 7 => ("ProphetCover", "traceNow", "I", false)
  | _ => ("ProphetCover", "latestFault", "I", false)
def tyX3 : Nat → FieldType := fun k => match k with
  | 0 => .array (.object "ProphetCover$Sheet")
  | 1 => .array .int
  | 2 => .array (.object "ProphetCover$Prophet")
  | 3 => .array (.object "ProphetCover$Reading")
  | 4 => .int
  | 5 => .int
  | 6 => .int
  | 7 => .int
  | _ => .int
abbrev wsX30 : List Cond := u_ws RX3 TX3 9
theorem nmX3 : ∀ a, a < 9 → ∀ b, b < 9 → a ≠ b → (TX3 a).2.1 ≠ (TX3 b).2.1 := by decide +kernel
theorem tyX3_ok : ∀ k, k < 9 → parseFieldDescriptor (TX3 k).2.2.1 = some (tyX3 k) := by decide +kernel
abbrev cX3_init : ByteArray := prog_1_method_1_code
def yX3_init : MethodName := ⟨RX3, "<init>", "()V"⟩
abbrev cX3_office : ByteArray := prog_1_method_2_code
def yX3_office : MethodName := ⟨RX3, "office", "(IIII)I"⟩
abbrev cX3_chance : ByteArray := prog_1_method_3_code
def yX3_chance : MethodName := ⟨RX3, "chance", "(I)I"⟩
abbrev cX3_fate : ByteArray := prog_1_method_4_code
def yX3_fate : MethodName := ⟨RX3, "fate", "(II)I"⟩
abbrev cX3_ofProphet : ByteArray := prog_1_method_5_code
def yX3_ofProphet : MethodName := ⟨RX3, "ofProphet", "(II)I"⟩
abbrev cX3_say : ByteArray := prog_1_method_6_code
def yX3_say : MethodName := ⟨RX3, "say", "(II)I"⟩
abbrev cX3_paid : ByteArray := prog_1_method_7_code
def yX3_paid : MethodName := ⟨RX3, "paid", "(II)I"⟩
abbrev cX3_total : ByteArray := prog_1_method_8_code
def yX3_total : MethodName := ⟨RX3, "total", "(I)I"⟩
abbrev cX3_years : ByteArray := prog_1_method_9_code
def yX3_years : MethodName := ⟨RX3, "years", "(IIIIII)I"⟩
abbrev cX3_fair : ByteArray := prog_1_method_10_code
def yX3_fair : MethodName := ⟨RX3, "fair", "(II)J"⟩
abbrev cX3_safe : ByteArray := prog_1_method_11_code
def yX3_safe : MethodName := ⟨RX3, "safe", "(I)I"⟩
abbrev cX3_hold : ByteArray := prog_1_method_12_code
def yX3_hold : MethodName := ⟨RX3, "hold", "(I)I"⟩
abbrev cX3_best : ByteArray := prog_1_method_13_code
def yX3_best : MethodName := ⟨RX3, "best", "(II)I"⟩
abbrev cX3_came : ByteArray := prog_1_method_14_code
def yX3_came : MethodName := ⟨RX3, "came", "(II)I"⟩
abbrev cX3_reading : ByteArray := prog_1_method_15_code
def yX3_reading : MethodName := ⟨RX3, "reading", "(III)I"⟩
abbrev cX3_back : ByteArray := prog_1_method_16_code
def yX3_back : MethodName := ⟨RX3, "back", "(I)I"⟩
abbrev cX3_covers : ByteArray := prog_1_method_17_code
def yX3_covers : MethodName := ⟨RX3, "covers", "(I)I"⟩
abbrev cX3_kinds : ByteArray := prog_1_method_18_code
def yX3_kinds : MethodName := ⟨RX3, "kinds", "(I)I"⟩
abbrev cX3_sayings : ByteArray := prog_1_method_19_code
def yX3_sayings : MethodName := ⟨RX3, "sayings", "(II)I"⟩
abbrev cX3_odds : ByteArray := prog_1_method_20_code
def yX3_odds : MethodName := ⟨RX3, "odds", "(II)J"⟩
abbrev cX3_sheet : ByteArray := prog_1_method_21_code
def yX3_sheet : MethodName := ⟨RX3, "sheet", "(III)I"⟩
abbrev cX3_lose : ByteArray := prog_1_method_22_code
def yX3_lose : MethodName := ⟨RX3, "lose", "(I)I"⟩
abbrev cX3_put : ByteArray := prog_1_method_23_code
def yX3_put : MethodName := ⟨RX3, "put", "(III)I"⟩
abbrev cX3_cell : ByteArray := prog_1_method_24_code
def yX3_cell : MethodName := ⟨RX3, "cell", "(III)J"⟩
abbrev cX3_copy : ByteArray := prog_1_method_25_code
def yX3_copy : MethodName := ⟨RX3, "copy", "(IIIII)I"⟩
abbrev cX3_tell : ByteArray := prog_1_method_26_code
def yX3_tell : MethodName := ⟨RX3, "tell", "(I)I"⟩
abbrev cX3_hear : ByteArray := prog_1_method_27_code
def yX3_hear : MethodName := ⟨RX3, "hear", "(I)I"⟩
abbrev cX3_as : ByteArray := prog_1_method_28_code
def yX3_as : MethodName := ⟨RX3, "as", "(II)I"⟩
abbrev cX3_trace : ByteArray := prog_1_method_29_code
def yX3_trace : MethodName := ⟨RX3, "trace", "()I"⟩
abbrev cX3_fault : ByteArray := prog_1_method_30_code
def yX3_fault : MethodName := ⟨RX3, "fault", "()I"⟩
abbrev cX3_many : ByteArray := prog_1_method_31_code
def yX3_many : MethodName := ⟨RX3, "many", "(I)I"⟩
abbrev cX3_isWithin : ByteArray := prog_1_method_32_code
def yX3_isWithin : MethodName := ⟨RX3, "isWithin", "(II)Z"⟩
abbrev cX3_isSheet : ByteArray := prog_1_method_33_code
def yX3_isSheet : MethodName := ⟨RX3, "isSheet", "(I)Z"⟩
abbrev cX3_isLane : ByteArray := prog_1_method_34_code
def yX3_isLane : MethodName := ⟨RX3, "isLane", "(I)Z"⟩
abbrev cX3_isYearsQuestion : ByteArray := prog_1_method_35_code
def yX3_isYearsQuestion : MethodName := ⟨RX3, "isYearsQuestion", "(I)Z"⟩
abbrev cX3_isEvent : ByteArray := prog_1_method_36_code
def yX3_isEvent : MethodName := ⟨RX3, "isEvent", "(I)Z"⟩
abbrev cX3_isProphet : ByteArray := prog_1_method_37_code
def yX3_isProphet : MethodName := ⟨RX3, "isProphet", "(I)Z"⟩
abbrev cX3_hasOffice : ByteArray := prog_1_method_38_code
def yX3_hasOffice : MethodName := ⟨RX3, "hasOffice", "()Z"⟩
abbrev cX3_isIn : ByteArray := prog_1_method_39_code
def yX3_isIn : MethodName := ⟨RX3, "isIn", "(II)Z"⟩
abbrev cX3_allEvents : ByteArray := prog_1_method_40_code
def yX3_allEvents : MethodName := ⟨RX3, "allEvents", "()I"⟩
abbrev cX3_isEventSet : ByteArray := prog_1_method_41_code
def yX3_isEventSet : MethodName := ⟨RX3, "isEventSet", "(I)Z"⟩
abbrev cX3_areEventSets : ByteArray := prog_1_method_42_code
def yX3_areEventSets : MethodName := ⟨RX3, "areEventSets", "([III)Z"⟩
abbrev cX3_faulty : ByteArray := prog_1_method_43_code
def yX3_faulty : MethodName := ⟨RX3, "faulty", "(I)I"⟩
abbrev cX3_isDigit : ByteArray := prog_1_method_44_code
def yX3_isDigit : MethodName := ⟨RX3, "isDigit", "(II)Z"⟩
abbrev cX3_kindOf : ByteArray := prog_1_method_45_code
def yX3_kindOf : MethodName := ⟨RX3, "kindOf", "(I)I"⟩
abbrev cX3_firstFaultPlace : ByteArray := prog_1_method_46_code
def yX3_firstFaultPlace : MethodName := ⟨RX3, "firstFaultPlace", "([III)I"⟩
abbrev cX3_fitsProphet : ByteArray := prog_1_method_47_code
def yX3_fitsProphet : MethodName := ⟨RX3, "fitsProphet", "([III)Z"⟩
abbrev cX3_behindEvents : ByteArray := prog_1_method_48_code
def yX3_behindEvents : MethodName := ⟨RX3, "behindEvents", "([III)I"⟩
abbrev cX3_takeOffice : ByteArray := prog_1_method_49_code
def yX3_takeOffice : MethodName := ⟨RX3, "takeOffice", "([III)V"⟩
abbrev cX3_paysEach : ByteArray := prog_1_method_50_code
def yX3_paysEach : MethodName := ⟨RX3, "paysEach", "(II)I"⟩
abbrev cX3_isFraud : ByteArray := prog_1_method_51_code
def yX3_isFraud : MethodName := ⟨RX3, "isFraud", "(I)Z"⟩
abbrev cX3_payment : ByteArray := prog_1_method_52_code
def yX3_payment : MethodName := ⟨RX3, "payment", "(IIII)I"⟩
abbrev cX3_paidTo : ByteArray := prog_1_method_53_code
def yX3_paidTo : MethodName := ⟨RX3, "paidTo", "(II)I"⟩
abbrev cX3_paidToAll : ByteArray := prog_1_method_54_code
def yX3_paidToAll : MethodName := ⟨RX3, "paidToAll", "(I)I"⟩
abbrev cX3_countFrauds : ByteArray := prog_1_method_55_code
def yX3_countFrauds : MethodName := ⟨RX3, "countFrauds", "()I"⟩
abbrev cX3_premiumsOfYear : ByteArray := prog_1_method_56_code
def yX3_premiumsOfYear : MethodName := ⟨RX3, "premiumsOfYear", "(I)I"⟩
abbrev cX3_officeOverYears : ByteArray := prog_1_method_57_code
def yX3_officeOverYears : MethodName := ⟨RX3, "officeOverYears", "(I[IIII)I"⟩
abbrev cX3_paidOverYears : ByteArray := prog_1_method_58_code
def yX3_paidOverYears : MethodName := ⟨RX3, "paidOverYears", "(I[III)I"⟩
abbrev cX3_weightOf : ByteArray := prog_1_method_59_code
def yX3_weightOf : MethodName := ⟨RX3, "weightOf", "(I)I"⟩
abbrev cX3_weightOfAll : ByteArray := prog_1_method_60_code
def yX3_weightOfAll : MethodName := ⟨RX3, "weightOfAll", "()I"⟩
abbrev cX3_weightFrom : ByteArray := prog_1_method_61_code
def yX3_weightFrom : MethodName := ⟨RX3, "weightFrom", "(I)I"⟩
abbrev cX3_tenthsGained : ByteArray := prog_1_method_62_code
def yX3_tenthsGained : MethodName := ⟨RX3, "tenthsGained", "(III)I"⟩
abbrev cX3_shareNumber : ByteArray := prog_1_method_63_code
def yX3_shareNumber : MethodName := ⟨RX3, "shareNumber", "(III)J"⟩
abbrev cX3_greatestDivisor : ByteArray := prog_1_method_64_code
def yX3_greatestDivisor : MethodName := ⟨RX3, "greatestDivisor", "(II)I"⟩
abbrev cX3_agreesWithReadings : ByteArray := prog_1_method_65_code
def yX3_agreesWithReadings : MethodName := ⟨RX3, "agreesWithReadings", "(IIII)Z"⟩
abbrev cX3_leaveInTrace : ByteArray := prog_1_method_66_code
def yX3_leaveInTrace : MethodName := ⟨RX3, "leaveInTrace", "(I)V"⟩
abbrev cX3_modestTells : ByteArray := prog_1_method_67_code
def yX3_modestTells : MethodName := ⟨RX3, "modestTells", "(I)I"⟩
abbrev cX3_sureTells : ByteArray := prog_1_method_68_code
def yX3_sureTells : MethodName := ⟨RX3, "sureTells", "(I)I"⟩
abbrev cX3_loudTells : ByteArray := prog_1_method_69_code
def yX3_loudTells : MethodName := ⟨RX3, "loudTells", "(I)I"⟩
abbrev cX3_lentBodyHears : ByteArray := prog_1_method_70_code
def yX3_lentBodyHears : MethodName := ⟨RX3, "lentBodyHears", "(I)I"⟩
abbrev cX3_loudIsHeard : ByteArray := prog_1_method_71_code
def yX3_loudIsHeard : MethodName := ⟨RX3, "loudIsHeard", "()I"⟩
def RX4 : String := "ProphetCoverModel"
def TX4 : u_T := fun k => match k with
  | 0 => ("ProphetCoverModel", "fault", "I", false)
  | 1 => ("ProphetCoverModel", "events", "I", false)
  | 2 => ("ProphetCoverModel", "chanceOf", "[I", true)
  | 3 => ("ProphetCoverModel", "prophets", "I", false)
  | 4 => ("ProphetCoverModel", "kindOf", "[I", true)
  | 5 => ("ProphetCoverModel", "coverOf", "[I", true)
  | 6 => ("ProphetCoverModel", "saidBy", "[I", true)
  | 7 => ("ProphetCoverModel", "readAt", "I", false)
  | 8 => ("ProphetCoverModel", "readEvents", "I", false)
  | 9 => ("ProphetCoverModel", "readProphets", "I", false)
  | 10 => ("ProphetCoverModel", "readChance", "[I", true)
  | 11 => ("ProphetCoverModel", "readKind", "[I", true)
  | 12 => ("ProphetCoverModel", "readCover", "[I", true)
  | 13 => ("ProphetCoverModel", "readSaid", "[I", true)
  | 14 => ("ProphetCoverModel", "stands", "I", false)
  | 15 => ("ProphetCoverModel", "brokenAt", "I", false)
  | 16 => ("ProphetCoverModel", "paidNow", "I", false)
  | 17 => ("ProphetCoverModel", "mostPaid", "I", false)
  | 18 => ("ProphetCoverModel", "readings", "I", false)
  | 19 => ("ProphetCoverModel", "readingOf", "[I", true)
  | 20 => ("ProphetCoverModel", "readingBy", "[I", true)
  | 21 => ("ProphetCoverModel", "readingWas", "[I", true)
  | 22 => ("ProphetCoverModel", "sheetSize", "[I", true)
  | 23 => ("ProphetCoverModel", "sheetLane", "[I", true)
  | 24 => ("ProphetCoverModel", "sheet", "[I", true)
  | 25 => ("ProphetCoverModel", "hands", "[I", true)
  | _ => ("ProphetCoverModel", "traceNow", "I", false)
def tyX4 : Nat → FieldType := fun k => match k with
  | 0 => .int
  | 1 => .int
  | 2 => .array .int
  | 3 => .int
  | 4 => .array .int
  | 5 => .array .int
  | 6 => .array .int
  | 7 => .int
  | 8 => .int
  | 9 => .int
  | 10 => .array .int
  | 11 => .array .int
  | 12 => .array .int
  | 13 => .array .int
  | 14 => .int
  | 15 => .int
  | 16 => .int
  | 17 => .int
  | 18 => .int
  | 19 => .array .int
  | 20 => .array .int
  | 21 => .array .int
  | 22 => .array .int
  | 23 => .array .int
  | 24 => .array .int
  | 25 => .array .int
  | _ => .int
abbrev wsX40 : List Cond := u_ws RX4 TX4 27
theorem nmX4 : ∀ a, a < 27 → ∀ b, b < 27 → a ≠ b → (TX4 a).2.1 ≠ (TX4 b).2.1 := by decide +kernel
theorem tyX4_ok : ∀ k, k < 27 → parseFieldDescriptor (TX4 k).2.2.1 = some (tyX4 k) := by decide +kernel
abbrev cX4_init : ByteArray := prog_6_method_1_code
def yX4_init : MethodName := ⟨RX4, "<init>", "()V"⟩
abbrev cX4_in : ByteArray := prog_6_method_2_code
def yX4_in : MethodName := ⟨RX4, "in", "(JJJ)Z"⟩
abbrev cX4_lost : ByteArray := prog_6_method_3_code
def yX4_lost : MethodName := ⟨RX4, "lost", "()J"⟩
abbrev cX4_isIn : ByteArray := prog_6_method_4_code
def yX4_isIn : MethodName := ⟨RX4, "isIn", "(II)Z"⟩
abbrev cX4_bits : ByteArray := prog_6_method_5_code
def yX4_bits : MethodName := ⟨RX4, "bits", "(I)I"⟩
abbrev cX4_share : ByteArray := prog_6_method_6_code
def yX4_share : MethodName := ⟨RX4, "share", "(JJI)J"⟩
abbrev cX4_refused : ByteArray := prog_6_method_7_code
def yX4_refused : MethodName := ⟨RX4, "refused", "(I)I"⟩
abbrev cX4_failed : ByteArray := prog_6_method_8_code
def yX4_failed : MethodName := ⟨RX4, "failed", "(I)I"⟩
abbrev cX4_failedLong : ByteArray := prog_6_method_9_code
def yX4_failedLong : MethodName := ⟨RX4, "failedLong", "(I)J"⟩
abbrev cX4_noEvent : ByteArray := prog_6_method_10_code
def yX4_noEvent : MethodName := ⟨RX4, "noEvent", "(I)Z"⟩
abbrev cX4_noProphet : ByteArray := prog_6_method_11_code
def yX4_noProphet : MethodName := ⟨RX4, "noProphet", "(I)Z"⟩
abbrev cX4_allEvents : ByteArray := prog_6_method_12_code
def yX4_allEvents : MethodName := ⟨RX4, "allEvents", "()I"⟩
abbrev cX4_noSet : ByteArray := prog_6_method_13_code
def yX4_noSet : MethodName := ⟨RX4, "noSet", "(I)Z"⟩
abbrev cX4_codeAt : ByteArray := prog_6_method_14_code
def yX4_codeAt : MethodName := ⟨RX4, "codeAt", "(II)I"⟩
abbrev cX4_figure : ByteArray := prog_6_method_15_code
def yX4_figure : MethodName := ⟨RX4, "figure", "(III)I"⟩
abbrev cX4_readsEvent : ByteArray := prog_6_method_16_code
def yX4_readsEvent : MethodName := ⟨RX4, "readsEvent", "(II)Z"⟩
abbrev cX4_readsProphet : ByteArray := prog_6_method_17_code
def yX4_readsProphet : MethodName := ⟨RX4, "readsProphet", "(II)Z"⟩
abbrev cX4_readsOffice : ByteArray := prog_6_method_18_code
def yX4_readsOffice : MethodName := ⟨RX4, "readsOffice", "(II)Z"⟩
abbrev cX4_cellsBarred : ByteArray := prog_6_method_19_code
def yX4_cellsBarred : MethodName := ⟨RX4, "cellsBarred", "(IIIJ)I"⟩
abbrev cX4_office : ByteArray := prog_6_method_20_code
def yX4_office : MethodName := ⟨RX4, "office", "(IIII)I"⟩
abbrev cX4_chance : ByteArray := prog_6_method_21_code
def yX4_chance : MethodName := ⟨RX4, "chance", "(I)I"⟩
abbrev cX4_fate : ByteArray := prog_6_method_22_code
def yX4_fate : MethodName := ⟨RX4, "fate", "(II)I"⟩
abbrev cX4_paysOf : ByteArray := prog_6_method_23_code
def yX4_paysOf : MethodName := ⟨RX4, "paysOf", "(I)I"⟩
abbrev cX4_isFraud : ByteArray := prog_6_method_24_code
def yX4_isFraud : MethodName := ⟨RX4, "isFraud", "(I)Z"⟩
abbrev cX4_ofProphet : ByteArray := prog_6_method_25_code
def yX4_ofProphet : MethodName := ⟨RX4, "ofProphet", "(II)I"⟩
abbrev cX4_say : ByteArray := prog_6_method_26_code
def yX4_say : MethodName := ⟨RX4, "say", "(II)I"⟩
abbrev cX4_paidTo : ByteArray := prog_6_method_27_code
def yX4_paidTo : MethodName := ⟨RX4, "paidTo", "(II)I"⟩
abbrev cX4_paidToAll : ByteArray := prog_6_method_28_code
def yX4_paidToAll : MethodName := ⟨RX4, "paidToAll", "(I)I"⟩
abbrev cX4_paid : ByteArray := prog_6_method_29_code
def yX4_paid : MethodName := ⟨RX4, "paid", "(II)I"⟩
abbrev cX4_total : ByteArray := prog_6_method_30_code
def yX4_total : MethodName := ⟨RX4, "total", "(I)I"⟩
abbrev cX4_premiumsOf : ByteArray := prog_6_method_31_code
def yX4_premiumsOf : MethodName := ⟨RX4, "premiumsOf", "(I)I"⟩
abbrev cX4_goYears : ByteArray := prog_6_method_32_code
def yX4_goYears : MethodName := ⟨RX4, "goYears", "(III)V"⟩
abbrev cX4_paidBy : ByteArray := prog_6_method_33_code
def yX4_paidBy : MethodName := ⟨RX4, "paidBy", "(III)I"⟩
abbrev cX4_years : ByteArray := prog_6_method_34_code
def yX4_years : MethodName := ⟨RX4, "years", "(IIIIII)I"⟩
abbrev cX4_fair : ByteArray := prog_6_method_35_code
def yX4_fair : MethodName := ⟨RX4, "fair", "(II)J"⟩
abbrev cX4_safe : ByteArray := prog_6_method_36_code
def yX4_safe : MethodName := ⟨RX4, "safe", "(I)I"⟩
abbrev cX4_weightOf : ByteArray := prog_6_method_37_code
def yX4_weightOf : MethodName := ⟨RX4, "weightOf", "(I)J"⟩
abbrev cX4_weightOfAll : ByteArray := prog_6_method_38_code
def yX4_weightOfAll : MethodName := ⟨RX4, "weightOfAll", "()J"⟩
abbrev cX4_weightFrom : ByteArray := prog_6_method_39_code
def yX4_weightFrom : MethodName := ⟨RX4, "weightFrom", "(I)J"⟩
abbrev cX4_hold : ByteArray := prog_6_method_40_code
def yX4_hold : MethodName := ⟨RX4, "hold", "(I)I"⟩
abbrev cX4_best : ByteArray := prog_6_method_41_code
def yX4_best : MethodName := ⟨RX4, "best", "(II)I"⟩
abbrev cX4_came : ByteArray := prog_6_method_42_code
def yX4_came : MethodName := ⟨RX4, "came", "(II)I"⟩
abbrev cX4_reading : ByteArray := prog_6_method_43_code
def yX4_reading : MethodName := ⟨RX4, "reading", "(III)I"⟩
abbrev cX4_back : ByteArray := prog_6_method_44_code
def yX4_back : MethodName := ⟨RX4, "back", "(I)I"⟩
abbrev cX4_areSo : ByteArray := prog_6_method_45_code
def yX4_areSo : MethodName := ⟨RX4, "areSo", "()Z"⟩
abbrev cX4_covers : ByteArray := prog_6_method_46_code
def yX4_covers : MethodName := ⟨RX4, "covers", "(I)I"⟩
abbrev cX4_kinds : ByteArray := prog_6_method_47_code
def yX4_kinds : MethodName := ⟨RX4, "kinds", "(I)I"⟩
abbrev cX4_sayings : ByteArray := prog_6_method_48_code
def yX4_sayings : MethodName := ⟨RX4, "sayings", "(II)I"⟩
abbrev cX4_odds : ByteArray := prog_6_method_49_code
def yX4_odds : MethodName := ⟨RX4, "odds", "(II)J"⟩
abbrev cX4_noSheet : ByteArray := prog_6_method_50_code
def yX4_noSheet : MethodName := ⟨RX4, "noSheet", "(I)Z"⟩
abbrev cX4_sheet : ByteArray := prog_6_method_51_code
def yX4_sheet : MethodName := ⟨RX4, "sheet", "(III)I"⟩
abbrev cX4_lose : ByteArray := prog_6_method_52_code
def yX4_lose : MethodName := ⟨RX4, "lose", "(I)I"⟩
abbrev cX4_noCell : ByteArray := prog_6_method_53_code
def yX4_noCell : MethodName := ⟨RX4, "noCell", "(II)I"⟩
abbrev cX4_put : ByteArray := prog_6_method_54_code
def yX4_put : MethodName := ⟨RX4, "put", "(III)I"⟩
abbrev cX4_cell : ByteArray := prog_6_method_55_code
def yX4_cell : MethodName := ⟨RX4, "cell", "(III)J"⟩
abbrev cX4_isBeyond : ByteArray := prog_6_method_56_code
def yX4_isBeyond : MethodName := ⟨RX4, "isBeyond", "(IJI)Z"⟩
abbrev cX4_copy : ByteArray := prog_6_method_57_code
def yX4_copy : MethodName := ⟨RX4, "copy", "(IIIII)I"⟩
abbrev cX4_traced : ByteArray := prog_6_method_58_code
def yX4_traced : MethodName := ⟨RX4, "traced", "(I)V"⟩
abbrev cX4_tell : ByteArray := prog_6_method_59_code
def yX4_tell : MethodName := ⟨RX4, "tell", "(I)I"⟩
abbrev cX4_hear : ByteArray := prog_6_method_60_code
def yX4_hear : MethodName := ⟨RX4, "hear", "(I)I"⟩
abbrev cX4_as : ByteArray := prog_6_method_61_code
def yX4_as : MethodName := ⟨RX4, "as", "(II)I"⟩
abbrev cX4_trace : ByteArray := prog_6_method_62_code
def yX4_trace : MethodName := ⟨RX4, "trace", "()I"⟩
abbrev cX4_fault : ByteArray := prog_6_method_63_code
def yX4_fault : MethodName := ⟨RX4, "fault", "()I"⟩
abbrev cX4_fraudsNow : ByteArray := prog_6_method_64_code
def yX4_fraudsNow : MethodName := ⟨RX4, "fraudsNow", "()I"⟩
abbrev cX4_many : ByteArray := prog_6_method_65_code
def yX4_many : MethodName := ⟨RX4, "many", "(I)I"⟩
def RJ6 : String := "java/lang/Integer"
def TJ6 : u_T := fun k => match k with
  | _ => ("", "", "", false)
def tyJ6 : Nat → FieldType := fun k => match k with
  | _ => .int
abbrev wsJ60 : List Cond := u_ws RJ6 TJ6 0
theorem nmJ6 : ∀ a, a < 0 → ∀ b, b < 0 → a ≠ b → (TJ6 a).2.1 ≠ (TJ6 b).2.1 := by decide +kernel
theorem tyJ6_ok : ∀ k, k < 0 → parseFieldDescriptor (TJ6 k).2.2.1 = some (tyJ6 k) := by decide +kernel
abbrev cJ6_bitCount_0f7a4 : ByteArray := prog_7_method_49_code
def yJ6_bitCount_0f7a4 : MethodName := ⟨RJ6, "bitCount", "(I)I"⟩
def RJ9 : String := "java/lang/Math"
def TJ9 : u_T := fun k => match k with
  | _ => ("", "", "", false)
def tyJ9 : Nat → FieldType := fun k => match k with
  | _ => .int
abbrev wsJ90 : List Cond := u_ws RJ9 TJ9 0
theorem nmJ9 : ∀ a, a < 0 → ∀ b, b < 0 → a ≠ b → (TJ9 a).2.1 ≠ (TJ9 b).2.1 := by decide +kernel
theorem tyJ9_ok : ∀ k, k < 0 → parseFieldDescriptor (TJ9 k).2.2.1 = some (tyJ9 k) := by decide +kernel
abbrev cJ9_max_7cf53 : ByteArray := prog_8_method_65_code
def yJ9_max_7cf53 : MethodName := ⟨RJ9, "max", "(II)I"⟩
def RJ10 : String := "java/lang/System"
def TJ10 : u_T := fun k => match k with
  | _ => ("", "", "", false)
def tyJ10 : Nat → FieldType := fun k => match k with
  | _ => .int
abbrev wsJ100 : List Cond := u_ws RJ10 TJ10 0
theorem nmJ10 : ∀ a, a < 0 → ∀ b, b < 0 → a ≠ b → (TJ10 a).2.1 ≠ (TJ10 b).2.1 := by decide +kernel
theorem tyJ10_ok : ∀ k, k < 0 → parseFieldDescriptor (TJ10 k).2.2.1 = some (tyJ10 k) := by decide +kernel
def RL : String := "ProphetCoverLaw"
abbrev cL_law : ByteArray := code
def yL_law : MethodName := ⟨RL, "law", "([I)Z"⟩
def wsX0_init : List Cond := .code yX0_init cX0_init 1 none :: ([.methodLink RX0 3 objectInit, .instanceMethod objectInit, .code objectInit ⟨#[0xb1]⟩ 1 none, .fieldLink RX0 9 "ProphetCover$Prophet" "kind" "I", .fieldLink RX0 15 "ProphetCover$Prophet" "cover" "I", .fieldLink RX0 18 "ProphetCover$Prophet" "saidSet" "I"] ++ wsX00)
def wsX1_init : List Cond := .code yX1_init cX1_init 1 none :: ([.methodLink RX1 1 objectInit, .instanceMethod objectInit, .code objectInit ⟨#[0xb1]⟩ 1 none, .fieldLink RX1 7 "ProphetCover$Reading" "prophet" "I", .fieldLink RX1 13 "ProphetCover$Reading" "cameSet" "I", .fieldLink RX1 16 "ProphetCover$Reading" "amount" "I"] ++ wsX10)
def wsX2_init : List Cond := .code yX2_init cX2_init 1 none :: ([.methodLink RX2 3 objectInit, .instanceMethod objectInit, .code objectInit ⟨#[0xb1]⟩ 1 none, .arrayClass .int, .fieldLink RX2 9 "ProphetCover$Sheet" "cells" "[I", .fieldLink RX2 15 "ProphetCover$Sheet" "lane" "I", .fieldLink RX2 19 "ProphetCover$Sheet" "size" "I"] ++ wsX20)
def wsX2_isEmpty : List Cond := .code yX2_isEmpty cX2_isEmpty 1 (some .boolean) :: ([.fieldLink RX2 19 "ProphetCover$Sheet" "size" "I"] ++ wsX20)
def wsX2_makeRow : List Cond := .code yX2_makeRow cX2_makeRow 4 none :: ([.fieldLink RX2 9 "ProphetCover$Sheet" "cells" "[I", .fieldLink RX2 15 "ProphetCover$Sheet" "lane" "I", .fieldLink RX2 19 "ProphetCover$Sheet" "size" "I"] ++ wsX20)
def wsX2_reaches : List Cond := .code yX2_reaches cX2_reaches 3 (some .boolean) :: ([.fieldLink RX2 19 "ProphetCover$Sheet" "size" "I"] ++ wsX20)
def wsX2_flaw : List Cond := .code yX2_flaw cX2_flaw 4 (some .int) :: ([.fieldLink RX2 15 "ProphetCover$Sheet" "lane" "I", .methodLink RX2 22 yX2_isEmpty, .instanceMethod yX2_isEmpty, .selects RX2 yX2_isEmpty yX2_isEmpty, .initialized RX2, .code yX2_isEmpty cX2_isEmpty 1 (some .boolean), .fieldLink RX2 19 "ProphetCover$Sheet" "size" "I", .methodLink RX2 26 yX2_reaches, .instanceMethod yX2_reaches, .selects RX2 yX2_reaches yX2_reaches, .code yX2_reaches cX2_reaches 3 (some .boolean)] ++ wsX20)
def wsX2_cut : List Cond := .code yX2_cut cX2_cut 2 (some .int) :: ([.fieldLink RX2 15 "ProphetCover$Sheet" "lane" "I"] ++ wsX20)
def wsX2_store : List Cond := .code yX2_store cX2_store 3 none :: ([.fieldLink RX2 9 "ProphetCover$Sheet" "cells" "[I", .methodLink RX2 26 yX2_reaches, .instanceMethod yX2_reaches, .selects RX2 yX2_reaches yX2_reaches, .initialized RX2, .code yX2_reaches cX2_reaches 3 (some .boolean), .fieldLink RX2 19 "ProphetCover$Sheet" "size" "I", .methodLink RX2 30 yX2_cut, .instanceMethod yX2_cut, .selects RX2 yX2_cut yX2_cut, .code yX2_cut cX2_cut 2 (some .int), .fieldLink RX2 15 "ProphetCover$Sheet" "lane" "I"] ++ wsX20)
def wsX3_init_r1 : List Cond := [Cond.methodLink RX3 3 objectInit, Cond.instanceMethod objectInit, Cond.code objectInit ⟨#[0xb1]⟩ 1 none, Cond.classLink RX3 11 RX2, Cond.fieldLink RX3 13 "ProphetCover" "sheets" "[LProphetCover$Sheet;", Cond.arrayClass .int, Cond.fieldLink RX3 17 "ProphetCover" "chances" "[I", Cond.classLink RX3 21 RX0, Cond.fieldLink RX3 23 "ProphetCover" "prophets" "[LProphetCover$Prophet;", Cond.classLink RX3 27 RX1, Cond.fieldLink RX3 29 "ProphetCover" "readings" "[LProphetCover$Reading;", Cond.fieldLink RX3 33 "ProphetCover" "eventCount" "I", Cond.fieldLink RX3 37 "ProphetCover" "prophetCount" "I", Cond.fieldLink RX3 40 "ProphetCover" "readingCount" "I", Cond.fieldLink RX3 43 "ProphetCover" "traceNow" "I", Cond.fieldLink RX3 46 "ProphetCover" "latestFault" "I", Cond.instantiable RX2 3, Cond.initialized RX2, Cond.instantiable RX0 3, Cond.initialized RX0, Cond.instantiable RX1 3, Cond.initialized RX1, Cond.instanceMethod yX2_init, Cond.code yX2_init cX2_init 1 none]
def wsX3_init_r2 : List Cond := [Cond.methodLink RX2 3 objectInit, Cond.fieldLink RX2 9 "ProphetCover$Sheet" "cells" "[I", Cond.fieldLink RX2 15 "ProphetCover$Sheet" "lane" "I", Cond.fieldLink RX2 19 "ProphetCover$Sheet" "size" "I", Cond.instanceMethod yX0_init, Cond.code yX0_init cX0_init 1 none, Cond.methodLink RX0 3 objectInit, Cond.fieldLink RX0 9 "ProphetCover$Prophet" "kind" "I", Cond.fieldLink RX0 15 "ProphetCover$Prophet" "cover" "I", Cond.fieldLink RX0 18 "ProphetCover$Prophet" "saidSet" "I", Cond.instanceMethod yX1_init, Cond.code yX1_init cX1_init 1 none, Cond.methodLink RX1 1 objectInit, Cond.fieldLink RX1 7 "ProphetCover$Reading" "prophet" "I", Cond.fieldLink RX1 13 "ProphetCover$Reading" "cameSet" "I", Cond.fieldLink RX1 16 "ProphetCover$Reading" "amount" "I"]
def wsX3_init : List Cond := .code yX3_init cX3_init 2 none :: ((wsX3_init_r1 ++ wsX3_init_r2) ++ wsX30 ++ wsX20 ++ wsX00 ++ wsX10)
def wsX3_isSheet : List Cond := .code yX3_isSheet cX3_isSheet 1 (some .boolean) :: ([])
def wsX3_isLane : List Cond := .code yX3_isLane cX3_isLane 1 (some .boolean) :: ([])
def wsX3_faulty : List Cond := .code yX3_faulty cX3_faulty 2 (some .int) :: ([.fieldLink RX3 46 "ProphetCover" "latestFault" "I"] ++ wsX30)
def wsX3_isDigit : List Cond := .code yX3_isDigit cX3_isDigit 2 (some .boolean) :: ([])
def wsX3_kindOf : List Cond := .code yX3_kindOf cX3_kindOf 1 (some .int) :: ([])
def wsX3_fitsProphet : List Cond := .code yX3_fitsProphet cX3_fitsProphet 4 (some .boolean) :: ([.methodLink RX3 217 yX3_kindOf, .static yX3_kindOf, .initialized RX3, .code yX3_kindOf cX3_kindOf 1 (some .int), .methodLink RX3 211 yX3_isDigit, .static yX3_isDigit, .code yX3_isDigit cX3_isDigit 2 (some .boolean)])
def wsX3_firstFaultPlace : List Cond := .code yX3_firstFaultPlace cX3_firstFaultPlace 7 (some .int) :: ([.methodLink RX3 211 yX3_isDigit, .static yX3_isDigit, .initialized RX3, .code yX3_isDigit cX3_isDigit 2 (some .boolean), .methodLink RX3 214 yX3_fitsProphet, .static yX3_fitsProphet, .code yX3_fitsProphet cX3_fitsProphet 4 (some .boolean), .methodLink RX3 217 yX3_kindOf, .static yX3_kindOf, .code yX3_kindOf cX3_kindOf 1 (some .int)])
def wsX3_behindEvents : List Cond := .code yX3_behindEvents cX3_behindEvents 5 (some .int) :: ([])
def wsX3_takeOffice : List Cond := .code yX3_takeOffice cX3_takeOffice 7 none :: ([.fieldLink RX3 40 "ProphetCover" "readingCount" "I", .fieldLink RX3 33 "ProphetCover" "eventCount" "I", .fieldLink RX3 37 "ProphetCover" "prophetCount" "I", .fieldLink RX3 17 "ProphetCover" "chances" "[I", .fieldLink RX3 23 "ProphetCover" "prophets" "[LProphetCover$Prophet;", .fieldLink RX3 88 "ProphetCover$Prophet" "kind" "I", .fieldLink RX3 91 "ProphetCover$Prophet" "cover" "I", .fieldLink RX3 94 "ProphetCover$Prophet" "saidSet" "I", .methodLink RX3 220 yX3_behindEvents, .static yX3_behindEvents, .initialized RX3, .code yX3_behindEvents cX3_behindEvents 5 (some .int), .methodLink RX3 217 yX3_kindOf, .static yX3_kindOf, .code yX3_kindOf cX3_kindOf 1 (some .int)] ++ wsX30 ++ wsX00)
def wsX3_office_r1 : List Cond := [Cond.fieldLink RX3 46 "ProphetCover" "latestFault" "I", Cond.fieldLink RX3 13 "ProphetCover" "sheets" "[LProphetCover$Sheet;", Cond.fieldLink RX3 67 "ProphetCover$Sheet" "cells" "[I", Cond.fieldLink RX3 37 "ProphetCover" "prophetCount" "I", Cond.methodLink RX3 52 yX3_isSheet, Cond.static yX3_isSheet, Cond.initialized RX3, Cond.code yX3_isSheet cX3_isSheet 1 (some .boolean), Cond.methodLink RX3 56 yX3_isLane, Cond.static yX3_isLane, Cond.code yX3_isLane cX3_isLane 1 (some .boolean), Cond.methodLink RX3 59 yX2_flaw, Cond.instanceMethod yX2_flaw, Cond.selects RX2 yX2_flaw yX2_flaw, Cond.initialized RX2, Cond.code yX2_flaw cX2_flaw 4 (some .int), Cond.fieldLink RX2 15 "ProphetCover$Sheet" "lane" "I", Cond.methodLink RX2 22 yX2_isEmpty, Cond.instanceMethod yX2_isEmpty, Cond.selects RX2 yX2_isEmpty yX2_isEmpty, Cond.code yX2_isEmpty cX2_isEmpty 1 (some .boolean), Cond.fieldLink RX2 19 "ProphetCover$Sheet" "size" "I", Cond.methodLink RX2 26 yX2_reaches, Cond.instanceMethod yX2_reaches]
def wsX3_office_r2 : List Cond := [Cond.selects RX2 yX2_reaches yX2_reaches, Cond.code yX2_reaches cX2_reaches 3 (some .boolean), Cond.methodLink RX3 63 yX3_faulty, Cond.instanceMethod yX3_faulty, Cond.selects RX3 yX3_faulty yX3_faulty, Cond.code yX3_faulty cX3_faulty 2 (some .int), Cond.methodLink RX3 70 yX3_firstFaultPlace, Cond.static yX3_firstFaultPlace, Cond.code yX3_firstFaultPlace cX3_firstFaultPlace 7 (some .int), Cond.methodLink RX3 211 yX3_isDigit, Cond.static yX3_isDigit, Cond.code yX3_isDigit cX3_isDigit 2 (some .boolean), Cond.methodLink RX3 214 yX3_fitsProphet, Cond.static yX3_fitsProphet, Cond.code yX3_fitsProphet cX3_fitsProphet 4 (some .boolean), Cond.methodLink RX3 217 yX3_kindOf, Cond.static yX3_kindOf, Cond.code yX3_kindOf cX3_kindOf 1 (some .int), Cond.methodLink RX3 74 yX3_takeOffice, Cond.instanceMethod yX3_takeOffice, Cond.selects RX3 yX3_takeOffice yX3_takeOffice, Cond.code yX3_takeOffice cX3_takeOffice 7 none, Cond.fieldLink RX3 40 "ProphetCover" "readingCount" "I", Cond.fieldLink RX3 33 "ProphetCover" "eventCount" "I"]
def wsX3_office_r3 : List Cond := [Cond.fieldLink RX3 17 "ProphetCover" "chances" "[I", Cond.fieldLink RX3 23 "ProphetCover" "prophets" "[LProphetCover$Prophet;", Cond.fieldLink RX3 88 "ProphetCover$Prophet" "kind" "I", Cond.fieldLink RX3 91 "ProphetCover$Prophet" "cover" "I", Cond.fieldLink RX3 94 "ProphetCover$Prophet" "saidSet" "I", Cond.methodLink RX3 220 yX3_behindEvents, Cond.static yX3_behindEvents, Cond.code yX3_behindEvents cX3_behindEvents 5 (some .int)]
def wsX3_office : List Cond := .code yX3_office cX3_office 9 (some .int) :: ((wsX3_office_r1 ++ (wsX3_office_r2 ++ wsX3_office_r3)) ++ wsX30 ++ wsX20 ++ wsX00)
def wsX3_isEvent : List Cond := .code yX3_isEvent cX3_isEvent 2 (some .boolean) :: ([.fieldLink RX3 33 "ProphetCover" "eventCount" "I"] ++ wsX30)
def wsX3_chance : List Cond := .code yX3_chance cX3_chance 2 (some .int) :: ([.fieldLink RX3 17 "ProphetCover" "chances" "[I", .methodLink RX3 78 yX3_isEvent, .instanceMethod yX3_isEvent, .selects RX3 yX3_isEvent yX3_isEvent, .initialized RX3, .code yX3_isEvent cX3_isEvent 2 (some .boolean), .fieldLink RX3 33 "ProphetCover" "eventCount" "I"] ++ wsX30)
def wsX3_isWithin : List Cond := .code yX3_isWithin cX3_isWithin 2 (some .boolean) :: ([])
def wsX3_fate : List Cond := .code yX3_fate cX3_fate 4 (some .int) :: ([.fieldLink RX3 17 "ProphetCover" "chances" "[I", .methodLink RX3 78 yX3_isEvent, .instanceMethod yX3_isEvent, .selects RX3 yX3_isEvent yX3_isEvent, .initialized RX3, .code yX3_isEvent cX3_isEvent 2 (some .boolean), .fieldLink RX3 33 "ProphetCover" "eventCount" "I", .methodLink RX3 81 yX3_isWithin, .static yX3_isWithin, .code yX3_isWithin cX3_isWithin 2 (some .boolean)] ++ wsX30)
def wsX3_isProphet : List Cond := .code yX3_isProphet cX3_isProphet 2 (some .boolean) :: ([.fieldLink RX3 37 "ProphetCover" "prophetCount" "I"] ++ wsX30)
def wsX3_paysEach : List Cond := .code yX3_paysEach cX3_paysEach 2 (some .int) :: ([])
def wsX3_allEvents : List Cond := .code yX3_allEvents cX3_allEvents 1 (some .int) :: ([.fieldLink RX3 33 "ProphetCover" "eventCount" "I"] ++ wsX30)
def wsX3_isFraud : List Cond := .code yX3_isFraud cX3_isFraud 2 (some .boolean) :: ([.methodLink RX3 142 yX3_allEvents, .instanceMethod yX3_allEvents, .selects RX3 yX3_allEvents yX3_allEvents, .initialized RX3, .code yX3_allEvents cX3_allEvents 1 (some .int), .fieldLink RX3 33 "ProphetCover" "eventCount" "I"] ++ wsX30)
def wsX3_ofProphet : List Cond := .code yX3_ofProphet cX3_ofProphet 4 (some .int) :: ([.fieldLink RX3 23 "ProphetCover" "prophets" "[LProphetCover$Prophet;", .fieldLink RX3 88 "ProphetCover$Prophet" "kind" "I", .fieldLink RX3 91 "ProphetCover$Prophet" "cover" "I", .fieldLink RX3 94 "ProphetCover$Prophet" "saidSet" "I", .methodLink RX3 85 yX3_isProphet, .instanceMethod yX3_isProphet, .selects RX3 yX3_isProphet yX3_isProphet, .initialized RX3, .code yX3_isProphet cX3_isProphet 2 (some .boolean), .fieldLink RX3 37 "ProphetCover" "prophetCount" "I", .methodLink RX3 97 yX3_paysEach, .static yX3_paysEach, .code yX3_paysEach cX3_paysEach 2 (some .int), .methodLink RX3 101 yX3_isFraud, .instanceMethod yX3_isFraud, .selects RX3 yX3_isFraud yX3_isFraud, .code yX3_isFraud cX3_isFraud 2 (some .boolean), .methodLink RX3 142 yX3_allEvents, .instanceMethod yX3_allEvents, .selects RX3 yX3_allEvents yX3_allEvents, .code yX3_allEvents cX3_allEvents 1 (some .int), .fieldLink RX3 33 "ProphetCover" "eventCount" "I"] ++ wsX30 ++ wsX00)
def wsX3_say : List Cond := .code yX3_say cX3_say 4 (some .int) :: ([.fieldLink RX3 23 "ProphetCover" "prophets" "[LProphetCover$Prophet;", .fieldLink RX3 94 "ProphetCover$Prophet" "saidSet" "I", .methodLink RX3 85 yX3_isProphet, .instanceMethod yX3_isProphet, .selects RX3 yX3_isProphet yX3_isProphet, .initialized RX3, .code yX3_isProphet cX3_isProphet 2 (some .boolean), .fieldLink RX3 37 "ProphetCover" "prophetCount" "I", .methodLink RX3 81 yX3_isWithin, .static yX3_isWithin, .code yX3_isWithin cX3_isWithin 2 (some .boolean)] ++ wsX30 ++ wsX00)
def wsX3_isEventSet : List Cond := .code yX3_isEventSet cX3_isEventSet 2 (some .boolean) :: ([.methodLink RX3 142 yX3_allEvents, .instanceMethod yX3_allEvents, .selects RX3 yX3_allEvents yX3_allEvents, .initialized RX3, .code yX3_allEvents cX3_allEvents 1 (some .int), .fieldLink RX3 33 "ProphetCover" "eventCount" "I", .methodLink RX3 81 yX3_isWithin, .static yX3_isWithin, .code yX3_isWithin cX3_isWithin 2 (some .boolean)] ++ wsX30)
def wsJ6_bitCount_0f7a4 : List Cond := .code yJ6_bitCount_0f7a4 cJ6_bitCount_0f7a4 1 (some .int) :: ([.constant RJ6 265 (1431655765), .constant RJ6 266 (858993459), .constant RJ6 267 (252645135)])
def wsX3_payment : List Cond := .code yX3_payment cX3_payment 5 (some .int) :: ([.methodLink RX3 101 yX3_isFraud, .instanceMethod yX3_isFraud, .selects RX3 yX3_isFraud yX3_isFraud, .initialized RX3, .code yX3_isFraud cX3_isFraud 2 (some .boolean), .methodLink RX3 142 yX3_allEvents, .instanceMethod yX3_allEvents, .selects RX3 yX3_allEvents yX3_allEvents, .code yX3_allEvents cX3_allEvents 1 (some .int), .fieldLink RX3 33 "ProphetCover" "eventCount" "I", .methodLink RX3 97 yX3_paysEach, .static yX3_paysEach, .code yX3_paysEach cX3_paysEach 2 (some .int), .methodLink RX3 223 yJ6_bitCount_0f7a4, .static yJ6_bitCount_0f7a4, .initialized RJ6, .code yJ6_bitCount_0f7a4 cJ6_bitCount_0f7a4 1 (some .int), .constant RJ6 265 (1431655765), .constant RJ6 266 (858993459), .constant RJ6 267 (252645135)] ++ wsX30)
def wsX3_paidTo_r1 : List Cond := [Cond.fieldLink RX3 23 "ProphetCover" "prophets" "[LProphetCover$Prophet;", Cond.fieldLink RX3 88 "ProphetCover$Prophet" "kind" "I", Cond.fieldLink RX3 91 "ProphetCover$Prophet" "cover" "I", Cond.fieldLink RX3 94 "ProphetCover$Prophet" "saidSet" "I", Cond.methodLink RX3 134 yX3_payment, Cond.instanceMethod yX3_payment, Cond.selects RX3 yX3_payment yX3_payment, Cond.initialized RX3, Cond.code yX3_payment cX3_payment 5 (some .int), Cond.methodLink RX3 101 yX3_isFraud, Cond.instanceMethod yX3_isFraud, Cond.selects RX3 yX3_isFraud yX3_isFraud, Cond.code yX3_isFraud cX3_isFraud 2 (some .boolean), Cond.methodLink RX3 142 yX3_allEvents, Cond.instanceMethod yX3_allEvents, Cond.selects RX3 yX3_allEvents yX3_allEvents, Cond.code yX3_allEvents cX3_allEvents 1 (some .int), Cond.fieldLink RX3 33 "ProphetCover" "eventCount" "I", Cond.methodLink RX3 97 yX3_paysEach, Cond.static yX3_paysEach, Cond.code yX3_paysEach cX3_paysEach 2 (some .int), Cond.methodLink RX3 223 yJ6_bitCount_0f7a4, Cond.static yJ6_bitCount_0f7a4, Cond.initialized RJ6]
def wsX3_paidTo_r2 : List Cond := [Cond.code yJ6_bitCount_0f7a4 cJ6_bitCount_0f7a4 1 (some .int), Cond.constant RJ6 265 (1431655765), Cond.constant RJ6 266 (858993459), Cond.constant RJ6 267 (252645135)]
def wsX3_paidTo : List Cond := .code yX3_paidTo cX3_paidTo 4 (some .int) :: ((wsX3_paidTo_r1 ++ wsX3_paidTo_r2) ++ wsX30 ++ wsX00)
def wsX3_paid_r1 : List Cond := [Cond.methodLink RX3 85 yX3_isProphet, Cond.instanceMethod yX3_isProphet, Cond.selects RX3 yX3_isProphet yX3_isProphet, Cond.initialized RX3, Cond.code yX3_isProphet cX3_isProphet 2 (some .boolean), Cond.fieldLink RX3 37 "ProphetCover" "prophetCount" "I", Cond.methodLink RX3 104 yX3_isEventSet, Cond.instanceMethod yX3_isEventSet, Cond.selects RX3 yX3_isEventSet yX3_isEventSet, Cond.code yX3_isEventSet cX3_isEventSet 2 (some .boolean), Cond.methodLink RX3 142 yX3_allEvents, Cond.instanceMethod yX3_allEvents, Cond.selects RX3 yX3_allEvents yX3_allEvents, Cond.code yX3_allEvents cX3_allEvents 1 (some .int), Cond.fieldLink RX3 33 "ProphetCover" "eventCount" "I", Cond.methodLink RX3 81 yX3_isWithin, Cond.static yX3_isWithin, Cond.code yX3_isWithin cX3_isWithin 2 (some .boolean), Cond.methodLink RX3 107 yX3_paidTo, Cond.instanceMethod yX3_paidTo, Cond.selects RX3 yX3_paidTo yX3_paidTo, Cond.code yX3_paidTo cX3_paidTo 4 (some .int), Cond.fieldLink RX3 23 "ProphetCover" "prophets" "[LProphetCover$Prophet;", Cond.fieldLink RX3 88 "ProphetCover$Prophet" "kind" "I"]
def wsX3_paid_r2 : List Cond := [Cond.fieldLink RX3 91 "ProphetCover$Prophet" "cover" "I", Cond.fieldLink RX3 94 "ProphetCover$Prophet" "saidSet" "I", Cond.methodLink RX3 134 yX3_payment, Cond.instanceMethod yX3_payment, Cond.selects RX3 yX3_payment yX3_payment, Cond.code yX3_payment cX3_payment 5 (some .int), Cond.methodLink RX3 101 yX3_isFraud, Cond.instanceMethod yX3_isFraud, Cond.selects RX3 yX3_isFraud yX3_isFraud, Cond.code yX3_isFraud cX3_isFraud 2 (some .boolean), Cond.methodLink RX3 97 yX3_paysEach, Cond.static yX3_paysEach, Cond.code yX3_paysEach cX3_paysEach 2 (some .int), Cond.methodLink RX3 223 yJ6_bitCount_0f7a4, Cond.static yJ6_bitCount_0f7a4, Cond.initialized RJ6, Cond.code yJ6_bitCount_0f7a4 cJ6_bitCount_0f7a4 1 (some .int), Cond.constant RJ6 265 (1431655765), Cond.constant RJ6 266 (858993459), Cond.constant RJ6 267 (252645135)]
def wsX3_paid : List Cond := .code yX3_paid cX3_paid 3 (some .int) :: ((wsX3_paid_r1 ++ wsX3_paid_r2) ++ wsX30 ++ wsX00)
def wsX3_hasOffice : List Cond := .code yX3_hasOffice cX3_hasOffice 1 (some .boolean) :: ([.fieldLink RX3 37 "ProphetCover" "prophetCount" "I"] ++ wsX30)
def wsX3_paidToAll_r1 : List Cond := [Cond.fieldLink RX3 37 "ProphetCover" "prophetCount" "I", Cond.methodLink RX3 107 yX3_paidTo, Cond.instanceMethod yX3_paidTo, Cond.selects RX3 yX3_paidTo yX3_paidTo, Cond.initialized RX3, Cond.code yX3_paidTo cX3_paidTo 4 (some .int), Cond.fieldLink RX3 23 "ProphetCover" "prophets" "[LProphetCover$Prophet;", Cond.fieldLink RX3 88 "ProphetCover$Prophet" "kind" "I", Cond.fieldLink RX3 91 "ProphetCover$Prophet" "cover" "I", Cond.fieldLink RX3 94 "ProphetCover$Prophet" "saidSet" "I", Cond.methodLink RX3 134 yX3_payment, Cond.instanceMethod yX3_payment, Cond.selects RX3 yX3_payment yX3_payment, Cond.code yX3_payment cX3_payment 5 (some .int), Cond.methodLink RX3 101 yX3_isFraud, Cond.instanceMethod yX3_isFraud, Cond.selects RX3 yX3_isFraud yX3_isFraud, Cond.code yX3_isFraud cX3_isFraud 2 (some .boolean), Cond.methodLink RX3 142 yX3_allEvents, Cond.instanceMethod yX3_allEvents, Cond.selects RX3 yX3_allEvents yX3_allEvents, Cond.code yX3_allEvents cX3_allEvents 1 (some .int), Cond.fieldLink RX3 33 "ProphetCover" "eventCount" "I", Cond.methodLink RX3 97 yX3_paysEach]
def wsX3_paidToAll_r2 : List Cond := [Cond.static yX3_paysEach, Cond.code yX3_paysEach cX3_paysEach 2 (some .int), Cond.methodLink RX3 223 yJ6_bitCount_0f7a4, Cond.static yJ6_bitCount_0f7a4, Cond.initialized RJ6, Cond.code yJ6_bitCount_0f7a4 cJ6_bitCount_0f7a4 1 (some .int), Cond.constant RJ6 265 (1431655765), Cond.constant RJ6 266 (858993459), Cond.constant RJ6 267 (252645135)]
def wsX3_paidToAll : List Cond := .code yX3_paidToAll cX3_paidToAll 4 (some .int) :: ((wsX3_paidToAll_r1 ++ wsX3_paidToAll_r2) ++ wsX30 ++ wsX00)
def wsX3_total_r1 : List Cond := [Cond.methodLink RX3 110 yX3_hasOffice, Cond.instanceMethod yX3_hasOffice, Cond.selects RX3 yX3_hasOffice yX3_hasOffice, Cond.initialized RX3, Cond.code yX3_hasOffice cX3_hasOffice 1 (some .boolean), Cond.fieldLink RX3 37 "ProphetCover" "prophetCount" "I", Cond.methodLink RX3 104 yX3_isEventSet, Cond.instanceMethod yX3_isEventSet, Cond.selects RX3 yX3_isEventSet yX3_isEventSet, Cond.code yX3_isEventSet cX3_isEventSet 2 (some .boolean), Cond.methodLink RX3 142 yX3_allEvents, Cond.instanceMethod yX3_allEvents, Cond.selects RX3 yX3_allEvents yX3_allEvents, Cond.code yX3_allEvents cX3_allEvents 1 (some .int), Cond.fieldLink RX3 33 "ProphetCover" "eventCount" "I", Cond.methodLink RX3 81 yX3_isWithin, Cond.static yX3_isWithin, Cond.code yX3_isWithin cX3_isWithin 2 (some .boolean), Cond.methodLink RX3 114 yX3_paidToAll, Cond.instanceMethod yX3_paidToAll, Cond.selects RX3 yX3_paidToAll yX3_paidToAll, Cond.code yX3_paidToAll cX3_paidToAll 4 (some .int), Cond.methodLink RX3 107 yX3_paidTo, Cond.instanceMethod yX3_paidTo]
def wsX3_total_r2 : List Cond := [Cond.selects RX3 yX3_paidTo yX3_paidTo, Cond.code yX3_paidTo cX3_paidTo 4 (some .int), Cond.fieldLink RX3 23 "ProphetCover" "prophets" "[LProphetCover$Prophet;", Cond.fieldLink RX3 88 "ProphetCover$Prophet" "kind" "I", Cond.fieldLink RX3 91 "ProphetCover$Prophet" "cover" "I", Cond.fieldLink RX3 94 "ProphetCover$Prophet" "saidSet" "I", Cond.methodLink RX3 134 yX3_payment, Cond.instanceMethod yX3_payment, Cond.selects RX3 yX3_payment yX3_payment, Cond.code yX3_payment cX3_payment 5 (some .int), Cond.methodLink RX3 101 yX3_isFraud, Cond.instanceMethod yX3_isFraud, Cond.selects RX3 yX3_isFraud yX3_isFraud, Cond.code yX3_isFraud cX3_isFraud 2 (some .boolean), Cond.methodLink RX3 97 yX3_paysEach, Cond.static yX3_paysEach, Cond.code yX3_paysEach cX3_paysEach 2 (some .int), Cond.methodLink RX3 223 yJ6_bitCount_0f7a4, Cond.static yJ6_bitCount_0f7a4, Cond.initialized RJ6, Cond.code yJ6_bitCount_0f7a4 cJ6_bitCount_0f7a4 1 (some .int), Cond.constant RJ6 265 (1431655765), Cond.constant RJ6 266 (858993459), Cond.constant RJ6 267 (252645135)]
def wsX3_total : List Cond := .code yX3_total cX3_total 2 (some .int) :: ((wsX3_total_r1 ++ wsX3_total_r2) ++ wsX30 ++ wsX00)
def wsX3_isYearsQuestion : List Cond := .code yX3_isYearsQuestion cX3_isYearsQuestion 1 (some .boolean) :: ([.methodLink RX3 81 yX3_isWithin, .static yX3_isWithin, .initialized RX3, .code yX3_isWithin cX3_isWithin 2 (some .boolean)])
def wsX3_areEventSets : List Cond := .code yX3_areEventSets cX3_areEventSets 5 (some .boolean) :: ([.methodLink RX3 104 yX3_isEventSet, .instanceMethod yX3_isEventSet, .selects RX3 yX3_isEventSet yX3_isEventSet, .initialized RX3, .code yX3_isEventSet cX3_isEventSet 2 (some .boolean), .methodLink RX3 142 yX3_allEvents, .instanceMethod yX3_allEvents, .selects RX3 yX3_allEvents yX3_allEvents, .code yX3_allEvents cX3_allEvents 1 (some .int), .fieldLink RX3 33 "ProphetCover" "eventCount" "I", .methodLink RX3 81 yX3_isWithin, .static yX3_isWithin, .code yX3_isWithin cX3_isWithin 2 (some .boolean)] ++ wsX30)
def wsX3_paidOverYears_r1 : List Cond := [Cond.methodLink RX3 85 yX3_isProphet, Cond.instanceMethod yX3_isProphet, Cond.selects RX3 yX3_isProphet yX3_isProphet, Cond.initialized RX3, Cond.code yX3_isProphet cX3_isProphet 2 (some .boolean), Cond.fieldLink RX3 37 "ProphetCover" "prophetCount" "I", Cond.methodLink RX3 107 yX3_paidTo, Cond.instanceMethod yX3_paidTo, Cond.selects RX3 yX3_paidTo yX3_paidTo, Cond.code yX3_paidTo cX3_paidTo 4 (some .int), Cond.fieldLink RX3 23 "ProphetCover" "prophets" "[LProphetCover$Prophet;", Cond.fieldLink RX3 88 "ProphetCover$Prophet" "kind" "I", Cond.fieldLink RX3 91 "ProphetCover$Prophet" "cover" "I", Cond.fieldLink RX3 94 "ProphetCover$Prophet" "saidSet" "I", Cond.methodLink RX3 134 yX3_payment, Cond.instanceMethod yX3_payment, Cond.selects RX3 yX3_payment yX3_payment, Cond.code yX3_payment cX3_payment 5 (some .int), Cond.methodLink RX3 101 yX3_isFraud, Cond.instanceMethod yX3_isFraud, Cond.selects RX3 yX3_isFraud yX3_isFraud, Cond.code yX3_isFraud cX3_isFraud 2 (some .boolean), Cond.methodLink RX3 142 yX3_allEvents, Cond.instanceMethod yX3_allEvents]
def wsX3_paidOverYears_r2 : List Cond := [Cond.selects RX3 yX3_allEvents yX3_allEvents, Cond.code yX3_allEvents cX3_allEvents 1 (some .int), Cond.fieldLink RX3 33 "ProphetCover" "eventCount" "I", Cond.methodLink RX3 97 yX3_paysEach, Cond.static yX3_paysEach, Cond.code yX3_paysEach cX3_paysEach 2 (some .int), Cond.methodLink RX3 223 yJ6_bitCount_0f7a4, Cond.static yJ6_bitCount_0f7a4, Cond.initialized RJ6, Cond.code yJ6_bitCount_0f7a4 cJ6_bitCount_0f7a4 1 (some .int), Cond.constant RJ6 265 (1431655765), Cond.constant RJ6 266 (858993459), Cond.constant RJ6 267 (252645135)]
def wsX3_paidOverYears : List Cond := .code yX3_paidOverYears cX3_paidOverYears 7 (some .int) :: ((wsX3_paidOverYears_r1 ++ wsX3_paidOverYears_r2) ++ wsX30 ++ wsX00)
def wsX3_premiumsOfYear : List Cond := .code yX3_premiumsOfYear cX3_premiumsOfYear 4 (some .int) :: ([.fieldLink RX3 37 "ProphetCover" "prophetCount" "I", .fieldLink RX3 23 "ProphetCover" "prophets" "[LProphetCover$Prophet;", .fieldLink RX3 94 "ProphetCover$Prophet" "saidSet" "I", .methodLink RX3 142 yX3_allEvents, .instanceMethod yX3_allEvents, .selects RX3 yX3_allEvents yX3_allEvents, .initialized RX3, .code yX3_allEvents cX3_allEvents 1 (some .int), .fieldLink RX3 33 "ProphetCover" "eventCount" "I", .methodLink RX3 223 yJ6_bitCount_0f7a4, .static yJ6_bitCount_0f7a4, .initialized RJ6, .code yJ6_bitCount_0f7a4 cJ6_bitCount_0f7a4 1 (some .int), .constant RJ6 265 (1431655765), .constant RJ6 266 (858993459), .constant RJ6 267 (252645135)] ++ wsX30 ++ wsX00)
def wsX3_officeOverYears_r1 : List Cond := [Cond.methodLink RX3 231 Lib.Math.max.name, Cond.static Lib.Math.max.name, Cond.initialized "java/lang/Math", Cond.code Lib.Math.max.name Lib.Math.max.code 2 (some .int), Cond.methodLink RX3 228 yX3_premiumsOfYear, Cond.instanceMethod yX3_premiumsOfYear, Cond.selects RX3 yX3_premiumsOfYear yX3_premiumsOfYear, Cond.initialized RX3, Cond.code yX3_premiumsOfYear cX3_premiumsOfYear 4 (some .int), Cond.fieldLink RX3 37 "ProphetCover" "prophetCount" "I", Cond.fieldLink RX3 23 "ProphetCover" "prophets" "[LProphetCover$Prophet;", Cond.fieldLink RX3 94 "ProphetCover$Prophet" "saidSet" "I", Cond.methodLink RX3 142 yX3_allEvents, Cond.instanceMethod yX3_allEvents, Cond.selects RX3 yX3_allEvents yX3_allEvents, Cond.code yX3_allEvents cX3_allEvents 1 (some .int), Cond.fieldLink RX3 33 "ProphetCover" "eventCount" "I", Cond.methodLink RX3 223 yJ6_bitCount_0f7a4, Cond.static yJ6_bitCount_0f7a4, Cond.initialized RJ6, Cond.code yJ6_bitCount_0f7a4 cJ6_bitCount_0f7a4 1 (some .int), Cond.constant RJ6 265 (1431655765), Cond.constant RJ6 266 (858993459), Cond.constant RJ6 267 (252645135)]
def wsX3_officeOverYears_r2 : List Cond := [Cond.methodLink RX3 114 yX3_paidToAll, Cond.instanceMethod yX3_paidToAll, Cond.selects RX3 yX3_paidToAll yX3_paidToAll, Cond.code yX3_paidToAll cX3_paidToAll 4 (some .int), Cond.methodLink RX3 107 yX3_paidTo, Cond.instanceMethod yX3_paidTo, Cond.selects RX3 yX3_paidTo yX3_paidTo, Cond.code yX3_paidTo cX3_paidTo 4 (some .int), Cond.fieldLink RX3 88 "ProphetCover$Prophet" "kind" "I", Cond.fieldLink RX3 91 "ProphetCover$Prophet" "cover" "I", Cond.methodLink RX3 134 yX3_payment, Cond.instanceMethod yX3_payment, Cond.selects RX3 yX3_payment yX3_payment, Cond.code yX3_payment cX3_payment 5 (some .int), Cond.methodLink RX3 101 yX3_isFraud, Cond.instanceMethod yX3_isFraud, Cond.selects RX3 yX3_isFraud yX3_isFraud, Cond.code yX3_isFraud cX3_isFraud 2 (some .boolean), Cond.methodLink RX3 97 yX3_paysEach, Cond.static yX3_paysEach, Cond.code yX3_paysEach cX3_paysEach 2 (some .int)]
def wsX3_officeOverYears : List Cond := .code yX3_officeOverYears cX3_officeOverYears 13 (some .int) :: ((wsX3_officeOverYears_r1 ++ wsX3_officeOverYears_r2) ++ wsX30 ++ wsX00)
def wsX3_years_r1 : List Cond := [Cond.fieldLink RX3 46 "ProphetCover" "latestFault" "I", Cond.fieldLink RX3 13 "ProphetCover" "sheets" "[LProphetCover$Sheet;", Cond.fieldLink RX3 67 "ProphetCover$Sheet" "cells" "[I", Cond.methodLink RX3 52 yX3_isSheet, Cond.static yX3_isSheet, Cond.initialized RX3, Cond.code yX3_isSheet cX3_isSheet 1 (some .boolean), Cond.methodLink RX3 81 yX3_isWithin, Cond.static yX3_isWithin, Cond.code yX3_isWithin cX3_isWithin 2 (some .boolean), Cond.methodLink RX3 56 yX3_isLane, Cond.static yX3_isLane, Cond.code yX3_isLane cX3_isLane 1 (some .boolean), Cond.methodLink RX3 117 yX3_isYearsQuestion, Cond.static yX3_isYearsQuestion, Cond.code yX3_isYearsQuestion cX3_isYearsQuestion 1 (some .boolean), Cond.methodLink RX3 110 yX3_hasOffice, Cond.instanceMethod yX3_hasOffice, Cond.selects RX3 yX3_hasOffice yX3_hasOffice, Cond.code yX3_hasOffice cX3_hasOffice 1 (some .boolean), Cond.fieldLink RX3 37 "ProphetCover" "prophetCount" "I", Cond.methodLink RX3 59 yX2_flaw, Cond.instanceMethod yX2_flaw, Cond.selects RX2 yX2_flaw yX2_flaw]
def wsX3_years_r2 : List Cond := [Cond.initialized RX2, Cond.code yX2_flaw cX2_flaw 4 (some .int), Cond.fieldLink RX2 15 "ProphetCover$Sheet" "lane" "I", Cond.methodLink RX2 22 yX2_isEmpty, Cond.instanceMethod yX2_isEmpty, Cond.selects RX2 yX2_isEmpty yX2_isEmpty, Cond.code yX2_isEmpty cX2_isEmpty 1 (some .boolean), Cond.fieldLink RX2 19 "ProphetCover$Sheet" "size" "I", Cond.methodLink RX2 26 yX2_reaches, Cond.instanceMethod yX2_reaches, Cond.selects RX2 yX2_reaches yX2_reaches, Cond.code yX2_reaches cX2_reaches 3 (some .boolean), Cond.methodLink RX3 63 yX3_faulty, Cond.instanceMethod yX3_faulty, Cond.selects RX3 yX3_faulty yX3_faulty, Cond.code yX3_faulty cX3_faulty 2 (some .int), Cond.methodLink RX3 120 yX3_areEventSets, Cond.instanceMethod yX3_areEventSets, Cond.selects RX3 yX3_areEventSets yX3_areEventSets, Cond.code yX3_areEventSets cX3_areEventSets 5 (some .boolean), Cond.methodLink RX3 104 yX3_isEventSet, Cond.instanceMethod yX3_isEventSet, Cond.selects RX3 yX3_isEventSet yX3_isEventSet, Cond.code yX3_isEventSet cX3_isEventSet 2 (some .boolean)]
def wsX3_years_r3 : List Cond := [Cond.methodLink RX3 142 yX3_allEvents, Cond.instanceMethod yX3_allEvents, Cond.selects RX3 yX3_allEvents yX3_allEvents, Cond.code yX3_allEvents cX3_allEvents 1 (some .int), Cond.fieldLink RX3 33 "ProphetCover" "eventCount" "I", Cond.methodLink RX3 124 yX3_paidOverYears, Cond.instanceMethod yX3_paidOverYears, Cond.selects RX3 yX3_paidOverYears yX3_paidOverYears, Cond.code yX3_paidOverYears cX3_paidOverYears 7 (some .int), Cond.methodLink RX3 85 yX3_isProphet, Cond.instanceMethod yX3_isProphet, Cond.selects RX3 yX3_isProphet yX3_isProphet, Cond.code yX3_isProphet cX3_isProphet 2 (some .boolean), Cond.methodLink RX3 107 yX3_paidTo, Cond.instanceMethod yX3_paidTo, Cond.selects RX3 yX3_paidTo yX3_paidTo, Cond.code yX3_paidTo cX3_paidTo 4 (some .int), Cond.fieldLink RX3 23 "ProphetCover" "prophets" "[LProphetCover$Prophet;", Cond.fieldLink RX3 88 "ProphetCover$Prophet" "kind" "I", Cond.fieldLink RX3 91 "ProphetCover$Prophet" "cover" "I", Cond.fieldLink RX3 94 "ProphetCover$Prophet" "saidSet" "I", Cond.methodLink RX3 134 yX3_payment, Cond.instanceMethod yX3_payment, Cond.selects RX3 yX3_payment yX3_payment]
def wsX3_years_r4 : List Cond := [Cond.code yX3_payment cX3_payment 5 (some .int), Cond.methodLink RX3 101 yX3_isFraud, Cond.instanceMethod yX3_isFraud, Cond.selects RX3 yX3_isFraud yX3_isFraud, Cond.code yX3_isFraud cX3_isFraud 2 (some .boolean), Cond.methodLink RX3 97 yX3_paysEach, Cond.static yX3_paysEach, Cond.code yX3_paysEach cX3_paysEach 2 (some .int), Cond.methodLink RX3 223 yJ6_bitCount_0f7a4, Cond.static yJ6_bitCount_0f7a4, Cond.initialized RJ6, Cond.code yJ6_bitCount_0f7a4 cJ6_bitCount_0f7a4 1 (some .int), Cond.constant RJ6 265 (1431655765), Cond.constant RJ6 266 (858993459), Cond.constant RJ6 267 (252645135), Cond.methodLink RX3 128 yX3_officeOverYears, Cond.instanceMethod yX3_officeOverYears, Cond.selects RX3 yX3_officeOverYears yX3_officeOverYears, Cond.code yX3_officeOverYears cX3_officeOverYears 13 (some .int), Cond.methodLink RX3 231 Lib.Math.max.name, Cond.static Lib.Math.max.name, Cond.initialized "java/lang/Math", Cond.code Lib.Math.max.name Lib.Math.max.code 2 (some .int), Cond.methodLink RX3 228 yX3_premiumsOfYear]
def wsX3_years_r5 : List Cond := [Cond.instanceMethod yX3_premiumsOfYear, Cond.selects RX3 yX3_premiumsOfYear yX3_premiumsOfYear, Cond.code yX3_premiumsOfYear cX3_premiumsOfYear 4 (some .int), Cond.methodLink RX3 114 yX3_paidToAll, Cond.instanceMethod yX3_paidToAll, Cond.selects RX3 yX3_paidToAll yX3_paidToAll, Cond.code yX3_paidToAll cX3_paidToAll 4 (some .int)]
def wsX3_years : List Cond := .code yX3_years cX3_years 9 (some .int) :: ((wsX3_years_r1 ++ (wsX3_years_r2 ++ (wsX3_years_r3 ++ (wsX3_years_r4 ++ wsX3_years_r5)))) ++ wsX30 ++ wsX20 ++ wsX00)
def wsX3_greatestDivisor : List Cond := .code yX3_greatestDivisor cX3_greatestDivisor 6 (some .int) :: ([.methodLink RX3 231 Lib.Math.max.name, .static Lib.Math.max.name, .initialized "java/lang/Math", .code Lib.Math.max.name Lib.Math.max.code 2 (some .int)])
def wsX3_shareNumber : List Cond := .code yX3_shareNumber cX3_shareNumber 4 (some .long) :: ([.methodLink RX3 242 yX3_greatestDivisor, .static yX3_greatestDivisor, .initialized RX3, .code yX3_greatestDivisor cX3_greatestDivisor 6 (some .int), .methodLink RX3 231 Lib.Math.max.name, .static Lib.Math.max.name, .initialized "java/lang/Math", .code Lib.Math.max.name Lib.Math.max.code 2 (some .int)])
def wsX3_fair_r1 : List Cond := [Cond.constantLong RX3 132 (-9223372036854775808), Cond.fieldLink RX3 23 "ProphetCover" "prophets" "[LProphetCover$Prophet;", Cond.fieldLink RX3 33 "ProphetCover" "eventCount" "I", Cond.fieldLink RX3 17 "ProphetCover" "chances" "[I", Cond.fieldLink RX3 88 "ProphetCover$Prophet" "kind" "I", Cond.fieldLink RX3 91 "ProphetCover$Prophet" "cover" "I", Cond.fieldLink RX3 94 "ProphetCover$Prophet" "saidSet" "I", Cond.methodLink RX3 85 yX3_isProphet, Cond.instanceMethod yX3_isProphet, Cond.selects RX3 yX3_isProphet yX3_isProphet, Cond.initialized RX3, Cond.code yX3_isProphet cX3_isProphet 2 (some .boolean), Cond.fieldLink RX3 37 "ProphetCover" "prophetCount" "I", Cond.methodLink RX3 81 yX3_isWithin, Cond.static yX3_isWithin, Cond.code yX3_isWithin cX3_isWithin 2 (some .boolean), Cond.methodLink RX3 134 yX3_payment, Cond.instanceMethod yX3_payment, Cond.selects RX3 yX3_payment yX3_payment, Cond.code yX3_payment cX3_payment 5 (some .int), Cond.methodLink RX3 101 yX3_isFraud, Cond.instanceMethod yX3_isFraud, Cond.selects RX3 yX3_isFraud yX3_isFraud, Cond.code yX3_isFraud cX3_isFraud 2 (some .boolean)]
def wsX3_fair_r2 : List Cond := [Cond.methodLink RX3 142 yX3_allEvents, Cond.instanceMethod yX3_allEvents, Cond.selects RX3 yX3_allEvents yX3_allEvents, Cond.code yX3_allEvents cX3_allEvents 1 (some .int), Cond.methodLink RX3 97 yX3_paysEach, Cond.static yX3_paysEach, Cond.code yX3_paysEach cX3_paysEach 2 (some .int), Cond.methodLink RX3 223 yJ6_bitCount_0f7a4, Cond.static yJ6_bitCount_0f7a4, Cond.initialized RJ6, Cond.code yJ6_bitCount_0f7a4 cJ6_bitCount_0f7a4 1 (some .int), Cond.constant RJ6 265 (1431655765), Cond.constant RJ6 266 (858993459), Cond.constant RJ6 267 (252645135), Cond.methodLink RX3 138 yX3_shareNumber, Cond.static yX3_shareNumber, Cond.code yX3_shareNumber cX3_shareNumber 4 (some .long), Cond.methodLink RX3 242 yX3_greatestDivisor, Cond.static yX3_greatestDivisor, Cond.code yX3_greatestDivisor cX3_greatestDivisor 6 (some .int), Cond.methodLink RX3 231 Lib.Math.max.name, Cond.static Lib.Math.max.name, Cond.initialized "java/lang/Math", Cond.code Lib.Math.max.name Lib.Math.max.code 2 (some .int)]
def wsX3_fair : List Cond := .code yX3_fair cX3_fair 6 (some .long) :: ((wsX3_fair_r1 ++ wsX3_fair_r2) ++ wsX30 ++ wsX00)
def wsX3_safe_r1 : List Cond := [Cond.methodLink RX3 85 yX3_isProphet, Cond.instanceMethod yX3_isProphet, Cond.selects RX3 yX3_isProphet yX3_isProphet, Cond.initialized RX3, Cond.code yX3_isProphet cX3_isProphet 2 (some .boolean), Cond.fieldLink RX3 37 "ProphetCover" "prophetCount" "I", Cond.methodLink RX3 142 yX3_allEvents, Cond.instanceMethod yX3_allEvents, Cond.selects RX3 yX3_allEvents yX3_allEvents, Cond.code yX3_allEvents cX3_allEvents 1 (some .int), Cond.fieldLink RX3 33 "ProphetCover" "eventCount" "I", Cond.methodLink RX3 107 yX3_paidTo, Cond.instanceMethod yX3_paidTo, Cond.selects RX3 yX3_paidTo yX3_paidTo, Cond.code yX3_paidTo cX3_paidTo 4 (some .int), Cond.fieldLink RX3 23 "ProphetCover" "prophets" "[LProphetCover$Prophet;", Cond.fieldLink RX3 88 "ProphetCover$Prophet" "kind" "I", Cond.fieldLink RX3 91 "ProphetCover$Prophet" "cover" "I", Cond.fieldLink RX3 94 "ProphetCover$Prophet" "saidSet" "I", Cond.methodLink RX3 134 yX3_payment, Cond.instanceMethod yX3_payment, Cond.selects RX3 yX3_payment yX3_payment, Cond.code yX3_payment cX3_payment 5 (some .int), Cond.methodLink RX3 101 yX3_isFraud]
def wsX3_safe_r2 : List Cond := [Cond.instanceMethod yX3_isFraud, Cond.selects RX3 yX3_isFraud yX3_isFraud, Cond.code yX3_isFraud cX3_isFraud 2 (some .boolean), Cond.methodLink RX3 97 yX3_paysEach, Cond.static yX3_paysEach, Cond.code yX3_paysEach cX3_paysEach 2 (some .int), Cond.methodLink RX3 223 yJ6_bitCount_0f7a4, Cond.static yJ6_bitCount_0f7a4, Cond.initialized RJ6, Cond.code yJ6_bitCount_0f7a4 cJ6_bitCount_0f7a4 1 (some .int), Cond.constant RJ6 265 (1431655765), Cond.constant RJ6 266 (858993459), Cond.constant RJ6 267 (252645135)]
def wsX3_safe : List Cond := .code yX3_safe cX3_safe 2 (some .int) :: ((wsX3_safe_r1 ++ wsX3_safe_r2) ++ wsX30 ++ wsX00)
def wsX3_weightOfAll : List Cond := .code yX3_weightOfAll cX3_weightOfAll 3 (some .int) :: ([.fieldLink RX3 33 "ProphetCover" "eventCount" "I"] ++ wsX30)
def wsX3_isIn : List Cond := .code yX3_isIn cX3_isIn 2 (some .boolean) :: ([])
def wsX3_weightOf : List Cond := .code yX3_weightOf cX3_weightOf 4 (some .int) :: ([.fieldLink RX3 33 "ProphetCover" "eventCount" "I", .fieldLink RX3 17 "ProphetCover" "chances" "[I", .methodLink RX3 236 yX3_isIn, .static yX3_isIn, .initialized RX3, .code yX3_isIn cX3_isIn 2 (some .boolean)] ++ wsX30)
def wsX3_weightFrom_r1 : List Cond := [Cond.methodLink RX3 142 yX3_allEvents, Cond.instanceMethod yX3_allEvents, Cond.selects RX3 yX3_allEvents yX3_allEvents, Cond.initialized RX3, Cond.code yX3_allEvents cX3_allEvents 1 (some .int), Cond.fieldLink RX3 33 "ProphetCover" "eventCount" "I", Cond.methodLink RX3 114 yX3_paidToAll, Cond.instanceMethod yX3_paidToAll, Cond.selects RX3 yX3_paidToAll yX3_paidToAll, Cond.code yX3_paidToAll cX3_paidToAll 4 (some .int), Cond.fieldLink RX3 37 "ProphetCover" "prophetCount" "I", Cond.methodLink RX3 107 yX3_paidTo, Cond.instanceMethod yX3_paidTo, Cond.selects RX3 yX3_paidTo yX3_paidTo, Cond.code yX3_paidTo cX3_paidTo 4 (some .int), Cond.fieldLink RX3 23 "ProphetCover" "prophets" "[LProphetCover$Prophet;", Cond.fieldLink RX3 88 "ProphetCover$Prophet" "kind" "I", Cond.fieldLink RX3 91 "ProphetCover$Prophet" "cover" "I", Cond.fieldLink RX3 94 "ProphetCover$Prophet" "saidSet" "I", Cond.methodLink RX3 134 yX3_payment, Cond.instanceMethod yX3_payment, Cond.selects RX3 yX3_payment yX3_payment, Cond.code yX3_payment cX3_payment 5 (some .int), Cond.methodLink RX3 101 yX3_isFraud]
def wsX3_weightFrom_r2 : List Cond := [Cond.instanceMethod yX3_isFraud, Cond.selects RX3 yX3_isFraud yX3_isFraud, Cond.code yX3_isFraud cX3_isFraud 2 (some .boolean), Cond.methodLink RX3 97 yX3_paysEach, Cond.static yX3_paysEach, Cond.code yX3_paysEach cX3_paysEach 2 (some .int), Cond.methodLink RX3 223 yJ6_bitCount_0f7a4, Cond.static yJ6_bitCount_0f7a4, Cond.initialized RJ6, Cond.code yJ6_bitCount_0f7a4 cJ6_bitCount_0f7a4 1 (some .int), Cond.constant RJ6 265 (1431655765), Cond.constant RJ6 266 (858993459), Cond.constant RJ6 267 (252645135), Cond.methodLink RX3 239 yX3_weightOf, Cond.instanceMethod yX3_weightOf, Cond.selects RX3 yX3_weightOf yX3_weightOf, Cond.code yX3_weightOf cX3_weightOf 4 (some .int), Cond.fieldLink RX3 17 "ProphetCover" "chances" "[I", Cond.methodLink RX3 236 yX3_isIn, Cond.static yX3_isIn, Cond.code yX3_isIn cX3_isIn 2 (some .boolean)]
def wsX3_weightFrom : List Cond := .code yX3_weightFrom cX3_weightFrom 4 (some .int) :: ((wsX3_weightFrom_r1 ++ wsX3_weightFrom_r2) ++ wsX30 ++ wsX00)
def wsX3_hold_r1 : List Cond := [Cond.methodLink RX3 81 yX3_isWithin, Cond.static yX3_isWithin, Cond.initialized RX3, Cond.code yX3_isWithin cX3_isWithin 2 (some .boolean), Cond.methodLink RX3 110 yX3_hasOffice, Cond.instanceMethod yX3_hasOffice, Cond.selects RX3 yX3_hasOffice yX3_hasOffice, Cond.code yX3_hasOffice cX3_hasOffice 1 (some .boolean), Cond.fieldLink RX3 37 "ProphetCover" "prophetCount" "I", Cond.methodLink RX3 146 yX3_weightOfAll, Cond.instanceMethod yX3_weightOfAll, Cond.selects RX3 yX3_weightOfAll yX3_weightOfAll, Cond.code yX3_weightOfAll cX3_weightOfAll 3 (some .int), Cond.fieldLink RX3 33 "ProphetCover" "eventCount" "I", Cond.methodLink RX3 142 yX3_allEvents, Cond.instanceMethod yX3_allEvents, Cond.selects RX3 yX3_allEvents yX3_allEvents, Cond.code yX3_allEvents cX3_allEvents 1 (some .int), Cond.methodLink RX3 114 yX3_paidToAll, Cond.instanceMethod yX3_paidToAll, Cond.selects RX3 yX3_paidToAll yX3_paidToAll, Cond.code yX3_paidToAll cX3_paidToAll 4 (some .int), Cond.methodLink RX3 107 yX3_paidTo, Cond.instanceMethod yX3_paidTo]
def wsX3_hold_r2 : List Cond := [Cond.selects RX3 yX3_paidTo yX3_paidTo, Cond.code yX3_paidTo cX3_paidTo 4 (some .int), Cond.fieldLink RX3 23 "ProphetCover" "prophets" "[LProphetCover$Prophet;", Cond.fieldLink RX3 88 "ProphetCover$Prophet" "kind" "I", Cond.fieldLink RX3 91 "ProphetCover$Prophet" "cover" "I", Cond.fieldLink RX3 94 "ProphetCover$Prophet" "saidSet" "I", Cond.methodLink RX3 134 yX3_payment, Cond.instanceMethod yX3_payment, Cond.selects RX3 yX3_payment yX3_payment, Cond.code yX3_payment cX3_payment 5 (some .int), Cond.methodLink RX3 101 yX3_isFraud, Cond.instanceMethod yX3_isFraud, Cond.selects RX3 yX3_isFraud yX3_isFraud, Cond.code yX3_isFraud cX3_isFraud 2 (some .boolean), Cond.methodLink RX3 97 yX3_paysEach, Cond.static yX3_paysEach, Cond.code yX3_paysEach cX3_paysEach 2 (some .int), Cond.methodLink RX3 223 yJ6_bitCount_0f7a4, Cond.static yJ6_bitCount_0f7a4, Cond.initialized RJ6, Cond.code yJ6_bitCount_0f7a4 cJ6_bitCount_0f7a4 1 (some .int), Cond.constant RJ6 265 (1431655765), Cond.constant RJ6 266 (858993459), Cond.constant RJ6 267 (252645135)]
def wsX3_hold_r3 : List Cond := [Cond.methodLink RX3 149 yX3_weightFrom, Cond.instanceMethod yX3_weightFrom, Cond.selects RX3 yX3_weightFrom yX3_weightFrom, Cond.code yX3_weightFrom cX3_weightFrom 4 (some .int), Cond.methodLink RX3 239 yX3_weightOf, Cond.instanceMethod yX3_weightOf, Cond.selects RX3 yX3_weightOf yX3_weightOf, Cond.code yX3_weightOf cX3_weightOf 4 (some .int), Cond.fieldLink RX3 17 "ProphetCover" "chances" "[I", Cond.methodLink RX3 236 yX3_isIn, Cond.static yX3_isIn, Cond.code yX3_isIn cX3_isIn 2 (some .boolean)]
def wsX3_hold : List Cond := .code yX3_hold cX3_hold 7 (some .int) :: ((wsX3_hold_r1 ++ (wsX3_hold_r2 ++ wsX3_hold_r3)) ++ wsX30 ++ wsX00)
def wsX3_tenthsGained : List Cond := .code yX3_tenthsGained cX3_tenthsGained 6 (some .int) :: ([.fieldLink RX3 33 "ProphetCover" "eventCount" "I", .fieldLink RX3 17 "ProphetCover" "chances" "[I", .methodLink RX3 236 yX3_isIn, .static yX3_isIn, .initialized RX3, .code yX3_isIn cX3_isIn 2 (some .boolean)] ++ wsX30)
def wsX3_best_r1 : List Cond := [Cond.fieldLink RX3 23 "ProphetCover" "prophets" "[LProphetCover$Prophet;", Cond.fieldLink RX3 88 "ProphetCover$Prophet" "kind" "I", Cond.fieldLink RX3 91 "ProphetCover$Prophet" "cover" "I", Cond.methodLink RX3 85 yX3_isProphet, Cond.instanceMethod yX3_isProphet, Cond.selects RX3 yX3_isProphet yX3_isProphet, Cond.initialized RX3, Cond.code yX3_isProphet cX3_isProphet 2 (some .boolean), Cond.fieldLink RX3 37 "ProphetCover" "prophetCount" "I", Cond.methodLink RX3 81 yX3_isWithin, Cond.static yX3_isWithin, Cond.code yX3_isWithin cX3_isWithin 2 (some .boolean), Cond.methodLink RX3 97 yX3_paysEach, Cond.static yX3_paysEach, Cond.code yX3_paysEach cX3_paysEach 2 (some .int), Cond.methodLink RX3 142 yX3_allEvents, Cond.instanceMethod yX3_allEvents, Cond.selects RX3 yX3_allEvents yX3_allEvents, Cond.code yX3_allEvents cX3_allEvents 1 (some .int), Cond.fieldLink RX3 33 "ProphetCover" "eventCount" "I", Cond.methodLink RX3 152 yX3_tenthsGained, Cond.instanceMethod yX3_tenthsGained, Cond.selects RX3 yX3_tenthsGained yX3_tenthsGained, Cond.code yX3_tenthsGained cX3_tenthsGained 6 (some .int)]
def wsX3_best_r2 : List Cond := [Cond.fieldLink RX3 17 "ProphetCover" "chances" "[I", Cond.methodLink RX3 236 yX3_isIn, Cond.static yX3_isIn, Cond.code yX3_isIn cX3_isIn 2 (some .boolean)]
def wsX3_best : List Cond := .code yX3_best cX3_best 8 (some .int) :: ((wsX3_best_r1 ++ wsX3_best_r2) ++ wsX30 ++ wsX00)
def wsX3_came_r1 : List Cond := [Cond.methodLink RX3 81 yX3_isWithin, Cond.static yX3_isWithin, Cond.initialized RX3, Cond.code yX3_isWithin cX3_isWithin 2 (some .boolean), Cond.methodLink RX3 110 yX3_hasOffice, Cond.instanceMethod yX3_hasOffice, Cond.selects RX3 yX3_hasOffice yX3_hasOffice, Cond.code yX3_hasOffice cX3_hasOffice 1 (some .boolean), Cond.fieldLink RX3 37 "ProphetCover" "prophetCount" "I", Cond.methodLink RX3 142 yX3_allEvents, Cond.instanceMethod yX3_allEvents, Cond.selects RX3 yX3_allEvents yX3_allEvents, Cond.code yX3_allEvents cX3_allEvents 1 (some .int), Cond.fieldLink RX3 33 "ProphetCover" "eventCount" "I", Cond.methodLink RX3 114 yX3_paidToAll, Cond.instanceMethod yX3_paidToAll, Cond.selects RX3 yX3_paidToAll yX3_paidToAll, Cond.code yX3_paidToAll cX3_paidToAll 4 (some .int), Cond.methodLink RX3 107 yX3_paidTo, Cond.instanceMethod yX3_paidTo, Cond.selects RX3 yX3_paidTo yX3_paidTo, Cond.code yX3_paidTo cX3_paidTo 4 (some .int), Cond.fieldLink RX3 23 "ProphetCover" "prophets" "[LProphetCover$Prophet;", Cond.fieldLink RX3 88 "ProphetCover$Prophet" "kind" "I"]
def wsX3_came_r2 : List Cond := [Cond.fieldLink RX3 91 "ProphetCover$Prophet" "cover" "I", Cond.fieldLink RX3 94 "ProphetCover$Prophet" "saidSet" "I", Cond.methodLink RX3 134 yX3_payment, Cond.instanceMethod yX3_payment, Cond.selects RX3 yX3_payment yX3_payment, Cond.code yX3_payment cX3_payment 5 (some .int), Cond.methodLink RX3 101 yX3_isFraud, Cond.instanceMethod yX3_isFraud, Cond.selects RX3 yX3_isFraud yX3_isFraud, Cond.code yX3_isFraud cX3_isFraud 2 (some .boolean), Cond.methodLink RX3 97 yX3_paysEach, Cond.static yX3_paysEach, Cond.code yX3_paysEach cX3_paysEach 2 (some .int), Cond.methodLink RX3 223 yJ6_bitCount_0f7a4, Cond.static yJ6_bitCount_0f7a4, Cond.initialized RJ6, Cond.code yJ6_bitCount_0f7a4 cJ6_bitCount_0f7a4 1 (some .int), Cond.constant RJ6 265 (1431655765), Cond.constant RJ6 266 (858993459), Cond.constant RJ6 267 (252645135)]
def wsX3_came : List Cond := .code yX3_came cX3_came 6 (some .int) :: ((wsX3_came_r1 ++ wsX3_came_r2) ++ wsX30 ++ wsX00)
def wsX3_reading : List Cond := .code yX3_reading cX3_reading 5 (some .int) :: ([.fieldLink RX3 40 "ProphetCover" "readingCount" "I", .fieldLink RX3 29 "ProphetCover" "readings" "[LProphetCover$Reading;", .fieldLink RX3 155 "ProphetCover$Reading" "prophet" "I", .fieldLink RX3 158 "ProphetCover$Reading" "cameSet" "I", .fieldLink RX3 161 "ProphetCover$Reading" "amount" "I", .methodLink RX3 85 yX3_isProphet, .instanceMethod yX3_isProphet, .selects RX3 yX3_isProphet yX3_isProphet, .initialized RX3, .code yX3_isProphet cX3_isProphet 2 (some .boolean), .fieldLink RX3 37 "ProphetCover" "prophetCount" "I", .methodLink RX3 104 yX3_isEventSet, .instanceMethod yX3_isEventSet, .selects RX3 yX3_isEventSet yX3_isEventSet, .code yX3_isEventSet cX3_isEventSet 2 (some .boolean), .methodLink RX3 142 yX3_allEvents, .instanceMethod yX3_allEvents, .selects RX3 yX3_allEvents yX3_allEvents, .code yX3_allEvents cX3_allEvents 1 (some .int), .fieldLink RX3 33 "ProphetCover" "eventCount" "I", .methodLink RX3 81 yX3_isWithin, .static yX3_isWithin, .code yX3_isWithin cX3_isWithin 2 (some .boolean)] ++ wsX30 ++ wsX10)
def wsX3_back : List Cond := .code yX3_back cX3_back 2 (some .int) :: ([.fieldLink RX3 40 "ProphetCover" "readingCount" "I", .methodLink RX3 81 yX3_isWithin, .static yX3_isWithin, .initialized RX3, .code yX3_isWithin cX3_isWithin 2 (some .boolean)] ++ wsX30)
def wsX3_agreesWithReadings_r1 : List Cond := [Cond.fieldLink RX3 40 "ProphetCover" "readingCount" "I", Cond.fieldLink RX3 29 "ProphetCover" "readings" "[LProphetCover$Reading;", Cond.fieldLink RX3 155 "ProphetCover$Reading" "prophet" "I", Cond.fieldLink RX3 158 "ProphetCover$Reading" "cameSet" "I", Cond.fieldLink RX3 161 "ProphetCover$Reading" "amount" "I", Cond.methodLink RX3 134 yX3_payment, Cond.instanceMethod yX3_payment, Cond.selects RX3 yX3_payment yX3_payment, Cond.initialized RX3, Cond.code yX3_payment cX3_payment 5 (some .int), Cond.methodLink RX3 101 yX3_isFraud, Cond.instanceMethod yX3_isFraud, Cond.selects RX3 yX3_isFraud yX3_isFraud, Cond.code yX3_isFraud cX3_isFraud 2 (some .boolean), Cond.methodLink RX3 142 yX3_allEvents, Cond.instanceMethod yX3_allEvents, Cond.selects RX3 yX3_allEvents yX3_allEvents, Cond.code yX3_allEvents cX3_allEvents 1 (some .int), Cond.fieldLink RX3 33 "ProphetCover" "eventCount" "I", Cond.methodLink RX3 97 yX3_paysEach, Cond.static yX3_paysEach, Cond.code yX3_paysEach cX3_paysEach 2 (some .int), Cond.methodLink RX3 223 yJ6_bitCount_0f7a4, Cond.static yJ6_bitCount_0f7a4]
def wsX3_agreesWithReadings_r2 : List Cond := [Cond.initialized RJ6, Cond.code yJ6_bitCount_0f7a4 cJ6_bitCount_0f7a4 1 (some .int), Cond.constant RJ6 265 (1431655765), Cond.constant RJ6 266 (858993459), Cond.constant RJ6 267 (252645135), Cond.methodLink RX3 107 yX3_paidTo, Cond.instanceMethod yX3_paidTo, Cond.selects RX3 yX3_paidTo yX3_paidTo, Cond.code yX3_paidTo cX3_paidTo 4 (some .int), Cond.fieldLink RX3 23 "ProphetCover" "prophets" "[LProphetCover$Prophet;", Cond.fieldLink RX3 88 "ProphetCover$Prophet" "kind" "I", Cond.fieldLink RX3 91 "ProphetCover$Prophet" "cover" "I", Cond.fieldLink RX3 94 "ProphetCover$Prophet" "saidSet" "I"]
def wsX3_agreesWithReadings : List Cond := .code yX3_agreesWithReadings cX3_agreesWithReadings 8 (some .boolean) :: ((wsX3_agreesWithReadings_r1 ++ wsX3_agreesWithReadings_r2) ++ wsX30 ++ wsX10 ++ wsX00)
def wsX3_covers_r1 : List Cond := [Cond.fieldLink RX3 23 "ProphetCover" "prophets" "[LProphetCover$Prophet;", Cond.fieldLink RX3 88 "ProphetCover$Prophet" "kind" "I", Cond.fieldLink RX3 94 "ProphetCover$Prophet" "saidSet" "I", Cond.methodLink RX3 85 yX3_isProphet, Cond.instanceMethod yX3_isProphet, Cond.selects RX3 yX3_isProphet yX3_isProphet, Cond.initialized RX3, Cond.code yX3_isProphet cX3_isProphet 2 (some .boolean), Cond.fieldLink RX3 37 "ProphetCover" "prophetCount" "I", Cond.methodLink RX3 164 yX3_agreesWithReadings, Cond.instanceMethod yX3_agreesWithReadings, Cond.selects RX3 yX3_agreesWithReadings yX3_agreesWithReadings, Cond.code yX3_agreesWithReadings cX3_agreesWithReadings 8 (some .boolean), Cond.fieldLink RX3 40 "ProphetCover" "readingCount" "I", Cond.fieldLink RX3 29 "ProphetCover" "readings" "[LProphetCover$Reading;", Cond.fieldLink RX3 155 "ProphetCover$Reading" "prophet" "I", Cond.fieldLink RX3 158 "ProphetCover$Reading" "cameSet" "I", Cond.fieldLink RX3 161 "ProphetCover$Reading" "amount" "I", Cond.methodLink RX3 134 yX3_payment, Cond.instanceMethod yX3_payment, Cond.selects RX3 yX3_payment yX3_payment, Cond.code yX3_payment cX3_payment 5 (some .int), Cond.methodLink RX3 101 yX3_isFraud, Cond.instanceMethod yX3_isFraud]
def wsX3_covers_r2 : List Cond := [Cond.selects RX3 yX3_isFraud yX3_isFraud, Cond.code yX3_isFraud cX3_isFraud 2 (some .boolean), Cond.methodLink RX3 142 yX3_allEvents, Cond.instanceMethod yX3_allEvents, Cond.selects RX3 yX3_allEvents yX3_allEvents, Cond.code yX3_allEvents cX3_allEvents 1 (some .int), Cond.fieldLink RX3 33 "ProphetCover" "eventCount" "I", Cond.methodLink RX3 97 yX3_paysEach, Cond.static yX3_paysEach, Cond.code yX3_paysEach cX3_paysEach 2 (some .int), Cond.methodLink RX3 223 yJ6_bitCount_0f7a4, Cond.static yJ6_bitCount_0f7a4, Cond.initialized RJ6, Cond.code yJ6_bitCount_0f7a4 cJ6_bitCount_0f7a4 1 (some .int), Cond.constant RJ6 265 (1431655765), Cond.constant RJ6 266 (858993459), Cond.constant RJ6 267 (252645135), Cond.methodLink RX3 107 yX3_paidTo, Cond.instanceMethod yX3_paidTo, Cond.selects RX3 yX3_paidTo yX3_paidTo, Cond.code yX3_paidTo cX3_paidTo 4 (some .int), Cond.fieldLink RX3 91 "ProphetCover$Prophet" "cover" "I"]
def wsX3_covers : List Cond := .code yX3_covers cX3_covers 5 (some .int) :: ((wsX3_covers_r1 ++ wsX3_covers_r2) ++ wsX30 ++ wsX00 ++ wsX10)
def wsX3_kinds_r1 : List Cond := [Cond.fieldLink RX3 23 "ProphetCover" "prophets" "[LProphetCover$Prophet;", Cond.fieldLink RX3 91 "ProphetCover$Prophet" "cover" "I", Cond.fieldLink RX3 94 "ProphetCover$Prophet" "saidSet" "I", Cond.methodLink RX3 85 yX3_isProphet, Cond.instanceMethod yX3_isProphet, Cond.selects RX3 yX3_isProphet yX3_isProphet, Cond.initialized RX3, Cond.code yX3_isProphet cX3_isProphet 2 (some .boolean), Cond.fieldLink RX3 37 "ProphetCover" "prophetCount" "I", Cond.methodLink RX3 164 yX3_agreesWithReadings, Cond.instanceMethod yX3_agreesWithReadings, Cond.selects RX3 yX3_agreesWithReadings yX3_agreesWithReadings, Cond.code yX3_agreesWithReadings cX3_agreesWithReadings 8 (some .boolean), Cond.fieldLink RX3 40 "ProphetCover" "readingCount" "I", Cond.fieldLink RX3 29 "ProphetCover" "readings" "[LProphetCover$Reading;", Cond.fieldLink RX3 155 "ProphetCover$Reading" "prophet" "I", Cond.fieldLink RX3 158 "ProphetCover$Reading" "cameSet" "I", Cond.fieldLink RX3 161 "ProphetCover$Reading" "amount" "I", Cond.methodLink RX3 134 yX3_payment, Cond.instanceMethod yX3_payment, Cond.selects RX3 yX3_payment yX3_payment, Cond.code yX3_payment cX3_payment 5 (some .int), Cond.methodLink RX3 101 yX3_isFraud, Cond.instanceMethod yX3_isFraud]
def wsX3_kinds_r2 : List Cond := [Cond.selects RX3 yX3_isFraud yX3_isFraud, Cond.code yX3_isFraud cX3_isFraud 2 (some .boolean), Cond.methodLink RX3 142 yX3_allEvents, Cond.instanceMethod yX3_allEvents, Cond.selects RX3 yX3_allEvents yX3_allEvents, Cond.code yX3_allEvents cX3_allEvents 1 (some .int), Cond.fieldLink RX3 33 "ProphetCover" "eventCount" "I", Cond.methodLink RX3 97 yX3_paysEach, Cond.static yX3_paysEach, Cond.code yX3_paysEach cX3_paysEach 2 (some .int), Cond.methodLink RX3 223 yJ6_bitCount_0f7a4, Cond.static yJ6_bitCount_0f7a4, Cond.initialized RJ6, Cond.code yJ6_bitCount_0f7a4 cJ6_bitCount_0f7a4 1 (some .int), Cond.constant RJ6 265 (1431655765), Cond.constant RJ6 266 (858993459), Cond.constant RJ6 267 (252645135), Cond.methodLink RX3 107 yX3_paidTo, Cond.instanceMethod yX3_paidTo, Cond.selects RX3 yX3_paidTo yX3_paidTo, Cond.code yX3_paidTo cX3_paidTo 4 (some .int), Cond.fieldLink RX3 88 "ProphetCover$Prophet" "kind" "I"]
def wsX3_kinds : List Cond := .code yX3_kinds cX3_kinds 5 (some .int) :: ((wsX3_kinds_r1 ++ wsX3_kinds_r2) ++ wsX30 ++ wsX00 ++ wsX10)
def wsX3_sayings_r1 : List Cond := [Cond.fieldLink RX3 23 "ProphetCover" "prophets" "[LProphetCover$Prophet;", Cond.fieldLink RX3 88 "ProphetCover$Prophet" "kind" "I", Cond.fieldLink RX3 91 "ProphetCover$Prophet" "cover" "I", Cond.fieldLink RX3 94 "ProphetCover$Prophet" "saidSet" "I", Cond.methodLink RX3 85 yX3_isProphet, Cond.instanceMethod yX3_isProphet, Cond.selects RX3 yX3_isProphet yX3_isProphet, Cond.initialized RX3, Cond.code yX3_isProphet cX3_isProphet 2 (some .boolean), Cond.fieldLink RX3 37 "ProphetCover" "prophetCount" "I", Cond.methodLink RX3 78 yX3_isEvent, Cond.instanceMethod yX3_isEvent, Cond.selects RX3 yX3_isEvent yX3_isEvent, Cond.code yX3_isEvent cX3_isEvent 2 (some .boolean), Cond.fieldLink RX3 33 "ProphetCover" "eventCount" "I", Cond.methodLink RX3 164 yX3_agreesWithReadings, Cond.instanceMethod yX3_agreesWithReadings, Cond.selects RX3 yX3_agreesWithReadings yX3_agreesWithReadings, Cond.code yX3_agreesWithReadings cX3_agreesWithReadings 8 (some .boolean), Cond.fieldLink RX3 40 "ProphetCover" "readingCount" "I", Cond.fieldLink RX3 29 "ProphetCover" "readings" "[LProphetCover$Reading;", Cond.fieldLink RX3 155 "ProphetCover$Reading" "prophet" "I", Cond.fieldLink RX3 158 "ProphetCover$Reading" "cameSet" "I", Cond.fieldLink RX3 161 "ProphetCover$Reading" "amount" "I"]
def wsX3_sayings_r2 : List Cond := [Cond.methodLink RX3 134 yX3_payment, Cond.instanceMethod yX3_payment, Cond.selects RX3 yX3_payment yX3_payment, Cond.code yX3_payment cX3_payment 5 (some .int), Cond.methodLink RX3 101 yX3_isFraud, Cond.instanceMethod yX3_isFraud, Cond.selects RX3 yX3_isFraud yX3_isFraud, Cond.code yX3_isFraud cX3_isFraud 2 (some .boolean), Cond.methodLink RX3 142 yX3_allEvents, Cond.instanceMethod yX3_allEvents, Cond.selects RX3 yX3_allEvents yX3_allEvents, Cond.code yX3_allEvents cX3_allEvents 1 (some .int), Cond.methodLink RX3 97 yX3_paysEach, Cond.static yX3_paysEach, Cond.code yX3_paysEach cX3_paysEach 2 (some .int), Cond.methodLink RX3 223 yJ6_bitCount_0f7a4, Cond.static yJ6_bitCount_0f7a4, Cond.initialized RJ6, Cond.code yJ6_bitCount_0f7a4 cJ6_bitCount_0f7a4 1 (some .int), Cond.constant RJ6 265 (1431655765), Cond.constant RJ6 266 (858993459), Cond.constant RJ6 267 (252645135), Cond.methodLink RX3 107 yX3_paidTo, Cond.instanceMethod yX3_paidTo]
def wsX3_sayings_r3 : List Cond := [Cond.selects RX3 yX3_paidTo yX3_paidTo, Cond.code yX3_paidTo cX3_paidTo 4 (some .int)]
def wsX3_sayings : List Cond := .code yX3_sayings cX3_sayings 6 (some .int) :: ((wsX3_sayings_r1 ++ (wsX3_sayings_r2 ++ wsX3_sayings_r3)) ++ wsX30 ++ wsX00 ++ wsX10)
def wsX3_odds_r1 : List Cond := [Cond.constantLong RX3 132 (-9223372036854775808), Cond.methodLink RX3 110 yX3_hasOffice, Cond.instanceMethod yX3_hasOffice, Cond.selects RX3 yX3_hasOffice yX3_hasOffice, Cond.initialized RX3, Cond.code yX3_hasOffice cX3_hasOffice 1 (some .boolean), Cond.fieldLink RX3 37 "ProphetCover" "prophetCount" "I", Cond.methodLink RX3 81 yX3_isWithin, Cond.static yX3_isWithin, Cond.code yX3_isWithin cX3_isWithin 2 (some .boolean), Cond.methodLink RX3 149 yX3_weightFrom, Cond.instanceMethod yX3_weightFrom, Cond.selects RX3 yX3_weightFrom yX3_weightFrom, Cond.code yX3_weightFrom cX3_weightFrom 4 (some .int), Cond.methodLink RX3 142 yX3_allEvents, Cond.instanceMethod yX3_allEvents, Cond.selects RX3 yX3_allEvents yX3_allEvents, Cond.code yX3_allEvents cX3_allEvents 1 (some .int), Cond.fieldLink RX3 33 "ProphetCover" "eventCount" "I", Cond.methodLink RX3 114 yX3_paidToAll, Cond.instanceMethod yX3_paidToAll, Cond.selects RX3 yX3_paidToAll yX3_paidToAll, Cond.code yX3_paidToAll cX3_paidToAll 4 (some .int), Cond.methodLink RX3 107 yX3_paidTo]
def wsX3_odds_r2 : List Cond := [Cond.instanceMethod yX3_paidTo, Cond.selects RX3 yX3_paidTo yX3_paidTo, Cond.code yX3_paidTo cX3_paidTo 4 (some .int), Cond.fieldLink RX3 23 "ProphetCover" "prophets" "[LProphetCover$Prophet;", Cond.fieldLink RX3 88 "ProphetCover$Prophet" "kind" "I", Cond.fieldLink RX3 91 "ProphetCover$Prophet" "cover" "I", Cond.fieldLink RX3 94 "ProphetCover$Prophet" "saidSet" "I", Cond.methodLink RX3 134 yX3_payment, Cond.instanceMethod yX3_payment, Cond.selects RX3 yX3_payment yX3_payment, Cond.code yX3_payment cX3_payment 5 (some .int), Cond.methodLink RX3 101 yX3_isFraud, Cond.instanceMethod yX3_isFraud, Cond.selects RX3 yX3_isFraud yX3_isFraud, Cond.code yX3_isFraud cX3_isFraud 2 (some .boolean), Cond.methodLink RX3 97 yX3_paysEach, Cond.static yX3_paysEach, Cond.code yX3_paysEach cX3_paysEach 2 (some .int), Cond.methodLink RX3 223 yJ6_bitCount_0f7a4, Cond.static yJ6_bitCount_0f7a4, Cond.initialized RJ6, Cond.code yJ6_bitCount_0f7a4 cJ6_bitCount_0f7a4 1 (some .int), Cond.constant RJ6 265 (1431655765), Cond.constant RJ6 266 (858993459)]
def wsX3_odds_r3 : List Cond := [Cond.constant RJ6 267 (252645135), Cond.methodLink RX3 239 yX3_weightOf, Cond.instanceMethod yX3_weightOf, Cond.selects RX3 yX3_weightOf yX3_weightOf, Cond.code yX3_weightOf cX3_weightOf 4 (some .int), Cond.fieldLink RX3 17 "ProphetCover" "chances" "[I", Cond.methodLink RX3 236 yX3_isIn, Cond.static yX3_isIn, Cond.code yX3_isIn cX3_isIn 2 (some .boolean), Cond.methodLink RX3 146 yX3_weightOfAll, Cond.instanceMethod yX3_weightOfAll, Cond.selects RX3 yX3_weightOfAll yX3_weightOfAll, Cond.code yX3_weightOfAll cX3_weightOfAll 3 (some .int), Cond.methodLink RX3 138 yX3_shareNumber, Cond.static yX3_shareNumber, Cond.code yX3_shareNumber cX3_shareNumber 4 (some .long), Cond.methodLink RX3 242 yX3_greatestDivisor, Cond.static yX3_greatestDivisor, Cond.code yX3_greatestDivisor cX3_greatestDivisor 6 (some .int), Cond.methodLink RX3 231 Lib.Math.max.name, Cond.static Lib.Math.max.name, Cond.initialized "java/lang/Math", Cond.code Lib.Math.max.name Lib.Math.max.code 2 (some .int)]
def wsX3_odds : List Cond := .code yX3_odds cX3_odds 3 (some .long) :: ((wsX3_odds_r1 ++ (wsX3_odds_r2 ++ wsX3_odds_r3)) ++ wsX30 ++ wsX00)
def wsX3_sheet : List Cond := .code yX3_sheet cX3_sheet 4 (some .int) :: ([.fieldLink RX3 46 "ProphetCover" "latestFault" "I", .fieldLink RX3 13 "ProphetCover" "sheets" "[LProphetCover$Sheet;", .methodLink RX3 52 yX3_isSheet, .static yX3_isSheet, .initialized RX3, .code yX3_isSheet cX3_isSheet 1 (some .boolean), .methodLink RX3 56 yX3_isLane, .static yX3_isLane, .code yX3_isLane cX3_isLane 1 (some .boolean), .methodLink RX3 63 yX3_faulty, .instanceMethod yX3_faulty, .selects RX3 yX3_faulty yX3_faulty, .code yX3_faulty cX3_faulty 2 (some .int), .methodLink RX3 168 yX2_makeRow, .instanceMethod yX2_makeRow, .selects RX2 yX2_makeRow yX2_makeRow, .initialized RX2, .code yX2_makeRow cX2_makeRow 4 none, .fieldLink RX2 9 "ProphetCover$Sheet" "cells" "[I", .fieldLink RX2 15 "ProphetCover$Sheet" "lane" "I", .fieldLink RX2 19 "ProphetCover$Sheet" "size" "I"] ++ wsX30 ++ wsX20)
def wsX3_lose : List Cond := .code yX3_lose cX3_lose 3 (some .int) :: ([.fieldLink RX3 13 "ProphetCover" "sheets" "[LProphetCover$Sheet;", .fieldLink RX3 175 "ProphetCover$Sheet" "size" "I", .methodLink RX3 52 yX3_isSheet, .static yX3_isSheet, .initialized RX3, .code yX3_isSheet cX3_isSheet 1 (some .boolean), .methodLink RX3 172 yX2_isEmpty, .instanceMethod yX2_isEmpty, .selects RX2 yX2_isEmpty yX2_isEmpty, .initialized RX2, .code yX2_isEmpty cX2_isEmpty 1 (some .boolean), .fieldLink RX2 19 "ProphetCover$Sheet" "size" "I"] ++ wsX30 ++ wsX20)
def wsX3_put_r1 : List Cond := [Cond.fieldLink RX3 46 "ProphetCover" "latestFault" "I", Cond.fieldLink RX3 13 "ProphetCover" "sheets" "[LProphetCover$Sheet;", Cond.fieldLink RX3 178 "ProphetCover$Sheet" "lane" "I", Cond.methodLink RX3 52 yX3_isSheet, Cond.static yX3_isSheet, Cond.initialized RX3, Cond.code yX3_isSheet cX3_isSheet 1 (some .boolean), Cond.methodLink RX3 59 yX2_flaw, Cond.instanceMethod yX2_flaw, Cond.selects RX2 yX2_flaw yX2_flaw, Cond.initialized RX2, Cond.code yX2_flaw cX2_flaw 4 (some .int), Cond.fieldLink RX2 15 "ProphetCover$Sheet" "lane" "I", Cond.methodLink RX2 22 yX2_isEmpty, Cond.instanceMethod yX2_isEmpty, Cond.selects RX2 yX2_isEmpty yX2_isEmpty, Cond.code yX2_isEmpty cX2_isEmpty 1 (some .boolean), Cond.fieldLink RX2 19 "ProphetCover$Sheet" "size" "I", Cond.methodLink RX2 26 yX2_reaches, Cond.instanceMethod yX2_reaches, Cond.selects RX2 yX2_reaches yX2_reaches, Cond.code yX2_reaches cX2_reaches 3 (some .boolean), Cond.methodLink RX3 63 yX3_faulty, Cond.instanceMethod yX3_faulty]
def wsX3_put_r2 : List Cond := [Cond.selects RX3 yX3_faulty yX3_faulty, Cond.code yX3_faulty cX3_faulty 2 (some .int), Cond.methodLink RX3 181 yX2_store, Cond.instanceMethod yX2_store, Cond.selects RX2 yX2_store yX2_store, Cond.code yX2_store cX2_store 3 none, Cond.fieldLink RX2 9 "ProphetCover$Sheet" "cells" "[I", Cond.methodLink RX2 30 yX2_cut, Cond.instanceMethod yX2_cut, Cond.selects RX2 yX2_cut yX2_cut, Cond.code yX2_cut cX2_cut 2 (some .int)]
def wsX3_put : List Cond := .code yX3_put cX3_put 5 (some .int) :: ((wsX3_put_r1 ++ wsX3_put_r2) ++ wsX30 ++ wsX20)
def wsX3_cell_r1 : List Cond := [Cond.fieldLink RX3 46 "ProphetCover" "latestFault" "I", Cond.constantLong RX3 132 (-9223372036854775808), Cond.fieldLink RX3 13 "ProphetCover" "sheets" "[LProphetCover$Sheet;", Cond.fieldLink RX3 67 "ProphetCover$Sheet" "cells" "[I", Cond.methodLink RX3 52 yX3_isSheet, Cond.static yX3_isSheet, Cond.initialized RX3, Cond.code yX3_isSheet cX3_isSheet 1 (some .boolean), Cond.methodLink RX3 56 yX3_isLane, Cond.static yX3_isLane, Cond.code yX3_isLane cX3_isLane 1 (some .boolean), Cond.methodLink RX3 59 yX2_flaw, Cond.instanceMethod yX2_flaw, Cond.selects RX2 yX2_flaw yX2_flaw, Cond.initialized RX2, Cond.code yX2_flaw cX2_flaw 4 (some .int), Cond.fieldLink RX2 15 "ProphetCover$Sheet" "lane" "I", Cond.methodLink RX2 22 yX2_isEmpty, Cond.instanceMethod yX2_isEmpty, Cond.selects RX2 yX2_isEmpty yX2_isEmpty, Cond.code yX2_isEmpty cX2_isEmpty 1 (some .boolean), Cond.fieldLink RX2 19 "ProphetCover$Sheet" "size" "I", Cond.methodLink RX2 26 yX2_reaches, Cond.instanceMethod yX2_reaches]
def wsX3_cell_r2 : List Cond := [Cond.selects RX2 yX2_reaches yX2_reaches, Cond.code yX2_reaches cX2_reaches 3 (some .boolean)]
def wsX3_cell : List Cond := .code yX3_cell cX3_cell 4 (some .long) :: ((wsX3_cell_r1 ++ wsX3_cell_r2) ++ wsX30 ++ wsX20)
def wsX3_copy_r1 : List Cond := [Cond.fieldLink RX3 46 "ProphetCover" "latestFault" "I", Cond.fieldLink RX3 13 "ProphetCover" "sheets" "[LProphetCover$Sheet;", Cond.fieldLink RX3 178 "ProphetCover$Sheet" "lane" "I", Cond.fieldLink RX3 67 "ProphetCover$Sheet" "cells" "[I", Cond.methodLink RX3 187 arraycopyName, Cond.native arraycopyName, Cond.static arraycopyName, Cond.initialized "java/lang/System", Cond.methodLink RX3 52 yX3_isSheet, Cond.static yX3_isSheet, Cond.initialized RX3, Cond.code yX3_isSheet cX3_isSheet 1 (some .boolean), Cond.methodLink RX3 172 yX2_isEmpty, Cond.instanceMethod yX2_isEmpty, Cond.selects RX2 yX2_isEmpty yX2_isEmpty, Cond.initialized RX2, Cond.code yX2_isEmpty cX2_isEmpty 1 (some .boolean), Cond.fieldLink RX2 19 "ProphetCover$Sheet" "size" "I", Cond.methodLink RX3 63 yX3_faulty, Cond.instanceMethod yX3_faulty, Cond.selects RX3 yX3_faulty yX3_faulty, Cond.code yX3_faulty cX3_faulty 2 (some .int), Cond.methodLink RX3 184 yX2_reaches, Cond.instanceMethod yX2_reaches]
def wsX3_copy_r2 : List Cond := [Cond.selects RX2 yX2_reaches yX2_reaches, Cond.code yX2_reaches cX2_reaches 3 (some .boolean)]
def wsX3_copy : List Cond := .code yX3_copy cX3_copy 8 (some .int) :: ((wsX3_copy_r1 ++ wsX3_copy_r2) ++ wsX30 ++ wsX20)
def wsX3_leaveInTrace : List Cond := .code yX3_leaveInTrace cX3_leaveInTrace 2 none :: ([.fieldLink RX3 43 "ProphetCover" "traceNow" "I"] ++ wsX30)
def wsX3_modestTells : List Cond := .code yX3_modestTells cX3_modestTells 2 (some .int) :: ([.methodLink RX3 245 yX3_leaveInTrace, .instanceMethod yX3_leaveInTrace, .selects RX3 yX3_leaveInTrace yX3_leaveInTrace, .initialized RX3, .code yX3_leaveInTrace cX3_leaveInTrace 2 none, .fieldLink RX3 43 "ProphetCover" "traceNow" "I"] ++ wsX30)
def wsX3_sureTells : List Cond := .code yX3_sureTells cX3_sureTells 2 (some .int) :: ([.methodLink RX3 245 yX3_leaveInTrace, .instanceMethod yX3_leaveInTrace, .selects RX3 yX3_leaveInTrace yX3_leaveInTrace, .initialized RX3, .code yX3_leaveInTrace cX3_leaveInTrace 2 none, .fieldLink RX3 43 "ProphetCover" "traceNow" "I", .methodLink RX3 193 yX3_modestTells, .instanceMethod yX3_modestTells, .selects RX3 yX3_modestTells yX3_modestTells, .code yX3_modestTells cX3_modestTells 2 (some .int)] ++ wsX30)
def wsX3_loudTells : List Cond := .code yX3_loudTells cX3_loudTells 3 (some .int) :: ([.methodLink RX3 245 yX3_leaveInTrace, .instanceMethod yX3_leaveInTrace, .selects RX3 yX3_leaveInTrace yX3_leaveInTrace, .initialized RX3, .code yX3_leaveInTrace cX3_leaveInTrace 2 none, .fieldLink RX3 43 "ProphetCover" "traceNow" "I", .methodLink RX3 196 yX3_sureTells, .instanceMethod yX3_sureTells, .selects RX3 yX3_sureTells yX3_sureTells, .code yX3_sureTells cX3_sureTells 2 (some .int), .methodLink RX3 193 yX3_modestTells, .instanceMethod yX3_modestTells, .selects RX3 yX3_modestTells yX3_modestTells, .code yX3_modestTells cX3_modestTells 2 (some .int)] ++ wsX30)
def wsX3_tell_r1 : List Cond := [Cond.fieldLink RX3 23 "ProphetCover" "prophets" "[LProphetCover$Prophet;", Cond.fieldLink RX3 91 "ProphetCover$Prophet" "cover" "I", Cond.fieldLink RX3 88 "ProphetCover$Prophet" "kind" "I", Cond.methodLink RX3 85 yX3_isProphet, Cond.instanceMethod yX3_isProphet, Cond.selects RX3 yX3_isProphet yX3_isProphet, Cond.initialized RX3, Cond.code yX3_isProphet cX3_isProphet 2 (some .boolean), Cond.fieldLink RX3 37 "ProphetCover" "prophetCount" "I", Cond.methodLink RX3 193 yX3_modestTells, Cond.instanceMethod yX3_modestTells, Cond.selects RX3 yX3_modestTells yX3_modestTells, Cond.code yX3_modestTells cX3_modestTells 2 (some .int), Cond.methodLink RX3 245 yX3_leaveInTrace, Cond.instanceMethod yX3_leaveInTrace, Cond.selects RX3 yX3_leaveInTrace yX3_leaveInTrace, Cond.code yX3_leaveInTrace cX3_leaveInTrace 2 none, Cond.fieldLink RX3 43 "ProphetCover" "traceNow" "I", Cond.methodLink RX3 196 yX3_sureTells, Cond.instanceMethod yX3_sureTells, Cond.selects RX3 yX3_sureTells yX3_sureTells, Cond.code yX3_sureTells cX3_sureTells 2 (some .int), Cond.methodLink RX3 199 yX3_loudTells, Cond.instanceMethod yX3_loudTells]
def wsX3_tell_r2 : List Cond := [Cond.selects RX3 yX3_loudTells yX3_loudTells, Cond.code yX3_loudTells cX3_loudTells 3 (some .int)]
def wsX3_tell : List Cond := .code yX3_tell cX3_tell 3 (some .int) :: ((wsX3_tell_r1 ++ wsX3_tell_r2) ++ wsX30 ++ wsX00)
def wsX3_loudIsHeard : List Cond := .code yX3_loudIsHeard cX3_loudIsHeard 1 (some .int) :: ([.methodLink RX3 245 yX3_leaveInTrace, .instanceMethod yX3_leaveInTrace, .selects RX3 yX3_leaveInTrace yX3_leaveInTrace, .initialized RX3, .code yX3_leaveInTrace cX3_leaveInTrace 2 none, .fieldLink RX3 43 "ProphetCover" "traceNow" "I"] ++ wsX30)
def wsX3_lentBodyHears : List Cond := .code yX3_lentBodyHears cX3_lentBodyHears 2 (some .int) :: ([.methodLink RX3 245 yX3_leaveInTrace, .instanceMethod yX3_leaveInTrace, .selects RX3 yX3_leaveInTrace yX3_leaveInTrace, .initialized RX3, .code yX3_leaveInTrace cX3_leaveInTrace 2 none, .fieldLink RX3 43 "ProphetCover" "traceNow" "I"] ++ wsX30)
def wsX3_hear : List Cond := .code yX3_hear cX3_hear 2 (some .int) :: ([.fieldLink RX3 23 "ProphetCover" "prophets" "[LProphetCover$Prophet;", .fieldLink RX3 88 "ProphetCover$Prophet" "kind" "I", .methodLink RX3 85 yX3_isProphet, .instanceMethod yX3_isProphet, .selects RX3 yX3_isProphet yX3_isProphet, .initialized RX3, .code yX3_isProphet cX3_isProphet 2 (some .boolean), .fieldLink RX3 37 "ProphetCover" "prophetCount" "I", .methodLink RX3 202 yX3_loudIsHeard, .instanceMethod yX3_loudIsHeard, .selects RX3 yX3_loudIsHeard yX3_loudIsHeard, .code yX3_loudIsHeard cX3_loudIsHeard 1 (some .int), .methodLink RX3 245 yX3_leaveInTrace, .instanceMethod yX3_leaveInTrace, .selects RX3 yX3_leaveInTrace yX3_leaveInTrace, .code yX3_leaveInTrace cX3_leaveInTrace 2 none, .fieldLink RX3 43 "ProphetCover" "traceNow" "I", .methodLink RX3 205 yX3_lentBodyHears, .instanceMethod yX3_lentBodyHears, .selects RX3 yX3_lentBodyHears yX3_lentBodyHears, .code yX3_lentBodyHears cX3_lentBodyHears 2 (some .int)] ++ wsX30 ++ wsX00)
def wsX3_as : List Cond := .code yX3_as cX3_as 3 (some .int) :: ([.fieldLink RX3 46 "ProphetCover" "latestFault" "I", .fieldLink RX3 23 "ProphetCover" "prophets" "[LProphetCover$Prophet;", .fieldLink RX3 88 "ProphetCover$Prophet" "kind" "I", .methodLink RX3 85 yX3_isProphet, .instanceMethod yX3_isProphet, .selects RX3 yX3_isProphet yX3_isProphet, .initialized RX3, .code yX3_isProphet cX3_isProphet 2 (some .boolean), .fieldLink RX3 37 "ProphetCover" "prophetCount" "I", .methodLink RX3 81 yX3_isWithin, .static yX3_isWithin, .code yX3_isWithin cX3_isWithin 2 (some .boolean), .methodLink RX3 63 yX3_faulty, .instanceMethod yX3_faulty, .selects RX3 yX3_faulty yX3_faulty, .code yX3_faulty cX3_faulty 2 (some .int)] ++ wsX30 ++ wsX00)
def wsX3_trace : List Cond := .code yX3_trace cX3_trace 1 (some .int) :: ([.fieldLink RX3 43 "ProphetCover" "traceNow" "I"] ++ wsX30)
def wsX3_fault : List Cond := .code yX3_fault cX3_fault 1 (some .int) :: ([.fieldLink RX3 46 "ProphetCover" "latestFault" "I"] ++ wsX30)
def wsX3_countFrauds : List Cond := .code yX3_countFrauds cX3_countFrauds 3 (some .int) :: ([.fieldLink RX3 37 "ProphetCover" "prophetCount" "I", .fieldLink RX3 23 "ProphetCover" "prophets" "[LProphetCover$Prophet;", .fieldLink RX3 94 "ProphetCover$Prophet" "saidSet" "I", .methodLink RX3 101 yX3_isFraud, .instanceMethod yX3_isFraud, .selects RX3 yX3_isFraud yX3_isFraud, .initialized RX3, .code yX3_isFraud cX3_isFraud 2 (some .boolean), .methodLink RX3 142 yX3_allEvents, .instanceMethod yX3_allEvents, .selects RX3 yX3_allEvents yX3_allEvents, .code yX3_allEvents cX3_allEvents 1 (some .int), .fieldLink RX3 33 "ProphetCover" "eventCount" "I"] ++ wsX30 ++ wsX00)
def wsX3_many : List Cond := .code yX3_many cX3_many 2 (some .int) :: ([.fieldLink RX3 37 "ProphetCover" "prophetCount" "I", .fieldLink RX3 33 "ProphetCover" "eventCount" "I", .fieldLink RX3 40 "ProphetCover" "readingCount" "I", .methodLink RX3 208 yX3_countFrauds, .instanceMethod yX3_countFrauds, .selects RX3 yX3_countFrauds yX3_countFrauds, .initialized RX3, .code yX3_countFrauds cX3_countFrauds 3 (some .int), .fieldLink RX3 23 "ProphetCover" "prophets" "[LProphetCover$Prophet;", .fieldLink RX3 94 "ProphetCover$Prophet" "saidSet" "I", .methodLink RX3 101 yX3_isFraud, .instanceMethod yX3_isFraud, .selects RX3 yX3_isFraud yX3_isFraud, .code yX3_isFraud cX3_isFraud 2 (some .boolean), .methodLink RX3 142 yX3_allEvents, .instanceMethod yX3_allEvents, .selects RX3 yX3_allEvents yX3_allEvents, .code yX3_allEvents cX3_allEvents 1 (some .int)] ++ wsX30 ++ wsX00)
def wsX4_init : List Cond := .code yX4_init cX4_init 2 none :: ([.methodLink RX4 1 objectInit, .instanceMethod objectInit, .code objectInit ⟨#[0xb1]⟩ 1 none, .arrayClass .int, .fieldLink RX4 7 "ProphetCoverModel" "chanceOf" "[I", .fieldLink RX4 13 "ProphetCoverModel" "kindOf" "[I", .fieldLink RX4 16 "ProphetCoverModel" "coverOf" "[I", .fieldLink RX4 19 "ProphetCoverModel" "saidBy" "[I", .fieldLink RX4 22 "ProphetCoverModel" "readChance" "[I", .fieldLink RX4 25 "ProphetCoverModel" "readKind" "[I", .fieldLink RX4 28 "ProphetCoverModel" "readCover" "[I", .fieldLink RX4 31 "ProphetCoverModel" "readSaid" "[I", .fieldLink RX4 34 "ProphetCoverModel" "readingOf" "[I", .fieldLink RX4 37 "ProphetCoverModel" "readingBy" "[I", .fieldLink RX4 40 "ProphetCoverModel" "readingWas" "[I", .fieldLink RX4 43 "ProphetCoverModel" "sheetSize" "[I", .fieldLink RX4 46 "ProphetCoverModel" "sheetLane" "[I", .fieldLink RX4 49 "ProphetCoverModel" "sheet" "[I", .fieldLink RX4 52 "ProphetCoverModel" "hands" "[I"] ++ wsX40)
def wsX4_in : List Cond := .code yX4_in cX4_in 6 (some .boolean) :: ([])
def wsX4_lost : List Cond := .code yX4_lost cX4_lost 0 (some .long) :: ([.constantLong RX4 55 (-9223372036854775808)])
def wsX4_isIn : List Cond := .code yX4_isIn cX4_isIn 2 (some .boolean) :: ([])
def wsX4_bits : List Cond := .code yX4_bits cX4_bits 3 (some .int) :: ([])
def wsX4_share : List Cond := .code yX4_share cX4_share 11 (some .long) :: ([])
def wsX4_refused : List Cond := .code yX4_refused cX4_refused 2 (some .int) :: ([.fieldLink RX4 57 "ProphetCoverModel" "fault" "I"] ++ wsX40)
def wsX4_failed : List Cond := .code yX4_failed cX4_failed 2 (some .int) :: ([.fieldLink RX4 57 "ProphetCoverModel" "fault" "I"] ++ wsX40)
def wsX4_failedLong : List Cond := .code yX4_failedLong cX4_failedLong 2 (some .long) :: ([.fieldLink RX4 57 "ProphetCoverModel" "fault" "I", .methodLink RX4 61 yX4_lost, .static yX4_lost, .initialized RX4, .code yX4_lost cX4_lost 0 (some .long), .constantLong RX4 55 (-9223372036854775808)] ++ wsX40)
def wsX4_noEvent : List Cond := .code yX4_noEvent cX4_noEvent 2 (some .boolean) :: ([.fieldLink RX4 65 "ProphetCoverModel" "events" "I", .methodLink RX4 68 yX4_in, .static yX4_in, .initialized RX4, .code yX4_in cX4_in 6 (some .boolean)] ++ wsX40)
def wsX4_noProphet : List Cond := .code yX4_noProphet cX4_noProphet 2 (some .boolean) :: ([.fieldLink RX4 72 "ProphetCoverModel" "prophets" "I", .methodLink RX4 68 yX4_in, .static yX4_in, .initialized RX4, .code yX4_in cX4_in 6 (some .boolean)] ++ wsX40)
def wsX4_allEvents : List Cond := .code yX4_allEvents cX4_allEvents 1 (some .int) :: ([.fieldLink RX4 65 "ProphetCoverModel" "events" "I"] ++ wsX40)
def wsX4_noSet : List Cond := .code yX4_noSet cX4_noSet 2 (some .boolean) :: ([.methodLink RX4 75 yX4_allEvents, .instanceMethod yX4_allEvents, .selects RX4 yX4_allEvents yX4_allEvents, .initialized RX4, .code yX4_allEvents cX4_allEvents 1 (some .int), .fieldLink RX4 65 "ProphetCoverModel" "events" "I", .methodLink RX4 68 yX4_in, .static yX4_in, .code yX4_in cX4_in 6 (some .boolean)] ++ wsX40)
def wsX4_codeAt : List Cond := .code yX4_codeAt cX4_codeAt 3 (some .int) :: ([.fieldLink RX4 79 "ProphetCoverModel" "readAt" "I", .fieldLink RX4 49 "ProphetCoverModel" "sheet" "[I"] ++ wsX40)
def wsX4_figure : List Cond := .code yX4_figure cX4_figure 6 (some .int) :: ([.fieldLink RX4 79 "ProphetCoverModel" "readAt" "I", .methodLink RX4 82 yX4_codeAt, .instanceMethod yX4_codeAt, .selects RX4 yX4_codeAt yX4_codeAt, .initialized RX4, .code yX4_codeAt cX4_codeAt 3 (some .int), .fieldLink RX4 49 "ProphetCoverModel" "sheet" "[I", .methodLink RX4 68 yX4_in, .static yX4_in, .code yX4_in cX4_in 6 (some .boolean)] ++ wsX40)
def wsX4_readsEvent : List Cond := .code yX4_readsEvent cX4_readsEvent 4 (some .boolean) :: ([.fieldLink RX4 86 "ProphetCoverModel" "readEvents" "I", .fieldLink RX4 79 "ProphetCoverModel" "readAt" "I", .fieldLink RX4 22 "ProphetCoverModel" "readChance" "[I", .methodLink RX4 82 yX4_codeAt, .instanceMethod yX4_codeAt, .selects RX4 yX4_codeAt yX4_codeAt, .initialized RX4, .code yX4_codeAt cX4_codeAt 3 (some .int), .fieldLink RX4 49 "ProphetCoverModel" "sheet" "[I", .methodLink RX4 89 yX4_figure, .instanceMethod yX4_figure, .selects RX4 yX4_figure yX4_figure, .code yX4_figure cX4_figure 6 (some .int), .methodLink RX4 68 yX4_in, .static yX4_in, .code yX4_in cX4_in 6 (some .boolean)] ++ wsX40)
def wsX4_readsProphet : List Cond := .code yX4_readsProphet cX4_readsProphet 7 (some .boolean) :: ([.fieldLink RX4 93 "ProphetCoverModel" "readProphets" "I", .fieldLink RX4 79 "ProphetCoverModel" "readAt" "I", .fieldLink RX4 25 "ProphetCoverModel" "readKind" "[I", .fieldLink RX4 28 "ProphetCoverModel" "readCover" "[I", .fieldLink RX4 31 "ProphetCoverModel" "readSaid" "[I", .methodLink RX4 82 yX4_codeAt, .instanceMethod yX4_codeAt, .selects RX4 yX4_codeAt yX4_codeAt, .initialized RX4, .code yX4_codeAt cX4_codeAt 3 (some .int), .fieldLink RX4 49 "ProphetCoverModel" "sheet" "[I", .methodLink RX4 89 yX4_figure, .instanceMethod yX4_figure, .selects RX4 yX4_figure yX4_figure, .code yX4_figure cX4_figure 6 (some .int), .methodLink RX4 68 yX4_in, .static yX4_in, .code yX4_in cX4_in 6 (some .boolean)] ++ wsX40)
def wsX4_readsOffice_r1 : List Cond := [Cond.fieldLink RX4 79 "ProphetCoverModel" "readAt" "I", Cond.fieldLink RX4 86 "ProphetCoverModel" "readEvents" "I", Cond.fieldLink RX4 93 "ProphetCoverModel" "readProphets" "I", Cond.methodLink RX4 82 yX4_codeAt, Cond.instanceMethod yX4_codeAt, Cond.selects RX4 yX4_codeAt yX4_codeAt, Cond.initialized RX4, Cond.code yX4_codeAt cX4_codeAt 3 (some .int), Cond.fieldLink RX4 49 "ProphetCoverModel" "sheet" "[I", Cond.methodLink RX4 96 yX4_readsEvent, Cond.instanceMethod yX4_readsEvent, Cond.selects RX4 yX4_readsEvent yX4_readsEvent, Cond.code yX4_readsEvent cX4_readsEvent 4 (some .boolean), Cond.fieldLink RX4 22 "ProphetCoverModel" "readChance" "[I", Cond.methodLink RX4 89 yX4_figure, Cond.instanceMethod yX4_figure, Cond.selects RX4 yX4_figure yX4_figure, Cond.code yX4_figure cX4_figure 6 (some .int), Cond.methodLink RX4 68 yX4_in, Cond.static yX4_in, Cond.code yX4_in cX4_in 6 (some .boolean), Cond.methodLink RX4 100 yX4_readsProphet, Cond.instanceMethod yX4_readsProphet, Cond.selects RX4 yX4_readsProphet yX4_readsProphet]
def wsX4_readsOffice_r2 : List Cond := [Cond.code yX4_readsProphet cX4_readsProphet 7 (some .boolean), Cond.fieldLink RX4 25 "ProphetCoverModel" "readKind" "[I", Cond.fieldLink RX4 28 "ProphetCoverModel" "readCover" "[I", Cond.fieldLink RX4 31 "ProphetCoverModel" "readSaid" "[I"]
def wsX4_readsOffice : List Cond := .code yX4_readsOffice cX4_readsOffice 4 (some .boolean) :: ((wsX4_readsOffice_r1 ++ wsX4_readsOffice_r2) ++ wsX40)
def wsX4_isBeyond : List Cond := .code yX4_isBeyond cX4_isBeyond 4 (some .boolean) :: ([])
def wsX4_cellsBarred : List Cond := .code yX4_cellsBarred cX4_cellsBarred 6 (some .int) :: ([.fieldLink RX4 43 "ProphetCoverModel" "sheetSize" "[I", .fieldLink RX4 46 "ProphetCoverModel" "sheetLane" "[I", .methodLink RX4 103 yX4_failed, .instanceMethod yX4_failed, .selects RX4 yX4_failed yX4_failed, .initialized RX4, .code yX4_failed cX4_failed 2 (some .int), .fieldLink RX4 57 "ProphetCoverModel" "fault" "I", .methodLink RX4 107 yX4_isBeyond, .static yX4_isBeyond, .code yX4_isBeyond cX4_isBeyond 4 (some .boolean)] ++ wsX40)
def wsX4_noSheet : List Cond := .code yX4_noSheet cX4_noSheet 1 (some .boolean) :: ([.constantLong RX4 173 (3), .methodLink RX4 68 yX4_in, .static yX4_in, .initialized RX4, .code yX4_in cX4_in 6 (some .boolean)])
def wsX4_office_r1 : List Cond := [Cond.constantLong RX4 118 (2), Cond.fieldLink RX4 79 "ProphetCoverModel" "readAt" "I", Cond.fieldLink RX4 86 "ProphetCoverModel" "readEvents" "I", Cond.fieldLink RX4 65 "ProphetCoverModel" "events" "I", Cond.fieldLink RX4 93 "ProphetCoverModel" "readProphets" "I", Cond.fieldLink RX4 72 "ProphetCoverModel" "prophets" "I", Cond.fieldLink RX4 7 "ProphetCoverModel" "chanceOf" "[I", Cond.fieldLink RX4 22 "ProphetCoverModel" "readChance" "[I", Cond.fieldLink RX4 13 "ProphetCoverModel" "kindOf" "[I", Cond.fieldLink RX4 25 "ProphetCoverModel" "readKind" "[I", Cond.fieldLink RX4 16 "ProphetCoverModel" "coverOf" "[I", Cond.fieldLink RX4 28 "ProphetCoverModel" "readCover" "[I", Cond.fieldLink RX4 19 "ProphetCoverModel" "saidBy" "[I", Cond.fieldLink RX4 31 "ProphetCoverModel" "readSaid" "[I", Cond.fieldLink RX4 127 "ProphetCoverModel" "readings" "I", Cond.methodLink RX4 111 yX4_noSheet, Cond.static yX4_noSheet, Cond.initialized RX4, Cond.code yX4_noSheet cX4_noSheet 1 (some .boolean), Cond.constantLong RX4 173 (3), Cond.methodLink RX4 68 yX4_in, Cond.static yX4_in, Cond.code yX4_in cX4_in 6 (some .boolean), Cond.methodLink RX4 115 yX4_refused]
def wsX4_office_r2 : List Cond := [Cond.instanceMethod yX4_refused, Cond.selects RX4 yX4_refused yX4_refused, Cond.code yX4_refused cX4_refused 2 (some .int), Cond.fieldLink RX4 57 "ProphetCoverModel" "fault" "I", Cond.methodLink RX4 120 yX4_cellsBarred, Cond.instanceMethod yX4_cellsBarred, Cond.selects RX4 yX4_cellsBarred yX4_cellsBarred, Cond.code yX4_cellsBarred cX4_cellsBarred 6 (some .int), Cond.fieldLink RX4 43 "ProphetCoverModel" "sheetSize" "[I", Cond.fieldLink RX4 46 "ProphetCoverModel" "sheetLane" "[I", Cond.methodLink RX4 103 yX4_failed, Cond.instanceMethod yX4_failed, Cond.selects RX4 yX4_failed yX4_failed, Cond.code yX4_failed cX4_failed 2 (some .int), Cond.methodLink RX4 107 yX4_isBeyond, Cond.static yX4_isBeyond, Cond.code yX4_isBeyond cX4_isBeyond 4 (some .boolean), Cond.methodLink RX4 124 yX4_readsOffice, Cond.instanceMethod yX4_readsOffice, Cond.selects RX4 yX4_readsOffice yX4_readsOffice, Cond.code yX4_readsOffice cX4_readsOffice 4 (some .boolean), Cond.methodLink RX4 82 yX4_codeAt, Cond.instanceMethod yX4_codeAt, Cond.selects RX4 yX4_codeAt yX4_codeAt]
def wsX4_office_r3 : List Cond := [Cond.code yX4_codeAt cX4_codeAt 3 (some .int), Cond.fieldLink RX4 49 "ProphetCoverModel" "sheet" "[I", Cond.methodLink RX4 96 yX4_readsEvent, Cond.instanceMethod yX4_readsEvent, Cond.selects RX4 yX4_readsEvent yX4_readsEvent, Cond.code yX4_readsEvent cX4_readsEvent 4 (some .boolean), Cond.methodLink RX4 89 yX4_figure, Cond.instanceMethod yX4_figure, Cond.selects RX4 yX4_figure yX4_figure, Cond.code yX4_figure cX4_figure 6 (some .int), Cond.methodLink RX4 100 yX4_readsProphet, Cond.instanceMethod yX4_readsProphet, Cond.selects RX4 yX4_readsProphet yX4_readsProphet, Cond.code yX4_readsProphet cX4_readsProphet 7 (some .boolean)]
def wsX4_office : List Cond := .code yX4_office cX4_office 7 (some .int) :: ((wsX4_office_r1 ++ (wsX4_office_r2 ++ wsX4_office_r3)) ++ wsX40)
def wsX4_chance : List Cond := .code yX4_chance cX4_chance 2 (some .int) :: ([.fieldLink RX4 7 "ProphetCoverModel" "chanceOf" "[I", .methodLink RX4 130 yX4_noEvent, .instanceMethod yX4_noEvent, .selects RX4 yX4_noEvent yX4_noEvent, .initialized RX4, .code yX4_noEvent cX4_noEvent 2 (some .boolean), .fieldLink RX4 65 "ProphetCoverModel" "events" "I", .methodLink RX4 68 yX4_in, .static yX4_in, .code yX4_in cX4_in 6 (some .boolean)] ++ wsX40)
def wsX4_fate : List Cond := .code yX4_fate cX4_fate 4 (some .int) :: ([.constantLong RX4 133 (9), .fieldLink RX4 7 "ProphetCoverModel" "chanceOf" "[I", .methodLink RX4 130 yX4_noEvent, .instanceMethod yX4_noEvent, .selects RX4 yX4_noEvent yX4_noEvent, .initialized RX4, .code yX4_noEvent cX4_noEvent 2 (some .boolean), .fieldLink RX4 65 "ProphetCoverModel" "events" "I", .methodLink RX4 68 yX4_in, .static yX4_in, .code yX4_in cX4_in 6 (some .boolean)] ++ wsX40)
def wsX4_paysOf : List Cond := .code yX4_paysOf cX4_paysOf 3 (some .int) :: ([.fieldLink RX4 16 "ProphetCoverModel" "coverOf" "[I", .fieldLink RX4 13 "ProphetCoverModel" "kindOf" "[I"] ++ wsX40)
def wsX4_isFraud : List Cond := .code yX4_isFraud cX4_isFraud 2 (some .boolean) :: ([.fieldLink RX4 19 "ProphetCoverModel" "saidBy" "[I", .methodLink RX4 75 yX4_allEvents, .instanceMethod yX4_allEvents, .selects RX4 yX4_allEvents yX4_allEvents, .initialized RX4, .code yX4_allEvents cX4_allEvents 1 (some .int), .fieldLink RX4 65 "ProphetCoverModel" "events" "I"] ++ wsX40)
def wsX4_ofProphet_r1 : List Cond := [Cond.fieldLink RX4 13 "ProphetCoverModel" "kindOf" "[I", Cond.fieldLink RX4 16 "ProphetCoverModel" "coverOf" "[I", Cond.fieldLink RX4 19 "ProphetCoverModel" "saidBy" "[I", Cond.methodLink RX4 135 yX4_noProphet, Cond.instanceMethod yX4_noProphet, Cond.selects RX4 yX4_noProphet yX4_noProphet, Cond.initialized RX4, Cond.code yX4_noProphet cX4_noProphet 2 (some .boolean), Cond.fieldLink RX4 72 "ProphetCoverModel" "prophets" "I", Cond.methodLink RX4 68 yX4_in, Cond.static yX4_in, Cond.code yX4_in cX4_in 6 (some .boolean), Cond.methodLink RX4 138 yX4_paysOf, Cond.instanceMethod yX4_paysOf, Cond.selects RX4 yX4_paysOf yX4_paysOf, Cond.code yX4_paysOf cX4_paysOf 3 (some .int), Cond.methodLink RX4 141 yX4_isFraud, Cond.instanceMethod yX4_isFraud, Cond.selects RX4 yX4_isFraud yX4_isFraud, Cond.code yX4_isFraud cX4_isFraud 2 (some .boolean), Cond.methodLink RX4 75 yX4_allEvents, Cond.instanceMethod yX4_allEvents, Cond.selects RX4 yX4_allEvents yX4_allEvents, Cond.code yX4_allEvents cX4_allEvents 1 (some .int)]
def wsX4_ofProphet_r2 : List Cond := [Cond.fieldLink RX4 65 "ProphetCoverModel" "events" "I"]
def wsX4_ofProphet : List Cond := .code yX4_ofProphet cX4_ofProphet 3 (some .int) :: ((wsX4_ofProphet_r1 ++ wsX4_ofProphet_r2) ++ wsX40)
def wsX4_say : List Cond := .code yX4_say cX4_say 4 (some .int) :: ([.constantLong RX4 144 (31), .fieldLink RX4 19 "ProphetCoverModel" "saidBy" "[I", .methodLink RX4 135 yX4_noProphet, .instanceMethod yX4_noProphet, .selects RX4 yX4_noProphet yX4_noProphet, .initialized RX4, .code yX4_noProphet cX4_noProphet 2 (some .boolean), .fieldLink RX4 72 "ProphetCoverModel" "prophets" "I", .methodLink RX4 68 yX4_in, .static yX4_in, .code yX4_in cX4_in 6 (some .boolean)] ++ wsX40)
def wsX4_paidTo : List Cond := .code yX4_paidTo cX4_paidTo 3 (some .int) :: ([.fieldLink RX4 19 "ProphetCoverModel" "saidBy" "[I", .methodLink RX4 141 yX4_isFraud, .instanceMethod yX4_isFraud, .selects RX4 yX4_isFraud yX4_isFraud, .initialized RX4, .code yX4_isFraud cX4_isFraud 2 (some .boolean), .methodLink RX4 75 yX4_allEvents, .instanceMethod yX4_allEvents, .selects RX4 yX4_allEvents yX4_allEvents, .code yX4_allEvents cX4_allEvents 1 (some .int), .fieldLink RX4 65 "ProphetCoverModel" "events" "I", .methodLink RX4 138 yX4_paysOf, .instanceMethod yX4_paysOf, .selects RX4 yX4_paysOf yX4_paysOf, .code yX4_paysOf cX4_paysOf 3 (some .int), .fieldLink RX4 16 "ProphetCoverModel" "coverOf" "[I", .fieldLink RX4 13 "ProphetCoverModel" "kindOf" "[I", .methodLink RX4 146 yX4_bits, .static yX4_bits, .code yX4_bits cX4_bits 3 (some .int)] ++ wsX40)
def wsX4_paidToAll_r1 : List Cond := [Cond.fieldLink RX4 72 "ProphetCoverModel" "prophets" "I", Cond.methodLink RX4 149 yX4_paidTo, Cond.instanceMethod yX4_paidTo, Cond.selects RX4 yX4_paidTo yX4_paidTo, Cond.initialized RX4, Cond.code yX4_paidTo cX4_paidTo 3 (some .int), Cond.fieldLink RX4 19 "ProphetCoverModel" "saidBy" "[I", Cond.methodLink RX4 141 yX4_isFraud, Cond.instanceMethod yX4_isFraud, Cond.selects RX4 yX4_isFraud yX4_isFraud, Cond.code yX4_isFraud cX4_isFraud 2 (some .boolean), Cond.methodLink RX4 75 yX4_allEvents, Cond.instanceMethod yX4_allEvents, Cond.selects RX4 yX4_allEvents yX4_allEvents, Cond.code yX4_allEvents cX4_allEvents 1 (some .int), Cond.fieldLink RX4 65 "ProphetCoverModel" "events" "I", Cond.methodLink RX4 138 yX4_paysOf, Cond.instanceMethod yX4_paysOf, Cond.selects RX4 yX4_paysOf yX4_paysOf, Cond.code yX4_paysOf cX4_paysOf 3 (some .int), Cond.fieldLink RX4 16 "ProphetCoverModel" "coverOf" "[I", Cond.fieldLink RX4 13 "ProphetCoverModel" "kindOf" "[I", Cond.methodLink RX4 146 yX4_bits, Cond.static yX4_bits]
def wsX4_paidToAll_r2 : List Cond := [Cond.code yX4_bits cX4_bits 3 (some .int)]
def wsX4_paidToAll : List Cond := .code yX4_paidToAll cX4_paidToAll 4 (some .int) :: ((wsX4_paidToAll_r1 ++ wsX4_paidToAll_r2) ++ wsX40)
def wsX4_paid_r1 : List Cond := [Cond.methodLink RX4 135 yX4_noProphet, Cond.instanceMethod yX4_noProphet, Cond.selects RX4 yX4_noProphet yX4_noProphet, Cond.initialized RX4, Cond.code yX4_noProphet cX4_noProphet 2 (some .boolean), Cond.fieldLink RX4 72 "ProphetCoverModel" "prophets" "I", Cond.methodLink RX4 68 yX4_in, Cond.static yX4_in, Cond.code yX4_in cX4_in 6 (some .boolean), Cond.methodLink RX4 152 yX4_noSet, Cond.instanceMethod yX4_noSet, Cond.selects RX4 yX4_noSet yX4_noSet, Cond.code yX4_noSet cX4_noSet 2 (some .boolean), Cond.methodLink RX4 75 yX4_allEvents, Cond.instanceMethod yX4_allEvents, Cond.selects RX4 yX4_allEvents yX4_allEvents, Cond.code yX4_allEvents cX4_allEvents 1 (some .int), Cond.fieldLink RX4 65 "ProphetCoverModel" "events" "I", Cond.methodLink RX4 149 yX4_paidTo, Cond.instanceMethod yX4_paidTo, Cond.selects RX4 yX4_paidTo yX4_paidTo, Cond.code yX4_paidTo cX4_paidTo 3 (some .int), Cond.fieldLink RX4 19 "ProphetCoverModel" "saidBy" "[I", Cond.methodLink RX4 141 yX4_isFraud]
def wsX4_paid_r2 : List Cond := [Cond.instanceMethod yX4_isFraud, Cond.selects RX4 yX4_isFraud yX4_isFraud, Cond.code yX4_isFraud cX4_isFraud 2 (some .boolean), Cond.methodLink RX4 138 yX4_paysOf, Cond.instanceMethod yX4_paysOf, Cond.selects RX4 yX4_paysOf yX4_paysOf, Cond.code yX4_paysOf cX4_paysOf 3 (some .int), Cond.fieldLink RX4 16 "ProphetCoverModel" "coverOf" "[I", Cond.fieldLink RX4 13 "ProphetCoverModel" "kindOf" "[I", Cond.methodLink RX4 146 yX4_bits, Cond.static yX4_bits, Cond.code yX4_bits cX4_bits 3 (some .int)]
def wsX4_paid : List Cond := .code yX4_paid cX4_paid 3 (some .int) :: ((wsX4_paid_r1 ++ wsX4_paid_r2) ++ wsX40)
def wsX4_total_r1 : List Cond := [Cond.fieldLink RX4 72 "ProphetCoverModel" "prophets" "I", Cond.methodLink RX4 152 yX4_noSet, Cond.instanceMethod yX4_noSet, Cond.selects RX4 yX4_noSet yX4_noSet, Cond.initialized RX4, Cond.code yX4_noSet cX4_noSet 2 (some .boolean), Cond.methodLink RX4 75 yX4_allEvents, Cond.instanceMethod yX4_allEvents, Cond.selects RX4 yX4_allEvents yX4_allEvents, Cond.code yX4_allEvents cX4_allEvents 1 (some .int), Cond.fieldLink RX4 65 "ProphetCoverModel" "events" "I", Cond.methodLink RX4 68 yX4_in, Cond.static yX4_in, Cond.code yX4_in cX4_in 6 (some .boolean), Cond.methodLink RX4 155 yX4_paidToAll, Cond.instanceMethod yX4_paidToAll, Cond.selects RX4 yX4_paidToAll yX4_paidToAll, Cond.code yX4_paidToAll cX4_paidToAll 4 (some .int), Cond.methodLink RX4 149 yX4_paidTo, Cond.instanceMethod yX4_paidTo, Cond.selects RX4 yX4_paidTo yX4_paidTo, Cond.code yX4_paidTo cX4_paidTo 3 (some .int), Cond.fieldLink RX4 19 "ProphetCoverModel" "saidBy" "[I", Cond.methodLink RX4 141 yX4_isFraud]
def wsX4_total_r2 : List Cond := [Cond.instanceMethod yX4_isFraud, Cond.selects RX4 yX4_isFraud yX4_isFraud, Cond.code yX4_isFraud cX4_isFraud 2 (some .boolean), Cond.methodLink RX4 138 yX4_paysOf, Cond.instanceMethod yX4_paysOf, Cond.selects RX4 yX4_paysOf yX4_paysOf, Cond.code yX4_paysOf cX4_paysOf 3 (some .int), Cond.fieldLink RX4 16 "ProphetCoverModel" "coverOf" "[I", Cond.fieldLink RX4 13 "ProphetCoverModel" "kindOf" "[I", Cond.methodLink RX4 146 yX4_bits, Cond.static yX4_bits, Cond.code yX4_bits cX4_bits 3 (some .int)]
def wsX4_total : List Cond := .code yX4_total cX4_total 2 (some .int) :: ((wsX4_total_r1 ++ wsX4_total_r2) ++ wsX40)
def wsX4_premiumsOf : List Cond := .code yX4_premiumsOf cX4_premiumsOf 4 (some .int) :: ([.fieldLink RX4 72 "ProphetCoverModel" "prophets" "I", .fieldLink RX4 19 "ProphetCoverModel" "saidBy" "[I", .methodLink RX4 75 yX4_allEvents, .instanceMethod yX4_allEvents, .selects RX4 yX4_allEvents yX4_allEvents, .initialized RX4, .code yX4_allEvents cX4_allEvents 1 (some .int), .fieldLink RX4 65 "ProphetCoverModel" "events" "I", .methodLink RX4 146 yX4_bits, .static yX4_bits, .code yX4_bits cX4_bits 3 (some .int)] ++ wsX40)
def wsX4_goYears_r1 : List Cond := [Cond.fieldLink RX4 158 "ProphetCoverModel" "stands" "I", Cond.fieldLink RX4 161 "ProphetCoverModel" "brokenAt" "I", Cond.fieldLink RX4 164 "ProphetCoverModel" "paidNow" "I", Cond.fieldLink RX4 167 "ProphetCoverModel" "mostPaid" "I", Cond.fieldLink RX4 49 "ProphetCoverModel" "sheet" "[I", Cond.methodLink RX4 155 yX4_paidToAll, Cond.instanceMethod yX4_paidToAll, Cond.selects RX4 yX4_paidToAll yX4_paidToAll, Cond.initialized RX4, Cond.code yX4_paidToAll cX4_paidToAll 4 (some .int), Cond.fieldLink RX4 72 "ProphetCoverModel" "prophets" "I", Cond.methodLink RX4 149 yX4_paidTo, Cond.instanceMethod yX4_paidTo, Cond.selects RX4 yX4_paidTo yX4_paidTo, Cond.code yX4_paidTo cX4_paidTo 3 (some .int), Cond.fieldLink RX4 19 "ProphetCoverModel" "saidBy" "[I", Cond.methodLink RX4 141 yX4_isFraud, Cond.instanceMethod yX4_isFraud, Cond.selects RX4 yX4_isFraud yX4_isFraud, Cond.code yX4_isFraud cX4_isFraud 2 (some .boolean), Cond.methodLink RX4 75 yX4_allEvents, Cond.instanceMethod yX4_allEvents, Cond.selects RX4 yX4_allEvents yX4_allEvents, Cond.code yX4_allEvents cX4_allEvents 1 (some .int)]
def wsX4_goYears_r2 : List Cond := [Cond.fieldLink RX4 65 "ProphetCoverModel" "events" "I", Cond.methodLink RX4 138 yX4_paysOf, Cond.instanceMethod yX4_paysOf, Cond.selects RX4 yX4_paysOf yX4_paysOf, Cond.code yX4_paysOf cX4_paysOf 3 (some .int), Cond.fieldLink RX4 16 "ProphetCoverModel" "coverOf" "[I", Cond.fieldLink RX4 13 "ProphetCoverModel" "kindOf" "[I", Cond.methodLink RX4 146 yX4_bits, Cond.static yX4_bits, Cond.code yX4_bits cX4_bits 3 (some .int), Cond.methodLink RX4 170 yX4_premiumsOf, Cond.instanceMethod yX4_premiumsOf, Cond.selects RX4 yX4_premiumsOf yX4_premiumsOf, Cond.code yX4_premiumsOf cX4_premiumsOf 4 (some .int)]
def wsX4_goYears : List Cond := .code yX4_goYears cX4_goYears 6 none :: ((wsX4_goYears_r1 ++ wsX4_goYears_r2) ++ wsX40)
def wsX4_paidBy_r1 : List Cond := [Cond.fieldLink RX4 49 "ProphetCoverModel" "sheet" "[I", Cond.methodLink RX4 149 yX4_paidTo, Cond.instanceMethod yX4_paidTo, Cond.selects RX4 yX4_paidTo yX4_paidTo, Cond.initialized RX4, Cond.code yX4_paidTo cX4_paidTo 3 (some .int), Cond.fieldLink RX4 19 "ProphetCoverModel" "saidBy" "[I", Cond.methodLink RX4 141 yX4_isFraud, Cond.instanceMethod yX4_isFraud, Cond.selects RX4 yX4_isFraud yX4_isFraud, Cond.code yX4_isFraud cX4_isFraud 2 (some .boolean), Cond.methodLink RX4 75 yX4_allEvents, Cond.instanceMethod yX4_allEvents, Cond.selects RX4 yX4_allEvents yX4_allEvents, Cond.code yX4_allEvents cX4_allEvents 1 (some .int), Cond.fieldLink RX4 65 "ProphetCoverModel" "events" "I", Cond.methodLink RX4 138 yX4_paysOf, Cond.instanceMethod yX4_paysOf, Cond.selects RX4 yX4_paysOf yX4_paysOf, Cond.code yX4_paysOf cX4_paysOf 3 (some .int), Cond.fieldLink RX4 16 "ProphetCoverModel" "coverOf" "[I", Cond.fieldLink RX4 13 "ProphetCoverModel" "kindOf" "[I", Cond.methodLink RX4 146 yX4_bits, Cond.static yX4_bits]
def wsX4_paidBy_r2 : List Cond := [Cond.code yX4_bits cX4_bits 3 (some .int)]
def wsX4_paidBy : List Cond := .code yX4_paidBy cX4_paidBy 6 (some .int) :: ((wsX4_paidBy_r1 ++ wsX4_paidBy_r2) ++ wsX40)
def wsX4_years_r1 : List Cond := [Cond.constantLong RX4 173 (3), Cond.constantLong RX4 175 (10), Cond.constantLong RX4 177 (13), Cond.constantLong RX4 133 (9), Cond.constantLong RX4 118 (2), Cond.constantLong RX4 179 (40), Cond.fieldLink RX4 72 "ProphetCoverModel" "prophets" "I", Cond.fieldLink RX4 49 "ProphetCoverModel" "sheet" "[I", Cond.fieldLink RX4 158 "ProphetCoverModel" "stands" "I", Cond.fieldLink RX4 161 "ProphetCoverModel" "brokenAt" "I", Cond.fieldLink RX4 164 "ProphetCoverModel" "paidNow" "I", Cond.fieldLink RX4 167 "ProphetCoverModel" "mostPaid" "I", Cond.methodLink RX4 111 yX4_noSheet, Cond.static yX4_noSheet, Cond.initialized RX4, Cond.code yX4_noSheet cX4_noSheet 1 (some .boolean), Cond.methodLink RX4 68 yX4_in, Cond.static yX4_in, Cond.code yX4_in cX4_in 6 (some .boolean), Cond.methodLink RX4 115 yX4_refused, Cond.instanceMethod yX4_refused, Cond.selects RX4 yX4_refused yX4_refused, Cond.code yX4_refused cX4_refused 2 (some .int), Cond.fieldLink RX4 57 "ProphetCoverModel" "fault" "I"]
def wsX4_years_r2 : List Cond := [Cond.methodLink RX4 120 yX4_cellsBarred, Cond.instanceMethod yX4_cellsBarred, Cond.selects RX4 yX4_cellsBarred yX4_cellsBarred, Cond.code yX4_cellsBarred cX4_cellsBarred 6 (some .int), Cond.fieldLink RX4 43 "ProphetCoverModel" "sheetSize" "[I", Cond.fieldLink RX4 46 "ProphetCoverModel" "sheetLane" "[I", Cond.methodLink RX4 103 yX4_failed, Cond.instanceMethod yX4_failed, Cond.selects RX4 yX4_failed yX4_failed, Cond.code yX4_failed cX4_failed 2 (some .int), Cond.methodLink RX4 107 yX4_isBeyond, Cond.static yX4_isBeyond, Cond.code yX4_isBeyond cX4_isBeyond 4 (some .boolean), Cond.methodLink RX4 152 yX4_noSet, Cond.instanceMethod yX4_noSet, Cond.selects RX4 yX4_noSet yX4_noSet, Cond.code yX4_noSet cX4_noSet 2 (some .boolean), Cond.methodLink RX4 75 yX4_allEvents, Cond.instanceMethod yX4_allEvents, Cond.selects RX4 yX4_allEvents yX4_allEvents, Cond.code yX4_allEvents cX4_allEvents 1 (some .int), Cond.fieldLink RX4 65 "ProphetCoverModel" "events" "I", Cond.methodLink RX4 181 yX4_goYears, Cond.instanceMethod yX4_goYears]
def wsX4_years_r3 : List Cond := [Cond.selects RX4 yX4_goYears yX4_goYears, Cond.code yX4_goYears cX4_goYears 6 none, Cond.methodLink RX4 155 yX4_paidToAll, Cond.instanceMethod yX4_paidToAll, Cond.selects RX4 yX4_paidToAll yX4_paidToAll, Cond.code yX4_paidToAll cX4_paidToAll 4 (some .int), Cond.methodLink RX4 149 yX4_paidTo, Cond.instanceMethod yX4_paidTo, Cond.selects RX4 yX4_paidTo yX4_paidTo, Cond.code yX4_paidTo cX4_paidTo 3 (some .int), Cond.fieldLink RX4 19 "ProphetCoverModel" "saidBy" "[I", Cond.methodLink RX4 141 yX4_isFraud, Cond.instanceMethod yX4_isFraud, Cond.selects RX4 yX4_isFraud yX4_isFraud, Cond.code yX4_isFraud cX4_isFraud 2 (some .boolean), Cond.methodLink RX4 138 yX4_paysOf, Cond.instanceMethod yX4_paysOf, Cond.selects RX4 yX4_paysOf yX4_paysOf, Cond.code yX4_paysOf cX4_paysOf 3 (some .int), Cond.fieldLink RX4 16 "ProphetCoverModel" "coverOf" "[I", Cond.fieldLink RX4 13 "ProphetCoverModel" "kindOf" "[I", Cond.methodLink RX4 146 yX4_bits, Cond.static yX4_bits, Cond.code yX4_bits cX4_bits 3 (some .int)]
def wsX4_years_r4 : List Cond := [Cond.methodLink RX4 170 yX4_premiumsOf, Cond.instanceMethod yX4_premiumsOf, Cond.selects RX4 yX4_premiumsOf yX4_premiumsOf, Cond.code yX4_premiumsOf cX4_premiumsOf 4 (some .int), Cond.methodLink RX4 135 yX4_noProphet, Cond.instanceMethod yX4_noProphet, Cond.selects RX4 yX4_noProphet yX4_noProphet, Cond.code yX4_noProphet cX4_noProphet 2 (some .boolean), Cond.methodLink RX4 185 yX4_paidBy, Cond.instanceMethod yX4_paidBy, Cond.selects RX4 yX4_paidBy yX4_paidBy, Cond.code yX4_paidBy cX4_paidBy 6 (some .int)]
def wsX4_years : List Cond := .code yX4_years cX4_years 10 (some .int) :: ((wsX4_years_r1 ++ (wsX4_years_r2 ++ (wsX4_years_r3 ++ wsX4_years_r4))) ++ wsX40)
def wsX4_fair_r1 : List Cond := [Cond.fieldLink RX4 65 "ProphetCoverModel" "events" "I", Cond.fieldLink RX4 19 "ProphetCoverModel" "saidBy" "[I", Cond.fieldLink RX4 7 "ProphetCoverModel" "chanceOf" "[I", Cond.constantLong RX4 175 (10), Cond.methodLink RX4 135 yX4_noProphet, Cond.instanceMethod yX4_noProphet, Cond.selects RX4 yX4_noProphet yX4_noProphet, Cond.initialized RX4, Cond.code yX4_noProphet cX4_noProphet 2 (some .boolean), Cond.fieldLink RX4 72 "ProphetCoverModel" "prophets" "I", Cond.methodLink RX4 68 yX4_in, Cond.static yX4_in, Cond.code yX4_in cX4_in 6 (some .boolean), Cond.methodLink RX4 61 yX4_lost, Cond.static yX4_lost, Cond.code yX4_lost cX4_lost 0 (some .long), Cond.constantLong RX4 55 (-9223372036854775808), Cond.methodLink RX4 188 yX4_isIn, Cond.static yX4_isIn, Cond.code yX4_isIn cX4_isIn 2 (some .boolean), Cond.methodLink RX4 141 yX4_isFraud, Cond.instanceMethod yX4_isFraud, Cond.selects RX4 yX4_isFraud yX4_isFraud, Cond.code yX4_isFraud cX4_isFraud 2 (some .boolean)]
def wsX4_fair_r2 : List Cond := [Cond.methodLink RX4 75 yX4_allEvents, Cond.instanceMethod yX4_allEvents, Cond.selects RX4 yX4_allEvents yX4_allEvents, Cond.code yX4_allEvents cX4_allEvents 1 (some .int), Cond.methodLink RX4 138 yX4_paysOf, Cond.instanceMethod yX4_paysOf, Cond.selects RX4 yX4_paysOf yX4_paysOf, Cond.code yX4_paysOf cX4_paysOf 3 (some .int), Cond.fieldLink RX4 16 "ProphetCoverModel" "coverOf" "[I", Cond.fieldLink RX4 13 "ProphetCoverModel" "kindOf" "[I", Cond.methodLink RX4 191 yX4_share, Cond.static yX4_share, Cond.code yX4_share cX4_share 11 (some .long)]
def wsX4_fair : List Cond := .code yX4_fair cX4_fair 6 (some .long) :: ((wsX4_fair_r1 ++ wsX4_fair_r2) ++ wsX40)
def wsX4_safe_r1 : List Cond := [Cond.methodLink RX4 135 yX4_noProphet, Cond.instanceMethod yX4_noProphet, Cond.selects RX4 yX4_noProphet yX4_noProphet, Cond.initialized RX4, Cond.code yX4_noProphet cX4_noProphet 2 (some .boolean), Cond.fieldLink RX4 72 "ProphetCoverModel" "prophets" "I", Cond.methodLink RX4 68 yX4_in, Cond.static yX4_in, Cond.code yX4_in cX4_in 6 (some .boolean), Cond.methodLink RX4 75 yX4_allEvents, Cond.instanceMethod yX4_allEvents, Cond.selects RX4 yX4_allEvents yX4_allEvents, Cond.code yX4_allEvents cX4_allEvents 1 (some .int), Cond.fieldLink RX4 65 "ProphetCoverModel" "events" "I", Cond.methodLink RX4 149 yX4_paidTo, Cond.instanceMethod yX4_paidTo, Cond.selects RX4 yX4_paidTo yX4_paidTo, Cond.code yX4_paidTo cX4_paidTo 3 (some .int), Cond.fieldLink RX4 19 "ProphetCoverModel" "saidBy" "[I", Cond.methodLink RX4 141 yX4_isFraud, Cond.instanceMethod yX4_isFraud, Cond.selects RX4 yX4_isFraud yX4_isFraud, Cond.code yX4_isFraud cX4_isFraud 2 (some .boolean), Cond.methodLink RX4 138 yX4_paysOf]
def wsX4_safe_r2 : List Cond := [Cond.instanceMethod yX4_paysOf, Cond.selects RX4 yX4_paysOf yX4_paysOf, Cond.code yX4_paysOf cX4_paysOf 3 (some .int), Cond.fieldLink RX4 16 "ProphetCoverModel" "coverOf" "[I", Cond.fieldLink RX4 13 "ProphetCoverModel" "kindOf" "[I", Cond.methodLink RX4 146 yX4_bits, Cond.static yX4_bits, Cond.code yX4_bits cX4_bits 3 (some .int)]
def wsX4_safe : List Cond := .code yX4_safe cX4_safe 2 (some .int) :: ((wsX4_safe_r1 ++ wsX4_safe_r2) ++ wsX40)
def wsX4_weightOf : List Cond := .code yX4_weightOf cX4_weightOf 5 (some .long) :: ([.fieldLink RX4 65 "ProphetCoverModel" "events" "I", .fieldLink RX4 7 "ProphetCoverModel" "chanceOf" "[I", .methodLink RX4 188 yX4_isIn, .static yX4_isIn, .initialized RX4, .code yX4_isIn cX4_isIn 2 (some .boolean)] ++ wsX40)
def wsX4_weightOfAll : List Cond := .code yX4_weightOfAll cX4_weightOfAll 4 (some .long) :: ([.fieldLink RX4 65 "ProphetCoverModel" "events" "I", .constantLong RX4 175 (10)] ++ wsX40)
def wsX4_weightFrom_r1 : List Cond := [Cond.methodLink RX4 75 yX4_allEvents, Cond.instanceMethod yX4_allEvents, Cond.selects RX4 yX4_allEvents yX4_allEvents, Cond.initialized RX4, Cond.code yX4_allEvents cX4_allEvents 1 (some .int), Cond.fieldLink RX4 65 "ProphetCoverModel" "events" "I", Cond.methodLink RX4 155 yX4_paidToAll, Cond.instanceMethod yX4_paidToAll, Cond.selects RX4 yX4_paidToAll yX4_paidToAll, Cond.code yX4_paidToAll cX4_paidToAll 4 (some .int), Cond.fieldLink RX4 72 "ProphetCoverModel" "prophets" "I", Cond.methodLink RX4 149 yX4_paidTo, Cond.instanceMethod yX4_paidTo, Cond.selects RX4 yX4_paidTo yX4_paidTo, Cond.code yX4_paidTo cX4_paidTo 3 (some .int), Cond.fieldLink RX4 19 "ProphetCoverModel" "saidBy" "[I", Cond.methodLink RX4 141 yX4_isFraud, Cond.instanceMethod yX4_isFraud, Cond.selects RX4 yX4_isFraud yX4_isFraud, Cond.code yX4_isFraud cX4_isFraud 2 (some .boolean), Cond.methodLink RX4 138 yX4_paysOf, Cond.instanceMethod yX4_paysOf, Cond.selects RX4 yX4_paysOf yX4_paysOf, Cond.code yX4_paysOf cX4_paysOf 3 (some .int)]
def wsX4_weightFrom_r2 : List Cond := [Cond.fieldLink RX4 16 "ProphetCoverModel" "coverOf" "[I", Cond.fieldLink RX4 13 "ProphetCoverModel" "kindOf" "[I", Cond.methodLink RX4 146 yX4_bits, Cond.static yX4_bits, Cond.code yX4_bits cX4_bits 3 (some .int), Cond.methodLink RX4 195 yX4_weightOf, Cond.instanceMethod yX4_weightOf, Cond.selects RX4 yX4_weightOf yX4_weightOf, Cond.code yX4_weightOf cX4_weightOf 5 (some .long), Cond.fieldLink RX4 7 "ProphetCoverModel" "chanceOf" "[I", Cond.methodLink RX4 188 yX4_isIn, Cond.static yX4_isIn, Cond.code yX4_isIn cX4_isIn 2 (some .boolean)]
def wsX4_weightFrom : List Cond := .code yX4_weightFrom cX4_weightFrom 5 (some .long) :: ((wsX4_weightFrom_r1 ++ wsX4_weightFrom_r2) ++ wsX40)
def wsX4_hold_r1 : List Cond := [Cond.constantLong RX4 175 (10), Cond.fieldLink RX4 72 "ProphetCoverModel" "prophets" "I", Cond.methodLink RX4 68 yX4_in, Cond.static yX4_in, Cond.initialized RX4, Cond.code yX4_in cX4_in 6 (some .boolean), Cond.methodLink RX4 199 yX4_weightOfAll, Cond.instanceMethod yX4_weightOfAll, Cond.selects RX4 yX4_weightOfAll yX4_weightOfAll, Cond.code yX4_weightOfAll cX4_weightOfAll 4 (some .long), Cond.fieldLink RX4 65 "ProphetCoverModel" "events" "I", Cond.methodLink RX4 202 yX4_weightFrom, Cond.instanceMethod yX4_weightFrom, Cond.selects RX4 yX4_weightFrom yX4_weightFrom, Cond.code yX4_weightFrom cX4_weightFrom 5 (some .long), Cond.methodLink RX4 75 yX4_allEvents, Cond.instanceMethod yX4_allEvents, Cond.selects RX4 yX4_allEvents yX4_allEvents, Cond.code yX4_allEvents cX4_allEvents 1 (some .int), Cond.methodLink RX4 155 yX4_paidToAll, Cond.instanceMethod yX4_paidToAll, Cond.selects RX4 yX4_paidToAll yX4_paidToAll, Cond.code yX4_paidToAll cX4_paidToAll 4 (some .int), Cond.methodLink RX4 149 yX4_paidTo]
def wsX4_hold_r2 : List Cond := [Cond.instanceMethod yX4_paidTo, Cond.selects RX4 yX4_paidTo yX4_paidTo, Cond.code yX4_paidTo cX4_paidTo 3 (some .int), Cond.fieldLink RX4 19 "ProphetCoverModel" "saidBy" "[I", Cond.methodLink RX4 141 yX4_isFraud, Cond.instanceMethod yX4_isFraud, Cond.selects RX4 yX4_isFraud yX4_isFraud, Cond.code yX4_isFraud cX4_isFraud 2 (some .boolean), Cond.methodLink RX4 138 yX4_paysOf, Cond.instanceMethod yX4_paysOf, Cond.selects RX4 yX4_paysOf yX4_paysOf, Cond.code yX4_paysOf cX4_paysOf 3 (some .int), Cond.fieldLink RX4 16 "ProphetCoverModel" "coverOf" "[I", Cond.fieldLink RX4 13 "ProphetCoverModel" "kindOf" "[I", Cond.methodLink RX4 146 yX4_bits, Cond.static yX4_bits, Cond.code yX4_bits cX4_bits 3 (some .int), Cond.methodLink RX4 195 yX4_weightOf, Cond.instanceMethod yX4_weightOf, Cond.selects RX4 yX4_weightOf yX4_weightOf, Cond.code yX4_weightOf cX4_weightOf 5 (some .long), Cond.fieldLink RX4 7 "ProphetCoverModel" "chanceOf" "[I", Cond.methodLink RX4 188 yX4_isIn, Cond.static yX4_isIn]
def wsX4_hold_r3 : List Cond := [Cond.code yX4_isIn cX4_isIn 2 (some .boolean)]
def wsX4_hold : List Cond := .code yX4_hold cX4_hold 3 (some .int) :: ((wsX4_hold_r1 ++ (wsX4_hold_r2 ++ wsX4_hold_r3)) ++ wsX40)
def wsX4_best_r1 : List Cond := [Cond.constantLong RX4 133 (9), Cond.fieldLink RX4 65 "ProphetCoverModel" "events" "I", Cond.fieldLink RX4 7 "ProphetCoverModel" "chanceOf" "[I", Cond.methodLink RX4 135 yX4_noProphet, Cond.instanceMethod yX4_noProphet, Cond.selects RX4 yX4_noProphet yX4_noProphet, Cond.initialized RX4, Cond.code yX4_noProphet cX4_noProphet 2 (some .boolean), Cond.fieldLink RX4 72 "ProphetCoverModel" "prophets" "I", Cond.methodLink RX4 68 yX4_in, Cond.static yX4_in, Cond.code yX4_in cX4_in 6 (some .boolean), Cond.methodLink RX4 75 yX4_allEvents, Cond.instanceMethod yX4_allEvents, Cond.selects RX4 yX4_allEvents yX4_allEvents, Cond.code yX4_allEvents cX4_allEvents 1 (some .int), Cond.methodLink RX4 188 yX4_isIn, Cond.static yX4_isIn, Cond.code yX4_isIn cX4_isIn 2 (some .boolean), Cond.methodLink RX4 138 yX4_paysOf, Cond.instanceMethod yX4_paysOf, Cond.selects RX4 yX4_paysOf yX4_paysOf, Cond.code yX4_paysOf cX4_paysOf 3 (some .int), Cond.fieldLink RX4 16 "ProphetCoverModel" "coverOf" "[I"]
def wsX4_best_r2 : List Cond := [Cond.fieldLink RX4 13 "ProphetCoverModel" "kindOf" "[I"]
def wsX4_best : List Cond := .code yX4_best cX4_best 8 (some .int) :: ((wsX4_best_r1 ++ wsX4_best_r2) ++ wsX40)
def wsX4_came_r1 : List Cond := [Cond.constantLong RX4 205 (999), Cond.fieldLink RX4 72 "ProphetCoverModel" "prophets" "I", Cond.methodLink RX4 68 yX4_in, Cond.static yX4_in, Cond.initialized RX4, Cond.code yX4_in cX4_in 6 (some .boolean), Cond.methodLink RX4 75 yX4_allEvents, Cond.instanceMethod yX4_allEvents, Cond.selects RX4 yX4_allEvents yX4_allEvents, Cond.code yX4_allEvents cX4_allEvents 1 (some .int), Cond.fieldLink RX4 65 "ProphetCoverModel" "events" "I", Cond.methodLink RX4 155 yX4_paidToAll, Cond.instanceMethod yX4_paidToAll, Cond.selects RX4 yX4_paidToAll yX4_paidToAll, Cond.code yX4_paidToAll cX4_paidToAll 4 (some .int), Cond.methodLink RX4 149 yX4_paidTo, Cond.instanceMethod yX4_paidTo, Cond.selects RX4 yX4_paidTo yX4_paidTo, Cond.code yX4_paidTo cX4_paidTo 3 (some .int), Cond.fieldLink RX4 19 "ProphetCoverModel" "saidBy" "[I", Cond.methodLink RX4 141 yX4_isFraud, Cond.instanceMethod yX4_isFraud, Cond.selects RX4 yX4_isFraud yX4_isFraud, Cond.code yX4_isFraud cX4_isFraud 2 (some .boolean)]
def wsX4_came_r2 : List Cond := [Cond.methodLink RX4 138 yX4_paysOf, Cond.instanceMethod yX4_paysOf, Cond.selects RX4 yX4_paysOf yX4_paysOf, Cond.code yX4_paysOf cX4_paysOf 3 (some .int), Cond.fieldLink RX4 16 "ProphetCoverModel" "coverOf" "[I", Cond.fieldLink RX4 13 "ProphetCoverModel" "kindOf" "[I", Cond.methodLink RX4 146 yX4_bits, Cond.static yX4_bits, Cond.code yX4_bits cX4_bits 3 (some .int)]
def wsX4_came : List Cond := .code yX4_came cX4_came 7 (some .int) :: ((wsX4_came_r1 ++ wsX4_came_r2) ++ wsX40)
def wsX4_reading : List Cond := .code yX4_reading cX4_reading 4 (some .int) :: ([.constantLong RX4 205 (999), .fieldLink RX4 127 "ProphetCoverModel" "readings" "I", .fieldLink RX4 34 "ProphetCoverModel" "readingOf" "[I", .fieldLink RX4 37 "ProphetCoverModel" "readingBy" "[I", .fieldLink RX4 40 "ProphetCoverModel" "readingWas" "[I", .methodLink RX4 135 yX4_noProphet, .instanceMethod yX4_noProphet, .selects RX4 yX4_noProphet yX4_noProphet, .initialized RX4, .code yX4_noProphet cX4_noProphet 2 (some .boolean), .fieldLink RX4 72 "ProphetCoverModel" "prophets" "I", .methodLink RX4 68 yX4_in, .static yX4_in, .code yX4_in cX4_in 6 (some .boolean), .methodLink RX4 152 yX4_noSet, .instanceMethod yX4_noSet, .selects RX4 yX4_noSet yX4_noSet, .code yX4_noSet cX4_noSet 2 (some .boolean), .methodLink RX4 75 yX4_allEvents, .instanceMethod yX4_allEvents, .selects RX4 yX4_allEvents yX4_allEvents, .code yX4_allEvents cX4_allEvents 1 (some .int), .fieldLink RX4 65 "ProphetCoverModel" "events" "I"] ++ wsX40)
def wsX4_back : List Cond := .code yX4_back cX4_back 2 (some .int) :: ([.fieldLink RX4 127 "ProphetCoverModel" "readings" "I", .methodLink RX4 68 yX4_in, .static yX4_in, .initialized RX4, .code yX4_in cX4_in 6 (some .boolean)] ++ wsX40)
def wsX4_areSo_r1 : List Cond := [Cond.fieldLink RX4 127 "ProphetCoverModel" "readings" "I", Cond.fieldLink RX4 34 "ProphetCoverModel" "readingOf" "[I", Cond.fieldLink RX4 37 "ProphetCoverModel" "readingBy" "[I", Cond.fieldLink RX4 40 "ProphetCoverModel" "readingWas" "[I", Cond.methodLink RX4 149 yX4_paidTo, Cond.instanceMethod yX4_paidTo, Cond.selects RX4 yX4_paidTo yX4_paidTo, Cond.initialized RX4, Cond.code yX4_paidTo cX4_paidTo 3 (some .int), Cond.fieldLink RX4 19 "ProphetCoverModel" "saidBy" "[I", Cond.methodLink RX4 141 yX4_isFraud, Cond.instanceMethod yX4_isFraud, Cond.selects RX4 yX4_isFraud yX4_isFraud, Cond.code yX4_isFraud cX4_isFraud 2 (some .boolean), Cond.methodLink RX4 75 yX4_allEvents, Cond.instanceMethod yX4_allEvents, Cond.selects RX4 yX4_allEvents yX4_allEvents, Cond.code yX4_allEvents cX4_allEvents 1 (some .int), Cond.fieldLink RX4 65 "ProphetCoverModel" "events" "I", Cond.methodLink RX4 138 yX4_paysOf, Cond.instanceMethod yX4_paysOf, Cond.selects RX4 yX4_paysOf yX4_paysOf, Cond.code yX4_paysOf cX4_paysOf 3 (some .int), Cond.fieldLink RX4 16 "ProphetCoverModel" "coverOf" "[I"]
def wsX4_areSo_r2 : List Cond := [Cond.fieldLink RX4 13 "ProphetCoverModel" "kindOf" "[I", Cond.methodLink RX4 146 yX4_bits, Cond.static yX4_bits, Cond.code yX4_bits cX4_bits 3 (some .int)]
def wsX4_areSo : List Cond := .code yX4_areSo cX4_areSo 3 (some .boolean) :: ((wsX4_areSo_r1 ++ wsX4_areSo_r2) ++ wsX40)
def wsX4_covers_r1 : List Cond := [Cond.fieldLink RX4 16 "ProphetCoverModel" "coverOf" "[I", Cond.methodLink RX4 135 yX4_noProphet, Cond.instanceMethod yX4_noProphet, Cond.selects RX4 yX4_noProphet yX4_noProphet, Cond.initialized RX4, Cond.code yX4_noProphet cX4_noProphet 2 (some .boolean), Cond.fieldLink RX4 72 "ProphetCoverModel" "prophets" "I", Cond.methodLink RX4 68 yX4_in, Cond.static yX4_in, Cond.code yX4_in cX4_in 6 (some .boolean), Cond.methodLink RX4 207 yX4_areSo, Cond.instanceMethod yX4_areSo, Cond.selects RX4 yX4_areSo yX4_areSo, Cond.code yX4_areSo cX4_areSo 3 (some .boolean), Cond.fieldLink RX4 127 "ProphetCoverModel" "readings" "I", Cond.fieldLink RX4 34 "ProphetCoverModel" "readingOf" "[I", Cond.fieldLink RX4 37 "ProphetCoverModel" "readingBy" "[I", Cond.fieldLink RX4 40 "ProphetCoverModel" "readingWas" "[I", Cond.methodLink RX4 149 yX4_paidTo, Cond.instanceMethod yX4_paidTo, Cond.selects RX4 yX4_paidTo yX4_paidTo, Cond.code yX4_paidTo cX4_paidTo 3 (some .int), Cond.fieldLink RX4 19 "ProphetCoverModel" "saidBy" "[I", Cond.methodLink RX4 141 yX4_isFraud]
def wsX4_covers_r2 : List Cond := [Cond.instanceMethod yX4_isFraud, Cond.selects RX4 yX4_isFraud yX4_isFraud, Cond.code yX4_isFraud cX4_isFraud 2 (some .boolean), Cond.methodLink RX4 75 yX4_allEvents, Cond.instanceMethod yX4_allEvents, Cond.selects RX4 yX4_allEvents yX4_allEvents, Cond.code yX4_allEvents cX4_allEvents 1 (some .int), Cond.fieldLink RX4 65 "ProphetCoverModel" "events" "I", Cond.methodLink RX4 138 yX4_paysOf, Cond.instanceMethod yX4_paysOf, Cond.selects RX4 yX4_paysOf yX4_paysOf, Cond.code yX4_paysOf cX4_paysOf 3 (some .int), Cond.fieldLink RX4 13 "ProphetCoverModel" "kindOf" "[I", Cond.methodLink RX4 146 yX4_bits, Cond.static yX4_bits, Cond.code yX4_bits cX4_bits 3 (some .int)]
def wsX4_covers : List Cond := .code yX4_covers cX4_covers 5 (some .int) :: ((wsX4_covers_r1 ++ wsX4_covers_r2) ++ wsX40)
def wsX4_kinds_r1 : List Cond := [Cond.fieldLink RX4 13 "ProphetCoverModel" "kindOf" "[I", Cond.methodLink RX4 135 yX4_noProphet, Cond.instanceMethod yX4_noProphet, Cond.selects RX4 yX4_noProphet yX4_noProphet, Cond.initialized RX4, Cond.code yX4_noProphet cX4_noProphet 2 (some .boolean), Cond.fieldLink RX4 72 "ProphetCoverModel" "prophets" "I", Cond.methodLink RX4 68 yX4_in, Cond.static yX4_in, Cond.code yX4_in cX4_in 6 (some .boolean), Cond.methodLink RX4 207 yX4_areSo, Cond.instanceMethod yX4_areSo, Cond.selects RX4 yX4_areSo yX4_areSo, Cond.code yX4_areSo cX4_areSo 3 (some .boolean), Cond.fieldLink RX4 127 "ProphetCoverModel" "readings" "I", Cond.fieldLink RX4 34 "ProphetCoverModel" "readingOf" "[I", Cond.fieldLink RX4 37 "ProphetCoverModel" "readingBy" "[I", Cond.fieldLink RX4 40 "ProphetCoverModel" "readingWas" "[I", Cond.methodLink RX4 149 yX4_paidTo, Cond.instanceMethod yX4_paidTo, Cond.selects RX4 yX4_paidTo yX4_paidTo, Cond.code yX4_paidTo cX4_paidTo 3 (some .int), Cond.fieldLink RX4 19 "ProphetCoverModel" "saidBy" "[I", Cond.methodLink RX4 141 yX4_isFraud]
def wsX4_kinds_r2 : List Cond := [Cond.instanceMethod yX4_isFraud, Cond.selects RX4 yX4_isFraud yX4_isFraud, Cond.code yX4_isFraud cX4_isFraud 2 (some .boolean), Cond.methodLink RX4 75 yX4_allEvents, Cond.instanceMethod yX4_allEvents, Cond.selects RX4 yX4_allEvents yX4_allEvents, Cond.code yX4_allEvents cX4_allEvents 1 (some .int), Cond.fieldLink RX4 65 "ProphetCoverModel" "events" "I", Cond.methodLink RX4 138 yX4_paysOf, Cond.instanceMethod yX4_paysOf, Cond.selects RX4 yX4_paysOf yX4_paysOf, Cond.code yX4_paysOf cX4_paysOf 3 (some .int), Cond.fieldLink RX4 16 "ProphetCoverModel" "coverOf" "[I", Cond.methodLink RX4 146 yX4_bits, Cond.static yX4_bits, Cond.code yX4_bits cX4_bits 3 (some .int)]
def wsX4_kinds : List Cond := .code yX4_kinds cX4_kinds 5 (some .int) :: ((wsX4_kinds_r1 ++ wsX4_kinds_r2) ++ wsX40)
def wsX4_sayings_r1 : List Cond := [Cond.fieldLink RX4 19 "ProphetCoverModel" "saidBy" "[I", Cond.methodLink RX4 135 yX4_noProphet, Cond.instanceMethod yX4_noProphet, Cond.selects RX4 yX4_noProphet yX4_noProphet, Cond.initialized RX4, Cond.code yX4_noProphet cX4_noProphet 2 (some .boolean), Cond.fieldLink RX4 72 "ProphetCoverModel" "prophets" "I", Cond.methodLink RX4 68 yX4_in, Cond.static yX4_in, Cond.code yX4_in cX4_in 6 (some .boolean), Cond.methodLink RX4 130 yX4_noEvent, Cond.instanceMethod yX4_noEvent, Cond.selects RX4 yX4_noEvent yX4_noEvent, Cond.code yX4_noEvent cX4_noEvent 2 (some .boolean), Cond.fieldLink RX4 65 "ProphetCoverModel" "events" "I", Cond.methodLink RX4 207 yX4_areSo, Cond.instanceMethod yX4_areSo, Cond.selects RX4 yX4_areSo yX4_areSo, Cond.code yX4_areSo cX4_areSo 3 (some .boolean), Cond.fieldLink RX4 127 "ProphetCoverModel" "readings" "I", Cond.fieldLink RX4 34 "ProphetCoverModel" "readingOf" "[I", Cond.fieldLink RX4 37 "ProphetCoverModel" "readingBy" "[I", Cond.fieldLink RX4 40 "ProphetCoverModel" "readingWas" "[I", Cond.methodLink RX4 149 yX4_paidTo]
def wsX4_sayings_r2 : List Cond := [Cond.instanceMethod yX4_paidTo, Cond.selects RX4 yX4_paidTo yX4_paidTo, Cond.code yX4_paidTo cX4_paidTo 3 (some .int), Cond.methodLink RX4 141 yX4_isFraud, Cond.instanceMethod yX4_isFraud, Cond.selects RX4 yX4_isFraud yX4_isFraud, Cond.code yX4_isFraud cX4_isFraud 2 (some .boolean), Cond.methodLink RX4 75 yX4_allEvents, Cond.instanceMethod yX4_allEvents, Cond.selects RX4 yX4_allEvents yX4_allEvents, Cond.code yX4_allEvents cX4_allEvents 1 (some .int), Cond.methodLink RX4 138 yX4_paysOf, Cond.instanceMethod yX4_paysOf, Cond.selects RX4 yX4_paysOf yX4_paysOf, Cond.code yX4_paysOf cX4_paysOf 3 (some .int), Cond.fieldLink RX4 16 "ProphetCoverModel" "coverOf" "[I", Cond.fieldLink RX4 13 "ProphetCoverModel" "kindOf" "[I", Cond.methodLink RX4 146 yX4_bits, Cond.static yX4_bits, Cond.code yX4_bits cX4_bits 3 (some .int)]
def wsX4_sayings : List Cond := .code yX4_sayings cX4_sayings 6 (some .int) :: ((wsX4_sayings_r1 ++ wsX4_sayings_r2) ++ wsX40)
def wsX4_odds_r1 : List Cond := [Cond.fieldLink RX4 72 "ProphetCoverModel" "prophets" "I", Cond.constantLong RX4 205 (999), Cond.methodLink RX4 68 yX4_in, Cond.static yX4_in, Cond.initialized RX4, Cond.code yX4_in cX4_in 6 (some .boolean), Cond.methodLink RX4 61 yX4_lost, Cond.static yX4_lost, Cond.code yX4_lost cX4_lost 0 (some .long), Cond.constantLong RX4 55 (-9223372036854775808), Cond.methodLink RX4 202 yX4_weightFrom, Cond.instanceMethod yX4_weightFrom, Cond.selects RX4 yX4_weightFrom yX4_weightFrom, Cond.code yX4_weightFrom cX4_weightFrom 5 (some .long), Cond.methodLink RX4 75 yX4_allEvents, Cond.instanceMethod yX4_allEvents, Cond.selects RX4 yX4_allEvents yX4_allEvents, Cond.code yX4_allEvents cX4_allEvents 1 (some .int), Cond.fieldLink RX4 65 "ProphetCoverModel" "events" "I", Cond.methodLink RX4 155 yX4_paidToAll, Cond.instanceMethod yX4_paidToAll, Cond.selects RX4 yX4_paidToAll yX4_paidToAll, Cond.code yX4_paidToAll cX4_paidToAll 4 (some .int), Cond.methodLink RX4 149 yX4_paidTo]
def wsX4_odds_r2 : List Cond := [Cond.instanceMethod yX4_paidTo, Cond.selects RX4 yX4_paidTo yX4_paidTo, Cond.code yX4_paidTo cX4_paidTo 3 (some .int), Cond.fieldLink RX4 19 "ProphetCoverModel" "saidBy" "[I", Cond.methodLink RX4 141 yX4_isFraud, Cond.instanceMethod yX4_isFraud, Cond.selects RX4 yX4_isFraud yX4_isFraud, Cond.code yX4_isFraud cX4_isFraud 2 (some .boolean), Cond.methodLink RX4 138 yX4_paysOf, Cond.instanceMethod yX4_paysOf, Cond.selects RX4 yX4_paysOf yX4_paysOf, Cond.code yX4_paysOf cX4_paysOf 3 (some .int), Cond.fieldLink RX4 16 "ProphetCoverModel" "coverOf" "[I", Cond.fieldLink RX4 13 "ProphetCoverModel" "kindOf" "[I", Cond.methodLink RX4 146 yX4_bits, Cond.static yX4_bits, Cond.code yX4_bits cX4_bits 3 (some .int), Cond.methodLink RX4 195 yX4_weightOf, Cond.instanceMethod yX4_weightOf, Cond.selects RX4 yX4_weightOf yX4_weightOf, Cond.code yX4_weightOf cX4_weightOf 5 (some .long), Cond.fieldLink RX4 7 "ProphetCoverModel" "chanceOf" "[I", Cond.methodLink RX4 188 yX4_isIn, Cond.static yX4_isIn]
def wsX4_odds_r3 : List Cond := [Cond.code yX4_isIn cX4_isIn 2 (some .boolean), Cond.methodLink RX4 199 yX4_weightOfAll, Cond.instanceMethod yX4_weightOfAll, Cond.selects RX4 yX4_weightOfAll yX4_weightOfAll, Cond.code yX4_weightOfAll cX4_weightOfAll 4 (some .long), Cond.constantLong RX4 175 (10), Cond.methodLink RX4 191 yX4_share, Cond.static yX4_share, Cond.code yX4_share cX4_share 11 (some .long)]
def wsX4_odds : List Cond := .code yX4_odds cX4_odds 3 (some .long) :: ((wsX4_odds_r1 ++ (wsX4_odds_r2 ++ wsX4_odds_r3)) ++ wsX40)
def wsX4_sheet : List Cond := .code yX4_sheet cX4_sheet 5 (some .int) :: ([.constantLong RX4 118 (2), .fieldLink RX4 43 "ProphetCoverModel" "sheetSize" "[I", .fieldLink RX4 46 "ProphetCoverModel" "sheetLane" "[I", .fieldLink RX4 49 "ProphetCoverModel" "sheet" "[I", .methodLink RX4 111 yX4_noSheet, .static yX4_noSheet, .initialized RX4, .code yX4_noSheet cX4_noSheet 1 (some .boolean), .constantLong RX4 173 (3), .methodLink RX4 68 yX4_in, .static yX4_in, .code yX4_in cX4_in 6 (some .boolean), .methodLink RX4 115 yX4_refused, .instanceMethod yX4_refused, .selects RX4 yX4_refused yX4_refused, .code yX4_refused cX4_refused 2 (some .int), .fieldLink RX4 57 "ProphetCoverModel" "fault" "I", .methodLink RX4 103 yX4_failed, .instanceMethod yX4_failed, .selects RX4 yX4_failed yX4_failed, .code yX4_failed cX4_failed 2 (some .int)] ++ wsX40)
def wsX4_lose : List Cond := .code yX4_lose cX4_lose 3 (some .int) :: ([.fieldLink RX4 43 "ProphetCoverModel" "sheetSize" "[I", .methodLink RX4 111 yX4_noSheet, .static yX4_noSheet, .initialized RX4, .code yX4_noSheet cX4_noSheet 1 (some .boolean), .constantLong RX4 173 (3), .methodLink RX4 68 yX4_in, .static yX4_in, .code yX4_in cX4_in 6 (some .boolean)] ++ wsX40)
def wsX4_noCell : List Cond := .code yX4_noCell cX4_noCell 3 (some .int) :: ([.fieldLink RX4 43 "ProphetCoverModel" "sheetSize" "[I", .methodLink RX4 68 yX4_in, .static yX4_in, .initialized RX4, .code yX4_in cX4_in 6 (some .boolean)] ++ wsX40)
def wsX4_put : List Cond := .code yX4_put cX4_put 4 (some .int) :: ([.fieldLink RX4 49 "ProphetCoverModel" "sheet" "[I", .fieldLink RX4 46 "ProphetCoverModel" "sheetLane" "[I", .methodLink RX4 111 yX4_noSheet, .static yX4_noSheet, .initialized RX4, .code yX4_noSheet cX4_noSheet 1 (some .boolean), .constantLong RX4 173 (3), .methodLink RX4 68 yX4_in, .static yX4_in, .code yX4_in cX4_in 6 (some .boolean), .methodLink RX4 115 yX4_refused, .instanceMethod yX4_refused, .selects RX4 yX4_refused yX4_refused, .code yX4_refused cX4_refused 2 (some .int), .fieldLink RX4 57 "ProphetCoverModel" "fault" "I", .methodLink RX4 211 yX4_noCell, .instanceMethod yX4_noCell, .selects RX4 yX4_noCell yX4_noCell, .code yX4_noCell cX4_noCell 3 (some .int), .fieldLink RX4 43 "ProphetCoverModel" "sheetSize" "[I", .methodLink RX4 103 yX4_failed, .instanceMethod yX4_failed, .selects RX4 yX4_failed yX4_failed, .code yX4_failed cX4_failed 2 (some .int)] ++ wsX40)
def wsX4_cell_r1 : List Cond := [Cond.fieldLink RX4 57 "ProphetCoverModel" "fault" "I", Cond.constantLong RX4 118 (2), Cond.fieldLink RX4 43 "ProphetCoverModel" "sheetSize" "[I", Cond.fieldLink RX4 46 "ProphetCoverModel" "sheetLane" "[I", Cond.fieldLink RX4 49 "ProphetCoverModel" "sheet" "[I", Cond.methodLink RX4 111 yX4_noSheet, Cond.static yX4_noSheet, Cond.initialized RX4, Cond.code yX4_noSheet cX4_noSheet 1 (some .boolean), Cond.constantLong RX4 173 (3), Cond.methodLink RX4 68 yX4_in, Cond.static yX4_in, Cond.code yX4_in cX4_in 6 (some .boolean), Cond.methodLink RX4 61 yX4_lost, Cond.static yX4_lost, Cond.code yX4_lost cX4_lost 0 (some .long), Cond.constantLong RX4 55 (-9223372036854775808), Cond.methodLink RX4 214 yX4_failedLong, Cond.instanceMethod yX4_failedLong, Cond.selects RX4 yX4_failedLong yX4_failedLong, Cond.code yX4_failedLong cX4_failedLong 2 (some .long), Cond.methodLink RX4 211 yX4_noCell, Cond.instanceMethod yX4_noCell, Cond.selects RX4 yX4_noCell yX4_noCell]
def wsX4_cell_r2 : List Cond := [Cond.code yX4_noCell cX4_noCell 3 (some .int)]
def wsX4_cell : List Cond := .code yX4_cell cX4_cell 4 (some .long) :: ((wsX4_cell_r1 ++ wsX4_cell_r2) ++ wsX40)
def wsX4_copy : List Cond := .code yX4_copy cX4_copy 7 (some .int) :: ([.fieldLink RX4 43 "ProphetCoverModel" "sheetSize" "[I", .fieldLink RX4 46 "ProphetCoverModel" "sheetLane" "[I", .fieldLink RX4 52 "ProphetCoverModel" "hands" "[I", .fieldLink RX4 49 "ProphetCoverModel" "sheet" "[I", .methodLink RX4 111 yX4_noSheet, .static yX4_noSheet, .initialized RX4, .code yX4_noSheet cX4_noSheet 1 (some .boolean), .constantLong RX4 173 (3), .methodLink RX4 68 yX4_in, .static yX4_in, .code yX4_in cX4_in 6 (some .boolean), .methodLink RX4 115 yX4_refused, .instanceMethod yX4_refused, .selects RX4 yX4_refused yX4_refused, .code yX4_refused cX4_refused 2 (some .int), .fieldLink RX4 57 "ProphetCoverModel" "fault" "I", .methodLink RX4 103 yX4_failed, .instanceMethod yX4_failed, .selects RX4 yX4_failed yX4_failed, .code yX4_failed cX4_failed 2 (some .int), .methodLink RX4 107 yX4_isBeyond, .static yX4_isBeyond, .code yX4_isBeyond cX4_isBeyond 4 (some .boolean)] ++ wsX40)
def wsX4_traced : List Cond := .code yX4_traced cX4_traced 2 none :: ([.fieldLink RX4 217 "ProphetCoverModel" "traceNow" "I"] ++ wsX40)
def wsX4_tell : List Cond := .code yX4_tell cX4_tell 4 (some .int) :: ([.fieldLink RX4 13 "ProphetCoverModel" "kindOf" "[I", .fieldLink RX4 16 "ProphetCoverModel" "coverOf" "[I", .methodLink RX4 135 yX4_noProphet, .instanceMethod yX4_noProphet, .selects RX4 yX4_noProphet yX4_noProphet, .initialized RX4, .code yX4_noProphet cX4_noProphet 2 (some .boolean), .fieldLink RX4 72 "ProphetCoverModel" "prophets" "I", .methodLink RX4 68 yX4_in, .static yX4_in, .code yX4_in cX4_in 6 (some .boolean), .methodLink RX4 220 yX4_traced, .instanceMethod yX4_traced, .selects RX4 yX4_traced yX4_traced, .code yX4_traced cX4_traced 2 none, .fieldLink RX4 217 "ProphetCoverModel" "traceNow" "I"] ++ wsX40)
def wsX4_hear : List Cond := .code yX4_hear cX4_hear 2 (some .int) :: ([.fieldLink RX4 13 "ProphetCoverModel" "kindOf" "[I", .methodLink RX4 135 yX4_noProphet, .instanceMethod yX4_noProphet, .selects RX4 yX4_noProphet yX4_noProphet, .initialized RX4, .code yX4_noProphet cX4_noProphet 2 (some .boolean), .fieldLink RX4 72 "ProphetCoverModel" "prophets" "I", .methodLink RX4 68 yX4_in, .static yX4_in, .code yX4_in cX4_in 6 (some .boolean), .methodLink RX4 220 yX4_traced, .instanceMethod yX4_traced, .selects RX4 yX4_traced yX4_traced, .code yX4_traced cX4_traced 2 none, .fieldLink RX4 217 "ProphetCoverModel" "traceNow" "I"] ++ wsX40)
def wsX4_as : List Cond := .code yX4_as cX4_as 3 (some .int) :: ([.constantLong RX4 118 (2), .fieldLink RX4 13 "ProphetCoverModel" "kindOf" "[I", .methodLink RX4 135 yX4_noProphet, .instanceMethod yX4_noProphet, .selects RX4 yX4_noProphet yX4_noProphet, .initialized RX4, .code yX4_noProphet cX4_noProphet 2 (some .boolean), .fieldLink RX4 72 "ProphetCoverModel" "prophets" "I", .methodLink RX4 68 yX4_in, .static yX4_in, .code yX4_in cX4_in 6 (some .boolean), .methodLink RX4 115 yX4_refused, .instanceMethod yX4_refused, .selects RX4 yX4_refused yX4_refused, .code yX4_refused cX4_refused 2 (some .int), .fieldLink RX4 57 "ProphetCoverModel" "fault" "I", .methodLink RX4 103 yX4_failed, .instanceMethod yX4_failed, .selects RX4 yX4_failed yX4_failed, .code yX4_failed cX4_failed 2 (some .int)] ++ wsX40)
def wsX4_trace : List Cond := .code yX4_trace cX4_trace 1 (some .int) :: ([.fieldLink RX4 217 "ProphetCoverModel" "traceNow" "I"] ++ wsX40)
def wsX4_fault : List Cond := .code yX4_fault cX4_fault 1 (some .int) :: ([.fieldLink RX4 57 "ProphetCoverModel" "fault" "I"] ++ wsX40)
def wsX4_fraudsNow : List Cond := .code yX4_fraudsNow cX4_fraudsNow 3 (some .int) :: ([.fieldLink RX4 72 "ProphetCoverModel" "prophets" "I", .methodLink RX4 141 yX4_isFraud, .instanceMethod yX4_isFraud, .selects RX4 yX4_isFraud yX4_isFraud, .initialized RX4, .code yX4_isFraud cX4_isFraud 2 (some .boolean), .fieldLink RX4 19 "ProphetCoverModel" "saidBy" "[I", .methodLink RX4 75 yX4_allEvents, .instanceMethod yX4_allEvents, .selects RX4 yX4_allEvents yX4_allEvents, .code yX4_allEvents cX4_allEvents 1 (some .int), .fieldLink RX4 65 "ProphetCoverModel" "events" "I"] ++ wsX40)
def wsX4_many : List Cond := .code yX4_many cX4_many 2 (some .int) :: ([.fieldLink RX4 72 "ProphetCoverModel" "prophets" "I", .fieldLink RX4 65 "ProphetCoverModel" "events" "I", .fieldLink RX4 127 "ProphetCoverModel" "readings" "I", .methodLink RX4 224 yX4_fraudsNow, .instanceMethod yX4_fraudsNow, .selects RX4 yX4_fraudsNow yX4_fraudsNow, .initialized RX4, .code yX4_fraudsNow cX4_fraudsNow 3 (some .int), .methodLink RX4 141 yX4_isFraud, .instanceMethod yX4_isFraud, .selects RX4 yX4_isFraud yX4_isFraud, .code yX4_isFraud cX4_isFraud 2 (some .boolean), .fieldLink RX4 19 "ProphetCoverModel" "saidBy" "[I", .methodLink RX4 75 yX4_allEvents, .instanceMethod yX4_allEvents, .selects RX4 yX4_allEvents yX4_allEvents, .code yX4_allEvents cX4_allEvents 1 (some .int)] ++ wsX40)
def wsJ9_max_7cf53 : List Cond := .code yJ9_max_7cf53 cJ9_max_7cf53 2 (some .int) :: ([])
def wsL_law_r1 : List Cond := [Cond.classLink RL 7 RX3, Cond.instantiable RX3 9, Cond.initialized RX3, Cond.classLink RL 10 RX4, Cond.instantiable RX4 27, Cond.initialized RX4, Cond.methodLink RL 9 yX3_init, Cond.instanceMethod yX3_init, Cond.code yX3_init cX3_init 2 none, Cond.methodLink RX3 3 objectInit, Cond.instanceMethod objectInit, Cond.code objectInit ⟨#[0xb1]⟩ 1 none, Cond.classLink RX3 11 RX2, Cond.fieldLink RX3 13 "ProphetCover" "sheets" "[LProphetCover$Sheet;", Cond.arrayClass .int, Cond.fieldLink RX3 17 "ProphetCover" "chances" "[I", Cond.classLink RX3 21 RX0, Cond.fieldLink RX3 23 "ProphetCover" "prophets" "[LProphetCover$Prophet;", Cond.classLink RX3 27 RX1, Cond.fieldLink RX3 29 "ProphetCover" "readings" "[LProphetCover$Reading;", Cond.fieldLink RX3 33 "ProphetCover" "eventCount" "I", Cond.fieldLink RX3 37 "ProphetCover" "prophetCount" "I", Cond.fieldLink RX3 40 "ProphetCover" "readingCount" "I", Cond.fieldLink RX3 43 "ProphetCover" "traceNow" "I"]
def wsL_law_r2 : List Cond := [Cond.fieldLink RX3 46 "ProphetCover" "latestFault" "I", Cond.instantiable RX2 3, Cond.initialized RX2, Cond.instantiable RX0 3, Cond.initialized RX0, Cond.instantiable RX1 3, Cond.initialized RX1, Cond.instanceMethod yX2_init, Cond.code yX2_init cX2_init 1 none, Cond.methodLink RX2 3 objectInit, Cond.fieldLink RX2 9 "ProphetCover$Sheet" "cells" "[I", Cond.fieldLink RX2 15 "ProphetCover$Sheet" "lane" "I", Cond.fieldLink RX2 19 "ProphetCover$Sheet" "size" "I", Cond.instanceMethod yX0_init, Cond.code yX0_init cX0_init 1 none, Cond.methodLink RX0 3 objectInit, Cond.fieldLink RX0 9 "ProphetCover$Prophet" "kind" "I", Cond.fieldLink RX0 15 "ProphetCover$Prophet" "cover" "I", Cond.fieldLink RX0 18 "ProphetCover$Prophet" "saidSet" "I", Cond.instanceMethod yX1_init, Cond.code yX1_init cX1_init 1 none, Cond.methodLink RX1 1 objectInit, Cond.fieldLink RX1 7 "ProphetCover$Reading" "prophet" "I", Cond.fieldLink RX1 13 "ProphetCover$Reading" "cameSet" "I"]
def wsL_law_r3 : List Cond := [Cond.fieldLink RX1 16 "ProphetCover$Reading" "amount" "I", Cond.methodLink RL 12 yX4_init, Cond.instanceMethod yX4_init, Cond.code yX4_init cX4_init 2 none, Cond.methodLink RX4 1 objectInit, Cond.fieldLink RX4 7 "ProphetCoverModel" "chanceOf" "[I", Cond.fieldLink RX4 13 "ProphetCoverModel" "kindOf" "[I", Cond.fieldLink RX4 16 "ProphetCoverModel" "coverOf" "[I", Cond.fieldLink RX4 19 "ProphetCoverModel" "saidBy" "[I", Cond.fieldLink RX4 22 "ProphetCoverModel" "readChance" "[I", Cond.fieldLink RX4 25 "ProphetCoverModel" "readKind" "[I", Cond.fieldLink RX4 28 "ProphetCoverModel" "readCover" "[I", Cond.fieldLink RX4 31 "ProphetCoverModel" "readSaid" "[I", Cond.fieldLink RX4 34 "ProphetCoverModel" "readingOf" "[I", Cond.fieldLink RX4 37 "ProphetCoverModel" "readingBy" "[I", Cond.fieldLink RX4 40 "ProphetCoverModel" "readingWas" "[I", Cond.fieldLink RX4 43 "ProphetCoverModel" "sheetSize" "[I", Cond.fieldLink RX4 46 "ProphetCoverModel" "sheetLane" "[I", Cond.fieldLink RX4 49 "ProphetCoverModel" "sheet" "[I", Cond.fieldLink RX4 52 "ProphetCoverModel" "hands" "[I", Cond.methodLink RL 13 yX3_office, Cond.instanceMethod yX3_office, Cond.selects RX3 yX3_office yX3_office, Cond.code yX3_office cX3_office 9 (some .int)]
def wsL_law_r4 : List Cond := [Cond.fieldLink RX3 67 "ProphetCover$Sheet" "cells" "[I", Cond.methodLink RX3 52 yX3_isSheet, Cond.static yX3_isSheet, Cond.code yX3_isSheet cX3_isSheet 1 (some .boolean), Cond.methodLink RX3 56 yX3_isLane, Cond.static yX3_isLane, Cond.code yX3_isLane cX3_isLane 1 (some .boolean), Cond.methodLink RX3 59 yX2_flaw, Cond.instanceMethod yX2_flaw, Cond.selects RX2 yX2_flaw yX2_flaw, Cond.code yX2_flaw cX2_flaw 4 (some .int), Cond.methodLink RX2 22 yX2_isEmpty, Cond.instanceMethod yX2_isEmpty, Cond.selects RX2 yX2_isEmpty yX2_isEmpty, Cond.code yX2_isEmpty cX2_isEmpty 1 (some .boolean), Cond.methodLink RX2 26 yX2_reaches, Cond.instanceMethod yX2_reaches, Cond.selects RX2 yX2_reaches yX2_reaches, Cond.code yX2_reaches cX2_reaches 3 (some .boolean), Cond.methodLink RX3 63 yX3_faulty, Cond.instanceMethod yX3_faulty, Cond.selects RX3 yX3_faulty yX3_faulty, Cond.code yX3_faulty cX3_faulty 2 (some .int), Cond.methodLink RX3 70 yX3_firstFaultPlace]
def wsL_law_r5 : List Cond := [Cond.static yX3_firstFaultPlace, Cond.code yX3_firstFaultPlace cX3_firstFaultPlace 7 (some .int), Cond.methodLink RX3 211 yX3_isDigit, Cond.static yX3_isDigit, Cond.code yX3_isDigit cX3_isDigit 2 (some .boolean), Cond.methodLink RX3 214 yX3_fitsProphet, Cond.static yX3_fitsProphet, Cond.code yX3_fitsProphet cX3_fitsProphet 4 (some .boolean), Cond.methodLink RX3 217 yX3_kindOf, Cond.static yX3_kindOf, Cond.code yX3_kindOf cX3_kindOf 1 (some .int), Cond.methodLink RX3 74 yX3_takeOffice, Cond.instanceMethod yX3_takeOffice, Cond.selects RX3 yX3_takeOffice yX3_takeOffice, Cond.code yX3_takeOffice cX3_takeOffice 7 none, Cond.fieldLink RX3 88 "ProphetCover$Prophet" "kind" "I", Cond.fieldLink RX3 91 "ProphetCover$Prophet" "cover" "I", Cond.fieldLink RX3 94 "ProphetCover$Prophet" "saidSet" "I", Cond.methodLink RX3 220 yX3_behindEvents, Cond.static yX3_behindEvents, Cond.code yX3_behindEvents cX3_behindEvents 5 (some .int), Cond.methodLink RL 17 yX4_office, Cond.instanceMethod yX4_office, Cond.selects RX4 yX4_office yX4_office]
def wsL_law_r6 : List Cond := [Cond.code yX4_office cX4_office 7 (some .int), Cond.constantLong RX4 118 (2), Cond.fieldLink RX4 79 "ProphetCoverModel" "readAt" "I", Cond.fieldLink RX4 86 "ProphetCoverModel" "readEvents" "I", Cond.fieldLink RX4 65 "ProphetCoverModel" "events" "I", Cond.fieldLink RX4 93 "ProphetCoverModel" "readProphets" "I", Cond.fieldLink RX4 72 "ProphetCoverModel" "prophets" "I", Cond.fieldLink RX4 127 "ProphetCoverModel" "readings" "I", Cond.methodLink RX4 111 yX4_noSheet, Cond.static yX4_noSheet, Cond.code yX4_noSheet cX4_noSheet 1 (some .boolean), Cond.constantLong RX4 173 (3), Cond.methodLink RX4 68 yX4_in, Cond.static yX4_in, Cond.code yX4_in cX4_in 6 (some .boolean), Cond.methodLink RX4 115 yX4_refused, Cond.instanceMethod yX4_refused, Cond.selects RX4 yX4_refused yX4_refused, Cond.code yX4_refused cX4_refused 2 (some .int), Cond.fieldLink RX4 57 "ProphetCoverModel" "fault" "I", Cond.methodLink RX4 120 yX4_cellsBarred, Cond.instanceMethod yX4_cellsBarred, Cond.selects RX4 yX4_cellsBarred yX4_cellsBarred, Cond.code yX4_cellsBarred cX4_cellsBarred 6 (some .int)]
def wsL_law_r7 : List Cond := [Cond.methodLink RX4 103 yX4_failed, Cond.instanceMethod yX4_failed, Cond.selects RX4 yX4_failed yX4_failed, Cond.code yX4_failed cX4_failed 2 (some .int), Cond.methodLink RX4 107 yX4_isBeyond, Cond.static yX4_isBeyond, Cond.code yX4_isBeyond cX4_isBeyond 4 (some .boolean), Cond.methodLink RX4 124 yX4_readsOffice, Cond.instanceMethod yX4_readsOffice, Cond.selects RX4 yX4_readsOffice yX4_readsOffice, Cond.code yX4_readsOffice cX4_readsOffice 4 (some .boolean), Cond.methodLink RX4 82 yX4_codeAt, Cond.instanceMethod yX4_codeAt, Cond.selects RX4 yX4_codeAt yX4_codeAt, Cond.code yX4_codeAt cX4_codeAt 3 (some .int), Cond.methodLink RX4 96 yX4_readsEvent, Cond.instanceMethod yX4_readsEvent, Cond.selects RX4 yX4_readsEvent yX4_readsEvent, Cond.code yX4_readsEvent cX4_readsEvent 4 (some .boolean), Cond.methodLink RX4 89 yX4_figure, Cond.instanceMethod yX4_figure, Cond.selects RX4 yX4_figure yX4_figure, Cond.code yX4_figure cX4_figure 6 (some .int), Cond.methodLink RX4 100 yX4_readsProphet]
def wsL_law_r8 : List Cond := [Cond.instanceMethod yX4_readsProphet, Cond.selects RX4 yX4_readsProphet yX4_readsProphet, Cond.code yX4_readsProphet cX4_readsProphet 7 (some .boolean), Cond.methodLink RL 18 yX3_chance, Cond.instanceMethod yX3_chance, Cond.selects RX3 yX3_chance yX3_chance, Cond.code yX3_chance cX3_chance 2 (some .int), Cond.methodLink RX3 78 yX3_isEvent, Cond.instanceMethod yX3_isEvent, Cond.selects RX3 yX3_isEvent yX3_isEvent, Cond.code yX3_isEvent cX3_isEvent 2 (some .boolean), Cond.methodLink RL 22 yX4_chance, Cond.instanceMethod yX4_chance, Cond.selects RX4 yX4_chance yX4_chance, Cond.code yX4_chance cX4_chance 2 (some .int), Cond.methodLink RX4 130 yX4_noEvent, Cond.instanceMethod yX4_noEvent, Cond.selects RX4 yX4_noEvent yX4_noEvent, Cond.code yX4_noEvent cX4_noEvent 2 (some .boolean), Cond.methodLink RL 23 yX3_fate, Cond.instanceMethod yX3_fate, Cond.selects RX3 yX3_fate yX3_fate, Cond.code yX3_fate cX3_fate 4 (some .int), Cond.methodLink RX3 81 yX3_isWithin]
def wsL_law_r9 : List Cond := [Cond.static yX3_isWithin, Cond.code yX3_isWithin cX3_isWithin 2 (some .boolean), Cond.methodLink RL 27 yX4_fate, Cond.instanceMethod yX4_fate, Cond.selects RX4 yX4_fate yX4_fate, Cond.code yX4_fate cX4_fate 4 (some .int), Cond.constantLong RX4 133 (9), Cond.methodLink RL 28 yX3_ofProphet, Cond.instanceMethod yX3_ofProphet, Cond.selects RX3 yX3_ofProphet yX3_ofProphet, Cond.code yX3_ofProphet cX3_ofProphet 4 (some .int), Cond.methodLink RX3 85 yX3_isProphet, Cond.instanceMethod yX3_isProphet, Cond.selects RX3 yX3_isProphet yX3_isProphet, Cond.code yX3_isProphet cX3_isProphet 2 (some .boolean), Cond.methodLink RX3 97 yX3_paysEach, Cond.static yX3_paysEach, Cond.code yX3_paysEach cX3_paysEach 2 (some .int), Cond.methodLink RX3 101 yX3_isFraud, Cond.instanceMethod yX3_isFraud, Cond.selects RX3 yX3_isFraud yX3_isFraud, Cond.code yX3_isFraud cX3_isFraud 2 (some .boolean), Cond.methodLink RX3 142 yX3_allEvents, Cond.instanceMethod yX3_allEvents]
def wsL_law_r10 : List Cond := [Cond.selects RX3 yX3_allEvents yX3_allEvents, Cond.code yX3_allEvents cX3_allEvents 1 (some .int), Cond.methodLink RL 31 yX4_ofProphet, Cond.instanceMethod yX4_ofProphet, Cond.selects RX4 yX4_ofProphet yX4_ofProphet, Cond.code yX4_ofProphet cX4_ofProphet 3 (some .int), Cond.methodLink RX4 135 yX4_noProphet, Cond.instanceMethod yX4_noProphet, Cond.selects RX4 yX4_noProphet yX4_noProphet, Cond.code yX4_noProphet cX4_noProphet 2 (some .boolean), Cond.methodLink RX4 138 yX4_paysOf, Cond.instanceMethod yX4_paysOf, Cond.selects RX4 yX4_paysOf yX4_paysOf, Cond.code yX4_paysOf cX4_paysOf 3 (some .int), Cond.methodLink RX4 141 yX4_isFraud, Cond.instanceMethod yX4_isFraud, Cond.selects RX4 yX4_isFraud yX4_isFraud, Cond.code yX4_isFraud cX4_isFraud 2 (some .boolean), Cond.methodLink RX4 75 yX4_allEvents, Cond.instanceMethod yX4_allEvents, Cond.selects RX4 yX4_allEvents yX4_allEvents, Cond.code yX4_allEvents cX4_allEvents 1 (some .int), Cond.methodLink RL 32 yX3_say, Cond.instanceMethod yX3_say]
def wsL_law_r11 : List Cond := [Cond.selects RX3 yX3_say yX3_say, Cond.code yX3_say cX3_say 4 (some .int), Cond.methodLink RL 35 yX4_say, Cond.instanceMethod yX4_say, Cond.selects RX4 yX4_say yX4_say, Cond.code yX4_say cX4_say 4 (some .int), Cond.constantLong RX4 144 (31), Cond.methodLink RL 36 yX3_paid, Cond.instanceMethod yX3_paid, Cond.selects RX3 yX3_paid yX3_paid, Cond.code yX3_paid cX3_paid 3 (some .int), Cond.methodLink RX3 104 yX3_isEventSet, Cond.instanceMethod yX3_isEventSet, Cond.selects RX3 yX3_isEventSet yX3_isEventSet, Cond.code yX3_isEventSet cX3_isEventSet 2 (some .boolean), Cond.methodLink RX3 107 yX3_paidTo, Cond.instanceMethod yX3_paidTo, Cond.selects RX3 yX3_paidTo yX3_paidTo, Cond.code yX3_paidTo cX3_paidTo 4 (some .int), Cond.methodLink RX3 134 yX3_payment, Cond.instanceMethod yX3_payment, Cond.selects RX3 yX3_payment yX3_payment, Cond.code yX3_payment cX3_payment 5 (some .int), Cond.methodLink RX3 223 yJ6_bitCount_0f7a4]
def wsL_law_r12 : List Cond := [Cond.static yJ6_bitCount_0f7a4, Cond.initialized RJ6, Cond.code yJ6_bitCount_0f7a4 cJ6_bitCount_0f7a4 1 (some .int), Cond.constant RJ6 265 (1431655765), Cond.constant RJ6 266 (858993459), Cond.constant RJ6 267 (252645135), Cond.methodLink RL 39 yX4_paid, Cond.instanceMethod yX4_paid, Cond.selects RX4 yX4_paid yX4_paid, Cond.code yX4_paid cX4_paid 3 (some .int), Cond.methodLink RX4 152 yX4_noSet, Cond.instanceMethod yX4_noSet, Cond.selects RX4 yX4_noSet yX4_noSet, Cond.code yX4_noSet cX4_noSet 2 (some .boolean), Cond.methodLink RX4 149 yX4_paidTo, Cond.instanceMethod yX4_paidTo, Cond.selects RX4 yX4_paidTo yX4_paidTo, Cond.code yX4_paidTo cX4_paidTo 3 (some .int), Cond.methodLink RX4 146 yX4_bits, Cond.static yX4_bits, Cond.code yX4_bits cX4_bits 3 (some .int), Cond.methodLink RL 40 yX3_total, Cond.instanceMethod yX3_total, Cond.selects RX3 yX3_total yX3_total]
def wsL_law_r13 : List Cond := [Cond.code yX3_total cX3_total 2 (some .int), Cond.methodLink RX3 110 yX3_hasOffice, Cond.instanceMethod yX3_hasOffice, Cond.selects RX3 yX3_hasOffice yX3_hasOffice, Cond.code yX3_hasOffice cX3_hasOffice 1 (some .boolean), Cond.methodLink RX3 114 yX3_paidToAll, Cond.instanceMethod yX3_paidToAll, Cond.selects RX3 yX3_paidToAll yX3_paidToAll, Cond.code yX3_paidToAll cX3_paidToAll 4 (some .int), Cond.methodLink RL 43 yX4_total, Cond.instanceMethod yX4_total, Cond.selects RX4 yX4_total yX4_total, Cond.code yX4_total cX4_total 2 (some .int), Cond.methodLink RX4 155 yX4_paidToAll, Cond.instanceMethod yX4_paidToAll, Cond.selects RX4 yX4_paidToAll yX4_paidToAll, Cond.code yX4_paidToAll cX4_paidToAll 4 (some .int), Cond.methodLink RL 44 yX3_years, Cond.instanceMethod yX3_years, Cond.selects RX3 yX3_years yX3_years, Cond.code yX3_years cX3_years 9 (some .int), Cond.methodLink RX3 117 yX3_isYearsQuestion, Cond.static yX3_isYearsQuestion, Cond.code yX3_isYearsQuestion cX3_isYearsQuestion 1 (some .boolean)]
def wsL_law_r14 : List Cond := [Cond.methodLink RX3 120 yX3_areEventSets, Cond.instanceMethod yX3_areEventSets, Cond.selects RX3 yX3_areEventSets yX3_areEventSets, Cond.code yX3_areEventSets cX3_areEventSets 5 (some .boolean), Cond.methodLink RX3 124 yX3_paidOverYears, Cond.instanceMethod yX3_paidOverYears, Cond.selects RX3 yX3_paidOverYears yX3_paidOverYears, Cond.code yX3_paidOverYears cX3_paidOverYears 7 (some .int), Cond.methodLink RX3 128 yX3_officeOverYears, Cond.instanceMethod yX3_officeOverYears, Cond.selects RX3 yX3_officeOverYears yX3_officeOverYears, Cond.code yX3_officeOverYears cX3_officeOverYears 13 (some .int), Cond.methodLink RX3 231 Lib.Math.max.name, Cond.static Lib.Math.max.name, Cond.initialized "java/lang/Math", Cond.code Lib.Math.max.name Lib.Math.max.code 2 (some .int), Cond.methodLink RX3 228 yX3_premiumsOfYear, Cond.instanceMethod yX3_premiumsOfYear, Cond.selects RX3 yX3_premiumsOfYear yX3_premiumsOfYear, Cond.code yX3_premiumsOfYear cX3_premiumsOfYear 4 (some .int), Cond.methodLink RL 48 yX4_years, Cond.instanceMethod yX4_years, Cond.selects RX4 yX4_years yX4_years, Cond.code yX4_years cX4_years 10 (some .int)]
def wsL_law_r15 : List Cond := [Cond.constantLong RX4 175 (10), Cond.constantLong RX4 177 (13), Cond.constantLong RX4 179 (40), Cond.fieldLink RX4 158 "ProphetCoverModel" "stands" "I", Cond.fieldLink RX4 161 "ProphetCoverModel" "brokenAt" "I", Cond.fieldLink RX4 164 "ProphetCoverModel" "paidNow" "I", Cond.fieldLink RX4 167 "ProphetCoverModel" "mostPaid" "I", Cond.methodLink RX4 181 yX4_goYears, Cond.instanceMethod yX4_goYears, Cond.selects RX4 yX4_goYears yX4_goYears, Cond.code yX4_goYears cX4_goYears 6 none, Cond.methodLink RX4 170 yX4_premiumsOf, Cond.instanceMethod yX4_premiumsOf, Cond.selects RX4 yX4_premiumsOf yX4_premiumsOf, Cond.code yX4_premiumsOf cX4_premiumsOf 4 (some .int), Cond.methodLink RX4 185 yX4_paidBy, Cond.instanceMethod yX4_paidBy, Cond.selects RX4 yX4_paidBy yX4_paidBy, Cond.code yX4_paidBy cX4_paidBy 6 (some .int), Cond.methodLink RL 49 yX3_fair, Cond.instanceMethod yX3_fair, Cond.selects RX3 yX3_fair yX3_fair, Cond.code yX3_fair cX3_fair 6 (some .long), Cond.constantLong RX3 132 (-9223372036854775808)]
def wsL_law_r16 : List Cond := [Cond.methodLink RX3 138 yX3_shareNumber, Cond.static yX3_shareNumber, Cond.code yX3_shareNumber cX3_shareNumber 4 (some .long), Cond.methodLink RX3 242 yX3_greatestDivisor, Cond.static yX3_greatestDivisor, Cond.code yX3_greatestDivisor cX3_greatestDivisor 6 (some .int), Cond.methodLink RL 53 yX4_fair, Cond.instanceMethod yX4_fair, Cond.selects RX4 yX4_fair yX4_fair, Cond.code yX4_fair cX4_fair 6 (some .long), Cond.methodLink RX4 61 yX4_lost, Cond.static yX4_lost, Cond.code yX4_lost cX4_lost 0 (some .long), Cond.constantLong RX4 55 (-9223372036854775808), Cond.methodLink RX4 188 yX4_isIn, Cond.static yX4_isIn, Cond.code yX4_isIn cX4_isIn 2 (some .boolean), Cond.methodLink RX4 191 yX4_share, Cond.static yX4_share, Cond.code yX4_share cX4_share 11 (some .long), Cond.methodLink RL 54 yX3_safe, Cond.instanceMethod yX3_safe, Cond.selects RX3 yX3_safe yX3_safe, Cond.code yX3_safe cX3_safe 2 (some .int)]
def wsL_law_r17 : List Cond := [Cond.methodLink RL 57 yX4_safe, Cond.instanceMethod yX4_safe, Cond.selects RX4 yX4_safe yX4_safe, Cond.code yX4_safe cX4_safe 2 (some .int), Cond.methodLink RL 58 yX3_hold, Cond.instanceMethod yX3_hold, Cond.selects RX3 yX3_hold yX3_hold, Cond.code yX3_hold cX3_hold 7 (some .int), Cond.methodLink RX3 146 yX3_weightOfAll, Cond.instanceMethod yX3_weightOfAll, Cond.selects RX3 yX3_weightOfAll yX3_weightOfAll, Cond.code yX3_weightOfAll cX3_weightOfAll 3 (some .int), Cond.methodLink RX3 149 yX3_weightFrom, Cond.instanceMethod yX3_weightFrom, Cond.selects RX3 yX3_weightFrom yX3_weightFrom, Cond.code yX3_weightFrom cX3_weightFrom 4 (some .int), Cond.methodLink RX3 239 yX3_weightOf, Cond.instanceMethod yX3_weightOf, Cond.selects RX3 yX3_weightOf yX3_weightOf, Cond.code yX3_weightOf cX3_weightOf 4 (some .int), Cond.methodLink RX3 236 yX3_isIn, Cond.static yX3_isIn, Cond.code yX3_isIn cX3_isIn 2 (some .boolean), Cond.methodLink RL 61 yX4_hold]
def wsL_law_r18 : List Cond := [Cond.instanceMethod yX4_hold, Cond.selects RX4 yX4_hold yX4_hold, Cond.code yX4_hold cX4_hold 3 (some .int), Cond.methodLink RX4 199 yX4_weightOfAll, Cond.instanceMethod yX4_weightOfAll, Cond.selects RX4 yX4_weightOfAll yX4_weightOfAll, Cond.code yX4_weightOfAll cX4_weightOfAll 4 (some .long), Cond.methodLink RX4 202 yX4_weightFrom, Cond.instanceMethod yX4_weightFrom, Cond.selects RX4 yX4_weightFrom yX4_weightFrom, Cond.code yX4_weightFrom cX4_weightFrom 5 (some .long), Cond.methodLink RX4 195 yX4_weightOf, Cond.instanceMethod yX4_weightOf, Cond.selects RX4 yX4_weightOf yX4_weightOf, Cond.code yX4_weightOf cX4_weightOf 5 (some .long), Cond.methodLink RL 62 yX3_best, Cond.instanceMethod yX3_best, Cond.selects RX3 yX3_best yX3_best, Cond.code yX3_best cX3_best 8 (some .int), Cond.methodLink RX3 152 yX3_tenthsGained, Cond.instanceMethod yX3_tenthsGained, Cond.selects RX3 yX3_tenthsGained yX3_tenthsGained, Cond.code yX3_tenthsGained cX3_tenthsGained 6 (some .int), Cond.methodLink RL 65 yX4_best]
def wsL_law_r19 : List Cond := [Cond.instanceMethod yX4_best, Cond.selects RX4 yX4_best yX4_best, Cond.code yX4_best cX4_best 8 (some .int), Cond.methodLink RL 66 yX3_came, Cond.instanceMethod yX3_came, Cond.selects RX3 yX3_came yX3_came, Cond.code yX3_came cX3_came 6 (some .int), Cond.methodLink RL 69 yX4_came, Cond.instanceMethod yX4_came, Cond.selects RX4 yX4_came yX4_came, Cond.code yX4_came cX4_came 7 (some .int), Cond.constantLong RX4 205 (999), Cond.methodLink RL 70 yX3_reading, Cond.instanceMethod yX3_reading, Cond.selects RX3 yX3_reading yX3_reading, Cond.code yX3_reading cX3_reading 5 (some .int), Cond.fieldLink RX3 155 "ProphetCover$Reading" "prophet" "I", Cond.fieldLink RX3 158 "ProphetCover$Reading" "cameSet" "I", Cond.fieldLink RX3 161 "ProphetCover$Reading" "amount" "I", Cond.methodLink RL 74 yX4_reading, Cond.instanceMethod yX4_reading, Cond.selects RX4 yX4_reading yX4_reading, Cond.code yX4_reading cX4_reading 4 (some .int), Cond.methodLink RL 75 yX3_back]
def wsL_law_r20 : List Cond := [Cond.instanceMethod yX3_back, Cond.selects RX3 yX3_back yX3_back, Cond.code yX3_back cX3_back 2 (some .int), Cond.methodLink RL 78 yX4_back, Cond.instanceMethod yX4_back, Cond.selects RX4 yX4_back yX4_back, Cond.code yX4_back cX4_back 2 (some .int), Cond.methodLink RL 79 yX3_covers, Cond.instanceMethod yX3_covers, Cond.selects RX3 yX3_covers yX3_covers, Cond.code yX3_covers cX3_covers 5 (some .int), Cond.methodLink RX3 164 yX3_agreesWithReadings, Cond.instanceMethod yX3_agreesWithReadings, Cond.selects RX3 yX3_agreesWithReadings yX3_agreesWithReadings, Cond.code yX3_agreesWithReadings cX3_agreesWithReadings 8 (some .boolean), Cond.methodLink RL 82 yX4_covers, Cond.instanceMethod yX4_covers, Cond.selects RX4 yX4_covers yX4_covers, Cond.code yX4_covers cX4_covers 5 (some .int), Cond.methodLink RX4 207 yX4_areSo, Cond.instanceMethod yX4_areSo, Cond.selects RX4 yX4_areSo yX4_areSo, Cond.code yX4_areSo cX4_areSo 3 (some .boolean), Cond.methodLink RL 83 yX3_kinds]
def wsL_law_r21 : List Cond := [Cond.instanceMethod yX3_kinds, Cond.selects RX3 yX3_kinds yX3_kinds, Cond.code yX3_kinds cX3_kinds 5 (some .int), Cond.methodLink RL 86 yX4_kinds, Cond.instanceMethod yX4_kinds, Cond.selects RX4 yX4_kinds yX4_kinds, Cond.code yX4_kinds cX4_kinds 5 (some .int), Cond.methodLink RL 87 yX3_sayings, Cond.instanceMethod yX3_sayings, Cond.selects RX3 yX3_sayings yX3_sayings, Cond.code yX3_sayings cX3_sayings 6 (some .int), Cond.methodLink RL 90 yX4_sayings, Cond.instanceMethod yX4_sayings, Cond.selects RX4 yX4_sayings yX4_sayings, Cond.code yX4_sayings cX4_sayings 6 (some .int), Cond.methodLink RL 91 yX3_odds, Cond.instanceMethod yX3_odds, Cond.selects RX3 yX3_odds yX3_odds, Cond.code yX3_odds cX3_odds 3 (some .long), Cond.methodLink RL 94 yX4_odds, Cond.instanceMethod yX4_odds, Cond.selects RX4 yX4_odds yX4_odds, Cond.code yX4_odds cX4_odds 3 (some .long), Cond.methodLink RL 95 yX3_sheet]
def wsL_law_r22 : List Cond := [Cond.instanceMethod yX3_sheet, Cond.selects RX3 yX3_sheet yX3_sheet, Cond.code yX3_sheet cX3_sheet 4 (some .int), Cond.methodLink RX3 168 yX2_makeRow, Cond.instanceMethod yX2_makeRow, Cond.selects RX2 yX2_makeRow yX2_makeRow, Cond.code yX2_makeRow cX2_makeRow 4 none, Cond.methodLink RL 98 yX4_sheet, Cond.instanceMethod yX4_sheet, Cond.selects RX4 yX4_sheet yX4_sheet, Cond.code yX4_sheet cX4_sheet 5 (some .int), Cond.methodLink RL 99 yX3_lose, Cond.instanceMethod yX3_lose, Cond.selects RX3 yX3_lose yX3_lose, Cond.code yX3_lose cX3_lose 3 (some .int), Cond.fieldLink RX3 175 "ProphetCover$Sheet" "size" "I", Cond.methodLink RX3 172 yX2_isEmpty, Cond.methodLink RL 102 yX4_lose, Cond.instanceMethod yX4_lose, Cond.selects RX4 yX4_lose yX4_lose, Cond.code yX4_lose cX4_lose 3 (some .int), Cond.methodLink RL 103 yX3_put, Cond.instanceMethod yX3_put, Cond.selects RX3 yX3_put yX3_put]
def wsL_law_r23 : List Cond := [Cond.code yX3_put cX3_put 5 (some .int), Cond.fieldLink RX3 178 "ProphetCover$Sheet" "lane" "I", Cond.methodLink RX3 181 yX2_store, Cond.instanceMethod yX2_store, Cond.selects RX2 yX2_store yX2_store, Cond.code yX2_store cX2_store 3 none, Cond.methodLink RX2 30 yX2_cut, Cond.instanceMethod yX2_cut, Cond.selects RX2 yX2_cut yX2_cut, Cond.code yX2_cut cX2_cut 2 (some .int), Cond.methodLink RL 106 yX4_put, Cond.instanceMethod yX4_put, Cond.selects RX4 yX4_put yX4_put, Cond.code yX4_put cX4_put 4 (some .int), Cond.methodLink RX4 211 yX4_noCell, Cond.instanceMethod yX4_noCell, Cond.selects RX4 yX4_noCell yX4_noCell, Cond.code yX4_noCell cX4_noCell 3 (some .int), Cond.methodLink RL 107 yX3_cell, Cond.instanceMethod yX3_cell, Cond.selects RX3 yX3_cell yX3_cell, Cond.code yX3_cell cX3_cell 4 (some .long), Cond.methodLink RL 111 yX4_cell, Cond.instanceMethod yX4_cell]
def wsL_law_r24 : List Cond := [Cond.selects RX4 yX4_cell yX4_cell, Cond.code yX4_cell cX4_cell 4 (some .long), Cond.methodLink RX4 214 yX4_failedLong, Cond.instanceMethod yX4_failedLong, Cond.selects RX4 yX4_failedLong yX4_failedLong, Cond.code yX4_failedLong cX4_failedLong 2 (some .long), Cond.methodLink RL 112 yX3_copy, Cond.instanceMethod yX3_copy, Cond.selects RX3 yX3_copy yX3_copy, Cond.code yX3_copy cX3_copy 8 (some .int), Cond.methodLink RX3 187 arraycopyName, Cond.native arraycopyName, Cond.static arraycopyName, Cond.initialized "java/lang/System", Cond.methodLink RX3 184 yX2_reaches, Cond.methodLink RL 116 yX4_copy, Cond.instanceMethod yX4_copy, Cond.selects RX4 yX4_copy yX4_copy, Cond.code yX4_copy cX4_copy 7 (some .int), Cond.methodLink RL 117 yX3_tell, Cond.instanceMethod yX3_tell, Cond.selects RX3 yX3_tell yX3_tell, Cond.code yX3_tell cX3_tell 3 (some .int), Cond.methodLink RX3 193 yX3_modestTells]
def wsL_law_r25 : List Cond := [Cond.instanceMethod yX3_modestTells, Cond.selects RX3 yX3_modestTells yX3_modestTells, Cond.code yX3_modestTells cX3_modestTells 2 (some .int), Cond.methodLink RX3 245 yX3_leaveInTrace, Cond.instanceMethod yX3_leaveInTrace, Cond.selects RX3 yX3_leaveInTrace yX3_leaveInTrace, Cond.code yX3_leaveInTrace cX3_leaveInTrace 2 none, Cond.methodLink RX3 196 yX3_sureTells, Cond.instanceMethod yX3_sureTells, Cond.selects RX3 yX3_sureTells yX3_sureTells, Cond.code yX3_sureTells cX3_sureTells 2 (some .int), Cond.methodLink RX3 199 yX3_loudTells, Cond.instanceMethod yX3_loudTells, Cond.selects RX3 yX3_loudTells yX3_loudTells, Cond.code yX3_loudTells cX3_loudTells 3 (some .int), Cond.methodLink RL 120 yX4_tell, Cond.instanceMethod yX4_tell, Cond.selects RX4 yX4_tell yX4_tell, Cond.code yX4_tell cX4_tell 4 (some .int), Cond.methodLink RX4 220 yX4_traced, Cond.instanceMethod yX4_traced, Cond.selects RX4 yX4_traced yX4_traced, Cond.code yX4_traced cX4_traced 2 none, Cond.fieldLink RX4 217 "ProphetCoverModel" "traceNow" "I"]
def wsL_law_r26 : List Cond := [Cond.methodLink RL 121 yX3_hear, Cond.instanceMethod yX3_hear, Cond.selects RX3 yX3_hear yX3_hear, Cond.code yX3_hear cX3_hear 2 (some .int), Cond.methodLink RX3 202 yX3_loudIsHeard, Cond.instanceMethod yX3_loudIsHeard, Cond.selects RX3 yX3_loudIsHeard yX3_loudIsHeard, Cond.code yX3_loudIsHeard cX3_loudIsHeard 1 (some .int), Cond.methodLink RX3 205 yX3_lentBodyHears, Cond.instanceMethod yX3_lentBodyHears, Cond.selects RX3 yX3_lentBodyHears yX3_lentBodyHears, Cond.code yX3_lentBodyHears cX3_lentBodyHears 2 (some .int), Cond.methodLink RL 124 yX4_hear, Cond.instanceMethod yX4_hear, Cond.selects RX4 yX4_hear yX4_hear, Cond.code yX4_hear cX4_hear 2 (some .int), Cond.methodLink RL 125 yX3_as, Cond.instanceMethod yX3_as, Cond.selects RX3 yX3_as yX3_as, Cond.code yX3_as cX3_as 3 (some .int), Cond.methodLink RL 128 yX4_as, Cond.instanceMethod yX4_as, Cond.selects RX4 yX4_as yX4_as, Cond.code yX4_as cX4_as 3 (some .int)]
def wsL_law_r27 : List Cond := [Cond.methodLink RL 129 yX3_trace, Cond.instanceMethod yX3_trace, Cond.selects RX3 yX3_trace yX3_trace, Cond.code yX3_trace cX3_trace 1 (some .int), Cond.methodLink RL 133 yX4_trace, Cond.instanceMethod yX4_trace, Cond.selects RX4 yX4_trace yX4_trace, Cond.code yX4_trace cX4_trace 1 (some .int), Cond.methodLink RL 134 yX3_fault, Cond.instanceMethod yX3_fault, Cond.selects RX3 yX3_fault yX3_fault, Cond.code yX3_fault cX3_fault 1 (some .int), Cond.methodLink RL 137 yX4_fault, Cond.instanceMethod yX4_fault, Cond.selects RX4 yX4_fault yX4_fault, Cond.code yX4_fault cX4_fault 1 (some .int), Cond.methodLink RL 138 yX3_many, Cond.instanceMethod yX3_many, Cond.selects RX3 yX3_many yX3_many, Cond.code yX3_many cX3_many 2 (some .int), Cond.methodLink RX3 208 yX3_countFrauds, Cond.instanceMethod yX3_countFrauds, Cond.selects RX3 yX3_countFrauds yX3_countFrauds, Cond.code yX3_countFrauds cX3_countFrauds 3 (some .int)]
def wsL_law_r28 : List Cond := [Cond.methodLink RL 141 yX4_many, Cond.instanceMethod yX4_many, Cond.selects RX4 yX4_many yX4_many, Cond.code yX4_many cX4_many 2 (some .int), Cond.methodLink RX4 224 yX4_fraudsNow, Cond.instanceMethod yX4_fraudsNow, Cond.selects RX4 yX4_fraudsNow yX4_fraudsNow, Cond.code yX4_fraudsNow cX4_fraudsNow 3 (some .int)]
def wsL_law : List Cond := (wsL_law_r1 ++ (wsL_law_r2 ++ (wsL_law_r3 ++ (wsL_law_r4 ++ (wsL_law_r5 ++ (wsL_law_r6 ++ (wsL_law_r7 ++ (wsL_law_r8 ++ (wsL_law_r9 ++ (wsL_law_r10 ++ (wsL_law_r11 ++ (wsL_law_r12 ++ (wsL_law_r13 ++ (wsL_law_r14 ++ (wsL_law_r15 ++ (wsL_law_r16 ++ (wsL_law_r17 ++ (wsL_law_r18 ++ (wsL_law_r19 ++ (wsL_law_r20 ++ (wsL_law_r21 ++ (wsL_law_r22 ++ (wsL_law_r23 ++ (wsL_law_r24 ++ (wsL_law_r25 ++ (wsL_law_r26 ++ (wsL_law_r27 ++ wsL_law_r28))))))))))))))))))))))))))) ++ wsX30 ++ wsX40 ++ wsX20 ++ wsX00 ++ wsX10 ++ ([] : List Cond)
set_option maxRecDepth 20000 in
theorem wsL_in_r1 : GoodIn lw_tbl wsL_law_r1 := goodIn_r _ [64, 65, 56, 467, 468, 60, 66, 67, 68, 69, 70, 71, 72, 133, 96, 134, 74, 135, 76, 136, 137, 138, 139, 140] (by decide +kernel) (by decide +kernel)
set_option maxRecDepth 20000 in
theorem wsL_in_r2 : GoodIn lw_tbl wsL_law_r2 := goodIn_r _ [141, 78, 57, 97, 58, 115, 59, 80, 81, 82, 83, 85, 87, 99, 100, 101, 102, 104, 106, 117, 118, 119, 120, 122] (by decide +kernel) (by decide +kernel)
set_option maxRecDepth 20000 in
theorem wsL_in_r3 : GoodIn lw_tbl wsL_law_r3 := goodIn_r _ [124, 469, 470, 471, 472, 475, 477, 478, 479, 483, 484, 485, 486, 492, 493, 494, 495, 496, 497, 498, 161, 162, 163, 164] (by decide +kernel) (by decide +kernel)
set_option maxRecDepth 20000 in
theorem wsL_in_r4 : GoodIn lw_tbl wsL_law_r4 := goodIn_r _ [84, 165, 166, 167, 168, 169, 170, 171, 172, 173, 174, 175, 176, 177, 178, 179, 180, 181, 182, 183, 185, 0, 186, 187] (by decide +kernel) (by decide +kernel)
set_option maxRecDepth 20000 in
theorem wsL_in_r5 : GoodIn lw_tbl wsL_law_r5 := goodIn_r _ [188, 189, 190, 191, 192, 193, 194, 195, 196, 197, 198, 199, 201, 1, 202, 103, 105, 107, 203, 204, 205, 555, 556, 557] (by decide +kernel) (by decide +kernel)
set_option maxRecDepth 20000 in
theorem wsL_in_r6 : GoodIn lw_tbl wsL_law_r6 := goodIn_r _ [558, 570, 480, 481, 474, 482, 476, 491, 559, 560, 561, 562, 563, 564, 565, 566, 568, 28, 569, 473, 571, 573, 29, 574] (by decide +kernel) (by decide +kernel)
set_option maxRecDepth 20000 in
theorem wsL_in_r7 : GoodIn lw_tbl wsL_law_r7 := goodIn_r _ [575, 577, 30, 578, 579, 580, 581, 582, 584, 31, 585, 586, 588, 32, 589, 590, 592, 33, 593, 594, 596, 34, 597, 598] (by decide +kernel) (by decide +kernel)
set_option maxRecDepth 20000 in
theorem wsL_in_r8 : GoodIn lw_tbl wsL_law_r8 := goodIn_r _ [600, 35, 601, 206, 207, 208, 209, 210, 212, 2, 213, 602, 603, 604, 605, 606, 608, 36, 609, 214, 215, 216, 217, 218] (by decide +kernel) (by decide +kernel)
set_option maxRecDepth 20000 in
theorem wsL_in_r9 : GoodIn lw_tbl wsL_law_r9 := goodIn_r _ [219, 220, 610, 611, 612, 613, 614, 221, 222, 223, 224, 225, 227, 3, 228, 229, 230, 231, 232, 234, 4, 235, 236, 238] (by decide +kernel) (by decide +kernel)
set_option maxRecDepth 20000 in
theorem wsL_in_r10 : GoodIn lw_tbl wsL_law_r10 := goodIn_r _ [5, 239, 615, 616, 617, 618, 619, 621, 37, 622, 623, 625, 38, 626, 627, 629, 39, 630, 631, 633, 40, 634, 240, 241] (by decide +kernel) (by decide +kernel)
set_option maxRecDepth 20000 in
theorem wsL_in_r11 : GoodIn lw_tbl wsL_law_r11 := goodIn_r _ [242, 243, 635, 636, 637, 638, 639, 244, 245, 246, 247, 248, 250, 6, 251, 252, 254, 7, 255, 256, 258, 8, 259, 260] (by decide +kernel) (by decide +kernel)
set_option maxRecDepth 20000 in
theorem wsL_in_r12 : GoodIn lw_tbl wsL_law_r12 := goodIn_r _ [261, 61, 262, 263, 264, 265, 640, 641, 642, 643, 644, 646, 41, 647, 648, 650, 42, 651, 652, 653, 654, 266, 267, 268] (by decide +kernel) (by decide +kernel)
set_option maxRecDepth 20000 in
theorem wsL_in_r13 : GoodIn lw_tbl wsL_law_r13 := goodIn_r _ [269, 270, 272, 9, 273, 274, 276, 10, 277, 655, 656, 657, 658, 659, 661, 43, 662, 278, 279, 280, 281, 282, 283, 284] (by decide +kernel) (by decide +kernel)
set_option maxRecDepth 20000 in
theorem wsL_in_r14 : GoodIn lw_tbl wsL_law_r14 := goodIn_r _ [285, 287, 11, 288, 289, 291, 12, 292, 293, 295, 13, 296, 301, 302, 62, 303, 297, 299, 14, 300, 663, 664, 665, 666] (by decide +kernel) (by decide +kernel)
set_option maxRecDepth 20000 in
theorem wsL_in_r15 : GoodIn lw_tbl wsL_law_r15 := goodIn_r _ [667, 668, 669, 487, 488, 489, 490, 670, 672, 44, 673, 674, 676, 45, 677, 678, 680, 46, 681, 304, 305, 306, 307, 308] (by decide +kernel) (by decide +kernel)
set_option maxRecDepth 20000 in
theorem wsL_in_r16 : GoodIn lw_tbl wsL_law_r16 := goodIn_r _ [309, 310, 311, 312, 313, 314, 682, 683, 684, 685, 686, 687, 688, 689, 690, 691, 692, 693, 694, 695, 315, 316, 317, 318] (by decide +kernel) (by decide +kernel)
set_option maxRecDepth 20000 in
theorem wsL_in_r17 : GoodIn lw_tbl wsL_law_r17 := goodIn_r _ [696, 697, 698, 699, 319, 320, 321, 322, 323, 325, 15, 326, 327, 329, 16, 330, 331, 333, 17, 334, 335, 336, 337, 700] (by decide +kernel) (by decide +kernel)
set_option maxRecDepth 20000 in
theorem wsL_in_r18 : GoodIn lw_tbl wsL_law_r18 := goodIn_r _ [701, 702, 703, 704, 706, 47, 707, 708, 710, 48, 711, 712, 714, 49, 715, 338, 339, 340, 341, 342, 344, 18, 345, 716] (by decide +kernel) (by decide +kernel)
set_option maxRecDepth 20000 in
theorem wsL_in_r19 : GoodIn lw_tbl wsL_law_r19 := goodIn_r _ [717, 718, 719, 346, 347, 348, 349, 720, 721, 722, 723, 724, 350, 351, 352, 353, 121, 123, 125, 725, 726, 727, 728, 354] (by decide +kernel) (by decide +kernel)
set_option maxRecDepth 20000 in
theorem wsL_in_r20 : GoodIn lw_tbl wsL_law_r20 := goodIn_r _ [355, 356, 357, 729, 730, 731, 732, 358, 359, 360, 361, 362, 364, 19, 365, 733, 734, 735, 736, 737, 739, 50, 740, 366] (by decide +kernel) (by decide +kernel)
set_option maxRecDepth 20000 in
theorem wsL_in_r21 : GoodIn lw_tbl wsL_law_r21 := goodIn_r _ [367, 368, 369, 741, 742, 743, 744, 370, 371, 372, 373, 745, 746, 747, 748, 374, 375, 376, 377, 749, 750, 751, 752, 378] (by decide +kernel) (by decide +kernel)
set_option maxRecDepth 20000 in
theorem wsL_in_r22 : GoodIn lw_tbl wsL_law_r22 := goodIn_r _ [379, 380, 381, 382, 383, 384, 385, 753, 754, 755, 756, 386, 387, 388, 389, 88, 390, 757, 758, 759, 760, 391, 392, 393] (by decide +kernel) (by decide +kernel)
set_option maxRecDepth 20000 in
theorem wsL_in_r23 : GoodIn lw_tbl wsL_law_r23 := goodIn_r _ [394, 86, 395, 396, 397, 398, 399, 401, 20, 402, 761, 762, 763, 764, 765, 767, 51, 768, 403, 404, 405, 406, 769, 770] (by decide +kernel) (by decide +kernel)
set_option maxRecDepth 20000 in
theorem wsL_in_r24 : GoodIn lw_tbl wsL_law_r24 := goodIn_r _ [771, 772, 773, 775, 52, 776, 407, 408, 409, 410, 412, 414, 413, 63, 411, 777, 778, 779, 780, 415, 416, 417, 418, 419] (by decide +kernel) (by decide +kernel)
set_option maxRecDepth 20000 in
theorem wsL_in_r25 : GoodIn lw_tbl wsL_law_r25 := goodIn_r _ [421, 21, 422, 423, 425, 22, 426, 427, 429, 23, 430, 431, 433, 24, 434, 781, 782, 783, 784, 785, 787, 53, 788, 499] (by decide +kernel) (by decide +kernel)
set_option maxRecDepth 20000 in
theorem wsL_in_r26 : GoodIn lw_tbl wsL_law_r26 := goodIn_r _ [435, 436, 437, 438, 439, 441, 25, 442, 443, 445, 26, 446, 789, 790, 791, 792, 447, 448, 449, 450, 793, 794, 795, 796] (by decide +kernel) (by decide +kernel)
set_option maxRecDepth 20000 in
theorem wsL_in_r27 : GoodIn lw_tbl wsL_law_r27 := goodIn_r _ [451, 452, 453, 454, 797, 798, 799, 800, 455, 456, 457, 458, 801, 802, 803, 804, 459, 460, 461, 462, 463, 465, 27, 466] (by decide +kernel) (by decide +kernel)
set_option maxRecDepth 20000 in
theorem wsL_in_r28 : GoodIn lw_tbl wsL_law_r28 := goodIn_r _ [805, 806, 807, 808, 809, 811, 54, 812] (by decide +kernel) (by decide +kernel)
set_option maxRecDepth 20000 in
theorem wsX30_inT : GoodIn lw_tbl wsX30 := goodIn_r _ [142, 144, 146, 148, 150, 152, 154, 156, 158] (by decide +kernel) (by decide +kernel)
set_option maxRecDepth 20000 in
theorem wsX40_inT : GoodIn lw_tbl wsX40 := goodIn_r _ [500, 502, 504, 506, 508, 510, 512, 514, 516, 518, 520, 522, 524, 526, 528, 530, 532, 534, 536, 538, 540, 542, 544, 546, 548, 550, 552] (by decide +kernel) (by decide +kernel)
set_option maxRecDepth 20000 in
theorem wsX20_inT : GoodIn lw_tbl wsX20 := goodIn_r _ [89, 91, 93] (by decide +kernel) (by decide +kernel)
set_option maxRecDepth 20000 in
theorem wsX00_inT : GoodIn lw_tbl wsX00 := goodIn_r _ [108, 110, 112] (by decide +kernel) (by decide +kernel)
set_option maxRecDepth 20000 in
theorem wsX10_inT : GoodIn lw_tbl wsX10 := goodIn_r _ [126, 128, 130] (by decide +kernel) (by decide +kernel)
theorem wsL_good : GoodIn lw_tbl wsL_law := (goodIn_app (goodIn_app (goodIn_app (goodIn_app (goodIn_app (goodIn_app (goodIn_app wsL_in_r1 (goodIn_app wsL_in_r2 (goodIn_app wsL_in_r3 (goodIn_app wsL_in_r4 (goodIn_app wsL_in_r5 (goodIn_app wsL_in_r6 (goodIn_app wsL_in_r7 (goodIn_app wsL_in_r8 (goodIn_app wsL_in_r9 (goodIn_app wsL_in_r10 (goodIn_app wsL_in_r11 (goodIn_app wsL_in_r12 (goodIn_app wsL_in_r13 (goodIn_app wsL_in_r14 (goodIn_app wsL_in_r15 (goodIn_app wsL_in_r16 (goodIn_app wsL_in_r17 (goodIn_app wsL_in_r18 (goodIn_app wsL_in_r19 (goodIn_app wsL_in_r20 (goodIn_app wsL_in_r21 (goodIn_app wsL_in_r22 (goodIn_app wsL_in_r23 (goodIn_app wsL_in_r24 (goodIn_app wsL_in_r25 (goodIn_app wsL_in_r26 (goodIn_app wsL_in_r27 wsL_in_r28))))))))))))))))))))))))))) wsX30_inT) wsX40_inT) wsX20_inT) wsX00_inT) wsX10_inT) (fun _ h => absurd h List.not_mem_nil))
theorem wsL_law_in : ∀ w ∈ wsL_law, w ∈ lw_tbl := fun w h => (wsL_good w h).1
theorem inlX0 : ∀ w ∈ wsX00, w ∈ wsL_law := fun _ h => List.mem_append_left _ (List.mem_append_left _ (List.mem_append_right _ h))
theorem inX0 : ∀ w ∈ wsX00, w ∈ lw_tbl := fun w h => wsL_law_in w (inlX0 w h)
theorem inlX1 : ∀ w ∈ wsX10, w ∈ wsL_law := fun _ h => List.mem_append_left _ (List.mem_append_right _ h)
theorem inX1 : ∀ w ∈ wsX10, w ∈ lw_tbl := fun w h => wsL_law_in w (inlX1 w h)
theorem inlX2 : ∀ w ∈ wsX20, w ∈ wsL_law := fun _ h => List.mem_append_left _ (List.mem_append_left _ (List.mem_append_left _ (List.mem_append_right _ h)))
theorem inX2 : ∀ w ∈ wsX20, w ∈ lw_tbl := fun w h => wsL_law_in w (inlX2 w h)
theorem inlX3 : ∀ w ∈ wsX30, w ∈ wsL_law := fun _ h => List.mem_append_left _ (List.mem_append_left _ (List.mem_append_left _ (List.mem_append_left _ (List.mem_append_left _ (List.mem_append_right _ h)))))
theorem inX3 : ∀ w ∈ wsX30, w ∈ lw_tbl := fun w h => wsL_law_in w (inlX3 w h)
theorem inlX4 : ∀ w ∈ wsX40, w ∈ wsL_law := fun _ h => List.mem_append_left _ (List.mem_append_left _ (List.mem_append_left _ (List.mem_append_left _ (List.mem_append_right _ h))))
theorem inX4 : ∀ w ∈ wsX40, w ∈ lw_tbl := fun w h => wsL_law_in w (inlX4 w h)
theorem inJ6 : ∀ w ∈ wsJ60, w ∈ lw_tbl := by decide +kernel
abbrev vwCl : List vw_C := [(RX0, TX0, 3), (RX1, TX1, 3), (RX2, TX2, 3), (RX3, TX3, 9), (RX4, TX4, 27)]
end
section
theorem inJ9 : ∀ w ∈ wsJ90, w ∈ lw_tbl := by decide +kernel
theorem inJ10 : ∀ w ∈ wsJ100, w ∈ lw_tbl := by decide +kernel
theorem dX0_init_0 : decode cX0_init 0 = .ok (.aload_n 0, 1) := by decide +kernel
theorem dX0_init_1 : decode cX0_init 1 = .ok (.invokespecial 3, 3) := by decide +kernel
theorem dX0_init_4 : decode cX0_init 4 = .ok (.aload_n 0, 1) := by decide +kernel
theorem dX0_init_5 : decode cX0_init 5 = .ok (.iconst 0, 1) := by decide +kernel
theorem dX0_init_6 : decode cX0_init 6 = .ok (.putfield 9, 3) := by decide +kernel
theorem dX0_init_9 : decode cX0_init 9 = .ok (.aload_n 0, 1) := by decide +kernel
theorem dX0_init_10 : decode cX0_init 10 = .ok (.iconst 0, 1) := by decide +kernel
theorem dX0_init_11 : decode cX0_init 11 = .ok (.putfield 15, 3) := by decide +kernel
theorem dX0_init_14 : decode cX0_init 14 = .ok (.aload_n 0, 1) := by decide +kernel
theorem dX0_init_15 : decode cX0_init 15 = .ok (.iconst 0, 1) := by decide +kernel
theorem dX0_init_16 : decode cX0_init 16 = .ok (.putfield 18, 3) := by decide +kernel
theorem dX0_init_19 : decode cX0_init 19 = .ok (.return_, 1) := by decide +kernel
theorem dX1_init_0 : decode cX1_init 0 = .ok (.aload_n 0, 1) := by decide +kernel
theorem dX1_init_1 : decode cX1_init 1 = .ok (.invokespecial 1, 3) := by decide +kernel
theorem dX1_init_4 : decode cX1_init 4 = .ok (.aload_n 0, 1) := by decide +kernel
theorem dX1_init_5 : decode cX1_init 5 = .ok (.iconst 0, 1) := by decide +kernel
theorem dX1_init_6 : decode cX1_init 6 = .ok (.putfield 7, 3) := by decide +kernel
theorem dX1_init_9 : decode cX1_init 9 = .ok (.aload_n 0, 1) := by decide +kernel
theorem dX1_init_10 : decode cX1_init 10 = .ok (.iconst 0, 1) := by decide +kernel
theorem dX1_init_11 : decode cX1_init 11 = .ok (.putfield 13, 3) := by decide +kernel
theorem dX1_init_14 : decode cX1_init 14 = .ok (.aload_n 0, 1) := by decide +kernel
theorem dX1_init_15 : decode cX1_init 15 = .ok (.iconst 0, 1) := by decide +kernel
theorem dX1_init_16 : decode cX1_init 16 = .ok (.putfield 16, 3) := by decide +kernel
theorem dX1_init_19 : decode cX1_init 19 = .ok (.return_, 1) := by decide +kernel
theorem dX2_init_0 : decode cX2_init 0 = .ok (.aload_n 0, 1) := by decide +kernel
theorem dX2_init_1 : decode cX2_init 1 = .ok (.invokespecial 3, 3) := by decide +kernel
theorem dX2_init_4 : decode cX2_init 4 = .ok (.aload_n 0, 1) := by decide +kernel
theorem dX2_init_5 : decode cX2_init 5 = .ok (.bipush 60, 2) := by decide +kernel
theorem dX2_init_7 : decode cX2_init 7 = .ok (.newarray .int, 2) := by decide +kernel
theorem dX2_init_9 : decode cX2_init 9 = .ok (.putfield 9, 3) := by decide +kernel
theorem dX2_init_12 : decode cX2_init 12 = .ok (.aload_n 0, 1) := by decide +kernel
theorem dX2_init_13 : decode cX2_init 13 = .ok (.iconst 0, 1) := by decide +kernel
theorem dX2_init_14 : decode cX2_init 14 = .ok (.putfield 15, 3) := by decide +kernel
theorem dX2_init_17 : decode cX2_init 17 = .ok (.aload_n 0, 1) := by decide +kernel
theorem dX2_init_18 : decode cX2_init 18 = .ok (.iconst (-1), 1) := by decide +kernel
theorem dX2_init_19 : decode cX2_init 19 = .ok (.putfield 19, 3) := by decide +kernel
theorem dX2_init_22 : decode cX2_init 22 = .ok (.return_, 1) := by decide +kernel
theorem dX2_isEmpty_0 : decode cX2_isEmpty 0 = .ok (.aload_n 0, 1) := by decide +kernel
theorem dX2_isEmpty_1 : decode cX2_isEmpty 1 = .ok (.getfield 19, 3) := by decide +kernel
theorem dX2_isEmpty_4 : decode cX2_isEmpty 4 = .ok (.iconst (-1), 1) := by decide +kernel
theorem dX2_isEmpty_5 : decode cX2_isEmpty 5 = .ok (.if_icmp .ne 7, 3) := by decide +kernel
theorem dX2_isEmpty_8 : decode cX2_isEmpty 8 = .ok (.iconst 1, 1) := by decide +kernel
theorem dX2_isEmpty_9 : decode cX2_isEmpty 9 = .ok (.goto 4, 3) := by decide +kernel
theorem dX2_isEmpty_12 : decode cX2_isEmpty 12 = .ok (.iconst 0, 1) := by decide +kernel
theorem dX2_isEmpty_13 : decode cX2_isEmpty 13 = .ok (.ireturn, 1) := by decide +kernel
theorem dX2_makeRow_0 : decode cX2_makeRow 0 = .ok (.iconst 0, 1) := by decide +kernel
theorem dX2_makeRow_1 : decode cX2_makeRow 1 = .ok (.istore_n 3, 1) := by decide +kernel
theorem dX2_makeRow_2 : decode cX2_makeRow 2 = .ok (.iload_n 3, 1) := by decide +kernel
theorem dX2_makeRow_3 : decode cX2_makeRow 3 = .ok (.bipush 60, 2) := by decide +kernel
theorem dX2_makeRow_5 : decode cX2_makeRow 5 = .ok (.if_icmp .ge 16, 3) := by decide +kernel
theorem dX2_makeRow_8 : decode cX2_makeRow 8 = .ok (.aload_n 0, 1) := by decide +kernel
theorem dX2_makeRow_9 : decode cX2_makeRow 9 = .ok (.getfield 9, 3) := by decide +kernel
theorem dX2_makeRow_12 : decode cX2_makeRow 12 = .ok (.iload_n 3, 1) := by decide +kernel
theorem dX2_makeRow_13 : decode cX2_makeRow 13 = .ok (.iconst 0, 1) := by decide +kernel
theorem dX2_makeRow_14 : decode cX2_makeRow 14 = .ok (.iastore, 1) := by decide +kernel
theorem dX2_makeRow_15 : decode cX2_makeRow 15 = .ok (.iinc 3 1, 3) := by decide +kernel
theorem dX2_makeRow_18 : decode cX2_makeRow 18 = .ok (.goto (-16), 3) := by decide +kernel
theorem dX2_makeRow_21 : decode cX2_makeRow 21 = .ok (.aload_n 0, 1) := by decide +kernel
theorem dX2_makeRow_22 : decode cX2_makeRow 22 = .ok (.iload_n 1, 1) := by decide +kernel
theorem dX2_makeRow_23 : decode cX2_makeRow 23 = .ok (.putfield 15, 3) := by decide +kernel
theorem dX2_makeRow_26 : decode cX2_makeRow 26 = .ok (.aload_n 0, 1) := by decide +kernel
theorem dX2_makeRow_27 : decode cX2_makeRow 27 = .ok (.iload_n 2, 1) := by decide +kernel
theorem dX2_makeRow_28 : decode cX2_makeRow 28 = .ok (.putfield 19, 3) := by decide +kernel
theorem dX2_makeRow_31 : decode cX2_makeRow 31 = .ok (.return_, 1) := by decide +kernel
theorem dX2_reaches_0 : decode cX2_reaches 0 = .ok (.iload_n 2, 1) := by decide +kernel
theorem dX2_reaches_1 : decode cX2_reaches 1 = .ok (.ifCond .lt 21, 3) := by decide +kernel
theorem dX2_reaches_4 : decode cX2_reaches 4 = .ok (.iload_n 1, 1) := by decide +kernel
theorem dX2_reaches_5 : decode cX2_reaches 5 = .ok (.ifCond .lt 17, 3) := by decide +kernel
theorem dX2_reaches_8 : decode cX2_reaches 8 = .ok (.iload_n 1, 1) := by decide +kernel
theorem dX2_reaches_9 : decode cX2_reaches 9 = .ok (.aload_n 0, 1) := by decide +kernel
theorem dX2_reaches_10 : decode cX2_reaches 10 = .ok (.getfield 19, 3) := by decide +kernel
theorem dX2_reaches_13 : decode cX2_reaches 13 = .ok (.iload_n 2, 1) := by decide +kernel
theorem dX2_reaches_14 : decode cX2_reaches 14 = .ok (.isub, 1) := by decide +kernel
theorem dX2_reaches_15 : decode cX2_reaches 15 = .ok (.if_icmp .gt 7, 3) := by decide +kernel
theorem dX2_reaches_18 : decode cX2_reaches 18 = .ok (.iconst 1, 1) := by decide +kernel
theorem dX2_reaches_19 : decode cX2_reaches 19 = .ok (.goto 4, 3) := by decide +kernel
theorem dX2_reaches_22 : decode cX2_reaches 22 = .ok (.iconst 0, 1) := by decide +kernel
theorem dX2_reaches_23 : decode cX2_reaches 23 = .ok (.ireturn, 1) := by decide +kernel
set_option maxRecDepth 20000 in
theorem ggX2_flaw_X2_isEmpty : GoodIn wsX2_flaw wsX2_isEmpty := goodIn_r _ [6, 7, 12, 13, 14] (by decide +kernel) (by decide +kernel)
set_option maxRecDepth 20000 in
theorem gX2_flaw_X2_isEmpty : GoodIn wsX2_flaw (wsV RX2 22 RX2 yX2_isEmpty wsX2_isEmpty) := goodIn_app (goodIn_of _ (by decide +kernel)) ggX2_flaw_X2_isEmpty
set_option maxRecDepth 20000 in
theorem ggX2_flaw_X2_reaches : GoodIn wsX2_flaw wsX2_reaches := goodIn_r _ [11, 7, 12, 13, 14] (by decide +kernel) (by decide +kernel)
set_option maxRecDepth 20000 in
theorem gX2_flaw_X2_reaches : GoodIn wsX2_flaw (wsV RX2 26 RX2 yX2_reaches wsX2_reaches) := goodIn_app (goodIn_of _ (by decide +kernel)) ggX2_flaw_X2_reaches
theorem dX2_flaw_0 : decode cX2_flaw 0 = .ok (.aload_n 0, 1) := by decide +kernel
theorem dX2_flaw_1 : decode cX2_flaw 1 = .ok (.invokevirtual 22, 3) := by decide +kernel
theorem dX2_flaw_4 : decode cX2_flaw 4 = .ok (.ifCond .eq 5, 3) := by decide +kernel
theorem dX2_flaw_7 : decode cX2_flaw 7 = .ok (.iconst 1, 1) := by decide +kernel
theorem dX2_flaw_8 : decode cX2_flaw 8 = .ok (.ireturn, 1) := by decide +kernel
theorem dX2_flaw_9 : decode cX2_flaw 9 = .ok (.iload_n 1, 1) := by decide +kernel
theorem dX2_flaw_10 : decode cX2_flaw 10 = .ok (.aload_n 0, 1) := by decide +kernel
theorem dX2_flaw_11 : decode cX2_flaw 11 = .ok (.getfield 15, 3) := by decide +kernel
theorem dX2_flaw_14 : decode cX2_flaw 14 = .ok (.if_icmp .eq 5, 3) := by decide +kernel
theorem dX2_flaw_17 : decode cX2_flaw 17 = .ok (.iconst 2, 1) := by decide +kernel
theorem dX2_flaw_18 : decode cX2_flaw 18 = .ok (.ireturn, 1) := by decide +kernel
theorem dX2_flaw_19 : decode cX2_flaw 19 = .ok (.iload_n 3, 1) := by decide +kernel
theorem dX2_flaw_20 : decode cX2_flaw 20 = .ok (.ifCond .ge 5, 3) := by decide +kernel
theorem dX2_flaw_23 : decode cX2_flaw 23 = .ok (.iconst 4, 1) := by decide +kernel
theorem dX2_flaw_24 : decode cX2_flaw 24 = .ok (.ireturn, 1) := by decide +kernel
theorem dX2_flaw_25 : decode cX2_flaw 25 = .ok (.aload_n 0, 1) := by decide +kernel
theorem dX2_flaw_26 : decode cX2_flaw 26 = .ok (.iload_n 2, 1) := by decide +kernel
theorem dX2_flaw_27 : decode cX2_flaw 27 = .ok (.iload_n 3, 1) := by decide +kernel
theorem dX2_flaw_28 : decode cX2_flaw 28 = .ok (.invokevirtual 26, 3) := by decide +kernel
theorem dX2_flaw_31 : decode cX2_flaw 31 = .ok (.ifCond .eq 7, 3) := by decide +kernel
theorem dX2_flaw_34 : decode cX2_flaw 34 = .ok (.iconst 0, 1) := by decide +kernel
theorem dX2_flaw_35 : decode cX2_flaw 35 = .ok (.goto 4, 3) := by decide +kernel
theorem dX2_flaw_38 : decode cX2_flaw 38 = .ok (.iconst 3, 1) := by decide +kernel
theorem dX2_flaw_39 : decode cX2_flaw 39 = .ok (.ireturn, 1) := by decide +kernel
set_option maxRecDepth 20000 in
theorem ggX2_store_X2_reaches : GoodIn wsX2_store wsX2_reaches := goodIn_r _ [6, 7, 13, 14, 15] (by decide +kernel) (by decide +kernel)
set_option maxRecDepth 20000 in
theorem gX2_store_X2_reaches : GoodIn wsX2_store (wsV RX2 26 RX2 yX2_reaches wsX2_reaches) := goodIn_app (goodIn_of _ (by decide +kernel)) ggX2_store_X2_reaches
set_option maxRecDepth 20000 in
theorem ggX2_store_X2_cut : GoodIn wsX2_store wsX2_cut := goodIn_r _ [11, 12, 13, 14, 15] (by decide +kernel) (by decide +kernel)
set_option maxRecDepth 20000 in
theorem gX2_store_X2_cut : GoodIn wsX2_store (wsV RX2 30 RX2 yX2_cut wsX2_cut) := goodIn_app (goodIn_of _ (by decide +kernel)) ggX2_store_X2_cut
theorem dX2_store_0 : decode cX2_store 0 = .ok (.aload_n 0, 1) := by decide +kernel
theorem dX2_store_1 : decode cX2_store 1 = .ok (.iload_n 1, 1) := by decide +kernel
theorem dX2_store_2 : decode cX2_store 2 = .ok (.iconst 1, 1) := by decide +kernel
theorem dX2_store_3 : decode cX2_store 3 = .ok (.invokevirtual 26, 3) := by decide +kernel
theorem dX2_store_6 : decode cX2_store 6 = .ok (.ifCond .eq 14, 3) := by decide +kernel
theorem dX2_store_9 : decode cX2_store 9 = .ok (.aload_n 0, 1) := by decide +kernel
theorem dX2_store_10 : decode cX2_store 10 = .ok (.getfield 9, 3) := by decide +kernel
theorem dX2_store_13 : decode cX2_store 13 = .ok (.iload_n 1, 1) := by decide +kernel
theorem dX2_store_14 : decode cX2_store 14 = .ok (.aload_n 0, 1) := by decide +kernel
theorem dX2_store_15 : decode cX2_store 15 = .ok (.iload_n 2, 1) := by decide +kernel
theorem dX2_store_16 : decode cX2_store 16 = .ok (.invokevirtual 30, 3) := by decide +kernel
theorem dX2_store_19 : decode cX2_store 19 = .ok (.iastore, 1) := by decide +kernel
theorem dX2_store_20 : decode cX2_store 20 = .ok (.return_, 1) := by decide +kernel
theorem dX2_cut_0 : decode cX2_cut 0 = .ok (.aload_n 0, 1) := by decide +kernel
theorem dX2_cut_1 : decode cX2_cut 1 = .ok (.getfield 15, 3) := by decide +kernel
theorem dX2_cut_4 : decode cX2_cut 4 = .ok (.ifCond .ne 6, 3) := by decide +kernel
theorem dX2_cut_7 : decode cX2_cut 7 = .ok (.iload_n 1, 1) := by decide +kernel
theorem dX2_cut_8 : decode cX2_cut 8 = .ok (.i2b, 1) := by decide +kernel
theorem dX2_cut_9 : decode cX2_cut 9 = .ok (.ireturn, 1) := by decide +kernel
theorem dX2_cut_10 : decode cX2_cut 10 = .ok (.aload_n 0, 1) := by decide +kernel
theorem dX2_cut_11 : decode cX2_cut 11 = .ok (.getfield 15, 3) := by decide +kernel
theorem dX2_cut_14 : decode cX2_cut 14 = .ok (.iconst 1, 1) := by decide +kernel
theorem dX2_cut_15 : decode cX2_cut 15 = .ok (.if_icmp .ne 8, 3) := by decide +kernel
theorem dX2_cut_18 : decode cX2_cut 18 = .ok (.iload_n 1, 1) := by decide +kernel
theorem dX2_cut_19 : decode cX2_cut 19 = .ok (.i2s, 1) := by decide +kernel
theorem dX2_cut_20 : decode cX2_cut 20 = .ok (.goto 4, 3) := by decide +kernel
theorem dX2_cut_23 : decode cX2_cut 23 = .ok (.iload_n 1, 1) := by decide +kernel
theorem dX2_cut_24 : decode cX2_cut 24 = .ok (.ireturn, 1) := by decide +kernel
set_option maxRecDepth 20000 in
theorem ggX3_init_X2_init : GoodIn wsX3_init wsX2_init := goodIn_r _ [24, 25, 2, 3, 6, 26, 27, 28, 50, 51, 52] (by decide +kernel) (by decide +kernel)
set_option maxRecDepth 20000 in
theorem gX3_init_X2_init_n49 : GoodIn wsX3_init (wsX2_init) := ggX3_init_X2_init
set_option maxRecDepth 20000 in
theorem ggX3_init_X0_init : GoodIn wsX3_init wsX0_init := goodIn_r _ [30, 31, 2, 3, 32, 33, 34, 53, 54, 55] (by decide +kernel) (by decide +kernel)
set_option maxRecDepth 20000 in
theorem gX3_init_X0_init_n50 : GoodIn wsX3_init (wsX0_init) := ggX3_init_X0_init
set_option maxRecDepth 20000 in
theorem ggX3_init_X1_init : GoodIn wsX3_init wsX1_init := goodIn_r _ [36, 37, 2, 3, 38, 39, 40, 56, 57, 58] (by decide +kernel) (by decide +kernel)
set_option maxRecDepth 20000 in
theorem gX3_init_X1_init_n51 : GoodIn wsX3_init (wsX1_init) := ggX3_init_X1_init
theorem dX3_init_0 : decode cX3_init 0 = .ok (.aload_n 0, 1) := by decide +kernel
theorem dX3_init_1 : decode cX3_init 1 = .ok (.invokespecial 3, 3) := by decide +kernel
theorem dX3_init_4 : decode cX3_init 4 = .ok (.aload_n 0, 1) := by decide +kernel
theorem dX3_init_5 : decode cX3_init 5 = .ok (.iconst 4, 1) := by decide +kernel
theorem dX3_init_6 : decode cX3_init 6 = .ok (.anewarray 11, 3) := by decide +kernel
theorem dX3_init_9 : decode cX3_init 9 = .ok (.putfield 13, 3) := by decide +kernel
theorem dX3_init_12 : decode cX3_init 12 = .ok (.aload_n 0, 1) := by decide +kernel
theorem dX3_init_13 : decode cX3_init 13 = .ok (.iconst 5, 1) := by decide +kernel
theorem dX3_init_14 : decode cX3_init 14 = .ok (.newarray .int, 2) := by decide +kernel
theorem dX3_init_16 : decode cX3_init 16 = .ok (.putfield 17, 3) := by decide +kernel
theorem dX3_init_19 : decode cX3_init 19 = .ok (.aload_n 0, 1) := by decide +kernel
theorem dX3_init_20 : decode cX3_init 20 = .ok (.iconst 4, 1) := by decide +kernel
theorem dX3_init_21 : decode cX3_init 21 = .ok (.anewarray 21, 3) := by decide +kernel
theorem dX3_init_24 : decode cX3_init 24 = .ok (.putfield 23, 3) := by decide +kernel
theorem dX3_init_27 : decode cX3_init 27 = .ok (.aload_n 0, 1) := by decide +kernel
theorem dX3_init_28 : decode cX3_init 28 = .ok (.bipush 8, 2) := by decide +kernel
theorem dX3_init_30 : decode cX3_init 30 = .ok (.anewarray 27, 3) := by decide +kernel
theorem dX3_init_33 : decode cX3_init 33 = .ok (.putfield 29, 3) := by decide +kernel
theorem dX3_init_36 : decode cX3_init 36 = .ok (.aload_n 0, 1) := by decide +kernel
theorem dX3_init_37 : decode cX3_init 37 = .ok (.iconst 0, 1) := by decide +kernel
theorem dX3_init_38 : decode cX3_init 38 = .ok (.putfield 33, 3) := by decide +kernel
theorem dX3_init_41 : decode cX3_init 41 = .ok (.aload_n 0, 1) := by decide +kernel
theorem dX3_init_42 : decode cX3_init 42 = .ok (.iconst 0, 1) := by decide +kernel
theorem dX3_init_43 : decode cX3_init 43 = .ok (.putfield 37, 3) := by decide +kernel
theorem dX3_init_46 : decode cX3_init 46 = .ok (.aload_n 0, 1) := by decide +kernel
theorem dX3_init_47 : decode cX3_init 47 = .ok (.iconst 0, 1) := by decide +kernel
theorem dX3_init_48 : decode cX3_init 48 = .ok (.putfield 40, 3) := by decide +kernel
theorem dX3_init_51 : decode cX3_init 51 = .ok (.aload_n 0, 1) := by decide +kernel
theorem dX3_init_52 : decode cX3_init 52 = .ok (.iconst 0, 1) := by decide +kernel
theorem dX3_init_53 : decode cX3_init 53 = .ok (.putfield 43, 3) := by decide +kernel
theorem dX3_init_56 : decode cX3_init 56 = .ok (.aload_n 0, 1) := by decide +kernel
theorem dX3_init_57 : decode cX3_init 57 = .ok (.iconst 0, 1) := by decide +kernel
theorem dX3_init_58 : decode cX3_init 58 = .ok (.putfield 46, 3) := by decide +kernel
theorem dX3_init_61 : decode cX3_init 61 = .ok (.iconst 0, 1) := by decide +kernel
theorem dX3_init_62 : decode cX3_init 62 = .ok (.istore_n 1, 1) := by decide +kernel
theorem dX3_init_63 : decode cX3_init 63 = .ok (.iload_n 1, 1) := by decide +kernel
theorem dX3_init_64 : decode cX3_init 64 = .ok (.iconst 4, 1) := by decide +kernel
theorem dX3_init_65 : decode cX3_init 65 = .ok (.if_icmp .ge 22, 3) := by decide +kernel
theorem dX3_init_68 : decode cX3_init 68 = .ok (.aload_n 0, 1) := by decide +kernel
theorem dX3_init_69 : decode cX3_init 69 = .ok (.getfield 13, 3) := by decide +kernel
theorem dX3_init_72 : decode cX3_init 72 = .ok (.iload_n 1, 1) := by decide +kernel
theorem dX3_init_73 : decode cX3_init 73 = .ok (.new 11, 3) := by decide +kernel
theorem dX3_init_76 : decode cX3_init 76 = .ok (.dup, 1) := by decide +kernel
theorem dX3_init_77 : decode cX3_init 77 = .ok (.invokespecial 49, 3) := by decide +kernel
theorem dX3_init_80 : decode cX3_init 80 = .ok (.aastore, 1) := by decide +kernel
theorem dX3_init_81 : decode cX3_init 81 = .ok (.iinc 1 1, 3) := by decide +kernel
theorem dX3_init_84 : decode cX3_init 84 = .ok (.goto (-21), 3) := by decide +kernel
theorem dX3_init_87 : decode cX3_init 87 = .ok (.iconst 0, 1) := by decide +kernel
theorem dX3_init_88 : decode cX3_init 88 = .ok (.istore_n 1, 1) := by decide +kernel
theorem dX3_init_89 : decode cX3_init 89 = .ok (.iload_n 1, 1) := by decide +kernel
theorem dX3_init_90 : decode cX3_init 90 = .ok (.iconst 4, 1) := by decide +kernel
theorem dX3_init_91 : decode cX3_init 91 = .ok (.if_icmp .ge 22, 3) := by decide +kernel
theorem dX3_init_94 : decode cX3_init 94 = .ok (.aload_n 0, 1) := by decide +kernel
theorem dX3_init_95 : decode cX3_init 95 = .ok (.getfield 23, 3) := by decide +kernel
theorem dX3_init_98 : decode cX3_init 98 = .ok (.iload_n 1, 1) := by decide +kernel
theorem dX3_init_99 : decode cX3_init 99 = .ok (.new 21, 3) := by decide +kernel
theorem dX3_init_102 : decode cX3_init 102 = .ok (.dup, 1) := by decide +kernel
theorem dX3_init_103 : decode cX3_init 103 = .ok (.invokespecial 50, 3) := by decide +kernel
theorem dX3_init_106 : decode cX3_init 106 = .ok (.aastore, 1) := by decide +kernel
theorem dX3_init_107 : decode cX3_init 107 = .ok (.iinc 1 1, 3) := by decide +kernel
theorem dX3_init_110 : decode cX3_init 110 = .ok (.goto (-21), 3) := by decide +kernel
theorem dX3_init_113 : decode cX3_init 113 = .ok (.iconst 0, 1) := by decide +kernel
theorem dX3_init_114 : decode cX3_init 114 = .ok (.istore_n 1, 1) := by decide +kernel
theorem dX3_init_115 : decode cX3_init 115 = .ok (.iload_n 1, 1) := by decide +kernel
theorem dX3_init_116 : decode cX3_init 116 = .ok (.bipush 8, 2) := by decide +kernel
theorem dX3_init_118 : decode cX3_init 118 = .ok (.if_icmp .ge 22, 3) := by decide +kernel
theorem dX3_init_121 : decode cX3_init 121 = .ok (.aload_n 0, 1) := by decide +kernel
theorem dX3_init_122 : decode cX3_init 122 = .ok (.getfield 29, 3) := by decide +kernel
theorem dX3_init_125 : decode cX3_init 125 = .ok (.iload_n 1, 1) := by decide +kernel
theorem dX3_init_126 : decode cX3_init 126 = .ok (.new 27, 3) := by decide +kernel
theorem dX3_init_129 : decode cX3_init 129 = .ok (.dup, 1) := by decide +kernel
theorem dX3_init_130 : decode cX3_init 130 = .ok (.invokespecial 51, 3) := by decide +kernel
theorem dX3_init_133 : decode cX3_init 133 = .ok (.aastore, 1) := by decide +kernel
theorem dX3_init_134 : decode cX3_init 134 = .ok (.iinc 1 1, 3) := by decide +kernel
theorem dX3_init_137 : decode cX3_init 137 = .ok (.goto (-22), 3) := by decide +kernel
theorem dX3_init_140 : decode cX3_init 140 = .ok (.return_, 1) := by decide +kernel
set_option maxRecDepth 20000 in
theorem ggX3_office_X3_isSheet : GoodIn wsX3_office wsX3_isSheet := goodIn_r _ [8] (by decide +kernel) (by decide +kernel)
set_option maxRecDepth 20000 in
theorem gX3_office_X3_isSheet : GoodIn wsX3_office (va_wsS RX3 52 yX3_isSheet wsX3_isSheet) := goodIn_app (goodIn_of _ (by decide +kernel)) ggX3_office_X3_isSheet
set_option maxRecDepth 20000 in
theorem ggX3_office_X3_isLane : GoodIn wsX3_office wsX3_isLane := goodIn_r _ [11] (by decide +kernel) (by decide +kernel)
set_option maxRecDepth 20000 in
theorem gX3_office_X3_isLane : GoodIn wsX3_office (va_wsS RX3 56 yX3_isLane wsX3_isLane) := goodIn_app (goodIn_of _ (by decide +kernel)) ggX3_office_X3_isLane
set_option maxRecDepth 20000 in
theorem ggX3_office_X2_flaw : GoodIn wsX3_office wsX2_flaw := goodIn_r _ [16, 17, 18, 19, 20, 15, 21, 22, 23, 24, 25, 26, 66, 67, 68] (by decide +kernel) (by decide +kernel)
set_option maxRecDepth 20000 in
theorem gX3_office_X2_flaw : GoodIn wsX3_office (wsV RX3 59 RX2 yX2_flaw wsX2_flaw) := goodIn_app (goodIn_of _ (by decide +kernel)) ggX3_office_X2_flaw
set_option maxRecDepth 20000 in
theorem ggX3_office_X3_faulty : GoodIn wsX3_office wsX3_faulty := goodIn_r _ [30, 1, 57, 58, 59, 60, 61, 62, 63, 64, 65] (by decide +kernel) (by decide +kernel)
set_option maxRecDepth 20000 in
theorem gX3_office_X3_faulty : GoodIn wsX3_office (wsV RX3 63 RX3 yX3_faulty wsX3_faulty) := goodIn_app (goodIn_of _ (by decide +kernel)) ggX3_office_X3_faulty
set_option maxRecDepth 20000 in
theorem ggX3_office_X3_firstFaultPlace : GoodIn wsX3_office wsX3_firstFaultPlace := goodIn_r _ [33, 34, 35, 7, 36, 37, 38, 39, 40, 41, 42] (by decide +kernel) (by decide +kernel)
set_option maxRecDepth 20000 in
theorem gX3_office_X3_firstFaultPlace : GoodIn wsX3_office (va_wsS RX3 70 yX3_firstFaultPlace wsX3_firstFaultPlace) := goodIn_app (goodIn_of _ (by decide +kernel)) ggX3_office_X3_firstFaultPlace
set_option maxRecDepth 20000 in
theorem ggX3_office_X3_takeOffice : GoodIn wsX3_office wsX3_takeOffice := goodIn_r _ [46, 47, 48, 4, 49, 50, 51, 52, 53, 54, 55, 7, 56, 40, 41, 42, 57, 58, 59, 60, 61, 62, 63, 64, 65, 69, 70, 71] (by decide +kernel) (by decide +kernel)
set_option maxRecDepth 20000 in
theorem gX3_office_X3_takeOffice : GoodIn wsX3_office (wsV RX3 74 RX3 yX3_takeOffice wsX3_takeOffice) := goodIn_app (goodIn_of _ (by decide +kernel)) ggX3_office_X3_takeOffice
theorem dX3_office_0 : decode cX3_office 0 = .ok (.aload_n 0, 1) := by decide +kernel
theorem dX3_office_1 : decode cX3_office 1 = .ok (.iconst 0, 1) := by decide +kernel
theorem dX3_office_2 : decode cX3_office 2 = .ok (.putfield 46, 3) := by decide +kernel
theorem dX3_office_5 : decode cX3_office 5 = .ok (.iload_n 1, 1) := by decide +kernel
theorem dX3_office_6 : decode cX3_office 6 = .ok (.invokestatic 52, 3) := by decide +kernel
theorem dX3_office_9 : decode cX3_office 9 = .ok (.ifCond .ne 5, 3) := by decide +kernel
theorem dX3_office_12 : decode cX3_office 12 = .ok (.iconst (-1), 1) := by decide +kernel
theorem dX3_office_13 : decode cX3_office 13 = .ok (.ireturn, 1) := by decide +kernel
theorem dX3_office_14 : decode cX3_office 14 = .ok (.iload_n 2, 1) := by decide +kernel
theorem dX3_office_15 : decode cX3_office 15 = .ok (.invokestatic 56, 3) := by decide +kernel
theorem dX3_office_18 : decode cX3_office 18 = .ok (.ifCond .ne 6, 3) := by decide +kernel
theorem dX3_office_21 : decode cX3_office 21 = .ok (.bipush (-2), 2) := by decide +kernel
theorem dX3_office_23 : decode cX3_office 23 = .ok (.ireturn, 1) := by decide +kernel
theorem dX3_office_24 : decode cX3_office 24 = .ok (.aload_n 0, 1) := by decide +kernel
theorem dX3_office_25 : decode cX3_office 25 = .ok (.getfield 13, 3) := by decide +kernel
theorem dX3_office_28 : decode cX3_office 28 = .ok (.iload_n 1, 1) := by decide +kernel
theorem dX3_office_29 : decode cX3_office 29 = .ok (.aaload, 1) := by decide +kernel
theorem dX3_office_30 : decode cX3_office 30 = .ok (.iload_n 2, 1) := by decide +kernel
theorem dX3_office_31 : decode cX3_office 31 = .ok (.iload_n 3, 1) := by decide +kernel
theorem dX3_office_32 : decode cX3_office 32 = .ok (.iload 4, 2) := by decide +kernel
theorem dX3_office_34 : decode cX3_office 34 = .ok (.invokevirtual 59, 3) := by decide +kernel
theorem dX3_office_37 : decode cX3_office 37 = .ok (.istore 5, 2) := by decide +kernel
theorem dX3_office_39 : decode cX3_office 39 = .ok (.iload 5, 2) := by decide +kernel
theorem dX3_office_41 : decode cX3_office 41 = .ok (.ifCond .eq 10, 3) := by decide +kernel
theorem dX3_office_44 : decode cX3_office 44 = .ok (.aload_n 0, 1) := by decide +kernel
theorem dX3_office_45 : decode cX3_office 45 = .ok (.iload 5, 2) := by decide +kernel
theorem dX3_office_47 : decode cX3_office 47 = .ok (.invokevirtual 63, 3) := by decide +kernel
theorem dX3_office_50 : decode cX3_office 50 = .ok (.ireturn, 1) := by decide +kernel
theorem dX3_office_51 : decode cX3_office 51 = .ok (.aload_n 0, 1) := by decide +kernel
theorem dX3_office_52 : decode cX3_office 52 = .ok (.getfield 13, 3) := by decide +kernel
theorem dX3_office_55 : decode cX3_office 55 = .ok (.iload_n 1, 1) := by decide +kernel
theorem dX3_office_56 : decode cX3_office 56 = .ok (.aaload, 1) := by decide +kernel
theorem dX3_office_57 : decode cX3_office 57 = .ok (.getfield 67, 3) := by decide +kernel
theorem dX3_office_60 : decode cX3_office 60 = .ok (.astore 6, 2) := by decide +kernel
theorem dX3_office_62 : decode cX3_office 62 = .ok (.iload_n 3, 1) := by decide +kernel
theorem dX3_office_63 : decode cX3_office 63 = .ok (.iload 4, 2) := by decide +kernel
theorem dX3_office_65 : decode cX3_office 65 = .ok (.iadd, 1) := by decide +kernel
theorem dX3_office_66 : decode cX3_office 66 = .ok (.istore 7, 2) := by decide +kernel
theorem dX3_office_68 : decode cX3_office 68 = .ok (.aload 6, 2) := by decide +kernel
theorem dX3_office_70 : decode cX3_office 70 = .ok (.iload_n 3, 1) := by decide +kernel
theorem dX3_office_71 : decode cX3_office 71 = .ok (.iload 7, 2) := by decide +kernel
theorem dX3_office_73 : decode cX3_office 73 = .ok (.invokestatic 70, 3) := by decide +kernel
theorem dX3_office_76 : decode cX3_office 76 = .ok (.istore 8, 2) := by decide +kernel
theorem dX3_office_78 : decode cX3_office 78 = .ok (.iload 8, 2) := by decide +kernel
theorem dX3_office_80 : decode cX3_office 80 = .ok (.bipush (-9), 2) := by decide +kernel
theorem dX3_office_82 : decode cX3_office 82 = .ok (.if_icmp .eq 11, 3) := by decide +kernel
theorem dX3_office_85 : decode cX3_office 85 = .ok (.bipush (-100), 2) := by decide +kernel
theorem dX3_office_87 : decode cX3_office 87 = .ok (.iload 8, 2) := by decide +kernel
theorem dX3_office_89 : decode cX3_office 89 = .ok (.iload_n 3, 1) := by decide +kernel
theorem dX3_office_90 : decode cX3_office 90 = .ok (.isub, 1) := by decide +kernel
theorem dX3_office_91 : decode cX3_office 91 = .ok (.isub, 1) := by decide +kernel
theorem dX3_office_92 : decode cX3_office 92 = .ok (.ireturn, 1) := by decide +kernel
theorem dX3_office_93 : decode cX3_office 93 = .ok (.aload_n 0, 1) := by decide +kernel
theorem dX3_office_94 : decode cX3_office 94 = .ok (.aload 6, 2) := by decide +kernel
theorem dX3_office_96 : decode cX3_office 96 = .ok (.iload_n 3, 1) := by decide +kernel
theorem dX3_office_97 : decode cX3_office 97 = .ok (.iload 7, 2) := by decide +kernel
theorem dX3_office_99 : decode cX3_office 99 = .ok (.invokevirtual 74, 3) := by decide +kernel
theorem dX3_office_102 : decode cX3_office 102 = .ok (.aload_n 0, 1) := by decide +kernel
theorem dX3_office_103 : decode cX3_office 103 = .ok (.getfield 37, 3) := by decide +kernel
theorem dX3_office_106 : decode cX3_office 106 = .ok (.ireturn, 1) := by decide +kernel
set_option maxRecDepth 20000 in
theorem ggX3_chance_X3_isEvent : GoodIn wsX3_chance wsX3_isEvent := goodIn_r _ [6, 7, 8, 9, 10, 11, 12, 13, 14, 15, 16] (by decide +kernel) (by decide +kernel)
set_option maxRecDepth 20000 in
theorem gX3_chance_X3_isEvent : GoodIn wsX3_chance (wsV RX3 78 RX3 yX3_isEvent wsX3_isEvent) := goodIn_app (goodIn_of _ (by decide +kernel)) ggX3_chance_X3_isEvent
theorem dX3_chance_0 : decode cX3_chance 0 = .ok (.aload_n 0, 1) := by decide +kernel
theorem dX3_chance_1 : decode cX3_chance 1 = .ok (.iload_n 1, 1) := by decide +kernel
theorem dX3_chance_2 : decode cX3_chance 2 = .ok (.invokevirtual 78, 3) := by decide +kernel
theorem dX3_chance_5 : decode cX3_chance 5 = .ok (.ifCond .eq 12, 3) := by decide +kernel
theorem dX3_chance_8 : decode cX3_chance 8 = .ok (.aload_n 0, 1) := by decide +kernel
theorem dX3_chance_9 : decode cX3_chance 9 = .ok (.getfield 17, 3) := by decide +kernel
theorem dX3_chance_12 : decode cX3_chance 12 = .ok (.iload_n 1, 1) := by decide +kernel
theorem dX3_chance_13 : decode cX3_chance 13 = .ok (.iaload, 1) := by decide +kernel
theorem dX3_chance_14 : decode cX3_chance 14 = .ok (.goto 4, 3) := by decide +kernel
theorem dX3_chance_17 : decode cX3_chance 17 = .ok (.iconst (-1), 1) := by decide +kernel
theorem dX3_chance_18 : decode cX3_chance 18 = .ok (.ireturn, 1) := by decide +kernel
set_option maxRecDepth 20000 in
theorem ggX3_fate_X3_isEvent : GoodIn wsX3_fate wsX3_isEvent := goodIn_r _ [6, 7, 11, 12, 13, 14, 15, 16, 17, 18, 19] (by decide +kernel) (by decide +kernel)
set_option maxRecDepth 20000 in
theorem gX3_fate_X3_isEvent : GoodIn wsX3_fate (wsV RX3 78 RX3 yX3_isEvent wsX3_isEvent) := goodIn_app (goodIn_of _ (by decide +kernel)) ggX3_fate_X3_isEvent
set_option maxRecDepth 20000 in
theorem ggX3_fate_X3_isWithin : GoodIn wsX3_fate wsX3_isWithin := goodIn_r _ [10] (by decide +kernel) (by decide +kernel)
set_option maxRecDepth 20000 in
theorem gX3_fate_X3_isWithin : GoodIn wsX3_fate (va_wsS RX3 81 yX3_isWithin wsX3_isWithin) := goodIn_app (goodIn_of _ (by decide +kernel)) ggX3_fate_X3_isWithin
theorem dX3_fate_0 : decode cX3_fate 0 = .ok (.aload_n 0, 1) := by decide +kernel
theorem dX3_fate_1 : decode cX3_fate 1 = .ok (.iload_n 1, 1) := by decide +kernel
theorem dX3_fate_2 : decode cX3_fate 2 = .ok (.invokevirtual 78, 3) := by decide +kernel
theorem dX3_fate_5 : decode cX3_fate 5 = .ok (.ifCond .ne 5, 3) := by decide +kernel
theorem dX3_fate_8 : decode cX3_fate 8 = .ok (.iconst (-1), 1) := by decide +kernel
theorem dX3_fate_9 : decode cX3_fate 9 = .ok (.ireturn, 1) := by decide +kernel
theorem dX3_fate_10 : decode cX3_fate 10 = .ok (.iload_n 2, 1) := by decide +kernel
theorem dX3_fate_11 : decode cX3_fate 11 = .ok (.bipush 9, 2) := by decide +kernel
theorem dX3_fate_13 : decode cX3_fate 13 = .ok (.invokestatic 81, 3) := by decide +kernel
theorem dX3_fate_16 : decode cX3_fate 16 = .ok (.ifCond .ne 6, 3) := by decide +kernel
theorem dX3_fate_19 : decode cX3_fate 19 = .ok (.bipush (-2), 2) := by decide +kernel
theorem dX3_fate_21 : decode cX3_fate 21 = .ok (.ireturn, 1) := by decide +kernel
theorem dX3_fate_22 : decode cX3_fate 22 = .ok (.aload_n 0, 1) := by decide +kernel
theorem dX3_fate_23 : decode cX3_fate 23 = .ok (.getfield 17, 3) := by decide +kernel
theorem dX3_fate_26 : decode cX3_fate 26 = .ok (.iload_n 1, 1) := by decide +kernel
theorem dX3_fate_27 : decode cX3_fate 27 = .ok (.iaload, 1) := by decide +kernel
theorem dX3_fate_28 : decode cX3_fate 28 = .ok (.istore_n 3, 1) := by decide +kernel
theorem dX3_fate_29 : decode cX3_fate 29 = .ok (.aload_n 0, 1) := by decide +kernel
theorem dX3_fate_30 : decode cX3_fate 30 = .ok (.getfield 17, 3) := by decide +kernel
theorem dX3_fate_33 : decode cX3_fate 33 = .ok (.iload_n 1, 1) := by decide +kernel
theorem dX3_fate_34 : decode cX3_fate 34 = .ok (.iload_n 2, 1) := by decide +kernel
theorem dX3_fate_35 : decode cX3_fate 35 = .ok (.iastore, 1) := by decide +kernel
theorem dX3_fate_36 : decode cX3_fate 36 = .ok (.iload_n 3, 1) := by decide +kernel
theorem dX3_fate_37 : decode cX3_fate 37 = .ok (.ireturn, 1) := by decide +kernel
set_option maxRecDepth 20000 in
theorem ggX3_ofProphet_X3_isProphet : GoodIn wsX3_ofProphet wsX3_isProphet := goodIn_r _ [9, 10, 23, 24, 25, 26, 27, 28, 29, 30, 31] (by decide +kernel) (by decide +kernel)
set_option maxRecDepth 20000 in
theorem gX3_ofProphet_X3_isProphet : GoodIn wsX3_ofProphet (wsV RX3 85 RX3 yX3_isProphet wsX3_isProphet) := goodIn_app (goodIn_of _ (by decide +kernel)) ggX3_ofProphet_X3_isProphet
set_option maxRecDepth 20000 in
theorem ggX3_ofProphet_X3_paysEach : GoodIn wsX3_ofProphet wsX3_paysEach := goodIn_r _ [13] (by decide +kernel) (by decide +kernel)
set_option maxRecDepth 20000 in
theorem gX3_ofProphet_X3_paysEach : GoodIn wsX3_ofProphet (va_wsS RX3 97 yX3_paysEach wsX3_paysEach) := goodIn_app (goodIn_of _ (by decide +kernel)) ggX3_ofProphet_X3_paysEach
set_option maxRecDepth 20000 in
theorem ggX3_ofProphet_X3_isFraud : GoodIn wsX3_ofProphet wsX3_isFraud := goodIn_r _ [17, 18, 19, 20, 8, 21, 22, 23, 24, 25, 26, 27, 28, 29, 30, 31] (by decide +kernel) (by decide +kernel)
set_option maxRecDepth 20000 in
theorem gX3_ofProphet_X3_isFraud : GoodIn wsX3_ofProphet (wsV RX3 101 RX3 yX3_isFraud wsX3_isFraud) := goodIn_app (goodIn_of _ (by decide +kernel)) ggX3_ofProphet_X3_isFraud
theorem dX3_ofProphet_0 : decode cX3_ofProphet 0 = .ok (.aload_n 0, 1) := by decide +kernel
theorem dX3_ofProphet_1 : decode cX3_ofProphet 1 = .ok (.iload_n 1, 1) := by decide +kernel
theorem dX3_ofProphet_2 : decode cX3_ofProphet 2 = .ok (.invokevirtual 85, 3) := by decide +kernel
theorem dX3_ofProphet_5 : decode cX3_ofProphet 5 = .ok (.ifCond .ne 5, 3) := by decide +kernel
theorem dX3_ofProphet_8 : decode cX3_ofProphet 8 = .ok (.iconst (-1), 1) := by decide +kernel
theorem dX3_ofProphet_9 : decode cX3_ofProphet 9 = .ok (.ireturn, 1) := by decide +kernel
theorem dX3_ofProphet_10 : decode cX3_ofProphet 10 = .ok (.aload_n 0, 1) := by decide +kernel
theorem dX3_ofProphet_11 : decode cX3_ofProphet 11 = .ok (.getfield 23, 3) := by decide +kernel
theorem dX3_ofProphet_14 : decode cX3_ofProphet 14 = .ok (.iload_n 1, 1) := by decide +kernel
theorem dX3_ofProphet_15 : decode cX3_ofProphet 15 = .ok (.aaload, 1) := by decide +kernel
theorem dX3_ofProphet_16 : decode cX3_ofProphet 16 = .ok (.astore_n 3, 1) := by decide +kernel
theorem dX3_ofProphet_17 : decode cX3_ofProphet 17 = .ok (.iload_n 2, 1) := by decide +kernel
theorem dX3_ofProphet_18 : decode cX3_ofProphet 18 = .ok (.tableswitch 78 0 4 #[34, 39, 44, 49, 61], 34) := by decide +kernel
theorem dX3_ofProphet_52 : decode cX3_ofProphet 52 = .ok (.aload_n 3, 1) := by decide +kernel
theorem dX3_ofProphet_53 : decode cX3_ofProphet 53 = .ok (.getfield 88, 3) := by decide +kernel
theorem dX3_ofProphet_56 : decode cX3_ofProphet 56 = .ok (.ireturn, 1) := by decide +kernel
theorem dX3_ofProphet_57 : decode cX3_ofProphet 57 = .ok (.aload_n 3, 1) := by decide +kernel
theorem dX3_ofProphet_58 : decode cX3_ofProphet 58 = .ok (.getfield 91, 3) := by decide +kernel
theorem dX3_ofProphet_61 : decode cX3_ofProphet 61 = .ok (.ireturn, 1) := by decide +kernel
theorem dX3_ofProphet_62 : decode cX3_ofProphet 62 = .ok (.aload_n 3, 1) := by decide +kernel
theorem dX3_ofProphet_63 : decode cX3_ofProphet 63 = .ok (.getfield 94, 3) := by decide +kernel
theorem dX3_ofProphet_66 : decode cX3_ofProphet 66 = .ok (.ireturn, 1) := by decide +kernel
theorem dX3_ofProphet_67 : decode cX3_ofProphet 67 = .ok (.aload_n 3, 1) := by decide +kernel
theorem dX3_ofProphet_68 : decode cX3_ofProphet 68 = .ok (.getfield 88, 3) := by decide +kernel
theorem dX3_ofProphet_71 : decode cX3_ofProphet 71 = .ok (.aload_n 3, 1) := by decide +kernel
theorem dX3_ofProphet_72 : decode cX3_ofProphet 72 = .ok (.getfield 91, 3) := by decide +kernel
theorem dX3_ofProphet_75 : decode cX3_ofProphet 75 = .ok (.invokestatic 97, 3) := by decide +kernel
theorem dX3_ofProphet_78 : decode cX3_ofProphet 78 = .ok (.ireturn, 1) := by decide +kernel
theorem dX3_ofProphet_79 : decode cX3_ofProphet 79 = .ok (.aload_n 0, 1) := by decide +kernel
theorem dX3_ofProphet_80 : decode cX3_ofProphet 80 = .ok (.aload_n 3, 1) := by decide +kernel
theorem dX3_ofProphet_81 : decode cX3_ofProphet 81 = .ok (.getfield 94, 3) := by decide +kernel
theorem dX3_ofProphet_84 : decode cX3_ofProphet 84 = .ok (.invokevirtual 101, 3) := by decide +kernel
theorem dX3_ofProphet_87 : decode cX3_ofProphet 87 = .ok (.ifCond .eq 7, 3) := by decide +kernel
theorem dX3_ofProphet_90 : decode cX3_ofProphet 90 = .ok (.iconst 1, 1) := by decide +kernel
theorem dX3_ofProphet_91 : decode cX3_ofProphet 91 = .ok (.goto 4, 3) := by decide +kernel
theorem dX3_ofProphet_94 : decode cX3_ofProphet 94 = .ok (.iconst 0, 1) := by decide +kernel
theorem dX3_ofProphet_95 : decode cX3_ofProphet 95 = .ok (.ireturn, 1) := by decide +kernel
theorem dX3_ofProphet_96 : decode cX3_ofProphet 96 = .ok (.bipush (-2), 2) := by decide +kernel
theorem dX3_ofProphet_98 : decode cX3_ofProphet 98 = .ok (.ireturn, 1) := by decide +kernel
set_option maxRecDepth 20000 in
theorem ggX3_say_X3_isProphet : GoodIn wsX3_say wsX3_isProphet := goodIn_r _ [7, 8, 12, 13, 14, 15, 16, 17, 18, 19, 20] (by decide +kernel) (by decide +kernel)
set_option maxRecDepth 20000 in
theorem gX3_say_X3_isProphet : GoodIn wsX3_say (wsV RX3 85 RX3 yX3_isProphet wsX3_isProphet) := goodIn_app (goodIn_of _ (by decide +kernel)) ggX3_say_X3_isProphet
set_option maxRecDepth 20000 in
theorem ggX3_say_X3_isWithin : GoodIn wsX3_say wsX3_isWithin := goodIn_r _ [11] (by decide +kernel) (by decide +kernel)
set_option maxRecDepth 20000 in
theorem gX3_say_X3_isWithin : GoodIn wsX3_say (va_wsS RX3 81 yX3_isWithin wsX3_isWithin) := goodIn_app (goodIn_of _ (by decide +kernel)) ggX3_say_X3_isWithin
theorem dX3_say_0 : decode cX3_say 0 = .ok (.aload_n 0, 1) := by decide +kernel
theorem dX3_say_1 : decode cX3_say 1 = .ok (.iload_n 1, 1) := by decide +kernel
theorem dX3_say_2 : decode cX3_say 2 = .ok (.invokevirtual 85, 3) := by decide +kernel
theorem dX3_say_5 : decode cX3_say 5 = .ok (.ifCond .ne 5, 3) := by decide +kernel
theorem dX3_say_8 : decode cX3_say 8 = .ok (.iconst (-1), 1) := by decide +kernel
theorem dX3_say_9 : decode cX3_say 9 = .ok (.ireturn, 1) := by decide +kernel
theorem dX3_say_10 : decode cX3_say 10 = .ok (.iload_n 2, 1) := by decide +kernel
theorem dX3_say_11 : decode cX3_say 11 = .ok (.bipush 31, 2) := by decide +kernel
theorem dX3_say_13 : decode cX3_say 13 = .ok (.invokestatic 81, 3) := by decide +kernel
theorem dX3_say_16 : decode cX3_say 16 = .ok (.ifCond .ne 6, 3) := by decide +kernel
theorem dX3_say_19 : decode cX3_say 19 = .ok (.bipush (-2), 2) := by decide +kernel
theorem dX3_say_21 : decode cX3_say 21 = .ok (.ireturn, 1) := by decide +kernel
theorem dX3_say_22 : decode cX3_say 22 = .ok (.aload_n 0, 1) := by decide +kernel
theorem dX3_say_23 : decode cX3_say 23 = .ok (.getfield 23, 3) := by decide +kernel
theorem dX3_say_26 : decode cX3_say 26 = .ok (.iload_n 1, 1) := by decide +kernel
theorem dX3_say_27 : decode cX3_say 27 = .ok (.aaload, 1) := by decide +kernel
theorem dX3_say_28 : decode cX3_say 28 = .ok (.getfield 94, 3) := by decide +kernel
theorem dX3_say_31 : decode cX3_say 31 = .ok (.istore_n 3, 1) := by decide +kernel
theorem dX3_say_32 : decode cX3_say 32 = .ok (.aload_n 0, 1) := by decide +kernel
theorem dX3_say_33 : decode cX3_say 33 = .ok (.getfield 23, 3) := by decide +kernel
theorem dX3_say_36 : decode cX3_say 36 = .ok (.iload_n 1, 1) := by decide +kernel
theorem dX3_say_37 : decode cX3_say 37 = .ok (.aaload, 1) := by decide +kernel
theorem dX3_say_38 : decode cX3_say 38 = .ok (.iload_n 2, 1) := by decide +kernel
theorem dX3_say_39 : decode cX3_say 39 = .ok (.putfield 94, 3) := by decide +kernel
theorem dX3_say_42 : decode cX3_say 42 = .ok (.iload_n 3, 1) := by decide +kernel
theorem dX3_say_43 : decode cX3_say 43 = .ok (.ireturn, 1) := by decide +kernel
set_option maxRecDepth 20000 in
theorem ggX3_paid_X3_isProphet : GoodIn wsX3_paid wsX3_isProphet := goodIn_r _ [5, 6, 45, 46, 47, 48, 49, 50, 51, 52, 53] (by decide +kernel) (by decide +kernel)
set_option maxRecDepth 20000 in
theorem gX3_paid_X3_isProphet : GoodIn wsX3_paid (wsV RX3 85 RX3 yX3_isProphet wsX3_isProphet) := goodIn_app (goodIn_of _ (by decide +kernel)) ggX3_paid_X3_isProphet
set_option maxRecDepth 20000 in
theorem ggX3_paid_X3_isEventSet : GoodIn wsX3_paid wsX3_isEventSet := goodIn_r _ [10, 11, 12, 13, 4, 14, 15, 16, 17, 18, 45, 46, 47, 48, 49, 50, 51, 52, 53] (by decide +kernel) (by decide +kernel)
set_option maxRecDepth 20000 in
theorem gX3_paid_X3_isEventSet : GoodIn wsX3_paid (wsV RX3 104 RX3 yX3_isEventSet wsX3_isEventSet) := goodIn_app (goodIn_of _ (by decide +kernel)) ggX3_paid_X3_isEventSet
set_option maxRecDepth 20000 in
theorem ggX3_paid_X3_paidTo : GoodIn wsX3_paid wsX3_paidTo := goodIn_r _ [22, 23, 24, 25, 26, 27, 28, 29, 4, 30, 31, 32, 33, 34, 11, 12, 13, 14, 15, 35, 36, 37, 38, 39, 40, 41, 42, 43, 44, 45, 46, 47, 48, 49, 50, 51, 52, 53, 54, 55, 56] (by decide +kernel) (by decide +kernel)
set_option maxRecDepth 20000 in
theorem gX3_paid_X3_paidTo : GoodIn wsX3_paid (wsV RX3 107 RX3 yX3_paidTo wsX3_paidTo) := goodIn_app (goodIn_of _ (by decide +kernel)) ggX3_paid_X3_paidTo
theorem dX3_paid_0 : decode cX3_paid 0 = .ok (.aload_n 0, 1) := by decide +kernel
theorem dX3_paid_1 : decode cX3_paid 1 = .ok (.iload_n 1, 1) := by decide +kernel
theorem dX3_paid_2 : decode cX3_paid 2 = .ok (.invokevirtual 85, 3) := by decide +kernel
theorem dX3_paid_5 : decode cX3_paid 5 = .ok (.ifCond .ne 5, 3) := by decide +kernel
theorem dX3_paid_8 : decode cX3_paid 8 = .ok (.iconst (-1), 1) := by decide +kernel
theorem dX3_paid_9 : decode cX3_paid 9 = .ok (.ireturn, 1) := by decide +kernel
theorem dX3_paid_10 : decode cX3_paid 10 = .ok (.aload_n 0, 1) := by decide +kernel
theorem dX3_paid_11 : decode cX3_paid 11 = .ok (.iload_n 2, 1) := by decide +kernel
theorem dX3_paid_12 : decode cX3_paid 12 = .ok (.invokevirtual 104, 3) := by decide +kernel
theorem dX3_paid_15 : decode cX3_paid 15 = .ok (.ifCond .eq 12, 3) := by decide +kernel
theorem dX3_paid_18 : decode cX3_paid 18 = .ok (.aload_n 0, 1) := by decide +kernel
theorem dX3_paid_19 : decode cX3_paid 19 = .ok (.iload_n 1, 1) := by decide +kernel
theorem dX3_paid_20 : decode cX3_paid 20 = .ok (.iload_n 2, 1) := by decide +kernel
theorem dX3_paid_21 : decode cX3_paid 21 = .ok (.invokevirtual 107, 3) := by decide +kernel
theorem dX3_paid_24 : decode cX3_paid 24 = .ok (.goto 5, 3) := by decide +kernel
theorem dX3_paid_27 : decode cX3_paid 27 = .ok (.bipush (-2), 2) := by decide +kernel
theorem dX3_paid_29 : decode cX3_paid 29 = .ok (.ireturn, 1) := by decide +kernel
set_option maxRecDepth 20000 in
theorem ggX3_total_X3_hasOffice : GoodIn wsX3_total wsX3_hasOffice := goodIn_r _ [5, 6, 49, 50, 51, 52, 53, 54, 55, 56, 57] (by decide +kernel) (by decide +kernel)
set_option maxRecDepth 20000 in
theorem gX3_total_X3_hasOffice : GoodIn wsX3_total (wsV RX3 110 RX3 yX3_hasOffice wsX3_hasOffice) := goodIn_app (goodIn_of _ (by decide +kernel)) ggX3_total_X3_hasOffice
set_option maxRecDepth 20000 in
theorem ggX3_total_X3_isEventSet : GoodIn wsX3_total wsX3_isEventSet := goodIn_r _ [10, 11, 12, 13, 4, 14, 15, 16, 17, 18, 49, 50, 51, 52, 53, 54, 55, 56, 57] (by decide +kernel) (by decide +kernel)
set_option maxRecDepth 20000 in
theorem gX3_total_X3_isEventSet : GoodIn wsX3_total (wsV RX3 104 RX3 yX3_isEventSet wsX3_isEventSet) := goodIn_app (goodIn_of _ (by decide +kernel)) ggX3_total_X3_isEventSet
set_option maxRecDepth 20000 in
theorem ggX3_total_X3_paidToAll : GoodIn wsX3_total wsX3_paidToAll := goodIn_r _ [22, 6, 23, 24, 25, 4, 26, 27, 28, 29, 30, 31, 32, 33, 34, 35, 36, 37, 38, 11, 12, 13, 14, 15, 39, 40, 41, 42, 43, 44, 45, 46, 47, 48, 49, 50, 51, 52, 53, 54, 55, 56, 57, 58, 59, 60] (by decide +kernel) (by decide +kernel)
set_option maxRecDepth 20000 in
theorem gX3_total_X3_paidToAll : GoodIn wsX3_total (wsV RX3 114 RX3 yX3_paidToAll wsX3_paidToAll) := goodIn_app (goodIn_of _ (by decide +kernel)) ggX3_total_X3_paidToAll
theorem dX3_total_0 : decode cX3_total 0 = .ok (.aload_n 0, 1) := by decide +kernel
theorem dX3_total_1 : decode cX3_total 1 = .ok (.invokevirtual 110, 3) := by decide +kernel
theorem dX3_total_4 : decode cX3_total 4 = .ok (.ifCond .ne 6, 3) := by decide +kernel
theorem dX3_total_7 : decode cX3_total 7 = .ok (.bipush (-3), 2) := by decide +kernel
theorem dX3_total_9 : decode cX3_total 9 = .ok (.ireturn, 1) := by decide +kernel
theorem dX3_total_10 : decode cX3_total 10 = .ok (.aload_n 0, 1) := by decide +kernel
theorem dX3_total_11 : decode cX3_total 11 = .ok (.iload_n 1, 1) := by decide +kernel
theorem dX3_total_12 : decode cX3_total 12 = .ok (.invokevirtual 104, 3) := by decide +kernel
theorem dX3_total_15 : decode cX3_total 15 = .ok (.ifCond .eq 11, 3) := by decide +kernel
theorem dX3_total_18 : decode cX3_total 18 = .ok (.aload_n 0, 1) := by decide +kernel
theorem dX3_total_19 : decode cX3_total 19 = .ok (.iload_n 1, 1) := by decide +kernel
theorem dX3_total_20 : decode cX3_total 20 = .ok (.invokevirtual 114, 3) := by decide +kernel
theorem dX3_total_23 : decode cX3_total 23 = .ok (.goto 5, 3) := by decide +kernel
theorem dX3_total_26 : decode cX3_total 26 = .ok (.bipush (-2), 2) := by decide +kernel
theorem dX3_total_28 : decode cX3_total 28 = .ok (.ireturn, 1) := by decide +kernel
set_option maxRecDepth 20000 in
theorem ggX3_years_X3_isSheet : GoodIn wsX3_years wsX3_isSheet := goodIn_r _ [7] (by decide +kernel) (by decide +kernel)
set_option maxRecDepth 20000 in
theorem gX3_years_X3_isSheet : GoodIn wsX3_years (va_wsS RX3 52 yX3_isSheet wsX3_isSheet) := goodIn_app (goodIn_of _ (by decide +kernel)) ggX3_years_X3_isSheet
set_option maxRecDepth 20000 in
theorem ggX3_years_X3_isWithin : GoodIn wsX3_years wsX3_isWithin := goodIn_r _ [10] (by decide +kernel) (by decide +kernel)
set_option maxRecDepth 20000 in
theorem gX3_years_X3_isWithin : GoodIn wsX3_years (va_wsS RX3 81 yX3_isWithin wsX3_isWithin) := goodIn_app (goodIn_of _ (by decide +kernel)) ggX3_years_X3_isWithin
set_option maxRecDepth 20000 in
theorem ggX3_years_X3_isLane : GoodIn wsX3_years wsX3_isLane := goodIn_r _ [13] (by decide +kernel) (by decide +kernel)
set_option maxRecDepth 20000 in
theorem gX3_years_X3_isLane : GoodIn wsX3_years (va_wsS RX3 56 yX3_isLane wsX3_isLane) := goodIn_app (goodIn_of _ (by decide +kernel)) ggX3_years_X3_isLane
set_option maxRecDepth 20000 in
theorem ggX3_years_X3_isYearsQuestion : GoodIn wsX3_years wsX3_isYearsQuestion := goodIn_r _ [16, 8, 9, 6, 10] (by decide +kernel) (by decide +kernel)
set_option maxRecDepth 20000 in
theorem gX3_years_X3_isYearsQuestion : GoodIn wsX3_years (va_wsS RX3 117 yX3_isYearsQuestion wsX3_isYearsQuestion) := goodIn_app (goodIn_of _ (by decide +kernel)) ggX3_years_X3_isYearsQuestion
set_option maxRecDepth 20000 in
theorem ggX3_years_X3_hasOffice : GoodIn wsX3_years wsX3_hasOffice := goodIn_r _ [20, 21, 104, 105, 106, 107, 108, 109, 110, 111, 112] (by decide +kernel) (by decide +kernel)
set_option maxRecDepth 20000 in
theorem gX3_years_X3_hasOffice : GoodIn wsX3_years (wsV RX3 110 RX3 yX3_hasOffice wsX3_hasOffice) := goodIn_app (goodIn_of _ (by decide +kernel)) ggX3_years_X3_hasOffice
set_option maxRecDepth 20000 in
theorem ggX3_years_X2_flaw : GoodIn wsX3_years wsX2_flaw := goodIn_r _ [26, 27, 28, 29, 30, 25, 31, 32, 33, 34, 35, 36, 113, 114, 115] (by decide +kernel) (by decide +kernel)
set_option maxRecDepth 20000 in
theorem gX3_years_X2_flaw : GoodIn wsX3_years (wsV RX3 59 RX2 yX2_flaw wsX2_flaw) := goodIn_app (goodIn_of _ (by decide +kernel)) ggX3_years_X2_flaw
set_option maxRecDepth 20000 in
theorem ggX3_years_X3_faulty : GoodIn wsX3_years wsX3_faulty := goodIn_r _ [40, 1, 104, 105, 106, 107, 108, 109, 110, 111, 112] (by decide +kernel) (by decide +kernel)
set_option maxRecDepth 20000 in
theorem gX3_years_X3_faulty : GoodIn wsX3_years (wsV RX3 63 RX3 yX3_faulty wsX3_faulty) := goodIn_app (goodIn_of _ (by decide +kernel)) ggX3_years_X3_faulty
set_option maxRecDepth 20000 in
theorem ggX3_years_X3_areEventSets : GoodIn wsX3_years wsX3_areEventSets := goodIn_r _ [44, 45, 46, 47, 6, 48, 49, 50, 51, 52, 53, 8, 9, 10, 104, 105, 106, 107, 108, 109, 110, 111, 112] (by decide +kernel) (by decide +kernel)
set_option maxRecDepth 20000 in
theorem gX3_years_X3_areEventSets : GoodIn wsX3_years (wsV RX3 120 RX3 yX3_areEventSets wsX3_areEventSets) := goodIn_app (goodIn_of _ (by decide +kernel)) ggX3_years_X3_areEventSets
set_option maxRecDepth 20000 in
theorem ggX3_years_X3_paidOverYears : GoodIn wsX3_years wsX3_paidOverYears := goodIn_r _ [57, 58, 59, 60, 6, 61, 21, 62, 63, 64, 65, 66, 67, 68, 69, 70, 71, 72, 73, 74, 75, 76, 77, 49, 50, 51, 52, 53, 78, 79, 80, 81, 82, 83, 84, 85, 86, 87, 104, 105, 106, 107, 108, 109, 110, 111, 112, 116, 117, 118] (by decide +kernel) (by decide +kernel)
set_option maxRecDepth 20000 in
theorem gX3_years_X3_paidOverYears : GoodIn wsX3_years (wsV RX3 124 RX3 yX3_paidOverYears wsX3_paidOverYears) := goodIn_app (goodIn_of _ (by decide +kernel)) ggX3_years_X3_paidOverYears
set_option maxRecDepth 20000 in
theorem ggX3_years_X3_officeOverYears : GoodIn wsX3_years wsX3_officeOverYears := goodIn_r _ [91, 92, 93, 94, 95, 96, 97, 98, 6, 99, 21, 66, 69, 49, 50, 51, 52, 53, 81, 82, 83, 84, 85, 86, 87, 100, 101, 102, 103, 62, 63, 64, 65, 67, 68, 70, 71, 72, 73, 74, 75, 76, 77, 78, 79, 80, 104, 105, 106, 107, 108, 109, 110, 111, 112, 116, 117, 118] (by decide +kernel) (by decide +kernel)
set_option maxRecDepth 20000 in
theorem gX3_years_X3_officeOverYears : GoodIn wsX3_years (wsV RX3 128 RX3 yX3_officeOverYears wsX3_officeOverYears) := goodIn_app (goodIn_of _ (by decide +kernel)) ggX3_years_X3_officeOverYears
theorem dX3_years_0 : decode cX3_years 0 = .ok (.aload_n 0, 1) := by decide +kernel
theorem dX3_years_1 : decode cX3_years 1 = .ok (.iconst 0, 1) := by decide +kernel
theorem dX3_years_2 : decode cX3_years 2 = .ok (.putfield 46, 3) := by decide +kernel
theorem dX3_years_5 : decode cX3_years 5 = .ok (.iload_n 2, 1) := by decide +kernel
theorem dX3_years_6 : decode cX3_years 6 = .ok (.invokestatic 52, 3) := by decide +kernel
theorem dX3_years_9 : decode cX3_years 9 = .ok (.ifCond .ne 5, 3) := by decide +kernel
theorem dX3_years_12 : decode cX3_years 12 = .ok (.iconst (-1), 1) := by decide +kernel
theorem dX3_years_13 : decode cX3_years 13 = .ok (.ireturn, 1) := by decide +kernel
theorem dX3_years_14 : decode cX3_years 14 = .ok (.iload_n 1, 1) := by decide +kernel
theorem dX3_years_15 : decode cX3_years 15 = .ok (.bipush 9, 2) := by decide +kernel
theorem dX3_years_17 : decode cX3_years 17 = .ok (.invokestatic 81, 3) := by decide +kernel
theorem dX3_years_20 : decode cX3_years 20 = .ok (.ifCond .eq 28, 3) := by decide +kernel
theorem dX3_years_23 : decode cX3_years 23 = .ok (.iload_n 3, 1) := by decide +kernel
theorem dX3_years_24 : decode cX3_years 24 = .ok (.invokestatic 56, 3) := by decide +kernel
theorem dX3_years_27 : decode cX3_years 27 = .ok (.ifCond .eq 21, 3) := by decide +kernel
theorem dX3_years_30 : decode cX3_years 30 = .ok (.iload 5, 2) := by decide +kernel
theorem dX3_years_32 : decode cX3_years 32 = .ok (.bipush 40, 2) := by decide +kernel
theorem dX3_years_34 : decode cX3_years 34 = .ok (.invokestatic 81, 3) := by decide +kernel
theorem dX3_years_37 : decode cX3_years 37 = .ok (.ifCond .eq 11, 3) := by decide +kernel
theorem dX3_years_40 : decode cX3_years 40 = .ok (.iload 6, 2) := by decide +kernel
theorem dX3_years_42 : decode cX3_years 42 = .ok (.invokestatic 117, 3) := by decide +kernel
theorem dX3_years_45 : decode cX3_years 45 = .ok (.ifCond .ne 6, 3) := by decide +kernel
theorem dX3_years_48 : decode cX3_years 48 = .ok (.bipush (-2), 2) := by decide +kernel
theorem dX3_years_50 : decode cX3_years 50 = .ok (.ireturn, 1) := by decide +kernel
theorem dX3_years_51 : decode cX3_years 51 = .ok (.aload_n 0, 1) := by decide +kernel
theorem dX3_years_52 : decode cX3_years 52 = .ok (.invokevirtual 110, 3) := by decide +kernel
theorem dX3_years_55 : decode cX3_years 55 = .ok (.ifCond .ne 6, 3) := by decide +kernel
theorem dX3_years_58 : decode cX3_years 58 = .ok (.bipush (-3), 2) := by decide +kernel
theorem dX3_years_60 : decode cX3_years 60 = .ok (.ireturn, 1) := by decide +kernel
theorem dX3_years_61 : decode cX3_years 61 = .ok (.aload_n 0, 1) := by decide +kernel
theorem dX3_years_62 : decode cX3_years 62 = .ok (.getfield 13, 3) := by decide +kernel
theorem dX3_years_65 : decode cX3_years 65 = .ok (.iload_n 2, 1) := by decide +kernel
theorem dX3_years_66 : decode cX3_years 66 = .ok (.aaload, 1) := by decide +kernel
theorem dX3_years_67 : decode cX3_years 67 = .ok (.iload_n 3, 1) := by decide +kernel
theorem dX3_years_68 : decode cX3_years 68 = .ok (.iload 4, 2) := by decide +kernel
theorem dX3_years_70 : decode cX3_years 70 = .ok (.iload 5, 2) := by decide +kernel
theorem dX3_years_72 : decode cX3_years 72 = .ok (.invokevirtual 59, 3) := by decide +kernel
theorem dX3_years_75 : decode cX3_years 75 = .ok (.istore 7, 2) := by decide +kernel
theorem dX3_years_77 : decode cX3_years 77 = .ok (.iload 7, 2) := by decide +kernel
theorem dX3_years_79 : decode cX3_years 79 = .ok (.ifCond .eq 10, 3) := by decide +kernel
theorem dX3_years_82 : decode cX3_years 82 = .ok (.aload_n 0, 1) := by decide +kernel
theorem dX3_years_83 : decode cX3_years 83 = .ok (.iload 7, 2) := by decide +kernel
theorem dX3_years_85 : decode cX3_years 85 = .ok (.invokevirtual 63, 3) := by decide +kernel
theorem dX3_years_88 : decode cX3_years 88 = .ok (.ireturn, 1) := by decide +kernel
theorem dX3_years_89 : decode cX3_years 89 = .ok (.aload_n 0, 1) := by decide +kernel
theorem dX3_years_90 : decode cX3_years 90 = .ok (.getfield 13, 3) := by decide +kernel
theorem dX3_years_93 : decode cX3_years 93 = .ok (.iload_n 2, 1) := by decide +kernel
theorem dX3_years_94 : decode cX3_years 94 = .ok (.aaload, 1) := by decide +kernel
theorem dX3_years_95 : decode cX3_years 95 = .ok (.getfield 67, 3) := by decide +kernel
theorem dX3_years_98 : decode cX3_years 98 = .ok (.astore 8, 2) := by decide +kernel
theorem dX3_years_100 : decode cX3_years 100 = .ok (.aload_n 0, 1) := by decide +kernel
theorem dX3_years_101 : decode cX3_years 101 = .ok (.aload 8, 2) := by decide +kernel
theorem dX3_years_103 : decode cX3_years 103 = .ok (.iload 4, 2) := by decide +kernel
theorem dX3_years_105 : decode cX3_years 105 = .ok (.iload 4, 2) := by decide +kernel
theorem dX3_years_107 : decode cX3_years 107 = .ok (.iload 5, 2) := by decide +kernel
theorem dX3_years_109 : decode cX3_years 109 = .ok (.iadd, 1) := by decide +kernel
theorem dX3_years_110 : decode cX3_years 110 = .ok (.invokevirtual 120, 3) := by decide +kernel
theorem dX3_years_113 : decode cX3_years 113 = .ok (.ifCond .ne 6, 3) := by decide +kernel
theorem dX3_years_116 : decode cX3_years 116 = .ok (.bipush (-2), 2) := by decide +kernel
theorem dX3_years_118 : decode cX3_years 118 = .ok (.ireturn, 1) := by decide +kernel
theorem dX3_years_119 : decode cX3_years 119 = .ok (.iload 6, 2) := by decide +kernel
theorem dX3_years_121 : decode cX3_years 121 = .ok (.bipush 10, 2) := by decide +kernel
theorem dX3_years_123 : decode cX3_years 123 = .ok (.if_icmp .lt 22, 3) := by decide +kernel
theorem dX3_years_126 : decode cX3_years 126 = .ok (.aload_n 0, 1) := by decide +kernel
theorem dX3_years_127 : decode cX3_years 127 = .ok (.iload 6, 2) := by decide +kernel
theorem dX3_years_129 : decode cX3_years 129 = .ok (.bipush 10, 2) := by decide +kernel
theorem dX3_years_131 : decode cX3_years 131 = .ok (.isub, 1) := by decide +kernel
theorem dX3_years_132 : decode cX3_years 132 = .ok (.aload 8, 2) := by decide +kernel
theorem dX3_years_134 : decode cX3_years 134 = .ok (.iload 4, 2) := by decide +kernel
theorem dX3_years_136 : decode cX3_years 136 = .ok (.iload 4, 2) := by decide +kernel
theorem dX3_years_138 : decode cX3_years 138 = .ok (.iload 5, 2) := by decide +kernel
theorem dX3_years_140 : decode cX3_years 140 = .ok (.iadd, 1) := by decide +kernel
theorem dX3_years_141 : decode cX3_years 141 = .ok (.invokevirtual 124, 3) := by decide +kernel
theorem dX3_years_144 : decode cX3_years 144 = .ok (.ireturn, 1) := by decide +kernel
theorem dX3_years_145 : decode cX3_years 145 = .ok (.aload_n 0, 1) := by decide +kernel
theorem dX3_years_146 : decode cX3_years 146 = .ok (.iload_n 1, 1) := by decide +kernel
theorem dX3_years_147 : decode cX3_years 147 = .ok (.aload 8, 2) := by decide +kernel
theorem dX3_years_149 : decode cX3_years 149 = .ok (.iload 4, 2) := by decide +kernel
theorem dX3_years_151 : decode cX3_years 151 = .ok (.iload 4, 2) := by decide +kernel
theorem dX3_years_153 : decode cX3_years 153 = .ok (.iload 5, 2) := by decide +kernel
theorem dX3_years_155 : decode cX3_years 155 = .ok (.iadd, 1) := by decide +kernel
theorem dX3_years_156 : decode cX3_years 156 = .ok (.iload 6, 2) := by decide +kernel
theorem dX3_years_158 : decode cX3_years 158 = .ok (.invokevirtual 128, 3) := by decide +kernel
theorem dX3_years_161 : decode cX3_years 161 = .ok (.ireturn, 1) := by decide +kernel
set_option maxRecDepth 20000 in
theorem ggX3_fair_X3_isProphet : GoodIn wsX3_fair wsX3_isProphet := goodIn_r _ [12, 13, 49, 50, 51, 52, 53, 54, 55, 56, 57] (by decide +kernel) (by decide +kernel)
set_option maxRecDepth 20000 in
theorem gX3_fair_X3_isProphet : GoodIn wsX3_fair (wsV RX3 85 RX3 yX3_isProphet wsX3_isProphet) := goodIn_app (goodIn_of _ (by decide +kernel)) ggX3_fair_X3_isProphet
set_option maxRecDepth 20000 in
theorem ggX3_fair_X3_isWithin : GoodIn wsX3_fair wsX3_isWithin := goodIn_r _ [16] (by decide +kernel) (by decide +kernel)
set_option maxRecDepth 20000 in
theorem gX3_fair_X3_isWithin : GoodIn wsX3_fair (va_wsS RX3 81 yX3_isWithin wsX3_isWithin) := goodIn_app (goodIn_of _ (by decide +kernel)) ggX3_fair_X3_isWithin
set_option maxRecDepth 20000 in
theorem ggX3_fair_X3_payment : GoodIn wsX3_fair wsX3_payment := goodIn_r _ [20, 21, 22, 23, 11, 24, 25, 26, 27, 28, 3, 29, 30, 31, 32, 33, 34, 35, 36, 37, 38, 49, 50, 51, 52, 53, 54, 55, 56, 57] (by decide +kernel) (by decide +kernel)
set_option maxRecDepth 20000 in
theorem gX3_fair_X3_payment : GoodIn wsX3_fair (wsV RX3 134 RX3 yX3_payment wsX3_payment) := goodIn_app (goodIn_of _ (by decide +kernel)) ggX3_fair_X3_payment
set_option maxRecDepth 20000 in
theorem ggX3_fair_X3_shareNumber : GoodIn wsX3_fair wsX3_shareNumber := goodIn_r _ [41, 42, 43, 11, 44, 45, 46, 47, 48] (by decide +kernel) (by decide +kernel)
set_option maxRecDepth 20000 in
theorem gX3_fair_X3_shareNumber : GoodIn wsX3_fair (va_wsS RX3 138 yX3_shareNumber wsX3_shareNumber) := goodIn_app (goodIn_of _ (by decide +kernel)) ggX3_fair_X3_shareNumber
theorem dX3_fair_0 : decode cX3_fair 0 = .ok (.aload_n 0, 1) := by decide +kernel
theorem dX3_fair_1 : decode cX3_fair 1 = .ok (.iload_n 1, 1) := by decide +kernel
theorem dX3_fair_2 : decode cX3_fair 2 = .ok (.invokevirtual 85, 3) := by decide +kernel
theorem dX3_fair_5 : decode cX3_fair 5 = .ok (.ifCond .eq 11, 3) := by decide +kernel
theorem dX3_fair_8 : decode cX3_fair 8 = .ok (.iload_n 2, 1) := by decide +kernel
theorem dX3_fair_9 : decode cX3_fair 9 = .ok (.iconst 1, 1) := by decide +kernel
theorem dX3_fair_10 : decode cX3_fair 10 = .ok (.invokestatic 81, 3) := by decide +kernel
theorem dX3_fair_13 : decode cX3_fair 13 = .ok (.ifCond .ne 7, 3) := by decide +kernel
theorem dX3_fair_16 : decode cX3_fair 16 = .ok (.ldc2_w 132, 3) := by decide +kernel
theorem dX3_fair_19 : decode cX3_fair 19 = .ok (.lreturn, 1) := by decide +kernel
theorem dX3_fair_20 : decode cX3_fair 20 = .ok (.aload_n 0, 1) := by decide +kernel
theorem dX3_fair_21 : decode cX3_fair 21 = .ok (.getfield 23, 3) := by decide +kernel
theorem dX3_fair_24 : decode cX3_fair 24 = .ok (.iload_n 1, 1) := by decide +kernel
theorem dX3_fair_25 : decode cX3_fair 25 = .ok (.aaload, 1) := by decide +kernel
theorem dX3_fair_26 : decode cX3_fair 26 = .ok (.astore_n 3, 1) := by decide +kernel
theorem dX3_fair_27 : decode cX3_fair 27 = .ok (.iconst 0, 1) := by decide +kernel
theorem dX3_fair_28 : decode cX3_fair 28 = .ok (.istore 4, 2) := by decide +kernel
theorem dX3_fair_30 : decode cX3_fair 30 = .ok (.iconst 0, 1) := by decide +kernel
theorem dX3_fair_31 : decode cX3_fair 31 = .ok (.istore 5, 2) := by decide +kernel
theorem dX3_fair_33 : decode cX3_fair 33 = .ok (.iload 5, 2) := by decide +kernel
theorem dX3_fair_35 : decode cX3_fair 35 = .ok (.aload_n 0, 1) := by decide +kernel
theorem dX3_fair_36 : decode cX3_fair 36 = .ok (.getfield 33, 3) := by decide +kernel
theorem dX3_fair_39 : decode cX3_fair 39 = .ok (.if_icmp .ge 42, 3) := by decide +kernel
theorem dX3_fair_42 : decode cX3_fair 42 = .ok (.iload 4, 2) := by decide +kernel
theorem dX3_fair_44 : decode cX3_fair 44 = .ok (.aload_n 0, 1) := by decide +kernel
theorem dX3_fair_45 : decode cX3_fair 45 = .ok (.getfield 17, 3) := by decide +kernel
theorem dX3_fair_48 : decode cX3_fair 48 = .ok (.iload 5, 2) := by decide +kernel
theorem dX3_fair_50 : decode cX3_fair 50 = .ok (.iaload, 1) := by decide +kernel
theorem dX3_fair_51 : decode cX3_fair 51 = .ok (.aload_n 0, 1) := by decide +kernel
theorem dX3_fair_52 : decode cX3_fair 52 = .ok (.aload_n 3, 1) := by decide +kernel
theorem dX3_fair_53 : decode cX3_fair 53 = .ok (.getfield 88, 3) := by decide +kernel
theorem dX3_fair_56 : decode cX3_fair 56 = .ok (.aload_n 3, 1) := by decide +kernel
theorem dX3_fair_57 : decode cX3_fair 57 = .ok (.getfield 91, 3) := by decide +kernel
theorem dX3_fair_60 : decode cX3_fair 60 = .ok (.aload_n 3, 1) := by decide +kernel
theorem dX3_fair_61 : decode cX3_fair 61 = .ok (.getfield 94, 3) := by decide +kernel
theorem dX3_fair_64 : decode cX3_fair 64 = .ok (.iconst 1, 1) := by decide +kernel
theorem dX3_fair_65 : decode cX3_fair 65 = .ok (.iload 5, 2) := by decide +kernel
theorem dX3_fair_67 : decode cX3_fair 67 = .ok (.ishl, 1) := by decide +kernel
theorem dX3_fair_68 : decode cX3_fair 68 = .ok (.invokevirtual 134, 3) := by decide +kernel
theorem dX3_fair_71 : decode cX3_fair 71 = .ok (.imul, 1) := by decide +kernel
theorem dX3_fair_72 : decode cX3_fair 72 = .ok (.iadd, 1) := by decide +kernel
theorem dX3_fair_73 : decode cX3_fair 73 = .ok (.istore 4, 2) := by decide +kernel
theorem dX3_fair_75 : decode cX3_fair 75 = .ok (.iinc 5 1, 3) := by decide +kernel
theorem dX3_fair_78 : decode cX3_fair 78 = .ok (.goto (-45), 3) := by decide +kernel
theorem dX3_fair_81 : decode cX3_fair 81 = .ok (.iload 4, 2) := by decide +kernel
theorem dX3_fair_83 : decode cX3_fair 83 = .ok (.bipush 10, 2) := by decide +kernel
theorem dX3_fair_85 : decode cX3_fair 85 = .ok (.iload_n 2, 1) := by decide +kernel
theorem dX3_fair_86 : decode cX3_fair 86 = .ok (.invokestatic 138, 3) := by decide +kernel
theorem dX3_fair_89 : decode cX3_fair 89 = .ok (.lreturn, 1) := by decide +kernel
set_option maxRecDepth 20000 in
theorem ggX3_safe_X3_isProphet : GoodIn wsX3_safe wsX3_isProphet := goodIn_r _ [5, 6, 38, 39, 40, 41, 42, 43, 44, 45, 46] (by decide +kernel) (by decide +kernel)
set_option maxRecDepth 20000 in
theorem gX3_safe_X3_isProphet : GoodIn wsX3_safe (wsV RX3 85 RX3 yX3_isProphet wsX3_isProphet) := goodIn_app (goodIn_of _ (by decide +kernel)) ggX3_safe_X3_isProphet
set_option maxRecDepth 20000 in
theorem ggX3_safe_X3_allEvents : GoodIn wsX3_safe wsX3_allEvents := goodIn_r _ [10, 11, 38, 39, 40, 41, 42, 43, 44, 45, 46] (by decide +kernel) (by decide +kernel)
set_option maxRecDepth 20000 in
theorem gX3_safe_X3_allEvents : GoodIn wsX3_safe (wsV RX3 142 RX3 yX3_allEvents wsX3_allEvents) := goodIn_app (goodIn_of _ (by decide +kernel)) ggX3_safe_X3_allEvents
set_option maxRecDepth 20000 in
theorem ggX3_safe_X3_paidTo : GoodIn wsX3_safe wsX3_paidTo := goodIn_r _ [15, 16, 17, 18, 19, 20, 21, 22, 4, 23, 24, 25, 26, 27, 7, 8, 9, 10, 11, 28, 29, 30, 31, 32, 33, 34, 35, 36, 37, 38, 39, 40, 41, 42, 43, 44, 45, 46, 47, 48, 49] (by decide +kernel) (by decide +kernel)
set_option maxRecDepth 20000 in
theorem gX3_safe_X3_paidTo : GoodIn wsX3_safe (wsV RX3 107 RX3 yX3_paidTo wsX3_paidTo) := goodIn_app (goodIn_of _ (by decide +kernel)) ggX3_safe_X3_paidTo
theorem dX3_safe_0 : decode cX3_safe 0 = .ok (.aload_n 0, 1) := by decide +kernel
theorem dX3_safe_1 : decode cX3_safe 1 = .ok (.iload_n 1, 1) := by decide +kernel
theorem dX3_safe_2 : decode cX3_safe 2 = .ok (.invokevirtual 85, 3) := by decide +kernel
theorem dX3_safe_5 : decode cX3_safe 5 = .ok (.ifCond .eq 15, 3) := by decide +kernel
theorem dX3_safe_8 : decode cX3_safe 8 = .ok (.aload_n 0, 1) := by decide +kernel
theorem dX3_safe_9 : decode cX3_safe 9 = .ok (.iload_n 1, 1) := by decide +kernel
theorem dX3_safe_10 : decode cX3_safe 10 = .ok (.aload_n 0, 1) := by decide +kernel
theorem dX3_safe_11 : decode cX3_safe 11 = .ok (.invokevirtual 142, 3) := by decide +kernel
theorem dX3_safe_14 : decode cX3_safe 14 = .ok (.invokevirtual 107, 3) := by decide +kernel
theorem dX3_safe_17 : decode cX3_safe 17 = .ok (.goto 4, 3) := by decide +kernel
theorem dX3_safe_20 : decode cX3_safe 20 = .ok (.iconst (-1), 1) := by decide +kernel
theorem dX3_safe_21 : decode cX3_safe 21 = .ok (.ireturn, 1) := by decide +kernel
set_option maxRecDepth 20000 in
theorem ggX3_hold_X3_isWithin : GoodIn wsX3_hold wsX3_isWithin := goodIn_r _ [4] (by decide +kernel) (by decide +kernel)
set_option maxRecDepth 20000 in
theorem gX3_hold_X3_isWithin : GoodIn wsX3_hold (va_wsS RX3 81 yX3_isWithin wsX3_isWithin) := goodIn_app (goodIn_of _ (by decide +kernel)) ggX3_hold_X3_isWithin
set_option maxRecDepth 20000 in
theorem ggX3_hold_X3_hasOffice : GoodIn wsX3_hold wsX3_hasOffice := goodIn_r _ [8, 9, 61, 62, 63, 64, 65, 66, 67, 68, 69] (by decide +kernel) (by decide +kernel)
set_option maxRecDepth 20000 in
theorem gX3_hold_X3_hasOffice : GoodIn wsX3_hold (wsV RX3 110 RX3 yX3_hasOffice wsX3_hasOffice) := goodIn_app (goodIn_of _ (by decide +kernel)) ggX3_hold_X3_hasOffice
set_option maxRecDepth 20000 in
theorem ggX3_hold_X3_weightOfAll : GoodIn wsX3_hold wsX3_weightOfAll := goodIn_r _ [13, 14, 61, 62, 63, 64, 65, 66, 67, 68, 69] (by decide +kernel) (by decide +kernel)
set_option maxRecDepth 20000 in
theorem gX3_hold_X3_weightOfAll : GoodIn wsX3_hold (wsV RX3 146 RX3 yX3_weightOfAll wsX3_weightOfAll) := goodIn_app (goodIn_of _ (by decide +kernel)) ggX3_hold_X3_weightOfAll
set_option maxRecDepth 20000 in
theorem ggX3_hold_X3_allEvents : GoodIn wsX3_hold wsX3_allEvents := goodIn_r _ [18, 14, 61, 62, 63, 64, 65, 66, 67, 68, 69] (by decide +kernel) (by decide +kernel)
set_option maxRecDepth 20000 in
theorem gX3_hold_X3_allEvents : GoodIn wsX3_hold (wsV RX3 142 RX3 yX3_allEvents wsX3_allEvents) := goodIn_app (goodIn_of _ (by decide +kernel)) ggX3_hold_X3_allEvents
set_option maxRecDepth 20000 in
theorem ggX3_hold_X3_paidToAll : GoodIn wsX3_hold wsX3_paidToAll := goodIn_r _ [22, 9, 23, 24, 25, 3, 26, 27, 28, 29, 30, 31, 32, 33, 34, 35, 36, 37, 38, 15, 16, 17, 18, 14, 39, 40, 41, 42, 43, 44, 45, 46, 47, 48, 61, 62, 63, 64, 65, 66, 67, 68, 69, 70, 71, 72] (by decide +kernel) (by decide +kernel)
set_option maxRecDepth 20000 in
theorem gX3_hold_X3_paidToAll : GoodIn wsX3_hold (wsV RX3 114 RX3 yX3_paidToAll wsX3_paidToAll) := goodIn_app (goodIn_of _ (by decide +kernel)) ggX3_hold_X3_paidToAll
set_option maxRecDepth 20000 in
theorem ggX3_hold_X3_weightFrom : GoodIn wsX3_hold wsX3_weightFrom := goodIn_r _ [52, 15, 16, 17, 3, 18, 14, 19, 20, 21, 22, 9, 23, 24, 25, 26, 27, 28, 29, 30, 31, 32, 33, 34, 35, 36, 37, 38, 39, 40, 41, 42, 43, 44, 45, 46, 47, 48, 53, 54, 55, 56, 57, 58, 59, 60, 61, 62, 63, 64, 65, 66, 67, 68, 69, 70, 71, 72] (by decide +kernel) (by decide +kernel)
set_option maxRecDepth 20000 in
theorem gX3_hold_X3_weightFrom : GoodIn wsX3_hold (wsV RX3 149 RX3 yX3_weightFrom wsX3_weightFrom) := goodIn_app (goodIn_of _ (by decide +kernel)) ggX3_hold_X3_weightFrom
theorem dX3_hold_0 : decode cX3_hold 0 = .ok (.iload_n 1, 1) := by decide +kernel
theorem dX3_hold_1 : decode cX3_hold 1 = .ok (.bipush 10, 2) := by decide +kernel
theorem dX3_hold_3 : decode cX3_hold 3 = .ok (.invokestatic 81, 3) := by decide +kernel
theorem dX3_hold_6 : decode cX3_hold 6 = .ok (.ifCond .ne 6, 3) := by decide +kernel
theorem dX3_hold_9 : decode cX3_hold 9 = .ok (.bipush (-2), 2) := by decide +kernel
theorem dX3_hold_11 : decode cX3_hold 11 = .ok (.ireturn, 1) := by decide +kernel
theorem dX3_hold_12 : decode cX3_hold 12 = .ok (.aload_n 0, 1) := by decide +kernel
theorem dX3_hold_13 : decode cX3_hold 13 = .ok (.invokevirtual 110, 3) := by decide +kernel
theorem dX3_hold_16 : decode cX3_hold 16 = .ok (.ifCond .ne 6, 3) := by decide +kernel
theorem dX3_hold_19 : decode cX3_hold 19 = .ok (.bipush (-3), 2) := by decide +kernel
theorem dX3_hold_21 : decode cX3_hold 21 = .ok (.ireturn, 1) := by decide +kernel
theorem dX3_hold_22 : decode cX3_hold 22 = .ok (.aload_n 0, 1) := by decide +kernel
theorem dX3_hold_23 : decode cX3_hold 23 = .ok (.invokevirtual 146, 3) := by decide +kernel
theorem dX3_hold_26 : decode cX3_hold 26 = .ok (.istore_n 2, 1) := by decide +kernel
theorem dX3_hold_27 : decode cX3_hold 27 = .ok (.aload_n 0, 1) := by decide +kernel
theorem dX3_hold_28 : decode cX3_hold 28 = .ok (.aload_n 0, 1) := by decide +kernel
theorem dX3_hold_29 : decode cX3_hold 29 = .ok (.invokevirtual 142, 3) := by decide +kernel
theorem dX3_hold_32 : decode cX3_hold 32 = .ok (.invokevirtual 114, 3) := by decide +kernel
theorem dX3_hold_35 : decode cX3_hold 35 = .ok (.istore_n 3, 1) := by decide +kernel
theorem dX3_hold_36 : decode cX3_hold 36 = .ok (.iconst 0, 1) := by decide +kernel
theorem dX3_hold_37 : decode cX3_hold 37 = .ok (.istore 4, 2) := by decide +kernel
theorem dX3_hold_39 : decode cX3_hold 39 = .ok (.iload 4, 2) := by decide +kernel
theorem dX3_hold_41 : decode cX3_hold 41 = .ok (.aload_n 0, 1) := by decide +kernel
theorem dX3_hold_42 : decode cX3_hold 42 = .ok (.invokevirtual 142, 3) := by decide +kernel
theorem dX3_hold_45 : decode cX3_hold 45 = .ok (.if_icmp .ge 49, 3) := by decide +kernel
theorem dX3_hold_48 : decode cX3_hold 48 = .ok (.aload_n 0, 1) := by decide +kernel
theorem dX3_hold_49 : decode cX3_hold 49 = .ok (.iload 4, 2) := by decide +kernel
theorem dX3_hold_51 : decode cX3_hold 51 = .ok (.invokevirtual 114, 3) := by decide +kernel
theorem dX3_hold_54 : decode cX3_hold 54 = .ok (.istore 5, 2) := by decide +kernel
theorem dX3_hold_56 : decode cX3_hold 56 = .ok (.iload_n 2, 1) := by decide +kernel
theorem dX3_hold_57 : decode cX3_hold 57 = .ok (.aload_n 0, 1) := by decide +kernel
theorem dX3_hold_58 : decode cX3_hold 58 = .ok (.iload 5, 2) := by decide +kernel
theorem dX3_hold_60 : decode cX3_hold 60 = .ok (.iconst 1, 1) := by decide +kernel
theorem dX3_hold_61 : decode cX3_hold 61 = .ok (.iadd, 1) := by decide +kernel
theorem dX3_hold_62 : decode cX3_hold 62 = .ok (.invokevirtual 149, 3) := by decide +kernel
theorem dX3_hold_65 : decode cX3_hold 65 = .ok (.isub, 1) := by decide +kernel
theorem dX3_hold_66 : decode cX3_hold 66 = .ok (.istore 6, 2) := by decide +kernel
theorem dX3_hold_68 : decode cX3_hold 68 = .ok (.iload 5, 2) := by decide +kernel
theorem dX3_hold_70 : decode cX3_hold 70 = .ok (.iload_n 3, 1) := by decide +kernel
theorem dX3_hold_71 : decode cX3_hold 71 = .ok (.if_icmp .ge 17, 3) := by decide +kernel
theorem dX3_hold_74 : decode cX3_hold 74 = .ok (.bipush 10, 2) := by decide +kernel
theorem dX3_hold_76 : decode cX3_hold 76 = .ok (.iload 6, 2) := by decide +kernel
theorem dX3_hold_78 : decode cX3_hold 78 = .ok (.imul, 1) := by decide +kernel
theorem dX3_hold_79 : decode cX3_hold 79 = .ok (.iload_n 1, 1) := by decide +kernel
theorem dX3_hold_80 : decode cX3_hold 80 = .ok (.iload_n 2, 1) := by decide +kernel
theorem dX3_hold_81 : decode cX3_hold 81 = .ok (.imul, 1) := by decide +kernel
theorem dX3_hold_82 : decode cX3_hold 82 = .ok (.if_icmp .lt 6, 3) := by decide +kernel
theorem dX3_hold_85 : decode cX3_hold 85 = .ok (.iload 5, 2) := by decide +kernel
theorem dX3_hold_87 : decode cX3_hold 87 = .ok (.istore_n 3, 1) := by decide +kernel
theorem dX3_hold_88 : decode cX3_hold 88 = .ok (.iinc 4 1, 3) := by decide +kernel
theorem dX3_hold_91 : decode cX3_hold 91 = .ok (.goto (-52), 3) := by decide +kernel
theorem dX3_hold_94 : decode cX3_hold 94 = .ok (.iload_n 3, 1) := by decide +kernel
theorem dX3_hold_95 : decode cX3_hold 95 = .ok (.ireturn, 1) := by decide +kernel
set_option maxRecDepth 20000 in
theorem ggX3_best_X3_isProphet : GoodIn wsX3_best wsX3_isProphet := goodIn_r _ [8, 9, 29, 30, 31, 32, 33, 34, 35, 36, 37] (by decide +kernel) (by decide +kernel)
set_option maxRecDepth 20000 in
theorem gX3_best_X3_isProphet : GoodIn wsX3_best (wsV RX3 85 RX3 yX3_isProphet wsX3_isProphet) := goodIn_app (goodIn_of _ (by decide +kernel)) ggX3_best_X3_isProphet
set_option maxRecDepth 20000 in
theorem ggX3_best_X3_isWithin : GoodIn wsX3_best wsX3_isWithin := goodIn_r _ [12] (by decide +kernel) (by decide +kernel)
set_option maxRecDepth 20000 in
theorem gX3_best_X3_isWithin : GoodIn wsX3_best (va_wsS RX3 81 yX3_isWithin wsX3_isWithin) := goodIn_app (goodIn_of _ (by decide +kernel)) ggX3_best_X3_isWithin
set_option maxRecDepth 20000 in
theorem ggX3_best_X3_paysEach : GoodIn wsX3_best wsX3_paysEach := goodIn_r _ [15] (by decide +kernel) (by decide +kernel)
set_option maxRecDepth 20000 in
theorem gX3_best_X3_paysEach : GoodIn wsX3_best (va_wsS RX3 97 yX3_paysEach wsX3_paysEach) := goodIn_app (goodIn_of _ (by decide +kernel)) ggX3_best_X3_paysEach
set_option maxRecDepth 20000 in
theorem ggX3_best_X3_allEvents : GoodIn wsX3_best wsX3_allEvents := goodIn_r _ [19, 20, 29, 30, 31, 32, 33, 34, 35, 36, 37] (by decide +kernel) (by decide +kernel)
set_option maxRecDepth 20000 in
theorem gX3_best_X3_allEvents : GoodIn wsX3_best (wsV RX3 142 RX3 yX3_allEvents wsX3_allEvents) := goodIn_app (goodIn_of _ (by decide +kernel)) ggX3_best_X3_allEvents
set_option maxRecDepth 20000 in
theorem ggX3_best_X3_tenthsGained : GoodIn wsX3_best wsX3_tenthsGained := goodIn_r _ [24, 20, 25, 26, 27, 7, 28, 29, 30, 31, 32, 33, 34, 35, 36, 37] (by decide +kernel) (by decide +kernel)
set_option maxRecDepth 20000 in
theorem gX3_best_X3_tenthsGained : GoodIn wsX3_best (wsV RX3 152 RX3 yX3_tenthsGained wsX3_tenthsGained) := goodIn_app (goodIn_of _ (by decide +kernel)) ggX3_best_X3_tenthsGained
theorem dX3_best_0 : decode cX3_best 0 = .ok (.aload_n 0, 1) := by decide +kernel
theorem dX3_best_1 : decode cX3_best 1 = .ok (.iload_n 1, 1) := by decide +kernel
theorem dX3_best_2 : decode cX3_best 2 = .ok (.invokevirtual 85, 3) := by decide +kernel
theorem dX3_best_5 : decode cX3_best 5 = .ok (.ifCond .ne 5, 3) := by decide +kernel
theorem dX3_best_8 : decode cX3_best 8 = .ok (.iconst (-1), 1) := by decide +kernel
theorem dX3_best_9 : decode cX3_best 9 = .ok (.ireturn, 1) := by decide +kernel
theorem dX3_best_10 : decode cX3_best 10 = .ok (.iload_n 2, 1) := by decide +kernel
theorem dX3_best_11 : decode cX3_best 11 = .ok (.bipush 9, 2) := by decide +kernel
theorem dX3_best_13 : decode cX3_best 13 = .ok (.invokestatic 81, 3) := by decide +kernel
theorem dX3_best_16 : decode cX3_best 16 = .ok (.ifCond .ne 6, 3) := by decide +kernel
theorem dX3_best_19 : decode cX3_best 19 = .ok (.bipush (-2), 2) := by decide +kernel
theorem dX3_best_21 : decode cX3_best 21 = .ok (.ireturn, 1) := by decide +kernel
theorem dX3_best_22 : decode cX3_best 22 = .ok (.aload_n 0, 1) := by decide +kernel
theorem dX3_best_23 : decode cX3_best 23 = .ok (.getfield 23, 3) := by decide +kernel
theorem dX3_best_26 : decode cX3_best 26 = .ok (.iload_n 1, 1) := by decide +kernel
theorem dX3_best_27 : decode cX3_best 27 = .ok (.aaload, 1) := by decide +kernel
theorem dX3_best_28 : decode cX3_best 28 = .ok (.getfield 88, 3) := by decide +kernel
theorem dX3_best_31 : decode cX3_best 31 = .ok (.aload_n 0, 1) := by decide +kernel
theorem dX3_best_32 : decode cX3_best 32 = .ok (.getfield 23, 3) := by decide +kernel
theorem dX3_best_35 : decode cX3_best 35 = .ok (.iload_n 1, 1) := by decide +kernel
theorem dX3_best_36 : decode cX3_best 36 = .ok (.aaload, 1) := by decide +kernel
theorem dX3_best_37 : decode cX3_best 37 = .ok (.getfield 91, 3) := by decide +kernel
theorem dX3_best_40 : decode cX3_best 40 = .ok (.invokestatic 97, 3) := by decide +kernel
theorem dX3_best_43 : decode cX3_best 43 = .ok (.istore_n 3, 1) := by decide +kernel
theorem dX3_best_44 : decode cX3_best 44 = .ok (.iconst 0, 1) := by decide +kernel
theorem dX3_best_45 : decode cX3_best 45 = .ok (.istore 4, 2) := by decide +kernel
theorem dX3_best_47 : decode cX3_best 47 = .ok (.iconst 0, 1) := by decide +kernel
theorem dX3_best_48 : decode cX3_best 48 = .ok (.istore 5, 2) := by decide +kernel
theorem dX3_best_50 : decode cX3_best 50 = .ok (.iconst 1, 1) := by decide +kernel
theorem dX3_best_51 : decode cX3_best 51 = .ok (.istore 6, 2) := by decide +kernel
theorem dX3_best_53 : decode cX3_best 53 = .ok (.iload 6, 2) := by decide +kernel
theorem dX3_best_55 : decode cX3_best 55 = .ok (.aload_n 0, 1) := by decide +kernel
theorem dX3_best_56 : decode cX3_best 56 = .ok (.invokevirtual 142, 3) := by decide +kernel
theorem dX3_best_59 : decode cX3_best 59 = .ok (.if_icmp .ge 34, 3) := by decide +kernel
theorem dX3_best_62 : decode cX3_best 62 = .ok (.aload_n 0, 1) := by decide +kernel
theorem dX3_best_63 : decode cX3_best 63 = .ok (.iload_n 3, 1) := by decide +kernel
theorem dX3_best_64 : decode cX3_best 64 = .ok (.iload_n 2, 1) := by decide +kernel
theorem dX3_best_65 : decode cX3_best 65 = .ok (.iload 6, 2) := by decide +kernel
theorem dX3_best_67 : decode cX3_best 67 = .ok (.invokevirtual 152, 3) := by decide +kernel
theorem dX3_best_70 : decode cX3_best 70 = .ok (.istore 7, 2) := by decide +kernel
theorem dX3_best_72 : decode cX3_best 72 = .ok (.iload 7, 2) := by decide +kernel
theorem dX3_best_74 : decode cX3_best 74 = .ok (.iload 5, 2) := by decide +kernel
theorem dX3_best_76 : decode cX3_best 76 = .ok (.if_icmp .le 11, 3) := by decide +kernel
theorem dX3_best_79 : decode cX3_best 79 = .ok (.iload 7, 2) := by decide +kernel
theorem dX3_best_81 : decode cX3_best 81 = .ok (.istore 5, 2) := by decide +kernel
theorem dX3_best_83 : decode cX3_best 83 = .ok (.iload 6, 2) := by decide +kernel
theorem dX3_best_85 : decode cX3_best 85 = .ok (.istore 4, 2) := by decide +kernel
theorem dX3_best_87 : decode cX3_best 87 = .ok (.iinc 6 1, 3) := by decide +kernel
theorem dX3_best_90 : decode cX3_best 90 = .ok (.goto (-37), 3) := by decide +kernel
theorem dX3_best_93 : decode cX3_best 93 = .ok (.iload 4, 2) := by decide +kernel
theorem dX3_best_95 : decode cX3_best 95 = .ok (.ireturn, 1) := by decide +kernel
set_option maxRecDepth 20000 in
theorem ggX3_came_X3_isWithin : GoodIn wsX3_came wsX3_isWithin := goodIn_r _ [4] (by decide +kernel) (by decide +kernel)
set_option maxRecDepth 20000 in
theorem gX3_came_X3_isWithin : GoodIn wsX3_came (va_wsS RX3 81 yX3_isWithin wsX3_isWithin) := goodIn_app (goodIn_of _ (by decide +kernel)) ggX3_came_X3_isWithin
set_option maxRecDepth 20000 in
theorem ggX3_came_X3_hasOffice : GoodIn wsX3_came wsX3_hasOffice := goodIn_r _ [8, 9, 45, 46, 47, 48, 49, 50, 51, 52, 53] (by decide +kernel) (by decide +kernel)
set_option maxRecDepth 20000 in
theorem gX3_came_X3_hasOffice : GoodIn wsX3_came (wsV RX3 110 RX3 yX3_hasOffice wsX3_hasOffice) := goodIn_app (goodIn_of _ (by decide +kernel)) ggX3_came_X3_hasOffice
set_option maxRecDepth 20000 in
theorem ggX3_came_X3_allEvents : GoodIn wsX3_came wsX3_allEvents := goodIn_r _ [13, 14, 45, 46, 47, 48, 49, 50, 51, 52, 53] (by decide +kernel) (by decide +kernel)
set_option maxRecDepth 20000 in
theorem gX3_came_X3_allEvents : GoodIn wsX3_came (wsV RX3 142 RX3 yX3_allEvents wsX3_allEvents) := goodIn_app (goodIn_of _ (by decide +kernel)) ggX3_came_X3_allEvents
set_option maxRecDepth 20000 in
theorem ggX3_came_X3_paidToAll : GoodIn wsX3_came wsX3_paidToAll := goodIn_r _ [18, 9, 19, 20, 21, 3, 22, 23, 24, 25, 26, 27, 28, 29, 30, 31, 32, 33, 34, 10, 11, 12, 13, 14, 35, 36, 37, 38, 39, 40, 41, 42, 43, 44, 45, 46, 47, 48, 49, 50, 51, 52, 53, 54, 55, 56] (by decide +kernel) (by decide +kernel)
set_option maxRecDepth 20000 in
theorem gX3_came_X3_paidToAll : GoodIn wsX3_came (wsV RX3 114 RX3 yX3_paidToAll wsX3_paidToAll) := goodIn_app (goodIn_of _ (by decide +kernel)) ggX3_came_X3_paidToAll
theorem dX3_came_0 : decode cX3_came 0 = .ok (.iload_n 1, 1) := by decide +kernel
theorem dX3_came_1 : decode cX3_came 1 = .ok (.sipush 999, 3) := by decide +kernel
theorem dX3_came_4 : decode cX3_came 4 = .ok (.invokestatic 81, 3) := by decide +kernel
theorem dX3_came_7 : decode cX3_came 7 = .ok (.ifCond .eq 11, 3) := by decide +kernel
theorem dX3_came_10 : decode cX3_came 10 = .ok (.iload_n 2, 1) := by decide +kernel
theorem dX3_came_11 : decode cX3_came 11 = .ok (.iconst 1, 1) := by decide +kernel
theorem dX3_came_12 : decode cX3_came 12 = .ok (.invokestatic 81, 3) := by decide +kernel
theorem dX3_came_15 : decode cX3_came 15 = .ok (.ifCond .ne 6, 3) := by decide +kernel
theorem dX3_came_18 : decode cX3_came 18 = .ok (.bipush (-2), 2) := by decide +kernel
theorem dX3_came_20 : decode cX3_came 20 = .ok (.ireturn, 1) := by decide +kernel
theorem dX3_came_21 : decode cX3_came 21 = .ok (.aload_n 0, 1) := by decide +kernel
theorem dX3_came_22 : decode cX3_came 22 = .ok (.invokevirtual 110, 3) := by decide +kernel
theorem dX3_came_25 : decode cX3_came 25 = .ok (.ifCond .ne 6, 3) := by decide +kernel
theorem dX3_came_28 : decode cX3_came 28 = .ok (.bipush (-3), 2) := by decide +kernel
theorem dX3_came_30 : decode cX3_came 30 = .ok (.ireturn, 1) := by decide +kernel
theorem dX3_came_31 : decode cX3_came 31 = .ok (.iconst 0, 1) := by decide +kernel
theorem dX3_came_32 : decode cX3_came 32 = .ok (.istore_n 3, 1) := by decide +kernel
theorem dX3_came_33 : decode cX3_came 33 = .ok (.bipush (-9), 2) := by decide +kernel
theorem dX3_came_35 : decode cX3_came 35 = .ok (.istore 4, 2) := by decide +kernel
theorem dX3_came_37 : decode cX3_came 37 = .ok (.aload_n 0, 1) := by decide +kernel
theorem dX3_came_38 : decode cX3_came 38 = .ok (.invokevirtual 142, 3) := by decide +kernel
theorem dX3_came_41 : decode cX3_came 41 = .ok (.istore 5, 2) := by decide +kernel
theorem dX3_came_43 : decode cX3_came 43 = .ok (.iload 5, 2) := by decide +kernel
theorem dX3_came_45 : decode cX3_came 45 = .ok (.ifCond .lt 26, 3) := by decide +kernel
theorem dX3_came_48 : decode cX3_came 48 = .ok (.aload_n 0, 1) := by decide +kernel
theorem dX3_came_49 : decode cX3_came 49 = .ok (.iload 5, 2) := by decide +kernel
theorem dX3_came_51 : decode cX3_came 51 = .ok (.invokevirtual 114, 3) := by decide +kernel
theorem dX3_came_54 : decode cX3_came 54 = .ok (.iload_n 1, 1) := by decide +kernel
theorem dX3_came_55 : decode cX3_came 55 = .ok (.if_icmp .ne 10, 3) := by decide +kernel
theorem dX3_came_58 : decode cX3_came 58 = .ok (.iinc 3 1, 3) := by decide +kernel
theorem dX3_came_61 : decode cX3_came 61 = .ok (.iload 5, 2) := by decide +kernel
theorem dX3_came_63 : decode cX3_came 63 = .ok (.istore 4, 2) := by decide +kernel
theorem dX3_came_65 : decode cX3_came 65 = .ok (.iinc 5 (-1), 3) := by decide +kernel
theorem dX3_came_68 : decode cX3_came 68 = .ok (.goto (-25), 3) := by decide +kernel
theorem dX3_came_71 : decode cX3_came 71 = .ok (.iload_n 2, 1) := by decide +kernel
theorem dX3_came_72 : decode cX3_came 72 = .ok (.ifCond .ne 7, 3) := by decide +kernel
theorem dX3_came_75 : decode cX3_came 75 = .ok (.iload_n 3, 1) := by decide +kernel
theorem dX3_came_76 : decode cX3_came 76 = .ok (.goto 5, 3) := by decide +kernel
theorem dX3_came_79 : decode cX3_came 79 = .ok (.iload 4, 2) := by decide +kernel
theorem dX3_came_81 : decode cX3_came 81 = .ok (.ireturn, 1) := by decide +kernel
set_option maxRecDepth 20000 in
theorem ggX3_reading_X3_isProphet : GoodIn wsX3_reading wsX3_isProphet := goodIn_r _ [10, 11, 24, 25, 26, 27, 28, 29, 30, 31, 32] (by decide +kernel) (by decide +kernel)
set_option maxRecDepth 20000 in
theorem gX3_reading_X3_isProphet : GoodIn wsX3_reading (wsV RX3 85 RX3 yX3_isProphet wsX3_isProphet) := goodIn_app (goodIn_of _ (by decide +kernel)) ggX3_reading_X3_isProphet
set_option maxRecDepth 20000 in
theorem ggX3_reading_X3_isEventSet : GoodIn wsX3_reading wsX3_isEventSet := goodIn_r _ [15, 16, 17, 18, 9, 19, 20, 21, 22, 23, 24, 25, 26, 27, 28, 29, 30, 31, 32] (by decide +kernel) (by decide +kernel)
set_option maxRecDepth 20000 in
theorem gX3_reading_X3_isEventSet : GoodIn wsX3_reading (wsV RX3 104 RX3 yX3_isEventSet wsX3_isEventSet) := goodIn_app (goodIn_of _ (by decide +kernel)) ggX3_reading_X3_isEventSet
set_option maxRecDepth 20000 in
theorem ggX3_reading_X3_isWithin : GoodIn wsX3_reading wsX3_isWithin := goodIn_r _ [23] (by decide +kernel) (by decide +kernel)
set_option maxRecDepth 20000 in
theorem gX3_reading_X3_isWithin : GoodIn wsX3_reading (va_wsS RX3 81 yX3_isWithin wsX3_isWithin) := goodIn_app (goodIn_of _ (by decide +kernel)) ggX3_reading_X3_isWithin
theorem dX3_reading_0 : decode cX3_reading 0 = .ok (.aload_n 0, 1) := by decide +kernel
theorem dX3_reading_1 : decode cX3_reading 1 = .ok (.iload_n 1, 1) := by decide +kernel
theorem dX3_reading_2 : decode cX3_reading 2 = .ok (.invokevirtual 85, 3) := by decide +kernel
theorem dX3_reading_5 : decode cX3_reading 5 = .ok (.ifCond .ne 5, 3) := by decide +kernel
theorem dX3_reading_8 : decode cX3_reading 8 = .ok (.iconst (-1), 1) := by decide +kernel
theorem dX3_reading_9 : decode cX3_reading 9 = .ok (.ireturn, 1) := by decide +kernel
theorem dX3_reading_10 : decode cX3_reading 10 = .ok (.aload_n 0, 1) := by decide +kernel
theorem dX3_reading_11 : decode cX3_reading 11 = .ok (.iload_n 2, 1) := by decide +kernel
theorem dX3_reading_12 : decode cX3_reading 12 = .ok (.invokevirtual 104, 3) := by decide +kernel
theorem dX3_reading_15 : decode cX3_reading 15 = .ok (.ifCond .eq 13, 3) := by decide +kernel
theorem dX3_reading_18 : decode cX3_reading 18 = .ok (.iload_n 3, 1) := by decide +kernel
theorem dX3_reading_19 : decode cX3_reading 19 = .ok (.sipush 999, 3) := by decide +kernel
theorem dX3_reading_22 : decode cX3_reading 22 = .ok (.invokestatic 81, 3) := by decide +kernel
theorem dX3_reading_25 : decode cX3_reading 25 = .ok (.ifCond .ne 6, 3) := by decide +kernel
theorem dX3_reading_28 : decode cX3_reading 28 = .ok (.bipush (-2), 2) := by decide +kernel
theorem dX3_reading_30 : decode cX3_reading 30 = .ok (.ireturn, 1) := by decide +kernel
theorem dX3_reading_31 : decode cX3_reading 31 = .ok (.aload_n 0, 1) := by decide +kernel
theorem dX3_reading_32 : decode cX3_reading 32 = .ok (.getfield 40, 3) := by decide +kernel
theorem dX3_reading_35 : decode cX3_reading 35 = .ok (.bipush 8, 2) := by decide +kernel
theorem dX3_reading_37 : decode cX3_reading 37 = .ok (.if_icmp .lt 6, 3) := by decide +kernel
theorem dX3_reading_40 : decode cX3_reading 40 = .ok (.bipush (-4), 2) := by decide +kernel
theorem dX3_reading_42 : decode cX3_reading 42 = .ok (.ireturn, 1) := by decide +kernel
theorem dX3_reading_43 : decode cX3_reading 43 = .ok (.aload_n 0, 1) := by decide +kernel
theorem dX3_reading_44 : decode cX3_reading 44 = .ok (.getfield 29, 3) := by decide +kernel
theorem dX3_reading_47 : decode cX3_reading 47 = .ok (.aload_n 0, 1) := by decide +kernel
theorem dX3_reading_48 : decode cX3_reading 48 = .ok (.getfield 40, 3) := by decide +kernel
theorem dX3_reading_51 : decode cX3_reading 51 = .ok (.aaload, 1) := by decide +kernel
theorem dX3_reading_52 : decode cX3_reading 52 = .ok (.astore 4, 2) := by decide +kernel
theorem dX3_reading_54 : decode cX3_reading 54 = .ok (.aload 4, 2) := by decide +kernel
theorem dX3_reading_56 : decode cX3_reading 56 = .ok (.iload_n 1, 1) := by decide +kernel
theorem dX3_reading_57 : decode cX3_reading 57 = .ok (.putfield 155, 3) := by decide +kernel
theorem dX3_reading_60 : decode cX3_reading 60 = .ok (.aload 4, 2) := by decide +kernel
theorem dX3_reading_62 : decode cX3_reading 62 = .ok (.iload_n 2, 1) := by decide +kernel
theorem dX3_reading_63 : decode cX3_reading 63 = .ok (.putfield 158, 3) := by decide +kernel
theorem dX3_reading_66 : decode cX3_reading 66 = .ok (.aload 4, 2) := by decide +kernel
theorem dX3_reading_68 : decode cX3_reading 68 = .ok (.iload_n 3, 1) := by decide +kernel
theorem dX3_reading_69 : decode cX3_reading 69 = .ok (.putfield 161, 3) := by decide +kernel
theorem dX3_reading_72 : decode cX3_reading 72 = .ok (.aload_n 0, 1) := by decide +kernel
theorem dX3_reading_73 : decode cX3_reading 73 = .ok (.dup, 1) := by decide +kernel
theorem dX3_reading_74 : decode cX3_reading 74 = .ok (.getfield 40, 3) := by decide +kernel
theorem dX3_reading_77 : decode cX3_reading 77 = .ok (.iconst 1, 1) := by decide +kernel
theorem dX3_reading_78 : decode cX3_reading 78 = .ok (.iadd, 1) := by decide +kernel
theorem dX3_reading_79 : decode cX3_reading 79 = .ok (.putfield 40, 3) := by decide +kernel
theorem dX3_reading_82 : decode cX3_reading 82 = .ok (.aload_n 0, 1) := by decide +kernel
theorem dX3_reading_83 : decode cX3_reading 83 = .ok (.getfield 40, 3) := by decide +kernel
theorem dX3_reading_86 : decode cX3_reading 86 = .ok (.iconst 1, 1) := by decide +kernel
theorem dX3_reading_87 : decode cX3_reading 87 = .ok (.isub, 1) := by decide +kernel
theorem dX3_reading_88 : decode cX3_reading 88 = .ok (.ireturn, 1) := by decide +kernel
set_option maxRecDepth 20000 in
theorem ggX3_back_X3_isWithin : GoodIn wsX3_back wsX3_isWithin := goodIn_r _ [5] (by decide +kernel) (by decide +kernel)
set_option maxRecDepth 20000 in
theorem gX3_back_X3_isWithin : GoodIn wsX3_back (va_wsS RX3 81 yX3_isWithin wsX3_isWithin) := goodIn_app (goodIn_of _ (by decide +kernel)) ggX3_back_X3_isWithin
theorem dX3_back_0 : decode cX3_back 0 = .ok (.iload_n 1, 1) := by decide +kernel
theorem dX3_back_1 : decode cX3_back 1 = .ok (.aload_n 0, 1) := by decide +kernel
theorem dX3_back_2 : decode cX3_back 2 = .ok (.getfield 40, 3) := by decide +kernel
theorem dX3_back_5 : decode cX3_back 5 = .ok (.invokestatic 81, 3) := by decide +kernel
theorem dX3_back_8 : decode cX3_back 8 = .ok (.ifCond .ne 6, 3) := by decide +kernel
theorem dX3_back_11 : decode cX3_back 11 = .ok (.bipush (-2), 2) := by decide +kernel
theorem dX3_back_13 : decode cX3_back 13 = .ok (.ireturn, 1) := by decide +kernel
theorem dX3_back_14 : decode cX3_back 14 = .ok (.aload_n 0, 1) := by decide +kernel
theorem dX3_back_15 : decode cX3_back 15 = .ok (.dup, 1) := by decide +kernel
theorem dX3_back_16 : decode cX3_back 16 = .ok (.getfield 40, 3) := by decide +kernel
theorem dX3_back_19 : decode cX3_back 19 = .ok (.iload_n 1, 1) := by decide +kernel
theorem dX3_back_20 : decode cX3_back 20 = .ok (.isub, 1) := by decide +kernel
theorem dX3_back_21 : decode cX3_back 21 = .ok (.putfield 40, 3) := by decide +kernel
theorem dX3_back_24 : decode cX3_back 24 = .ok (.aload_n 0, 1) := by decide +kernel
theorem dX3_back_25 : decode cX3_back 25 = .ok (.getfield 40, 3) := by decide +kernel
theorem dX3_back_28 : decode cX3_back 28 = .ok (.ireturn, 1) := by decide +kernel
set_option maxRecDepth 20000 in
theorem ggX3_covers_X3_isProphet : GoodIn wsX3_covers wsX3_isProphet := goodIn_r _ [8, 9, 47, 48, 49, 50, 51, 52, 53, 54, 55] (by decide +kernel) (by decide +kernel)
set_option maxRecDepth 20000 in
theorem gX3_covers_X3_isProphet : GoodIn wsX3_covers (wsV RX3 85 RX3 yX3_isProphet wsX3_isProphet) := goodIn_app (goodIn_of _ (by decide +kernel)) ggX3_covers_X3_isProphet
set_option maxRecDepth 20000 in
theorem ggX3_covers_X3_agreesWithReadings : GoodIn wsX3_covers wsX3_agreesWithReadings := goodIn_r _ [13, 14, 15, 16, 17, 18, 19, 20, 21, 7, 22, 23, 24, 25, 26, 27, 28, 29, 30, 31, 32, 33, 34, 35, 36, 37, 38, 39, 40, 41, 42, 43, 44, 45, 1, 2, 46, 3, 47, 48, 49, 50, 51, 52, 53, 54, 55, 59, 60, 61, 56, 57, 58] (by decide +kernel) (by decide +kernel)
set_option maxRecDepth 20000 in
theorem gX3_covers_X3_agreesWithReadings : GoodIn wsX3_covers (wsV RX3 164 RX3 yX3_agreesWithReadings wsX3_agreesWithReadings) := goodIn_app (goodIn_of _ (by decide +kernel)) ggX3_covers_X3_agreesWithReadings
theorem dX3_covers_0 : decode cX3_covers 0 = .ok (.aload_n 0, 1) := by decide +kernel
theorem dX3_covers_1 : decode cX3_covers 1 = .ok (.iload_n 1, 1) := by decide +kernel
theorem dX3_covers_2 : decode cX3_covers 2 = .ok (.invokevirtual 85, 3) := by decide +kernel
theorem dX3_covers_5 : decode cX3_covers 5 = .ok (.ifCond .ne 5, 3) := by decide +kernel
theorem dX3_covers_8 : decode cX3_covers 8 = .ok (.iconst (-1), 1) := by decide +kernel
theorem dX3_covers_9 : decode cX3_covers 9 = .ok (.ireturn, 1) := by decide +kernel
theorem dX3_covers_10 : decode cX3_covers 10 = .ok (.aload_n 0, 1) := by decide +kernel
theorem dX3_covers_11 : decode cX3_covers 11 = .ok (.getfield 23, 3) := by decide +kernel
theorem dX3_covers_14 : decode cX3_covers 14 = .ok (.iload_n 1, 1) := by decide +kernel
theorem dX3_covers_15 : decode cX3_covers 15 = .ok (.aaload, 1) := by decide +kernel
theorem dX3_covers_16 : decode cX3_covers 16 = .ok (.astore_n 2, 1) := by decide +kernel
theorem dX3_covers_17 : decode cX3_covers 17 = .ok (.iconst 0, 1) := by decide +kernel
theorem dX3_covers_18 : decode cX3_covers 18 = .ok (.istore_n 3, 1) := by decide +kernel
theorem dX3_covers_19 : decode cX3_covers 19 = .ok (.iconst 0, 1) := by decide +kernel
theorem dX3_covers_20 : decode cX3_covers 20 = .ok (.istore 4, 2) := by decide +kernel
theorem dX3_covers_22 : decode cX3_covers 22 = .ok (.iload 4, 2) := by decide +kernel
theorem dX3_covers_24 : decode cX3_covers 24 = .ok (.bipush 10, 2) := by decide +kernel
theorem dX3_covers_26 : decode cX3_covers 26 = .ok (.if_icmp .ge 34, 3) := by decide +kernel
theorem dX3_covers_29 : decode cX3_covers 29 = .ok (.aload_n 0, 1) := by decide +kernel
theorem dX3_covers_30 : decode cX3_covers 30 = .ok (.iload_n 1, 1) := by decide +kernel
theorem dX3_covers_31 : decode cX3_covers 31 = .ok (.aload_n 2, 1) := by decide +kernel
theorem dX3_covers_32 : decode cX3_covers 32 = .ok (.getfield 88, 3) := by decide +kernel
theorem dX3_covers_35 : decode cX3_covers 35 = .ok (.iload 4, 2) := by decide +kernel
theorem dX3_covers_37 : decode cX3_covers 37 = .ok (.aload_n 2, 1) := by decide +kernel
theorem dX3_covers_38 : decode cX3_covers 38 = .ok (.getfield 94, 3) := by decide +kernel
theorem dX3_covers_41 : decode cX3_covers 41 = .ok (.invokevirtual 164, 3) := by decide +kernel
theorem dX3_covers_44 : decode cX3_covers 44 = .ok (.ifCond .eq 10, 3) := by decide +kernel
theorem dX3_covers_47 : decode cX3_covers 47 = .ok (.iload_n 3, 1) := by decide +kernel
theorem dX3_covers_48 : decode cX3_covers 48 = .ok (.iconst 1, 1) := by decide +kernel
theorem dX3_covers_49 : decode cX3_covers 49 = .ok (.iload 4, 2) := by decide +kernel
theorem dX3_covers_51 : decode cX3_covers 51 = .ok (.ishl, 1) := by decide +kernel
theorem dX3_covers_52 : decode cX3_covers 52 = .ok (.ior, 1) := by decide +kernel
theorem dX3_covers_53 : decode cX3_covers 53 = .ok (.istore_n 3, 1) := by decide +kernel
theorem dX3_covers_54 : decode cX3_covers 54 = .ok (.iinc 4 1, 3) := by decide +kernel
theorem dX3_covers_57 : decode cX3_covers 57 = .ok (.goto (-35), 3) := by decide +kernel
theorem dX3_covers_60 : decode cX3_covers 60 = .ok (.iload_n 3, 1) := by decide +kernel
theorem dX3_covers_61 : decode cX3_covers 61 = .ok (.ireturn, 1) := by decide +kernel
set_option maxRecDepth 20000 in
theorem ggX3_kinds_X3_isProphet : GoodIn wsX3_kinds wsX3_isProphet := goodIn_r _ [8, 9, 47, 48, 49, 50, 51, 52, 53, 54, 55] (by decide +kernel) (by decide +kernel)
set_option maxRecDepth 20000 in
theorem gX3_kinds_X3_isProphet : GoodIn wsX3_kinds (wsV RX3 85 RX3 yX3_isProphet wsX3_isProphet) := goodIn_app (goodIn_of _ (by decide +kernel)) ggX3_kinds_X3_isProphet
set_option maxRecDepth 20000 in
theorem ggX3_kinds_X3_agreesWithReadings : GoodIn wsX3_kinds wsX3_agreesWithReadings := goodIn_r _ [13, 14, 15, 16, 17, 18, 19, 20, 21, 7, 22, 23, 24, 25, 26, 27, 28, 29, 30, 31, 32, 33, 34, 35, 36, 37, 38, 39, 40, 41, 42, 43, 44, 45, 1, 46, 2, 3, 47, 48, 49, 50, 51, 52, 53, 54, 55, 59, 60, 61, 56, 57, 58] (by decide +kernel) (by decide +kernel)
set_option maxRecDepth 20000 in
theorem gX3_kinds_X3_agreesWithReadings : GoodIn wsX3_kinds (wsV RX3 164 RX3 yX3_agreesWithReadings wsX3_agreesWithReadings) := goodIn_app (goodIn_of _ (by decide +kernel)) ggX3_kinds_X3_agreesWithReadings
theorem dX3_kinds_0 : decode cX3_kinds 0 = .ok (.aload_n 0, 1) := by decide +kernel
theorem dX3_kinds_1 : decode cX3_kinds 1 = .ok (.iload_n 1, 1) := by decide +kernel
theorem dX3_kinds_2 : decode cX3_kinds 2 = .ok (.invokevirtual 85, 3) := by decide +kernel
theorem dX3_kinds_5 : decode cX3_kinds 5 = .ok (.ifCond .ne 5, 3) := by decide +kernel
theorem dX3_kinds_8 : decode cX3_kinds 8 = .ok (.iconst (-1), 1) := by decide +kernel
theorem dX3_kinds_9 : decode cX3_kinds 9 = .ok (.ireturn, 1) := by decide +kernel
theorem dX3_kinds_10 : decode cX3_kinds 10 = .ok (.aload_n 0, 1) := by decide +kernel
theorem dX3_kinds_11 : decode cX3_kinds 11 = .ok (.getfield 23, 3) := by decide +kernel
theorem dX3_kinds_14 : decode cX3_kinds 14 = .ok (.iload_n 1, 1) := by decide +kernel
theorem dX3_kinds_15 : decode cX3_kinds 15 = .ok (.aaload, 1) := by decide +kernel
theorem dX3_kinds_16 : decode cX3_kinds 16 = .ok (.astore_n 2, 1) := by decide +kernel
theorem dX3_kinds_17 : decode cX3_kinds 17 = .ok (.iconst 0, 1) := by decide +kernel
theorem dX3_kinds_18 : decode cX3_kinds 18 = .ok (.istore_n 3, 1) := by decide +kernel
theorem dX3_kinds_19 : decode cX3_kinds 19 = .ok (.iconst 0, 1) := by decide +kernel
theorem dX3_kinds_20 : decode cX3_kinds 20 = .ok (.istore 4, 2) := by decide +kernel
theorem dX3_kinds_22 : decode cX3_kinds 22 = .ok (.iload 4, 2) := by decide +kernel
theorem dX3_kinds_24 : decode cX3_kinds 24 = .ok (.iconst 3, 1) := by decide +kernel
theorem dX3_kinds_25 : decode cX3_kinds 25 = .ok (.if_icmp .ge 34, 3) := by decide +kernel
theorem dX3_kinds_28 : decode cX3_kinds 28 = .ok (.aload_n 0, 1) := by decide +kernel
theorem dX3_kinds_29 : decode cX3_kinds 29 = .ok (.iload_n 1, 1) := by decide +kernel
theorem dX3_kinds_30 : decode cX3_kinds 30 = .ok (.iload 4, 2) := by decide +kernel
theorem dX3_kinds_32 : decode cX3_kinds 32 = .ok (.aload_n 2, 1) := by decide +kernel
theorem dX3_kinds_33 : decode cX3_kinds 33 = .ok (.getfield 91, 3) := by decide +kernel
theorem dX3_kinds_36 : decode cX3_kinds 36 = .ok (.aload_n 2, 1) := by decide +kernel
theorem dX3_kinds_37 : decode cX3_kinds 37 = .ok (.getfield 94, 3) := by decide +kernel
theorem dX3_kinds_40 : decode cX3_kinds 40 = .ok (.invokevirtual 164, 3) := by decide +kernel
theorem dX3_kinds_43 : decode cX3_kinds 43 = .ok (.ifCond .eq 10, 3) := by decide +kernel
theorem dX3_kinds_46 : decode cX3_kinds 46 = .ok (.iload_n 3, 1) := by decide +kernel
theorem dX3_kinds_47 : decode cX3_kinds 47 = .ok (.iconst 1, 1) := by decide +kernel
theorem dX3_kinds_48 : decode cX3_kinds 48 = .ok (.iload 4, 2) := by decide +kernel
theorem dX3_kinds_50 : decode cX3_kinds 50 = .ok (.ishl, 1) := by decide +kernel
theorem dX3_kinds_51 : decode cX3_kinds 51 = .ok (.ior, 1) := by decide +kernel
theorem dX3_kinds_52 : decode cX3_kinds 52 = .ok (.istore_n 3, 1) := by decide +kernel
theorem dX3_kinds_53 : decode cX3_kinds 53 = .ok (.iinc 4 1, 3) := by decide +kernel
theorem dX3_kinds_56 : decode cX3_kinds 56 = .ok (.goto (-34), 3) := by decide +kernel
theorem dX3_kinds_59 : decode cX3_kinds 59 = .ok (.iload_n 3, 1) := by decide +kernel
theorem dX3_kinds_60 : decode cX3_kinds 60 = .ok (.ireturn, 1) := by decide +kernel
set_option maxRecDepth 20000 in
theorem ggX3_sayings_X3_isProphet : GoodIn wsX3_sayings wsX3_isProphet := goodIn_r _ [9, 10, 51, 52, 53, 54, 55, 56, 57, 58, 59] (by decide +kernel) (by decide +kernel)
set_option maxRecDepth 20000 in
theorem gX3_sayings_X3_isProphet : GoodIn wsX3_sayings (wsV RX3 85 RX3 yX3_isProphet wsX3_isProphet) := goodIn_app (goodIn_of _ (by decide +kernel)) ggX3_sayings_X3_isProphet
set_option maxRecDepth 20000 in
theorem ggX3_sayings_X3_isEvent : GoodIn wsX3_sayings wsX3_isEvent := goodIn_r _ [14, 15, 51, 52, 53, 54, 55, 56, 57, 58, 59] (by decide +kernel) (by decide +kernel)
set_option maxRecDepth 20000 in
theorem gX3_sayings_X3_isEvent : GoodIn wsX3_sayings (wsV RX3 78 RX3 yX3_isEvent wsX3_isEvent) := goodIn_app (goodIn_of _ (by decide +kernel)) ggX3_sayings_X3_isEvent
set_option maxRecDepth 20000 in
theorem ggX3_sayings_X3_agreesWithReadings : GoodIn wsX3_sayings wsX3_agreesWithReadings := goodIn_r _ [19, 20, 21, 22, 23, 24, 25, 26, 27, 8, 28, 29, 30, 31, 32, 33, 34, 35, 36, 15, 37, 38, 39, 40, 41, 42, 43, 44, 45, 46, 47, 48, 49, 50, 1, 2, 3, 4, 51, 52, 53, 54, 55, 56, 57, 58, 59, 63, 64, 65, 60, 61, 62] (by decide +kernel) (by decide +kernel)
set_option maxRecDepth 20000 in
theorem gX3_sayings_X3_agreesWithReadings : GoodIn wsX3_sayings (wsV RX3 164 RX3 yX3_agreesWithReadings wsX3_agreesWithReadings) := goodIn_app (goodIn_of _ (by decide +kernel)) ggX3_sayings_X3_agreesWithReadings
theorem dX3_sayings_0 : decode cX3_sayings 0 = .ok (.aload_n 0, 1) := by decide +kernel
theorem dX3_sayings_1 : decode cX3_sayings 1 = .ok (.iload_n 1, 1) := by decide +kernel
theorem dX3_sayings_2 : decode cX3_sayings 2 = .ok (.invokevirtual 85, 3) := by decide +kernel
theorem dX3_sayings_5 : decode cX3_sayings 5 = .ok (.ifCond .eq 11, 3) := by decide +kernel
theorem dX3_sayings_8 : decode cX3_sayings 8 = .ok (.aload_n 0, 1) := by decide +kernel
theorem dX3_sayings_9 : decode cX3_sayings 9 = .ok (.iload_n 2, 1) := by decide +kernel
theorem dX3_sayings_10 : decode cX3_sayings 10 = .ok (.invokevirtual 78, 3) := by decide +kernel
theorem dX3_sayings_13 : decode cX3_sayings 13 = .ok (.ifCond .ne 5, 3) := by decide +kernel
theorem dX3_sayings_16 : decode cX3_sayings 16 = .ok (.iconst (-1), 1) := by decide +kernel
theorem dX3_sayings_17 : decode cX3_sayings 17 = .ok (.ireturn, 1) := by decide +kernel
theorem dX3_sayings_18 : decode cX3_sayings 18 = .ok (.aload_n 0, 1) := by decide +kernel
theorem dX3_sayings_19 : decode cX3_sayings 19 = .ok (.getfield 23, 3) := by decide +kernel
theorem dX3_sayings_22 : decode cX3_sayings 22 = .ok (.iload_n 1, 1) := by decide +kernel
theorem dX3_sayings_23 : decode cX3_sayings 23 = .ok (.aaload, 1) := by decide +kernel
theorem dX3_sayings_24 : decode cX3_sayings 24 = .ok (.astore_n 3, 1) := by decide +kernel
theorem dX3_sayings_25 : decode cX3_sayings 25 = .ok (.iconst 1, 1) := by decide +kernel
theorem dX3_sayings_26 : decode cX3_sayings 26 = .ok (.iload_n 2, 1) := by decide +kernel
theorem dX3_sayings_27 : decode cX3_sayings 27 = .ok (.ishl, 1) := by decide +kernel
theorem dX3_sayings_28 : decode cX3_sayings 28 = .ok (.istore 4, 2) := by decide +kernel
theorem dX3_sayings_30 : decode cX3_sayings 30 = .ok (.iconst 0, 1) := by decide +kernel
theorem dX3_sayings_31 : decode cX3_sayings 31 = .ok (.istore 5, 2) := by decide +kernel
theorem dX3_sayings_33 : decode cX3_sayings 33 = .ok (.aload_n 0, 1) := by decide +kernel
theorem dX3_sayings_34 : decode cX3_sayings 34 = .ok (.iload_n 1, 1) := by decide +kernel
theorem dX3_sayings_35 : decode cX3_sayings 35 = .ok (.aload_n 3, 1) := by decide +kernel
theorem dX3_sayings_36 : decode cX3_sayings 36 = .ok (.getfield 88, 3) := by decide +kernel
theorem dX3_sayings_39 : decode cX3_sayings 39 = .ok (.aload_n 3, 1) := by decide +kernel
theorem dX3_sayings_40 : decode cX3_sayings 40 = .ok (.getfield 91, 3) := by decide +kernel
theorem dX3_sayings_43 : decode cX3_sayings 43 = .ok (.aload_n 3, 1) := by decide +kernel
theorem dX3_sayings_44 : decode cX3_sayings 44 = .ok (.getfield 94, 3) := by decide +kernel
theorem dX3_sayings_47 : decode cX3_sayings 47 = .ok (.iload 4, 2) := by decide +kernel
theorem dX3_sayings_49 : decode cX3_sayings 49 = .ok (.iconst (-1), 1) := by decide +kernel
theorem dX3_sayings_50 : decode cX3_sayings 50 = .ok (.ixor, 1) := by decide +kernel
theorem dX3_sayings_51 : decode cX3_sayings 51 = .ok (.iand, 1) := by decide +kernel
theorem dX3_sayings_52 : decode cX3_sayings 52 = .ok (.invokevirtual 164, 3) := by decide +kernel
theorem dX3_sayings_55 : decode cX3_sayings 55 = .ok (.ifCond .eq 9, 3) := by decide +kernel
theorem dX3_sayings_58 : decode cX3_sayings 58 = .ok (.iload 5, 2) := by decide +kernel
theorem dX3_sayings_60 : decode cX3_sayings 60 = .ok (.iconst 1, 1) := by decide +kernel
theorem dX3_sayings_61 : decode cX3_sayings 61 = .ok (.ior, 1) := by decide +kernel
theorem dX3_sayings_62 : decode cX3_sayings 62 = .ok (.istore 5, 2) := by decide +kernel
theorem dX3_sayings_64 : decode cX3_sayings 64 = .ok (.aload_n 0, 1) := by decide +kernel
theorem dX3_sayings_65 : decode cX3_sayings 65 = .ok (.iload_n 1, 1) := by decide +kernel
theorem dX3_sayings_66 : decode cX3_sayings 66 = .ok (.aload_n 3, 1) := by decide +kernel
theorem dX3_sayings_67 : decode cX3_sayings 67 = .ok (.getfield 88, 3) := by decide +kernel
theorem dX3_sayings_70 : decode cX3_sayings 70 = .ok (.aload_n 3, 1) := by decide +kernel
theorem dX3_sayings_71 : decode cX3_sayings 71 = .ok (.getfield 91, 3) := by decide +kernel
theorem dX3_sayings_74 : decode cX3_sayings 74 = .ok (.aload_n 3, 1) := by decide +kernel
theorem dX3_sayings_75 : decode cX3_sayings 75 = .ok (.getfield 94, 3) := by decide +kernel
theorem dX3_sayings_78 : decode cX3_sayings 78 = .ok (.iload 4, 2) := by decide +kernel
theorem dX3_sayings_80 : decode cX3_sayings 80 = .ok (.ior, 1) := by decide +kernel
theorem dX3_sayings_81 : decode cX3_sayings 81 = .ok (.invokevirtual 164, 3) := by decide +kernel
theorem dX3_sayings_84 : decode cX3_sayings 84 = .ok (.ifCond .eq 9, 3) := by decide +kernel
theorem dX3_sayings_87 : decode cX3_sayings 87 = .ok (.iload 5, 2) := by decide +kernel
theorem dX3_sayings_89 : decode cX3_sayings 89 = .ok (.iconst 2, 1) := by decide +kernel
theorem dX3_sayings_90 : decode cX3_sayings 90 = .ok (.ior, 1) := by decide +kernel
theorem dX3_sayings_91 : decode cX3_sayings 91 = .ok (.istore 5, 2) := by decide +kernel
theorem dX3_sayings_93 : decode cX3_sayings 93 = .ok (.iload 5, 2) := by decide +kernel
theorem dX3_sayings_95 : decode cX3_sayings 95 = .ok (.ireturn, 1) := by decide +kernel
set_option maxRecDepth 20000 in
theorem ggX3_odds_X3_hasOffice : GoodIn wsX3_odds wsX3_hasOffice := goodIn_r _ [6, 7, 72, 73, 74, 75, 76, 77, 78, 79, 80] (by decide +kernel) (by decide +kernel)
set_option maxRecDepth 20000 in
theorem gX3_odds_X3_hasOffice : GoodIn wsX3_odds (wsV RX3 110 RX3 yX3_hasOffice wsX3_hasOffice) := goodIn_app (goodIn_of _ (by decide +kernel)) ggX3_odds_X3_hasOffice
set_option maxRecDepth 20000 in
theorem ggX3_odds_X3_isWithin : GoodIn wsX3_odds wsX3_isWithin := goodIn_r _ [10] (by decide +kernel) (by decide +kernel)
set_option maxRecDepth 20000 in
theorem gX3_odds_X3_isWithin : GoodIn wsX3_odds (va_wsS RX3 81 yX3_isWithin wsX3_isWithin) := goodIn_app (goodIn_of _ (by decide +kernel)) ggX3_odds_X3_isWithin
set_option maxRecDepth 20000 in
theorem ggX3_odds_X3_weightFrom : GoodIn wsX3_odds wsX3_weightFrom := goodIn_r _ [14, 15, 16, 17, 5, 18, 19, 20, 21, 22, 23, 7, 24, 25, 26, 27, 28, 29, 30, 31, 32, 33, 34, 35, 36, 37, 38, 39, 40, 41, 42, 43, 44, 45, 46, 47, 48, 49, 50, 51, 52, 53, 54, 55, 56, 57, 72, 73, 74, 75, 76, 77, 78, 79, 80, 81, 82, 83] (by decide +kernel) (by decide +kernel)
set_option maxRecDepth 20000 in
theorem gX3_odds_X3_weightFrom : GoodIn wsX3_odds (wsV RX3 149 RX3 yX3_weightFrom wsX3_weightFrom) := goodIn_app (goodIn_of _ (by decide +kernel)) ggX3_odds_X3_weightFrom
set_option maxRecDepth 20000 in
theorem ggX3_odds_X3_weightOfAll : GoodIn wsX3_odds wsX3_weightOfAll := goodIn_r _ [61, 19, 72, 73, 74, 75, 76, 77, 78, 79, 80] (by decide +kernel) (by decide +kernel)
set_option maxRecDepth 20000 in
theorem gX3_odds_X3_weightOfAll : GoodIn wsX3_odds (wsV RX3 146 RX3 yX3_weightOfAll wsX3_weightOfAll) := goodIn_app (goodIn_of _ (by decide +kernel)) ggX3_odds_X3_weightOfAll
set_option maxRecDepth 20000 in
theorem ggX3_odds_X3_shareNumber : GoodIn wsX3_odds wsX3_shareNumber := goodIn_r _ [64, 65, 66, 5, 67, 68, 69, 70, 71] (by decide +kernel) (by decide +kernel)
set_option maxRecDepth 20000 in
theorem gX3_odds_X3_shareNumber : GoodIn wsX3_odds (va_wsS RX3 138 yX3_shareNumber wsX3_shareNumber) := goodIn_app (goodIn_of _ (by decide +kernel)) ggX3_odds_X3_shareNumber
theorem dX3_odds_0 : decode cX3_odds 0 = .ok (.aload_n 0, 1) := by decide +kernel
theorem dX3_odds_1 : decode cX3_odds 1 = .ok (.invokevirtual 110, 3) := by decide +kernel
theorem dX3_odds_4 : decode cX3_odds 4 = .ok (.ifCond .eq 21, 3) := by decide +kernel
theorem dX3_odds_7 : decode cX3_odds 7 = .ok (.iload_n 1, 1) := by decide +kernel
theorem dX3_odds_8 : decode cX3_odds 8 = .ok (.sipush 999, 3) := by decide +kernel
theorem dX3_odds_11 : decode cX3_odds 11 = .ok (.invokestatic 81, 3) := by decide +kernel
theorem dX3_odds_14 : decode cX3_odds 14 = .ok (.ifCond .eq 11, 3) := by decide +kernel
theorem dX3_odds_17 : decode cX3_odds 17 = .ok (.iload_n 2, 1) := by decide +kernel
theorem dX3_odds_18 : decode cX3_odds 18 = .ok (.iconst 1, 1) := by decide +kernel
theorem dX3_odds_19 : decode cX3_odds 19 = .ok (.invokestatic 81, 3) := by decide +kernel
theorem dX3_odds_22 : decode cX3_odds 22 = .ok (.ifCond .ne 7, 3) := by decide +kernel
theorem dX3_odds_25 : decode cX3_odds 25 = .ok (.ldc2_w 132, 3) := by decide +kernel
theorem dX3_odds_28 : decode cX3_odds 28 = .ok (.lreturn, 1) := by decide +kernel
theorem dX3_odds_29 : decode cX3_odds 29 = .ok (.aload_n 0, 1) := by decide +kernel
theorem dX3_odds_30 : decode cX3_odds 30 = .ok (.iload_n 1, 1) := by decide +kernel
theorem dX3_odds_31 : decode cX3_odds 31 = .ok (.invokevirtual 149, 3) := by decide +kernel
theorem dX3_odds_34 : decode cX3_odds 34 = .ok (.aload_n 0, 1) := by decide +kernel
theorem dX3_odds_35 : decode cX3_odds 35 = .ok (.invokevirtual 146, 3) := by decide +kernel
theorem dX3_odds_38 : decode cX3_odds 38 = .ok (.iload_n 2, 1) := by decide +kernel
theorem dX3_odds_39 : decode cX3_odds 39 = .ok (.invokestatic 138, 3) := by decide +kernel
theorem dX3_odds_42 : decode cX3_odds 42 = .ok (.lreturn, 1) := by decide +kernel
set_option maxRecDepth 20000 in
theorem ggX3_sheet_X3_isSheet : GoodIn wsX3_sheet wsX3_isSheet := goodIn_r _ [6] (by decide +kernel) (by decide +kernel)
set_option maxRecDepth 20000 in
theorem gX3_sheet_X3_isSheet : GoodIn wsX3_sheet (va_wsS RX3 52 yX3_isSheet wsX3_isSheet) := goodIn_app (goodIn_of _ (by decide +kernel)) ggX3_sheet_X3_isSheet
set_option maxRecDepth 20000 in
theorem ggX3_sheet_X3_isLane : GoodIn wsX3_sheet wsX3_isLane := goodIn_r _ [9] (by decide +kernel) (by decide +kernel)
set_option maxRecDepth 20000 in
theorem gX3_sheet_X3_isLane : GoodIn wsX3_sheet (va_wsS RX3 56 yX3_isLane wsX3_isLane) := goodIn_app (goodIn_of _ (by decide +kernel)) ggX3_sheet_X3_isLane
set_option maxRecDepth 20000 in
theorem ggX3_sheet_X3_faulty : GoodIn wsX3_sheet wsX3_faulty := goodIn_r _ [13, 1, 22, 23, 24, 25, 26, 27, 28, 29, 30] (by decide +kernel) (by decide +kernel)
set_option maxRecDepth 20000 in
theorem gX3_sheet_X3_faulty : GoodIn wsX3_sheet (wsV RX3 63 RX3 yX3_faulty wsX3_faulty) := goodIn_app (goodIn_of _ (by decide +kernel)) ggX3_sheet_X3_faulty
set_option maxRecDepth 20000 in
theorem ggX3_sheet_X2_makeRow : GoodIn wsX3_sheet wsX2_makeRow := goodIn_r _ [18, 19, 20, 21, 31, 32, 33] (by decide +kernel) (by decide +kernel)
set_option maxRecDepth 20000 in
theorem gX3_sheet_X2_makeRow : GoodIn wsX3_sheet (wsV RX3 168 RX2 yX2_makeRow wsX2_makeRow) := goodIn_app (goodIn_of _ (by decide +kernel)) ggX3_sheet_X2_makeRow
theorem dX3_sheet_0 : decode cX3_sheet 0 = .ok (.aload_n 0, 1) := by decide +kernel
theorem dX3_sheet_1 : decode cX3_sheet 1 = .ok (.iconst 0, 1) := by decide +kernel
theorem dX3_sheet_2 : decode cX3_sheet 2 = .ok (.putfield 46, 3) := by decide +kernel
theorem dX3_sheet_5 : decode cX3_sheet 5 = .ok (.iload_n 1, 1) := by decide +kernel
theorem dX3_sheet_6 : decode cX3_sheet 6 = .ok (.invokestatic 52, 3) := by decide +kernel
theorem dX3_sheet_9 : decode cX3_sheet 9 = .ok (.ifCond .ne 5, 3) := by decide +kernel
theorem dX3_sheet_12 : decode cX3_sheet 12 = .ok (.iconst (-1), 1) := by decide +kernel
theorem dX3_sheet_13 : decode cX3_sheet 13 = .ok (.ireturn, 1) := by decide +kernel
theorem dX3_sheet_14 : decode cX3_sheet 14 = .ok (.iload_n 2, 1) := by decide +kernel
theorem dX3_sheet_15 : decode cX3_sheet 15 = .ok (.invokestatic 56, 3) := by decide +kernel
theorem dX3_sheet_18 : decode cX3_sheet 18 = .ok (.ifCond .eq 9, 3) := by decide +kernel
theorem dX3_sheet_21 : decode cX3_sheet 21 = .ok (.iload_n 3, 1) := by decide +kernel
theorem dX3_sheet_22 : decode cX3_sheet 22 = .ok (.bipush 60, 2) := by decide +kernel
theorem dX3_sheet_24 : decode cX3_sheet 24 = .ok (.if_icmp .le 6, 3) := by decide +kernel
theorem dX3_sheet_27 : decode cX3_sheet 27 = .ok (.bipush (-2), 2) := by decide +kernel
theorem dX3_sheet_29 : decode cX3_sheet 29 = .ok (.ireturn, 1) := by decide +kernel
theorem dX3_sheet_30 : decode cX3_sheet 30 = .ok (.iload_n 3, 1) := by decide +kernel
theorem dX3_sheet_31 : decode cX3_sheet 31 = .ok (.ifCond .ge 9, 3) := by decide +kernel
theorem dX3_sheet_34 : decode cX3_sheet 34 = .ok (.aload_n 0, 1) := by decide +kernel
theorem dX3_sheet_35 : decode cX3_sheet 35 = .ok (.iconst 4, 1) := by decide +kernel
theorem dX3_sheet_36 : decode cX3_sheet 36 = .ok (.invokevirtual 63, 3) := by decide +kernel
theorem dX3_sheet_39 : decode cX3_sheet 39 = .ok (.ireturn, 1) := by decide +kernel
theorem dX3_sheet_40 : decode cX3_sheet 40 = .ok (.aload_n 0, 1) := by decide +kernel
theorem dX3_sheet_41 : decode cX3_sheet 41 = .ok (.getfield 13, 3) := by decide +kernel
theorem dX3_sheet_44 : decode cX3_sheet 44 = .ok (.iload_n 1, 1) := by decide +kernel
theorem dX3_sheet_45 : decode cX3_sheet 45 = .ok (.aaload, 1) := by decide +kernel
theorem dX3_sheet_46 : decode cX3_sheet 46 = .ok (.iload_n 2, 1) := by decide +kernel
theorem dX3_sheet_47 : decode cX3_sheet 47 = .ok (.iload_n 3, 1) := by decide +kernel
theorem dX3_sheet_48 : decode cX3_sheet 48 = .ok (.invokevirtual 168, 3) := by decide +kernel
theorem dX3_sheet_51 : decode cX3_sheet 51 = .ok (.iconst 1, 1) := by decide +kernel
theorem dX3_sheet_52 : decode cX3_sheet 52 = .ok (.ireturn, 1) := by decide +kernel
set_option maxRecDepth 20000 in
theorem ggX3_lose_X3_isSheet : GoodIn wsX3_lose wsX3_isSheet := goodIn_r _ [6] (by decide +kernel) (by decide +kernel)
set_option maxRecDepth 20000 in
theorem gX3_lose_X3_isSheet : GoodIn wsX3_lose (va_wsS RX3 52 yX3_isSheet wsX3_isSheet) := goodIn_app (goodIn_of _ (by decide +kernel)) ggX3_lose_X3_isSheet
set_option maxRecDepth 20000 in
theorem ggX3_lose_X2_isEmpty : GoodIn wsX3_lose wsX2_isEmpty := goodIn_r _ [11, 12, 22, 23, 24] (by decide +kernel) (by decide +kernel)
set_option maxRecDepth 20000 in
theorem gX3_lose_X2_isEmpty : GoodIn wsX3_lose (wsV RX3 172 RX2 yX2_isEmpty wsX2_isEmpty) := goodIn_app (goodIn_of _ (by decide +kernel)) ggX3_lose_X2_isEmpty
theorem dX3_lose_0 : decode cX3_lose 0 = .ok (.iload_n 1, 1) := by decide +kernel
theorem dX3_lose_1 : decode cX3_lose 1 = .ok (.invokestatic 52, 3) := by decide +kernel
theorem dX3_lose_4 : decode cX3_lose 4 = .ok (.ifCond .ne 5, 3) := by decide +kernel
theorem dX3_lose_7 : decode cX3_lose 7 = .ok (.iconst (-1), 1) := by decide +kernel
theorem dX3_lose_8 : decode cX3_lose 8 = .ok (.ireturn, 1) := by decide +kernel
theorem dX3_lose_9 : decode cX3_lose 9 = .ok (.aload_n 0, 1) := by decide +kernel
theorem dX3_lose_10 : decode cX3_lose 10 = .ok (.getfield 13, 3) := by decide +kernel
theorem dX3_lose_13 : decode cX3_lose 13 = .ok (.iload_n 1, 1) := by decide +kernel
theorem dX3_lose_14 : decode cX3_lose 14 = .ok (.aaload, 1) := by decide +kernel
theorem dX3_lose_15 : decode cX3_lose 15 = .ok (.invokevirtual 172, 3) := by decide +kernel
theorem dX3_lose_18 : decode cX3_lose 18 = .ok (.ifCond .eq 7, 3) := by decide +kernel
theorem dX3_lose_21 : decode cX3_lose 21 = .ok (.iconst 0, 1) := by decide +kernel
theorem dX3_lose_22 : decode cX3_lose 22 = .ok (.goto 4, 3) := by decide +kernel
theorem dX3_lose_25 : decode cX3_lose 25 = .ok (.iconst 1, 1) := by decide +kernel
theorem dX3_lose_26 : decode cX3_lose 26 = .ok (.istore_n 2, 1) := by decide +kernel
theorem dX3_lose_27 : decode cX3_lose 27 = .ok (.aload_n 0, 1) := by decide +kernel
theorem dX3_lose_28 : decode cX3_lose 28 = .ok (.getfield 13, 3) := by decide +kernel
theorem dX3_lose_31 : decode cX3_lose 31 = .ok (.iload_n 1, 1) := by decide +kernel
theorem dX3_lose_32 : decode cX3_lose 32 = .ok (.aaload, 1) := by decide +kernel
theorem dX3_lose_33 : decode cX3_lose 33 = .ok (.iconst (-1), 1) := by decide +kernel
theorem dX3_lose_34 : decode cX3_lose 34 = .ok (.putfield 175, 3) := by decide +kernel
theorem dX3_lose_37 : decode cX3_lose 37 = .ok (.iload_n 2, 1) := by decide +kernel
theorem dX3_lose_38 : decode cX3_lose 38 = .ok (.ireturn, 1) := by decide +kernel
set_option maxRecDepth 20000 in
theorem ggX3_put_X3_isSheet : GoodIn wsX3_put wsX3_isSheet := goodIn_r _ [7] (by decide +kernel) (by decide +kernel)
set_option maxRecDepth 20000 in
theorem gX3_put_X3_isSheet : GoodIn wsX3_put (va_wsS RX3 52 yX3_isSheet wsX3_isSheet) := goodIn_app (goodIn_of _ (by decide +kernel)) ggX3_put_X3_isSheet
set_option maxRecDepth 20000 in
theorem ggX3_put_X2_flaw : GoodIn wsX3_put wsX2_flaw := goodIn_r _ [12, 13, 14, 15, 16, 11, 17, 18, 19, 20, 21, 22, 45, 46, 47] (by decide +kernel) (by decide +kernel)
set_option maxRecDepth 20000 in
theorem gX3_put_X2_flaw : GoodIn wsX3_put (wsV RX3 59 RX2 yX2_flaw wsX2_flaw) := goodIn_app (goodIn_of _ (by decide +kernel)) ggX3_put_X2_flaw
set_option maxRecDepth 20000 in
theorem ggX3_put_X3_faulty : GoodIn wsX3_put wsX3_faulty := goodIn_r _ [26, 1, 36, 37, 38, 39, 40, 41, 42, 43, 44] (by decide +kernel) (by decide +kernel)
set_option maxRecDepth 20000 in
theorem gX3_put_X3_faulty : GoodIn wsX3_put (wsV RX3 63 RX3 yX3_faulty wsX3_faulty) := goodIn_app (goodIn_of _ (by decide +kernel)) ggX3_put_X3_faulty
set_option maxRecDepth 20000 in
theorem ggX3_put_X2_store : GoodIn wsX3_put wsX2_store := goodIn_r _ [30, 31, 19, 20, 21, 11, 22, 18, 32, 33, 34, 35, 13, 45, 46, 47] (by decide +kernel) (by decide +kernel)
set_option maxRecDepth 20000 in
theorem gX3_put_X2_store : GoodIn wsX3_put (wsV RX3 181 RX2 yX2_store wsX2_store) := goodIn_app (goodIn_of _ (by decide +kernel)) ggX3_put_X2_store
theorem dX3_put_0 : decode cX3_put 0 = .ok (.aload_n 0, 1) := by decide +kernel
theorem dX3_put_1 : decode cX3_put 1 = .ok (.iconst 0, 1) := by decide +kernel
theorem dX3_put_2 : decode cX3_put 2 = .ok (.putfield 46, 3) := by decide +kernel
theorem dX3_put_5 : decode cX3_put 5 = .ok (.iload_n 1, 1) := by decide +kernel
theorem dX3_put_6 : decode cX3_put 6 = .ok (.invokestatic 52, 3) := by decide +kernel
theorem dX3_put_9 : decode cX3_put 9 = .ok (.ifCond .ne 5, 3) := by decide +kernel
theorem dX3_put_12 : decode cX3_put 12 = .ok (.iconst (-1), 1) := by decide +kernel
theorem dX3_put_13 : decode cX3_put 13 = .ok (.ireturn, 1) := by decide +kernel
theorem dX3_put_14 : decode cX3_put 14 = .ok (.aload_n 0, 1) := by decide +kernel
theorem dX3_put_15 : decode cX3_put 15 = .ok (.getfield 13, 3) := by decide +kernel
theorem dX3_put_18 : decode cX3_put 18 = .ok (.iload_n 1, 1) := by decide +kernel
theorem dX3_put_19 : decode cX3_put 19 = .ok (.aaload, 1) := by decide +kernel
theorem dX3_put_20 : decode cX3_put 20 = .ok (.aload_n 0, 1) := by decide +kernel
theorem dX3_put_21 : decode cX3_put 21 = .ok (.getfield 13, 3) := by decide +kernel
theorem dX3_put_24 : decode cX3_put 24 = .ok (.iload_n 1, 1) := by decide +kernel
theorem dX3_put_25 : decode cX3_put 25 = .ok (.aaload, 1) := by decide +kernel
theorem dX3_put_26 : decode cX3_put 26 = .ok (.getfield 178, 3) := by decide +kernel
theorem dX3_put_29 : decode cX3_put 29 = .ok (.iload_n 2, 1) := by decide +kernel
theorem dX3_put_30 : decode cX3_put 30 = .ok (.iconst 1, 1) := by decide +kernel
theorem dX3_put_31 : decode cX3_put 31 = .ok (.invokevirtual 59, 3) := by decide +kernel
theorem dX3_put_34 : decode cX3_put 34 = .ok (.istore 4, 2) := by decide +kernel
theorem dX3_put_36 : decode cX3_put 36 = .ok (.iload 4, 2) := by decide +kernel
theorem dX3_put_38 : decode cX3_put 38 = .ok (.ifCond .eq 10, 3) := by decide +kernel
theorem dX3_put_41 : decode cX3_put 41 = .ok (.aload_n 0, 1) := by decide +kernel
theorem dX3_put_42 : decode cX3_put 42 = .ok (.iload 4, 2) := by decide +kernel
theorem dX3_put_44 : decode cX3_put 44 = .ok (.invokevirtual 63, 3) := by decide +kernel
theorem dX3_put_47 : decode cX3_put 47 = .ok (.ireturn, 1) := by decide +kernel
theorem dX3_put_48 : decode cX3_put 48 = .ok (.aload_n 0, 1) := by decide +kernel
theorem dX3_put_49 : decode cX3_put 49 = .ok (.getfield 13, 3) := by decide +kernel
theorem dX3_put_52 : decode cX3_put 52 = .ok (.iload_n 1, 1) := by decide +kernel
theorem dX3_put_53 : decode cX3_put 53 = .ok (.aaload, 1) := by decide +kernel
theorem dX3_put_54 : decode cX3_put 54 = .ok (.iload_n 2, 1) := by decide +kernel
theorem dX3_put_55 : decode cX3_put 55 = .ok (.iload_n 3, 1) := by decide +kernel
theorem dX3_put_56 : decode cX3_put 56 = .ok (.invokevirtual 181, 3) := by decide +kernel
theorem dX3_put_59 : decode cX3_put 59 = .ok (.iconst 1, 1) := by decide +kernel
theorem dX3_put_60 : decode cX3_put 60 = .ok (.ireturn, 1) := by decide +kernel
set_option maxRecDepth 20000 in
theorem ggX3_cell_X3_isSheet : GoodIn wsX3_cell wsX3_isSheet := goodIn_r _ [8] (by decide +kernel) (by decide +kernel)
set_option maxRecDepth 20000 in
theorem gX3_cell_X3_isSheet : GoodIn wsX3_cell (va_wsS RX3 52 yX3_isSheet wsX3_isSheet) := goodIn_app (goodIn_of _ (by decide +kernel)) ggX3_cell_X3_isSheet
set_option maxRecDepth 20000 in
theorem ggX3_cell_X3_isLane : GoodIn wsX3_cell wsX3_isLane := goodIn_r _ [11] (by decide +kernel) (by decide +kernel)
set_option maxRecDepth 20000 in
theorem gX3_cell_X3_isLane : GoodIn wsX3_cell (va_wsS RX3 56 yX3_isLane wsX3_isLane) := goodIn_app (goodIn_of _ (by decide +kernel)) ggX3_cell_X3_isLane
set_option maxRecDepth 20000 in
theorem ggX3_cell_X2_flaw : GoodIn wsX3_cell wsX2_flaw := goodIn_r _ [16, 17, 18, 19, 20, 15, 21, 22, 23, 24, 25, 26, 36, 37, 38] (by decide +kernel) (by decide +kernel)
set_option maxRecDepth 20000 in
theorem gX3_cell_X2_flaw : GoodIn wsX3_cell (wsV RX3 59 RX2 yX2_flaw wsX2_flaw) := goodIn_app (goodIn_of _ (by decide +kernel)) ggX3_cell_X2_flaw
theorem dX3_cell_0 : decode cX3_cell 0 = .ok (.aload_n 0, 1) := by decide +kernel
theorem dX3_cell_1 : decode cX3_cell 1 = .ok (.iconst 0, 1) := by decide +kernel
theorem dX3_cell_2 : decode cX3_cell 2 = .ok (.putfield 46, 3) := by decide +kernel
theorem dX3_cell_5 : decode cX3_cell 5 = .ok (.iload_n 1, 1) := by decide +kernel
theorem dX3_cell_6 : decode cX3_cell 6 = .ok (.invokestatic 52, 3) := by decide +kernel
theorem dX3_cell_9 : decode cX3_cell 9 = .ok (.ifCond .eq 10, 3) := by decide +kernel
theorem dX3_cell_12 : decode cX3_cell 12 = .ok (.iload_n 3, 1) := by decide +kernel
theorem dX3_cell_13 : decode cX3_cell 13 = .ok (.invokestatic 56, 3) := by decide +kernel
theorem dX3_cell_16 : decode cX3_cell 16 = .ok (.ifCond .ne 7, 3) := by decide +kernel
theorem dX3_cell_19 : decode cX3_cell 19 = .ok (.ldc2_w 132, 3) := by decide +kernel
theorem dX3_cell_22 : decode cX3_cell 22 = .ok (.lreturn, 1) := by decide +kernel
theorem dX3_cell_23 : decode cX3_cell 23 = .ok (.aload_n 0, 1) := by decide +kernel
theorem dX3_cell_24 : decode cX3_cell 24 = .ok (.aload_n 0, 1) := by decide +kernel
theorem dX3_cell_25 : decode cX3_cell 25 = .ok (.getfield 13, 3) := by decide +kernel
theorem dX3_cell_28 : decode cX3_cell 28 = .ok (.iload_n 1, 1) := by decide +kernel
theorem dX3_cell_29 : decode cX3_cell 29 = .ok (.aaload, 1) := by decide +kernel
theorem dX3_cell_30 : decode cX3_cell 30 = .ok (.iload_n 3, 1) := by decide +kernel
theorem dX3_cell_31 : decode cX3_cell 31 = .ok (.iload_n 2, 1) := by decide +kernel
theorem dX3_cell_32 : decode cX3_cell 32 = .ok (.iconst 1, 1) := by decide +kernel
theorem dX3_cell_33 : decode cX3_cell 33 = .ok (.invokevirtual 59, 3) := by decide +kernel
theorem dX3_cell_36 : decode cX3_cell 36 = .ok (.putfield 46, 3) := by decide +kernel
theorem dX3_cell_39 : decode cX3_cell 39 = .ok (.aload_n 0, 1) := by decide +kernel
theorem dX3_cell_40 : decode cX3_cell 40 = .ok (.getfield 46, 3) := by decide +kernel
theorem dX3_cell_43 : decode cX3_cell 43 = .ok (.ifCond .ne 18, 3) := by decide +kernel
theorem dX3_cell_46 : decode cX3_cell 46 = .ok (.aload_n 0, 1) := by decide +kernel
theorem dX3_cell_47 : decode cX3_cell 47 = .ok (.getfield 13, 3) := by decide +kernel
theorem dX3_cell_50 : decode cX3_cell 50 = .ok (.iload_n 1, 1) := by decide +kernel
theorem dX3_cell_51 : decode cX3_cell 51 = .ok (.aaload, 1) := by decide +kernel
theorem dX3_cell_52 : decode cX3_cell 52 = .ok (.getfield 67, 3) := by decide +kernel
theorem dX3_cell_55 : decode cX3_cell 55 = .ok (.iload_n 2, 1) := by decide +kernel
theorem dX3_cell_56 : decode cX3_cell 56 = .ok (.iaload, 1) := by decide +kernel
theorem dX3_cell_57 : decode cX3_cell 57 = .ok (.i2l, 1) := by decide +kernel
theorem dX3_cell_58 : decode cX3_cell 58 = .ok (.goto 6, 3) := by decide +kernel
theorem dX3_cell_61 : decode cX3_cell 61 = .ok (.ldc2_w 132, 3) := by decide +kernel
theorem dX3_cell_64 : decode cX3_cell 64 = .ok (.lreturn, 1) := by decide +kernel
set_option maxRecDepth 20000 in
theorem ggX3_copy_X3_isSheet : GoodIn wsX3_copy wsX3_isSheet := goodIn_r _ [12] (by decide +kernel) (by decide +kernel)
set_option maxRecDepth 20000 in
theorem gX3_copy_X3_isSheet : GoodIn wsX3_copy (va_wsS RX3 52 yX3_isSheet wsX3_isSheet) := goodIn_app (goodIn_of _ (by decide +kernel)) ggX3_copy_X3_isSheet
set_option maxRecDepth 20000 in
theorem ggX3_copy_X2_isEmpty : GoodIn wsX3_copy wsX2_isEmpty := goodIn_r _ [17, 18, 36, 37, 38] (by decide +kernel) (by decide +kernel)
set_option maxRecDepth 20000 in
theorem gX3_copy_X2_isEmpty : GoodIn wsX3_copy (wsV RX3 172 RX2 yX2_isEmpty wsX2_isEmpty) := goodIn_app (goodIn_of _ (by decide +kernel)) ggX3_copy_X2_isEmpty
set_option maxRecDepth 20000 in
theorem ggX3_copy_X3_faulty : GoodIn wsX3_copy wsX3_faulty := goodIn_r _ [22, 1, 27, 28, 29, 30, 31, 32, 33, 34, 35] (by decide +kernel) (by decide +kernel)
set_option maxRecDepth 20000 in
theorem gX3_copy_X3_faulty : GoodIn wsX3_copy (wsV RX3 63 RX3 yX3_faulty wsX3_faulty) := goodIn_app (goodIn_of _ (by decide +kernel)) ggX3_copy_X3_faulty
set_option maxRecDepth 20000 in
theorem ggX3_copy_X2_reaches : GoodIn wsX3_copy wsX2_reaches := goodIn_r _ [26, 18, 36, 37, 38] (by decide +kernel) (by decide +kernel)
set_option maxRecDepth 20000 in
theorem gX3_copy_X2_reaches : GoodIn wsX3_copy (wsV RX3 184 RX2 yX2_reaches wsX2_reaches) := goodIn_app (goodIn_of _ (by decide +kernel)) ggX3_copy_X2_reaches
theorem dX3_copy_0 : decode cX3_copy 0 = .ok (.aload_n 0, 1) := by decide +kernel
theorem dX3_copy_1 : decode cX3_copy 1 = .ok (.iconst 0, 1) := by decide +kernel
theorem dX3_copy_2 : decode cX3_copy 2 = .ok (.putfield 46, 3) := by decide +kernel
theorem dX3_copy_5 : decode cX3_copy 5 = .ok (.iload_n 1, 1) := by decide +kernel
theorem dX3_copy_6 : decode cX3_copy 6 = .ok (.invokestatic 52, 3) := by decide +kernel
theorem dX3_copy_9 : decode cX3_copy 9 = .ok (.ifCond .eq 10, 3) := by decide +kernel
theorem dX3_copy_12 : decode cX3_copy 12 = .ok (.iload_n 3, 1) := by decide +kernel
theorem dX3_copy_13 : decode cX3_copy 13 = .ok (.invokestatic 52, 3) := by decide +kernel
theorem dX3_copy_16 : decode cX3_copy 16 = .ok (.ifCond .ne 5, 3) := by decide +kernel
theorem dX3_copy_19 : decode cX3_copy 19 = .ok (.iconst (-1), 1) := by decide +kernel
theorem dX3_copy_20 : decode cX3_copy 20 = .ok (.ireturn, 1) := by decide +kernel
theorem dX3_copy_21 : decode cX3_copy 21 = .ok (.aload_n 0, 1) := by decide +kernel
theorem dX3_copy_22 : decode cX3_copy 22 = .ok (.getfield 13, 3) := by decide +kernel
theorem dX3_copy_25 : decode cX3_copy 25 = .ok (.iload_n 1, 1) := by decide +kernel
theorem dX3_copy_26 : decode cX3_copy 26 = .ok (.aaload, 1) := by decide +kernel
theorem dX3_copy_27 : decode cX3_copy 27 = .ok (.astore 6, 2) := by decide +kernel
theorem dX3_copy_29 : decode cX3_copy 29 = .ok (.aload_n 0, 1) := by decide +kernel
theorem dX3_copy_30 : decode cX3_copy 30 = .ok (.getfield 13, 3) := by decide +kernel
theorem dX3_copy_33 : decode cX3_copy 33 = .ok (.iload_n 3, 1) := by decide +kernel
theorem dX3_copy_34 : decode cX3_copy 34 = .ok (.aaload, 1) := by decide +kernel
theorem dX3_copy_35 : decode cX3_copy 35 = .ok (.astore 7, 2) := by decide +kernel
theorem dX3_copy_37 : decode cX3_copy 37 = .ok (.aload 6, 2) := by decide +kernel
theorem dX3_copy_39 : decode cX3_copy 39 = .ok (.invokevirtual 172, 3) := by decide +kernel
theorem dX3_copy_42 : decode cX3_copy 42 = .ok (.ifCond .ne 11, 3) := by decide +kernel
theorem dX3_copy_45 : decode cX3_copy 45 = .ok (.aload 7, 2) := by decide +kernel
theorem dX3_copy_47 : decode cX3_copy 47 = .ok (.invokevirtual 172, 3) := by decide +kernel
theorem dX3_copy_50 : decode cX3_copy 50 = .ok (.ifCond .eq 9, 3) := by decide +kernel
theorem dX3_copy_53 : decode cX3_copy 53 = .ok (.aload_n 0, 1) := by decide +kernel
theorem dX3_copy_54 : decode cX3_copy 54 = .ok (.iconst 1, 1) := by decide +kernel
theorem dX3_copy_55 : decode cX3_copy 55 = .ok (.invokevirtual 63, 3) := by decide +kernel
theorem dX3_copy_58 : decode cX3_copy 58 = .ok (.ireturn, 1) := by decide +kernel
theorem dX3_copy_59 : decode cX3_copy 59 = .ok (.aload 6, 2) := by decide +kernel
theorem dX3_copy_61 : decode cX3_copy 61 = .ok (.getfield 178, 3) := by decide +kernel
theorem dX3_copy_64 : decode cX3_copy 64 = .ok (.aload 7, 2) := by decide +kernel
theorem dX3_copy_66 : decode cX3_copy 66 = .ok (.getfield 178, 3) := by decide +kernel
theorem dX3_copy_69 : decode cX3_copy 69 = .ok (.if_icmp .eq 9, 3) := by decide +kernel
theorem dX3_copy_72 : decode cX3_copy 72 = .ok (.aload_n 0, 1) := by decide +kernel
theorem dX3_copy_73 : decode cX3_copy 73 = .ok (.iconst 2, 1) := by decide +kernel
theorem dX3_copy_74 : decode cX3_copy 74 = .ok (.invokevirtual 63, 3) := by decide +kernel
theorem dX3_copy_77 : decode cX3_copy 77 = .ok (.ireturn, 1) := by decide +kernel
theorem dX3_copy_78 : decode cX3_copy 78 = .ok (.aload 6, 2) := by decide +kernel
theorem dX3_copy_80 : decode cX3_copy 80 = .ok (.iload_n 2, 1) := by decide +kernel
theorem dX3_copy_81 : decode cX3_copy 81 = .ok (.iload 5, 2) := by decide +kernel
theorem dX3_copy_83 : decode cX3_copy 83 = .ok (.invokevirtual 184, 3) := by decide +kernel
theorem dX3_copy_86 : decode cX3_copy 86 = .ok (.ifCond .eq 15, 3) := by decide +kernel
theorem dX3_copy_89 : decode cX3_copy 89 = .ok (.aload 7, 2) := by decide +kernel
theorem dX3_copy_91 : decode cX3_copy 91 = .ok (.iload 4, 2) := by decide +kernel
theorem dX3_copy_93 : decode cX3_copy 93 = .ok (.iload 5, 2) := by decide +kernel
theorem dX3_copy_95 : decode cX3_copy 95 = .ok (.invokevirtual 184, 3) := by decide +kernel
theorem dX3_copy_98 : decode cX3_copy 98 = .ok (.ifCond .ne 9, 3) := by decide +kernel
theorem dX3_copy_101 : decode cX3_copy 101 = .ok (.aload_n 0, 1) := by decide +kernel
theorem dX3_copy_102 : decode cX3_copy 102 = .ok (.iconst 3, 1) := by decide +kernel
theorem dX3_copy_103 : decode cX3_copy 103 = .ok (.invokevirtual 63, 3) := by decide +kernel
theorem dX3_copy_106 : decode cX3_copy 106 = .ok (.ireturn, 1) := by decide +kernel
theorem dX3_copy_107 : decode cX3_copy 107 = .ok (.aload 6, 2) := by decide +kernel
theorem dX3_copy_109 : decode cX3_copy 109 = .ok (.getfield 67, 3) := by decide +kernel
theorem dX3_copy_112 : decode cX3_copy 112 = .ok (.iload_n 2, 1) := by decide +kernel
theorem dX3_copy_113 : decode cX3_copy 113 = .ok (.aload 7, 2) := by decide +kernel
theorem dX3_copy_115 : decode cX3_copy 115 = .ok (.getfield 67, 3) := by decide +kernel
theorem dX3_copy_118 : decode cX3_copy 118 = .ok (.iload 4, 2) := by decide +kernel
theorem dX3_copy_120 : decode cX3_copy 120 = .ok (.iload 5, 2) := by decide +kernel
theorem dX3_copy_122 : decode cX3_copy 122 = .ok (.invokestatic 187, 3) := by decide +kernel
theorem dX3_copy_125 : decode cX3_copy 125 = .ok (.iload 5, 2) := by decide +kernel
theorem dX3_copy_127 : decode cX3_copy 127 = .ok (.ireturn, 1) := by decide +kernel
set_option maxRecDepth 20000 in
theorem ggX3_tell_X3_isProphet : GoodIn wsX3_tell wsX3_isProphet := goodIn_r _ [8, 9, 27, 28, 29, 30, 31, 32, 33, 34, 35] (by decide +kernel) (by decide +kernel)
set_option maxRecDepth 20000 in
theorem gX3_tell_X3_isProphet : GoodIn wsX3_tell (wsV RX3 85 RX3 yX3_isProphet wsX3_isProphet) := goodIn_app (goodIn_of _ (by decide +kernel)) ggX3_tell_X3_isProphet
set_option maxRecDepth 20000 in
theorem ggX3_tell_X3_modestTells : GoodIn wsX3_tell wsX3_modestTells := goodIn_r _ [13, 14, 15, 16, 7, 17, 18, 27, 28, 29, 30, 31, 32, 33, 34, 35] (by decide +kernel) (by decide +kernel)
set_option maxRecDepth 20000 in
theorem gX3_tell_X3_modestTells : GoodIn wsX3_tell (wsV RX3 193 RX3 yX3_modestTells wsX3_modestTells) := goodIn_app (goodIn_of _ (by decide +kernel)) ggX3_tell_X3_modestTells
set_option maxRecDepth 20000 in
theorem ggX3_tell_X3_sureTells : GoodIn wsX3_tell wsX3_sureTells := goodIn_r _ [22, 14, 15, 16, 7, 17, 18, 10, 11, 12, 13, 27, 28, 29, 30, 31, 32, 33, 34, 35] (by decide +kernel) (by decide +kernel)
set_option maxRecDepth 20000 in
theorem gX3_tell_X3_sureTells : GoodIn wsX3_tell (wsV RX3 196 RX3 yX3_sureTells wsX3_sureTells) := goodIn_app (goodIn_of _ (by decide +kernel)) ggX3_tell_X3_sureTells
set_option maxRecDepth 20000 in
theorem ggX3_tell_X3_loudTells : GoodIn wsX3_tell wsX3_loudTells := goodIn_r _ [26, 14, 15, 16, 7, 17, 18, 19, 20, 21, 22, 10, 11, 12, 13, 27, 28, 29, 30, 31, 32, 33, 34, 35] (by decide +kernel) (by decide +kernel)
set_option maxRecDepth 20000 in
theorem gX3_tell_X3_loudTells : GoodIn wsX3_tell (wsV RX3 199 RX3 yX3_loudTells wsX3_loudTells) := goodIn_app (goodIn_of _ (by decide +kernel)) ggX3_tell_X3_loudTells
theorem dX3_tell_0 : decode cX3_tell 0 = .ok (.aload_n 0, 1) := by decide +kernel
theorem dX3_tell_1 : decode cX3_tell 1 = .ok (.iload_n 1, 1) := by decide +kernel
theorem dX3_tell_2 : decode cX3_tell 2 = .ok (.invokevirtual 85, 3) := by decide +kernel
theorem dX3_tell_5 : decode cX3_tell 5 = .ok (.ifCond .ne 5, 3) := by decide +kernel
theorem dX3_tell_8 : decode cX3_tell 8 = .ok (.iconst (-1), 1) := by decide +kernel
theorem dX3_tell_9 : decode cX3_tell 9 = .ok (.ireturn, 1) := by decide +kernel
theorem dX3_tell_10 : decode cX3_tell 10 = .ok (.aload_n 0, 1) := by decide +kernel
theorem dX3_tell_11 : decode cX3_tell 11 = .ok (.getfield 23, 3) := by decide +kernel
theorem dX3_tell_14 : decode cX3_tell 14 = .ok (.iload_n 1, 1) := by decide +kernel
theorem dX3_tell_15 : decode cX3_tell 15 = .ok (.aaload, 1) := by decide +kernel
theorem dX3_tell_16 : decode cX3_tell 16 = .ok (.getfield 91, 3) := by decide +kernel
theorem dX3_tell_19 : decode cX3_tell 19 = .ok (.istore_n 2, 1) := by decide +kernel
theorem dX3_tell_20 : decode cX3_tell 20 = .ok (.aload_n 0, 1) := by decide +kernel
theorem dX3_tell_21 : decode cX3_tell 21 = .ok (.getfield 23, 3) := by decide +kernel
theorem dX3_tell_24 : decode cX3_tell 24 = .ok (.iload_n 1, 1) := by decide +kernel
theorem dX3_tell_25 : decode cX3_tell 25 = .ok (.aaload, 1) := by decide +kernel
theorem dX3_tell_26 : decode cX3_tell 26 = .ok (.getfield 88, 3) := by decide +kernel
theorem dX3_tell_29 : decode cX3_tell 29 = .ok (.lookupswitch 39 #[(0, 27), (1, 33)], 27) := by decide +kernel
theorem dX3_tell_56 : decode cX3_tell 56 = .ok (.aload_n 0, 1) := by decide +kernel
theorem dX3_tell_57 : decode cX3_tell 57 = .ok (.iload_n 2, 1) := by decide +kernel
theorem dX3_tell_58 : decode cX3_tell 58 = .ok (.invokevirtual 193, 3) := by decide +kernel
theorem dX3_tell_61 : decode cX3_tell 61 = .ok (.ireturn, 1) := by decide +kernel
theorem dX3_tell_62 : decode cX3_tell 62 = .ok (.aload_n 0, 1) := by decide +kernel
theorem dX3_tell_63 : decode cX3_tell 63 = .ok (.iload_n 2, 1) := by decide +kernel
theorem dX3_tell_64 : decode cX3_tell 64 = .ok (.invokevirtual 196, 3) := by decide +kernel
theorem dX3_tell_67 : decode cX3_tell 67 = .ok (.ireturn, 1) := by decide +kernel
theorem dX3_tell_68 : decode cX3_tell 68 = .ok (.aload_n 0, 1) := by decide +kernel
theorem dX3_tell_69 : decode cX3_tell 69 = .ok (.iload_n 2, 1) := by decide +kernel
theorem dX3_tell_70 : decode cX3_tell 70 = .ok (.invokevirtual 199, 3) := by decide +kernel
theorem dX3_tell_73 : decode cX3_tell 73 = .ok (.ireturn, 1) := by decide +kernel
set_option maxRecDepth 20000 in
theorem ggX3_hear_X3_isProphet : GoodIn wsX3_hear wsX3_isProphet := goodIn_r _ [7, 8, 22, 23, 24, 25, 26, 27, 28, 29, 30] (by decide +kernel) (by decide +kernel)
set_option maxRecDepth 20000 in
theorem gX3_hear_X3_isProphet : GoodIn wsX3_hear (wsV RX3 85 RX3 yX3_isProphet wsX3_isProphet) := goodIn_app (goodIn_of _ (by decide +kernel)) ggX3_hear_X3_isProphet
set_option maxRecDepth 20000 in
theorem ggX3_hear_X3_loudIsHeard : GoodIn wsX3_hear wsX3_loudIsHeard := goodIn_r _ [12, 13, 14, 15, 6, 16, 17, 22, 23, 24, 25, 26, 27, 28, 29, 30] (by decide +kernel) (by decide +kernel)
set_option maxRecDepth 20000 in
theorem gX3_hear_X3_loudIsHeard : GoodIn wsX3_hear (wsV RX3 202 RX3 yX3_loudIsHeard wsX3_loudIsHeard) := goodIn_app (goodIn_of _ (by decide +kernel)) ggX3_hear_X3_loudIsHeard
set_option maxRecDepth 20000 in
theorem ggX3_hear_X3_lentBodyHears : GoodIn wsX3_hear wsX3_lentBodyHears := goodIn_r _ [21, 13, 14, 15, 6, 16, 17, 22, 23, 24, 25, 26, 27, 28, 29, 30] (by decide +kernel) (by decide +kernel)
set_option maxRecDepth 20000 in
theorem gX3_hear_X3_lentBodyHears : GoodIn wsX3_hear (wsV RX3 205 RX3 yX3_lentBodyHears wsX3_lentBodyHears) := goodIn_app (goodIn_of _ (by decide +kernel)) ggX3_hear_X3_lentBodyHears
theorem dX3_hear_0 : decode cX3_hear 0 = .ok (.aload_n 0, 1) := by decide +kernel
theorem dX3_hear_1 : decode cX3_hear 1 = .ok (.iload_n 1, 1) := by decide +kernel
theorem dX3_hear_2 : decode cX3_hear 2 = .ok (.invokevirtual 85, 3) := by decide +kernel
theorem dX3_hear_5 : decode cX3_hear 5 = .ok (.ifCond .ne 5, 3) := by decide +kernel
theorem dX3_hear_8 : decode cX3_hear 8 = .ok (.iconst (-1), 1) := by decide +kernel
theorem dX3_hear_9 : decode cX3_hear 9 = .ok (.ireturn, 1) := by decide +kernel
theorem dX3_hear_10 : decode cX3_hear 10 = .ok (.aload_n 0, 1) := by decide +kernel
theorem dX3_hear_11 : decode cX3_hear 11 = .ok (.getfield 23, 3) := by decide +kernel
theorem dX3_hear_14 : decode cX3_hear 14 = .ok (.iload_n 1, 1) := by decide +kernel
theorem dX3_hear_15 : decode cX3_hear 15 = .ok (.aaload, 1) := by decide +kernel
theorem dX3_hear_16 : decode cX3_hear 16 = .ok (.getfield 88, 3) := by decide +kernel
theorem dX3_hear_19 : decode cX3_hear 19 = .ok (.iconst 2, 1) := by decide +kernel
theorem dX3_hear_20 : decode cX3_hear 20 = .ok (.if_icmp .ne 10, 3) := by decide +kernel
theorem dX3_hear_23 : decode cX3_hear 23 = .ok (.aload_n 0, 1) := by decide +kernel
theorem dX3_hear_24 : decode cX3_hear 24 = .ok (.invokevirtual 202, 3) := by decide +kernel
theorem dX3_hear_27 : decode cX3_hear 27 = .ok (.goto 8, 3) := by decide +kernel
theorem dX3_hear_30 : decode cX3_hear 30 = .ok (.aload_n 0, 1) := by decide +kernel
theorem dX3_hear_31 : decode cX3_hear 31 = .ok (.iload_n 1, 1) := by decide +kernel
theorem dX3_hear_32 : decode cX3_hear 32 = .ok (.invokevirtual 205, 3) := by decide +kernel
theorem dX3_hear_35 : decode cX3_hear 35 = .ok (.ireturn, 1) := by decide +kernel
set_option maxRecDepth 20000 in
theorem ggX3_as_X3_isProphet : GoodIn wsX3_as wsX3_isProphet := goodIn_r _ [8, 9, 17, 18, 19, 20, 21, 22, 23, 24, 25] (by decide +kernel) (by decide +kernel)
set_option maxRecDepth 20000 in
theorem gX3_as_X3_isProphet : GoodIn wsX3_as (wsV RX3 85 RX3 yX3_isProphet wsX3_isProphet) := goodIn_app (goodIn_of _ (by decide +kernel)) ggX3_as_X3_isProphet
set_option maxRecDepth 20000 in
theorem ggX3_as_X3_isWithin : GoodIn wsX3_as wsX3_isWithin := goodIn_r _ [12] (by decide +kernel) (by decide +kernel)
set_option maxRecDepth 20000 in
theorem gX3_as_X3_isWithin : GoodIn wsX3_as (va_wsS RX3 81 yX3_isWithin wsX3_isWithin) := goodIn_app (goodIn_of _ (by decide +kernel)) ggX3_as_X3_isWithin
set_option maxRecDepth 20000 in
theorem ggX3_as_X3_faulty : GoodIn wsX3_as wsX3_faulty := goodIn_r _ [16, 1, 17, 18, 19, 20, 21, 22, 23, 24, 25] (by decide +kernel) (by decide +kernel)
set_option maxRecDepth 20000 in
theorem gX3_as_X3_faulty : GoodIn wsX3_as (wsV RX3 63 RX3 yX3_faulty wsX3_faulty) := goodIn_app (goodIn_of _ (by decide +kernel)) ggX3_as_X3_faulty
theorem dX3_as_0 : decode cX3_as 0 = .ok (.aload_n 0, 1) := by decide +kernel
theorem dX3_as_1 : decode cX3_as 1 = .ok (.iconst 0, 1) := by decide +kernel
theorem dX3_as_2 : decode cX3_as 2 = .ok (.putfield 46, 3) := by decide +kernel
theorem dX3_as_5 : decode cX3_as 5 = .ok (.aload_n 0, 1) := by decide +kernel
theorem dX3_as_6 : decode cX3_as 6 = .ok (.iload_n 1, 1) := by decide +kernel
theorem dX3_as_7 : decode cX3_as 7 = .ok (.invokevirtual 85, 3) := by decide +kernel
theorem dX3_as_10 : decode cX3_as 10 = .ok (.ifCond .ne 5, 3) := by decide +kernel
theorem dX3_as_13 : decode cX3_as 13 = .ok (.iconst (-1), 1) := by decide +kernel
theorem dX3_as_14 : decode cX3_as 14 = .ok (.ireturn, 1) := by decide +kernel
theorem dX3_as_15 : decode cX3_as 15 = .ok (.iload_n 2, 1) := by decide +kernel
theorem dX3_as_16 : decode cX3_as 16 = .ok (.iconst 2, 1) := by decide +kernel
theorem dX3_as_17 : decode cX3_as 17 = .ok (.invokestatic 81, 3) := by decide +kernel
theorem dX3_as_20 : decode cX3_as 20 = .ok (.ifCond .ne 6, 3) := by decide +kernel
theorem dX3_as_23 : decode cX3_as 23 = .ok (.bipush (-2), 2) := by decide +kernel
theorem dX3_as_25 : decode cX3_as 25 = .ok (.ireturn, 1) := by decide +kernel
theorem dX3_as_26 : decode cX3_as 26 = .ok (.aload_n 0, 1) := by decide +kernel
theorem dX3_as_27 : decode cX3_as 27 = .ok (.getfield 23, 3) := by decide +kernel
theorem dX3_as_30 : decode cX3_as 30 = .ok (.iload_n 1, 1) := by decide +kernel
theorem dX3_as_31 : decode cX3_as 31 = .ok (.aaload, 1) := by decide +kernel
theorem dX3_as_32 : decode cX3_as 32 = .ok (.getfield 88, 3) := by decide +kernel
theorem dX3_as_35 : decode cX3_as 35 = .ok (.iload_n 2, 1) := by decide +kernel
theorem dX3_as_36 : decode cX3_as 36 = .ok (.if_icmp .lt 7, 3) := by decide +kernel
theorem dX3_as_39 : decode cX3_as 39 = .ok (.iconst 1, 1) := by decide +kernel
theorem dX3_as_40 : decode cX3_as 40 = .ok (.goto 8, 3) := by decide +kernel
theorem dX3_as_43 : decode cX3_as 43 = .ok (.aload_n 0, 1) := by decide +kernel
theorem dX3_as_44 : decode cX3_as 44 = .ok (.iconst 2, 1) := by decide +kernel
theorem dX3_as_45 : decode cX3_as 45 = .ok (.invokevirtual 63, 3) := by decide +kernel
theorem dX3_as_48 : decode cX3_as 48 = .ok (.ireturn, 1) := by decide +kernel
theorem dX3_trace_0 : decode cX3_trace 0 = .ok (.aload_n 0, 1) := by decide +kernel
theorem dX3_trace_1 : decode cX3_trace 1 = .ok (.getfield 43, 3) := by decide +kernel
theorem dX3_trace_4 : decode cX3_trace 4 = .ok (.ireturn, 1) := by decide +kernel
theorem dX3_fault_0 : decode cX3_fault 0 = .ok (.aload_n 0, 1) := by decide +kernel
theorem dX3_fault_1 : decode cX3_fault 1 = .ok (.getfield 46, 3) := by decide +kernel
theorem dX3_fault_4 : decode cX3_fault 4 = .ok (.ireturn, 1) := by decide +kernel
set_option maxRecDepth 20000 in
theorem ggX3_many_X3_countFrauds : GoodIn wsX3_many wsX3_countFrauds := goodIn_r _ [8, 1, 9, 10, 11, 12, 13, 7, 14, 15, 16, 17, 18, 2, 19, 20, 21, 22, 23, 24, 25, 26, 27, 28, 29, 30] (by decide +kernel) (by decide +kernel)
set_option maxRecDepth 20000 in
theorem gX3_many_X3_countFrauds : GoodIn wsX3_many (wsV RX3 208 RX3 yX3_countFrauds wsX3_countFrauds) := goodIn_app (goodIn_of _ (by decide +kernel)) ggX3_many_X3_countFrauds
theorem dX3_many_0 : decode cX3_many 0 = .ok (.iload_n 1, 1) := by decide +kernel
theorem dX3_many_1 : decode cX3_many 1 = .ok (.tableswitch 51 0 3 #[31, 36, 41, 46], 31) := by decide +kernel
theorem dX3_many_32 : decode cX3_many 32 = .ok (.aload_n 0, 1) := by decide +kernel
theorem dX3_many_33 : decode cX3_many 33 = .ok (.getfield 37, 3) := by decide +kernel
theorem dX3_many_36 : decode cX3_many 36 = .ok (.ireturn, 1) := by decide +kernel
theorem dX3_many_37 : decode cX3_many 37 = .ok (.aload_n 0, 1) := by decide +kernel
theorem dX3_many_38 : decode cX3_many 38 = .ok (.getfield 33, 3) := by decide +kernel
theorem dX3_many_41 : decode cX3_many 41 = .ok (.ireturn, 1) := by decide +kernel
end
section
theorem dX3_many_42 : decode cX3_many 42 = .ok (.aload_n 0, 1) := by decide +kernel
theorem dX3_many_43 : decode cX3_many 43 = .ok (.invokevirtual 208, 3) := by decide +kernel
theorem dX3_many_46 : decode cX3_many 46 = .ok (.ireturn, 1) := by decide +kernel
theorem dX3_many_47 : decode cX3_many 47 = .ok (.aload_n 0, 1) := by decide +kernel
theorem dX3_many_48 : decode cX3_many 48 = .ok (.getfield 40, 3) := by decide +kernel
theorem dX3_many_51 : decode cX3_many 51 = .ok (.ireturn, 1) := by decide +kernel
theorem dX3_many_52 : decode cX3_many 52 = .ok (.bipush (-2), 2) := by decide +kernel
theorem dX3_many_54 : decode cX3_many 54 = .ok (.ireturn, 1) := by decide +kernel
theorem dX3_isWithin_0 : decode cX3_isWithin 0 = .ok (.iload_n 0, 1) := by decide +kernel
theorem dX3_isWithin_1 : decode cX3_isWithin 1 = .ok (.ifCond .lt 12, 3) := by decide +kernel
theorem dX3_isWithin_4 : decode cX3_isWithin 4 = .ok (.iload_n 0, 1) := by decide +kernel
theorem dX3_isWithin_5 : decode cX3_isWithin 5 = .ok (.iload_n 1, 1) := by decide +kernel
theorem dX3_isWithin_6 : decode cX3_isWithin 6 = .ok (.if_icmp .gt 7, 3) := by decide +kernel
theorem dX3_isWithin_9 : decode cX3_isWithin 9 = .ok (.iconst 1, 1) := by decide +kernel
theorem dX3_isWithin_10 : decode cX3_isWithin 10 = .ok (.goto 4, 3) := by decide +kernel
theorem dX3_isWithin_13 : decode cX3_isWithin 13 = .ok (.iconst 0, 1) := by decide +kernel
theorem dX3_isWithin_14 : decode cX3_isWithin 14 = .ok (.ireturn, 1) := by decide +kernel
theorem dX3_isSheet_0 : decode cX3_isSheet 0 = .ok (.iload_n 0, 1) := by decide +kernel
theorem dX3_isSheet_1 : decode cX3_isSheet 1 = .ok (.ifCond .lt 12, 3) := by decide +kernel
theorem dX3_isSheet_4 : decode cX3_isSheet 4 = .ok (.iload_n 0, 1) := by decide +kernel
theorem dX3_isSheet_5 : decode cX3_isSheet 5 = .ok (.iconst 4, 1) := by decide +kernel
theorem dX3_isSheet_6 : decode cX3_isSheet 6 = .ok (.if_icmp .ge 7, 3) := by decide +kernel
theorem dX3_isSheet_9 : decode cX3_isSheet 9 = .ok (.iconst 1, 1) := by decide +kernel
theorem dX3_isSheet_10 : decode cX3_isSheet 10 = .ok (.goto 4, 3) := by decide +kernel
theorem dX3_isSheet_13 : decode cX3_isSheet 13 = .ok (.iconst 0, 1) := by decide +kernel
theorem dX3_isSheet_14 : decode cX3_isSheet 14 = .ok (.ireturn, 1) := by decide +kernel
theorem dX3_isLane_0 : decode cX3_isLane 0 = .ok (.iload_n 0, 1) := by decide +kernel
theorem dX3_isLane_1 : decode cX3_isLane 1 = .ok (.ifCond .lt 12, 3) := by decide +kernel
theorem dX3_isLane_4 : decode cX3_isLane 4 = .ok (.iload_n 0, 1) := by decide +kernel
theorem dX3_isLane_5 : decode cX3_isLane 5 = .ok (.iconst 3, 1) := by decide +kernel
theorem dX3_isLane_6 : decode cX3_isLane 6 = .ok (.if_icmp .ge 7, 3) := by decide +kernel
theorem dX3_isLane_9 : decode cX3_isLane 9 = .ok (.iconst 1, 1) := by decide +kernel
theorem dX3_isLane_10 : decode cX3_isLane 10 = .ok (.goto 4, 3) := by decide +kernel
theorem dX3_isLane_13 : decode cX3_isLane 13 = .ok (.iconst 0, 1) := by decide +kernel
theorem dX3_isLane_14 : decode cX3_isLane 14 = .ok (.ireturn, 1) := by decide +kernel
set_option maxRecDepth 20000 in
theorem ggX3_isYearsQuestion_X3_isWithin : GoodIn wsX3_isYearsQuestion wsX3_isWithin := goodIn_r _ [4] (by decide +kernel) (by decide +kernel)
set_option maxRecDepth 20000 in
theorem gX3_isYearsQuestion_X3_isWithin : GoodIn wsX3_isYearsQuestion (va_wsS RX3 81 yX3_isWithin wsX3_isWithin) := goodIn_app (goodIn_of _ (by decide +kernel)) ggX3_isYearsQuestion_X3_isWithin
theorem dX3_isYearsQuestion_0 : decode cX3_isYearsQuestion 0 = .ok (.iload_n 0, 1) := by decide +kernel
theorem dX3_isYearsQuestion_1 : decode cX3_isYearsQuestion 1 = .ok (.iconst 3, 1) := by decide +kernel
theorem dX3_isYearsQuestion_2 : decode cX3_isYearsQuestion 2 = .ok (.invokestatic 81, 3) := by decide +kernel
theorem dX3_isYearsQuestion_5 : decode cX3_isYearsQuestion 5 = .ok (.ifCond .ne 14, 3) := by decide +kernel
theorem dX3_isYearsQuestion_8 : decode cX3_isYearsQuestion 8 = .ok (.iload_n 0, 1) := by decide +kernel
theorem dX3_isYearsQuestion_9 : decode cX3_isYearsQuestion 9 = .ok (.bipush 10, 2) := by decide +kernel
theorem dX3_isYearsQuestion_11 : decode cX3_isYearsQuestion 11 = .ok (.isub, 1) := by decide +kernel
theorem dX3_isYearsQuestion_12 : decode cX3_isYearsQuestion 12 = .ok (.iconst 3, 1) := by decide +kernel
theorem dX3_isYearsQuestion_13 : decode cX3_isYearsQuestion 13 = .ok (.invokestatic 81, 3) := by decide +kernel
theorem dX3_isYearsQuestion_16 : decode cX3_isYearsQuestion 16 = .ok (.ifCond .eq 7, 3) := by decide +kernel
theorem dX3_isYearsQuestion_19 : decode cX3_isYearsQuestion 19 = .ok (.iconst 1, 1) := by decide +kernel
theorem dX3_isYearsQuestion_20 : decode cX3_isYearsQuestion 20 = .ok (.goto 4, 3) := by decide +kernel
theorem dX3_isYearsQuestion_23 : decode cX3_isYearsQuestion 23 = .ok (.iconst 0, 1) := by decide +kernel
theorem dX3_isYearsQuestion_24 : decode cX3_isYearsQuestion 24 = .ok (.ireturn, 1) := by decide +kernel
theorem dX3_isEvent_0 : decode cX3_isEvent 0 = .ok (.iload_n 1, 1) := by decide +kernel
theorem dX3_isEvent_1 : decode cX3_isEvent 1 = .ok (.ifCond .lt 15, 3) := by decide +kernel
theorem dX3_isEvent_4 : decode cX3_isEvent 4 = .ok (.iload_n 1, 1) := by decide +kernel
theorem dX3_isEvent_5 : decode cX3_isEvent 5 = .ok (.aload_n 0, 1) := by decide +kernel
theorem dX3_isEvent_6 : decode cX3_isEvent 6 = .ok (.getfield 33, 3) := by decide +kernel
theorem dX3_isEvent_9 : decode cX3_isEvent 9 = .ok (.if_icmp .ge 7, 3) := by decide +kernel
theorem dX3_isEvent_12 : decode cX3_isEvent 12 = .ok (.iconst 1, 1) := by decide +kernel
theorem dX3_isEvent_13 : decode cX3_isEvent 13 = .ok (.goto 4, 3) := by decide +kernel
theorem dX3_isEvent_16 : decode cX3_isEvent 16 = .ok (.iconst 0, 1) := by decide +kernel
theorem dX3_isEvent_17 : decode cX3_isEvent 17 = .ok (.ireturn, 1) := by decide +kernel
theorem dX3_isProphet_0 : decode cX3_isProphet 0 = .ok (.iload_n 1, 1) := by decide +kernel
theorem dX3_isProphet_1 : decode cX3_isProphet 1 = .ok (.ifCond .lt 15, 3) := by decide +kernel
theorem dX3_isProphet_4 : decode cX3_isProphet 4 = .ok (.iload_n 1, 1) := by decide +kernel
theorem dX3_isProphet_5 : decode cX3_isProphet 5 = .ok (.aload_n 0, 1) := by decide +kernel
theorem dX3_isProphet_6 : decode cX3_isProphet 6 = .ok (.getfield 37, 3) := by decide +kernel
theorem dX3_isProphet_9 : decode cX3_isProphet 9 = .ok (.if_icmp .ge 7, 3) := by decide +kernel
theorem dX3_isProphet_12 : decode cX3_isProphet 12 = .ok (.iconst 1, 1) := by decide +kernel
theorem dX3_isProphet_13 : decode cX3_isProphet 13 = .ok (.goto 4, 3) := by decide +kernel
theorem dX3_isProphet_16 : decode cX3_isProphet 16 = .ok (.iconst 0, 1) := by decide +kernel
theorem dX3_isProphet_17 : decode cX3_isProphet 17 = .ok (.ireturn, 1) := by decide +kernel
theorem dX3_hasOffice_0 : decode cX3_hasOffice 0 = .ok (.aload_n 0, 1) := by decide +kernel
theorem dX3_hasOffice_1 : decode cX3_hasOffice 1 = .ok (.getfield 37, 3) := by decide +kernel
theorem dX3_hasOffice_4 : decode cX3_hasOffice 4 = .ok (.ifCond .le 7, 3) := by decide +kernel
theorem dX3_hasOffice_7 : decode cX3_hasOffice 7 = .ok (.iconst 1, 1) := by decide +kernel
theorem dX3_hasOffice_8 : decode cX3_hasOffice 8 = .ok (.goto 4, 3) := by decide +kernel
theorem dX3_hasOffice_11 : decode cX3_hasOffice 11 = .ok (.iconst 0, 1) := by decide +kernel
theorem dX3_hasOffice_12 : decode cX3_hasOffice 12 = .ok (.ireturn, 1) := by decide +kernel
theorem dX3_isIn_0 : decode cX3_isIn 0 = .ok (.iload_n 0, 1) := by decide +kernel
theorem dX3_isIn_1 : decode cX3_isIn 1 = .ok (.iload_n 1, 1) := by decide +kernel
theorem dX3_isIn_2 : decode cX3_isIn 2 = .ok (.ishr, 1) := by decide +kernel
theorem dX3_isIn_3 : decode cX3_isIn 3 = .ok (.iconst 1, 1) := by decide +kernel
theorem dX3_isIn_4 : decode cX3_isIn 4 = .ok (.iand, 1) := by decide +kernel
theorem dX3_isIn_5 : decode cX3_isIn 5 = .ok (.iconst 1, 1) := by decide +kernel
theorem dX3_isIn_6 : decode cX3_isIn 6 = .ok (.if_icmp .ne 7, 3) := by decide +kernel
theorem dX3_isIn_9 : decode cX3_isIn 9 = .ok (.iconst 1, 1) := by decide +kernel
theorem dX3_isIn_10 : decode cX3_isIn 10 = .ok (.goto 4, 3) := by decide +kernel
theorem dX3_isIn_13 : decode cX3_isIn 13 = .ok (.iconst 0, 1) := by decide +kernel
theorem dX3_isIn_14 : decode cX3_isIn 14 = .ok (.ireturn, 1) := by decide +kernel
theorem dX3_allEvents_0 : decode cX3_allEvents 0 = .ok (.iconst 1, 1) := by decide +kernel
theorem dX3_allEvents_1 : decode cX3_allEvents 1 = .ok (.aload_n 0, 1) := by decide +kernel
theorem dX3_allEvents_2 : decode cX3_allEvents 2 = .ok (.getfield 33, 3) := by decide +kernel
theorem dX3_allEvents_5 : decode cX3_allEvents 5 = .ok (.ishl, 1) := by decide +kernel
theorem dX3_allEvents_6 : decode cX3_allEvents 6 = .ok (.iconst 1, 1) := by decide +kernel
theorem dX3_allEvents_7 : decode cX3_allEvents 7 = .ok (.isub, 1) := by decide +kernel
theorem dX3_allEvents_8 : decode cX3_allEvents 8 = .ok (.ireturn, 1) := by decide +kernel
set_option maxRecDepth 20000 in
theorem ggX3_isEventSet_X3_allEvents : GoodIn wsX3_isEventSet wsX3_allEvents := goodIn_r _ [5, 6, 10, 11, 12, 13, 14, 15, 16, 17, 18] (by decide +kernel) (by decide +kernel)
set_option maxRecDepth 20000 in
theorem gX3_isEventSet_X3_allEvents : GoodIn wsX3_isEventSet (wsV RX3 142 RX3 yX3_allEvents wsX3_allEvents) := goodIn_app (goodIn_of _ (by decide +kernel)) ggX3_isEventSet_X3_allEvents
set_option maxRecDepth 20000 in
theorem ggX3_isEventSet_X3_isWithin : GoodIn wsX3_isEventSet wsX3_isWithin := goodIn_r _ [9] (by decide +kernel) (by decide +kernel)
set_option maxRecDepth 20000 in
theorem gX3_isEventSet_X3_isWithin : GoodIn wsX3_isEventSet (va_wsS RX3 81 yX3_isWithin wsX3_isWithin) := goodIn_app (goodIn_of _ (by decide +kernel)) ggX3_isEventSet_X3_isWithin
theorem dX3_isEventSet_0 : decode cX3_isEventSet 0 = .ok (.iload_n 1, 1) := by decide +kernel
theorem dX3_isEventSet_1 : decode cX3_isEventSet 1 = .ok (.aload_n 0, 1) := by decide +kernel
theorem dX3_isEventSet_2 : decode cX3_isEventSet 2 = .ok (.invokevirtual 142, 3) := by decide +kernel
theorem dX3_isEventSet_5 : decode cX3_isEventSet 5 = .ok (.invokestatic 81, 3) := by decide +kernel
theorem dX3_isEventSet_8 : decode cX3_isEventSet 8 = .ok (.ireturn, 1) := by decide +kernel
set_option maxRecDepth 20000 in
theorem ggX3_areEventSets_X3_isEventSet : GoodIn wsX3_areEventSets wsX3_isEventSet := goodIn_r _ [5, 6, 7, 8, 4, 9, 10, 11, 12, 13, 14, 15, 16, 17, 18, 19, 20, 21, 22] (by decide +kernel) (by decide +kernel)
set_option maxRecDepth 20000 in
theorem gX3_areEventSets_X3_isEventSet : GoodIn wsX3_areEventSets (wsV RX3 104 RX3 yX3_isEventSet wsX3_isEventSet) := goodIn_app (goodIn_of _ (by decide +kernel)) ggX3_areEventSets_X3_isEventSet
theorem dX3_areEventSets_0 : decode cX3_areEventSets 0 = .ok (.iload_n 2, 1) := by decide +kernel
theorem dX3_areEventSets_1 : decode cX3_areEventSets 1 = .ok (.istore 4, 2) := by decide +kernel
theorem dX3_areEventSets_3 : decode cX3_areEventSets 3 = .ok (.iload 4, 2) := by decide +kernel
theorem dX3_areEventSets_5 : decode cX3_areEventSets 5 = .ok (.iload_n 3, 1) := by decide +kernel
theorem dX3_areEventSets_6 : decode cX3_areEventSets 6 = .ok (.if_icmp .ge 22, 3) := by decide +kernel
theorem dX3_areEventSets_9 : decode cX3_areEventSets 9 = .ok (.aload_n 0, 1) := by decide +kernel
theorem dX3_areEventSets_10 : decode cX3_areEventSets 10 = .ok (.aload_n 1, 1) := by decide +kernel
theorem dX3_areEventSets_11 : decode cX3_areEventSets 11 = .ok (.iload 4, 2) := by decide +kernel
theorem dX3_areEventSets_13 : decode cX3_areEventSets 13 = .ok (.iaload, 1) := by decide +kernel
theorem dX3_areEventSets_14 : decode cX3_areEventSets 14 = .ok (.invokevirtual 104, 3) := by decide +kernel
theorem dX3_areEventSets_17 : decode cX3_areEventSets 17 = .ok (.ifCond .ne 5, 3) := by decide +kernel
theorem dX3_areEventSets_20 : decode cX3_areEventSets 20 = .ok (.iconst 0, 1) := by decide +kernel
theorem dX3_areEventSets_21 : decode cX3_areEventSets 21 = .ok (.ireturn, 1) := by decide +kernel
theorem dX3_areEventSets_22 : decode cX3_areEventSets 22 = .ok (.iinc 4 1, 3) := by decide +kernel
theorem dX3_areEventSets_25 : decode cX3_areEventSets 25 = .ok (.goto (-22), 3) := by decide +kernel
theorem dX3_areEventSets_28 : decode cX3_areEventSets 28 = .ok (.iconst 1, 1) := by decide +kernel
theorem dX3_areEventSets_29 : decode cX3_areEventSets 29 = .ok (.ireturn, 1) := by decide +kernel
theorem dX3_faulty_0 : decode cX3_faulty 0 = .ok (.aload_n 0, 1) := by decide +kernel
theorem dX3_faulty_1 : decode cX3_faulty 1 = .ok (.iload_n 1, 1) := by decide +kernel
theorem dX3_faulty_2 : decode cX3_faulty 2 = .ok (.putfield 46, 3) := by decide +kernel
theorem dX3_faulty_5 : decode cX3_faulty 5 = .ok (.bipush (-10), 2) := by decide +kernel
theorem dX3_faulty_7 : decode cX3_faulty 7 = .ok (.iload_n 1, 1) := by decide +kernel
theorem dX3_faulty_8 : decode cX3_faulty 8 = .ok (.isub, 1) := by decide +kernel
theorem dX3_faulty_9 : decode cX3_faulty 9 = .ok (.ireturn, 1) := by decide +kernel
theorem dX3_isDigit_0 : decode cX3_isDigit 0 = .ok (.iload_n 0, 1) := by decide +kernel
theorem dX3_isDigit_1 : decode cX3_isDigit 1 = .ok (.bipush 48, 2) := by decide +kernel
theorem dX3_isDigit_3 : decode cX3_isDigit 3 = .ok (.if_icmp .lt 15, 3) := by decide +kernel
theorem dX3_isDigit_6 : decode cX3_isDigit 6 = .ok (.iload_n 0, 1) := by decide +kernel
theorem dX3_isDigit_7 : decode cX3_isDigit 7 = .ok (.bipush 48, 2) := by decide +kernel
theorem dX3_isDigit_9 : decode cX3_isDigit 9 = .ok (.iload_n 1, 1) := by decide +kernel
theorem dX3_isDigit_10 : decode cX3_isDigit 10 = .ok (.iadd, 1) := by decide +kernel
theorem dX3_isDigit_11 : decode cX3_isDigit 11 = .ok (.if_icmp .gt 7, 3) := by decide +kernel
theorem dX3_isDigit_14 : decode cX3_isDigit 14 = .ok (.iconst 1, 1) := by decide +kernel
theorem dX3_isDigit_15 : decode cX3_isDigit 15 = .ok (.goto 4, 3) := by decide +kernel
theorem dX3_isDigit_18 : decode cX3_isDigit 18 = .ok (.iconst 0, 1) := by decide +kernel
theorem dX3_isDigit_19 : decode cX3_isDigit 19 = .ok (.ireturn, 1) := by decide +kernel
theorem dX3_kindOf_0 : decode cX3_kindOf 0 = .ok (.iload_n 0, 1) := by decide +kernel
theorem dX3_kindOf_1 : decode cX3_kindOf 1 = .ok (.lookupswitch 41 #[(108, 39), (109, 35), (115, 37)], 35) := by decide +kernel
theorem dX3_kindOf_36 : decode cX3_kindOf 36 = .ok (.iconst 0, 1) := by decide +kernel
theorem dX3_kindOf_37 : decode cX3_kindOf 37 = .ok (.ireturn, 1) := by decide +kernel
theorem dX3_kindOf_38 : decode cX3_kindOf 38 = .ok (.iconst 1, 1) := by decide +kernel
theorem dX3_kindOf_39 : decode cX3_kindOf 39 = .ok (.ireturn, 1) := by decide +kernel
theorem dX3_kindOf_40 : decode cX3_kindOf 40 = .ok (.iconst 2, 1) := by decide +kernel
theorem dX3_kindOf_41 : decode cX3_kindOf 41 = .ok (.ireturn, 1) := by decide +kernel
theorem dX3_kindOf_42 : decode cX3_kindOf 42 = .ok (.bipush (-9), 2) := by decide +kernel
theorem dX3_kindOf_44 : decode cX3_kindOf 44 = .ok (.ireturn, 1) := by decide +kernel
set_option maxRecDepth 20000 in
theorem ggX3_firstFaultPlace_X3_isDigit : GoodIn wsX3_firstFaultPlace wsX3_isDigit := goodIn_r _ [4] (by decide +kernel) (by decide +kernel)
set_option maxRecDepth 20000 in
theorem gX3_firstFaultPlace_X3_isDigit : GoodIn wsX3_firstFaultPlace (va_wsS RX3 211 yX3_isDigit wsX3_isDigit) := goodIn_app (goodIn_of _ (by decide +kernel)) ggX3_firstFaultPlace_X3_isDigit
set_option maxRecDepth 20000 in
theorem ggX3_firstFaultPlace_X3_fitsProphet : GoodIn wsX3_firstFaultPlace wsX3_fitsProphet := goodIn_r _ [7, 8, 9, 3, 10, 1, 2, 4] (by decide +kernel) (by decide +kernel)
set_option maxRecDepth 20000 in
theorem gX3_firstFaultPlace_X3_fitsProphet : GoodIn wsX3_firstFaultPlace (va_wsS RX3 214 yX3_fitsProphet wsX3_fitsProphet) := goodIn_app (goodIn_of _ (by decide +kernel)) ggX3_firstFaultPlace_X3_fitsProphet
theorem dX3_firstFaultPlace_0 : decode cX3_firstFaultPlace 0 = .ok (.iload_n 1, 1) := by decide +kernel
theorem dX3_firstFaultPlace_1 : decode cX3_firstFaultPlace 1 = .ok (.iload_n 2, 1) := by decide +kernel
theorem dX3_firstFaultPlace_2 : decode cX3_firstFaultPlace 2 = .ok (.if_icmp .ge 11, 3) := by decide +kernel
theorem dX3_firstFaultPlace_5 : decode cX3_firstFaultPlace 5 = .ok (.aload_n 0, 1) := by decide +kernel
theorem dX3_firstFaultPlace_6 : decode cX3_firstFaultPlace 6 = .ok (.iload_n 1, 1) := by decide +kernel
theorem dX3_firstFaultPlace_7 : decode cX3_firstFaultPlace 7 = .ok (.iaload, 1) := by decide +kernel
theorem dX3_firstFaultPlace_8 : decode cX3_firstFaultPlace 8 = .ok (.bipush 119, 2) := by decide +kernel
theorem dX3_firstFaultPlace_10 : decode cX3_firstFaultPlace 10 = .ok (.if_icmp .eq 5, 3) := by decide +kernel
theorem dX3_firstFaultPlace_13 : decode cX3_firstFaultPlace 13 = .ok (.iload_n 1, 1) := by decide +kernel
theorem dX3_firstFaultPlace_14 : decode cX3_firstFaultPlace 14 = .ok (.ireturn, 1) := by decide +kernel
theorem dX3_firstFaultPlace_15 : decode cX3_firstFaultPlace 15 = .ok (.iload_n 1, 1) := by decide +kernel
theorem dX3_firstFaultPlace_16 : decode cX3_firstFaultPlace 16 = .ok (.iconst 1, 1) := by decide +kernel
theorem dX3_firstFaultPlace_17 : decode cX3_firstFaultPlace 17 = .ok (.iadd, 1) := by decide +kernel
theorem dX3_firstFaultPlace_18 : decode cX3_firstFaultPlace 18 = .ok (.istore_n 3, 1) := by decide +kernel
theorem dX3_firstFaultPlace_19 : decode cX3_firstFaultPlace 19 = .ok (.iconst 0, 1) := by decide +kernel
theorem dX3_firstFaultPlace_20 : decode cX3_firstFaultPlace 20 = .ok (.istore 4, 2) := by decide +kernel
theorem dX3_firstFaultPlace_22 : decode cX3_firstFaultPlace 22 = .ok (.iload 4, 2) := by decide +kernel
theorem dX3_firstFaultPlace_24 : decode cX3_firstFaultPlace 24 = .ok (.iconst 5, 1) := by decide +kernel
theorem dX3_firstFaultPlace_25 : decode cX3_firstFaultPlace 25 = .ok (.if_icmp .ge 49, 3) := by decide +kernel
theorem dX3_firstFaultPlace_28 : decode cX3_firstFaultPlace 28 = .ok (.iload_n 3, 1) := by decide +kernel
theorem dX3_firstFaultPlace_29 : decode cX3_firstFaultPlace 29 = .ok (.iload_n 2, 1) := by decide +kernel
theorem dX3_firstFaultPlace_30 : decode cX3_firstFaultPlace 30 = .ok (.if_icmp .ge 44, 3) := by decide +kernel
theorem dX3_firstFaultPlace_33 : decode cX3_firstFaultPlace 33 = .ok (.aload_n 0, 1) := by decide +kernel
theorem dX3_firstFaultPlace_34 : decode cX3_firstFaultPlace 34 = .ok (.iload_n 3, 1) := by decide +kernel
theorem dX3_firstFaultPlace_35 : decode cX3_firstFaultPlace 35 = .ok (.iaload, 1) := by decide +kernel
theorem dX3_firstFaultPlace_36 : decode cX3_firstFaultPlace 36 = .ok (.bipush 47, 2) := by decide +kernel
theorem dX3_firstFaultPlace_38 : decode cX3_firstFaultPlace 38 = .ok (.if_icmp .ne 36, 3) := by decide +kernel
theorem dX3_firstFaultPlace_41 : decode cX3_firstFaultPlace 41 = .ok (.iload_n 3, 1) := by decide +kernel
theorem dX3_firstFaultPlace_42 : decode cX3_firstFaultPlace 42 = .ok (.iconst 1, 1) := by decide +kernel
theorem dX3_firstFaultPlace_43 : decode cX3_firstFaultPlace 43 = .ok (.iadd, 1) := by decide +kernel
theorem dX3_firstFaultPlace_44 : decode cX3_firstFaultPlace 44 = .ok (.iload_n 2, 1) := by decide +kernel
theorem dX3_firstFaultPlace_45 : decode cX3_firstFaultPlace 45 = .ok (.if_icmp .ge 16, 3) := by decide +kernel
theorem dX3_firstFaultPlace_48 : decode cX3_firstFaultPlace 48 = .ok (.aload_n 0, 1) := by decide +kernel
theorem dX3_firstFaultPlace_49 : decode cX3_firstFaultPlace 49 = .ok (.iload_n 3, 1) := by decide +kernel
theorem dX3_firstFaultPlace_50 : decode cX3_firstFaultPlace 50 = .ok (.iconst 1, 1) := by decide +kernel
theorem dX3_firstFaultPlace_51 : decode cX3_firstFaultPlace 51 = .ok (.iadd, 1) := by decide +kernel
theorem dX3_firstFaultPlace_52 : decode cX3_firstFaultPlace 52 = .ok (.iaload, 1) := by decide +kernel
theorem dX3_firstFaultPlace_53 : decode cX3_firstFaultPlace 53 = .ok (.bipush 9, 2) := by decide +kernel
theorem dX3_firstFaultPlace_55 : decode cX3_firstFaultPlace 55 = .ok (.invokestatic 211, 3) := by decide +kernel
theorem dX3_firstFaultPlace_58 : decode cX3_firstFaultPlace 58 = .ok (.ifCond .ne 7, 3) := by decide +kernel
theorem dX3_firstFaultPlace_61 : decode cX3_firstFaultPlace 61 = .ok (.iload_n 3, 1) := by decide +kernel
theorem dX3_firstFaultPlace_62 : decode cX3_firstFaultPlace 62 = .ok (.iconst 1, 1) := by decide +kernel
theorem dX3_firstFaultPlace_63 : decode cX3_firstFaultPlace 63 = .ok (.iadd, 1) := by decide +kernel
theorem dX3_firstFaultPlace_64 : decode cX3_firstFaultPlace 64 = .ok (.ireturn, 1) := by decide +kernel
theorem dX3_firstFaultPlace_65 : decode cX3_firstFaultPlace 65 = .ok (.iinc 3 2, 3) := by decide +kernel
theorem dX3_firstFaultPlace_68 : decode cX3_firstFaultPlace 68 = .ok (.iinc 4 1, 3) := by decide +kernel
theorem dX3_firstFaultPlace_71 : decode cX3_firstFaultPlace 71 = .ok (.goto (-49), 3) := by decide +kernel
theorem dX3_firstFaultPlace_74 : decode cX3_firstFaultPlace 74 = .ok (.iload_n 3, 1) := by decide +kernel
theorem dX3_firstFaultPlace_75 : decode cX3_firstFaultPlace 75 = .ok (.istore 4, 2) := by decide +kernel
theorem dX3_firstFaultPlace_77 : decode cX3_firstFaultPlace 77 = .ok (.iload 4, 2) := by decide +kernel
theorem dX3_firstFaultPlace_79 : decode cX3_firstFaultPlace 79 = .ok (.iload_n 1, 1) := by decide +kernel
theorem dX3_firstFaultPlace_80 : decode cX3_firstFaultPlace 80 = .ok (.iconst 1, 1) := by decide +kernel
theorem dX3_firstFaultPlace_81 : decode cX3_firstFaultPlace 81 = .ok (.iadd, 1) := by decide +kernel
theorem dX3_firstFaultPlace_82 : decode cX3_firstFaultPlace 82 = .ok (.if_icmp .ne 6, 3) := by decide +kernel
theorem dX3_firstFaultPlace_85 : decode cX3_firstFaultPlace 85 = .ok (.iload 4, 2) := by decide +kernel
theorem dX3_firstFaultPlace_87 : decode cX3_firstFaultPlace 87 = .ok (.ireturn, 1) := by decide +kernel
theorem dX3_firstFaultPlace_88 : decode cX3_firstFaultPlace 88 = .ok (.iconst 0, 1) := by decide +kernel
theorem dX3_firstFaultPlace_89 : decode cX3_firstFaultPlace 89 = .ok (.istore 5, 2) := by decide +kernel
theorem dX3_firstFaultPlace_91 : decode cX3_firstFaultPlace 91 = .ok (.iload 5, 2) := by decide +kernel
theorem dX3_firstFaultPlace_93 : decode cX3_firstFaultPlace 93 = .ok (.iconst 4, 1) := by decide +kernel
theorem dX3_firstFaultPlace_94 : decode cX3_firstFaultPlace 94 = .ok (.if_icmp .ge 55, 3) := by decide +kernel
theorem dX3_firstFaultPlace_97 : decode cX3_firstFaultPlace 97 = .ok (.iload_n 3, 1) := by decide +kernel
theorem dX3_firstFaultPlace_98 : decode cX3_firstFaultPlace 98 = .ok (.iload_n 2, 1) := by decide +kernel
theorem dX3_firstFaultPlace_99 : decode cX3_firstFaultPlace 99 = .ok (.if_icmp .ge 50, 3) := by decide +kernel
theorem dX3_firstFaultPlace_102 : decode cX3_firstFaultPlace 102 = .ok (.iconst 0, 1) := by decide +kernel
theorem dX3_firstFaultPlace_103 : decode cX3_firstFaultPlace 103 = .ok (.istore 6, 2) := by decide +kernel
theorem dX3_firstFaultPlace_105 : decode cX3_firstFaultPlace 105 = .ok (.iload 6, 2) := by decide +kernel
theorem dX3_firstFaultPlace_107 : decode cX3_firstFaultPlace 107 = .ok (.iconst 5, 1) := by decide +kernel
theorem dX3_firstFaultPlace_108 : decode cX3_firstFaultPlace 108 = .ok (.if_icmp .ge 32, 3) := by decide +kernel
theorem dX3_firstFaultPlace_111 : decode cX3_firstFaultPlace 111 = .ok (.iload_n 3, 1) := by decide +kernel
theorem dX3_firstFaultPlace_112 : decode cX3_firstFaultPlace 112 = .ok (.iload 6, 2) := by decide +kernel
theorem dX3_firstFaultPlace_114 : decode cX3_firstFaultPlace 114 = .ok (.iadd, 1) := by decide +kernel
theorem dX3_firstFaultPlace_115 : decode cX3_firstFaultPlace 115 = .ok (.iload_n 2, 1) := by decide +kernel
theorem dX3_firstFaultPlace_116 : decode cX3_firstFaultPlace 116 = .ok (.if_icmp .ge 13, 3) := by decide +kernel
theorem dX3_firstFaultPlace_119 : decode cX3_firstFaultPlace 119 = .ok (.aload_n 0, 1) := by decide +kernel
theorem dX3_firstFaultPlace_120 : decode cX3_firstFaultPlace 120 = .ok (.iload_n 3, 1) := by decide +kernel
theorem dX3_firstFaultPlace_121 : decode cX3_firstFaultPlace 121 = .ok (.iload 6, 2) := by decide +kernel
theorem dX3_firstFaultPlace_123 : decode cX3_firstFaultPlace 123 = .ok (.invokestatic 214, 3) := by decide +kernel
theorem dX3_firstFaultPlace_126 : decode cX3_firstFaultPlace 126 = .ok (.ifCond .ne 8, 3) := by decide +kernel
theorem dX3_firstFaultPlace_129 : decode cX3_firstFaultPlace 129 = .ok (.iload_n 3, 1) := by decide +kernel
theorem dX3_firstFaultPlace_130 : decode cX3_firstFaultPlace 130 = .ok (.iload 6, 2) := by decide +kernel
theorem dX3_firstFaultPlace_132 : decode cX3_firstFaultPlace 132 = .ok (.iadd, 1) := by decide +kernel
theorem dX3_firstFaultPlace_133 : decode cX3_firstFaultPlace 133 = .ok (.ireturn, 1) := by decide +kernel
theorem dX3_firstFaultPlace_134 : decode cX3_firstFaultPlace 134 = .ok (.iinc 6 1, 3) := by decide +kernel
theorem dX3_firstFaultPlace_137 : decode cX3_firstFaultPlace 137 = .ok (.goto (-32), 3) := by decide +kernel
theorem dX3_firstFaultPlace_140 : decode cX3_firstFaultPlace 140 = .ok (.iinc 3 5, 3) := by decide +kernel
theorem dX3_firstFaultPlace_143 : decode cX3_firstFaultPlace 143 = .ok (.iinc 5 1, 3) := by decide +kernel
theorem dX3_firstFaultPlace_146 : decode cX3_firstFaultPlace 146 = .ok (.goto (-55), 3) := by decide +kernel
theorem dX3_firstFaultPlace_149 : decode cX3_firstFaultPlace 149 = .ok (.iload_n 3, 1) := by decide +kernel
theorem dX3_firstFaultPlace_150 : decode cX3_firstFaultPlace 150 = .ok (.iload_n 2, 1) := by decide +kernel
theorem dX3_firstFaultPlace_151 : decode cX3_firstFaultPlace 151 = .ok (.if_icmp .ne 14, 3) := by decide +kernel
theorem dX3_firstFaultPlace_154 : decode cX3_firstFaultPlace 154 = .ok (.iload_n 3, 1) := by decide +kernel
theorem dX3_firstFaultPlace_155 : decode cX3_firstFaultPlace 155 = .ok (.iload 4, 2) := by decide +kernel
theorem dX3_firstFaultPlace_157 : decode cX3_firstFaultPlace 157 = .ok (.if_icmp .le 8, 3) := by decide +kernel
theorem dX3_firstFaultPlace_160 : decode cX3_firstFaultPlace 160 = .ok (.bipush (-9), 2) := by decide +kernel
theorem dX3_firstFaultPlace_162 : decode cX3_firstFaultPlace 162 = .ok (.goto 4, 3) := by decide +kernel
theorem dX3_firstFaultPlace_165 : decode cX3_firstFaultPlace 165 = .ok (.iload_n 3, 1) := by decide +kernel
theorem dX3_firstFaultPlace_166 : decode cX3_firstFaultPlace 166 = .ok (.ireturn, 1) := by decide +kernel
set_option maxRecDepth 20000 in
theorem ggX3_fitsProphet_X3_kindOf : GoodIn wsX3_fitsProphet wsX3_kindOf := goodIn_r _ [4] (by decide +kernel) (by decide +kernel)
set_option maxRecDepth 20000 in
theorem gX3_fitsProphet_X3_kindOf : GoodIn wsX3_fitsProphet (va_wsS RX3 217 yX3_kindOf wsX3_kindOf) := goodIn_app (goodIn_of _ (by decide +kernel)) ggX3_fitsProphet_X3_kindOf
set_option maxRecDepth 20000 in
theorem ggX3_fitsProphet_X3_isDigit : GoodIn wsX3_fitsProphet wsX3_isDigit := goodIn_r _ [7] (by decide +kernel) (by decide +kernel)
set_option maxRecDepth 20000 in
theorem gX3_fitsProphet_X3_isDigit : GoodIn wsX3_fitsProphet (va_wsS RX3 211 yX3_isDigit wsX3_isDigit) := goodIn_app (goodIn_of _ (by decide +kernel)) ggX3_fitsProphet_X3_isDigit
theorem dX3_fitsProphet_0 : decode cX3_fitsProphet 0 = .ok (.aload_n 0, 1) := by decide +kernel
theorem dX3_fitsProphet_1 : decode cX3_fitsProphet 1 = .ok (.iload_n 1, 1) := by decide +kernel
theorem dX3_fitsProphet_2 : decode cX3_fitsProphet 2 = .ok (.iload_n 2, 1) := by decide +kernel
theorem dX3_fitsProphet_3 : decode cX3_fitsProphet 3 = .ok (.iadd, 1) := by decide +kernel
theorem dX3_fitsProphet_4 : decode cX3_fitsProphet 4 = .ok (.iaload, 1) := by decide +kernel
theorem dX3_fitsProphet_5 : decode cX3_fitsProphet 5 = .ok (.istore_n 3, 1) := by decide +kernel
theorem dX3_fitsProphet_6 : decode cX3_fitsProphet 6 = .ok (.iload_n 2, 1) := by decide +kernel
theorem dX3_fitsProphet_7 : decode cX3_fitsProphet 7 = .ok (.tableswitch 69 0 3 #[29, 41, 56, 63], 29) := by decide +kernel
theorem dX3_fitsProphet_36 : decode cX3_fitsProphet 36 = .ok (.iload_n 3, 1) := by decide +kernel
theorem dX3_fitsProphet_37 : decode cX3_fitsProphet 37 = .ok (.bipush 59, 2) := by decide +kernel
theorem dX3_fitsProphet_39 : decode cX3_fitsProphet 39 = .ok (.if_icmp .ne 7, 3) := by decide +kernel
theorem dX3_fitsProphet_42 : decode cX3_fitsProphet 42 = .ok (.iconst 1, 1) := by decide +kernel
theorem dX3_fitsProphet_43 : decode cX3_fitsProphet 43 = .ok (.goto 4, 3) := by decide +kernel
theorem dX3_fitsProphet_46 : decode cX3_fitsProphet 46 = .ok (.iconst 0, 1) := by decide +kernel
theorem dX3_fitsProphet_47 : decode cX3_fitsProphet 47 = .ok (.ireturn, 1) := by decide +kernel
theorem dX3_fitsProphet_48 : decode cX3_fitsProphet 48 = .ok (.iload_n 3, 1) := by decide +kernel
theorem dX3_fitsProphet_49 : decode cX3_fitsProphet 49 = .ok (.invokestatic 217, 3) := by decide +kernel
theorem dX3_fitsProphet_52 : decode cX3_fitsProphet 52 = .ok (.bipush (-9), 2) := by decide +kernel
theorem dX3_fitsProphet_54 : decode cX3_fitsProphet 54 = .ok (.if_icmp .eq 7, 3) := by decide +kernel
theorem dX3_fitsProphet_57 : decode cX3_fitsProphet 57 = .ok (.iconst 1, 1) := by decide +kernel
theorem dX3_fitsProphet_58 : decode cX3_fitsProphet 58 = .ok (.goto 4, 3) := by decide +kernel
theorem dX3_fitsProphet_61 : decode cX3_fitsProphet 61 = .ok (.iconst 0, 1) := by decide +kernel
theorem dX3_fitsProphet_62 : decode cX3_fitsProphet 62 = .ok (.ireturn, 1) := by decide +kernel
theorem dX3_fitsProphet_63 : decode cX3_fitsProphet 63 = .ok (.iload_n 3, 1) := by decide +kernel
theorem dX3_fitsProphet_64 : decode cX3_fitsProphet 64 = .ok (.bipush 9, 2) := by decide +kernel
theorem dX3_fitsProphet_66 : decode cX3_fitsProphet 66 = .ok (.invokestatic 211, 3) := by decide +kernel
theorem dX3_fitsProphet_69 : decode cX3_fitsProphet 69 = .ok (.ireturn, 1) := by decide +kernel
theorem dX3_fitsProphet_70 : decode cX3_fitsProphet 70 = .ok (.iload_n 3, 1) := by decide +kernel
theorem dX3_fitsProphet_71 : decode cX3_fitsProphet 71 = .ok (.iconst 3, 1) := by decide +kernel
theorem dX3_fitsProphet_72 : decode cX3_fitsProphet 72 = .ok (.invokestatic 211, 3) := by decide +kernel
theorem dX3_fitsProphet_75 : decode cX3_fitsProphet 75 = .ok (.ireturn, 1) := by decide +kernel
theorem dX3_fitsProphet_76 : decode cX3_fitsProphet 76 = .ok (.iload_n 3, 1) := by decide +kernel
theorem dX3_fitsProphet_77 : decode cX3_fitsProphet 77 = .ok (.aload_n 0, 1) := by decide +kernel
theorem dX3_fitsProphet_78 : decode cX3_fitsProphet 78 = .ok (.iload_n 1, 1) := by decide +kernel
theorem dX3_fitsProphet_79 : decode cX3_fitsProphet 79 = .ok (.iconst 3, 1) := by decide +kernel
theorem dX3_fitsProphet_80 : decode cX3_fitsProphet 80 = .ok (.iadd, 1) := by decide +kernel
theorem dX3_fitsProphet_81 : decode cX3_fitsProphet 81 = .ok (.iaload, 1) := by decide +kernel
theorem dX3_fitsProphet_82 : decode cX3_fitsProphet 82 = .ok (.bipush 51, 2) := by decide +kernel
theorem dX3_fitsProphet_84 : decode cX3_fitsProphet 84 = .ok (.if_icmp .ne 7, 3) := by decide +kernel
theorem dX3_fitsProphet_87 : decode cX3_fitsProphet 87 = .ok (.iconst 1, 1) := by decide +kernel
theorem dX3_fitsProphet_88 : decode cX3_fitsProphet 88 = .ok (.goto 5, 3) := by decide +kernel
theorem dX3_fitsProphet_91 : decode cX3_fitsProphet 91 = .ok (.bipush 9, 2) := by decide +kernel
theorem dX3_fitsProphet_93 : decode cX3_fitsProphet 93 = .ok (.invokestatic 211, 3) := by decide +kernel
theorem dX3_fitsProphet_96 : decode cX3_fitsProphet 96 = .ok (.ireturn, 1) := by decide +kernel
theorem dX3_behindEvents_0 : decode cX3_behindEvents 0 = .ok (.iload_n 1, 1) := by decide +kernel
theorem dX3_behindEvents_1 : decode cX3_behindEvents 1 = .ok (.iconst 1, 1) := by decide +kernel
theorem dX3_behindEvents_2 : decode cX3_behindEvents 2 = .ok (.iadd, 1) := by decide +kernel
theorem dX3_behindEvents_3 : decode cX3_behindEvents 3 = .ok (.istore_n 3, 1) := by decide +kernel
theorem dX3_behindEvents_4 : decode cX3_behindEvents 4 = .ok (.iconst 0, 1) := by decide +kernel
theorem dX3_behindEvents_5 : decode cX3_behindEvents 5 = .ok (.istore 4, 2) := by decide +kernel
theorem dX3_behindEvents_7 : decode cX3_behindEvents 7 = .ok (.iload 4, 2) := by decide +kernel
theorem dX3_behindEvents_9 : decode cX3_behindEvents 9 = .ok (.iconst 5, 1) := by decide +kernel
theorem dX3_behindEvents_10 : decode cX3_behindEvents 10 = .ok (.if_icmp .ge 25, 3) := by decide +kernel
theorem dX3_behindEvents_13 : decode cX3_behindEvents 13 = .ok (.iload_n 3, 1) := by decide +kernel
theorem dX3_behindEvents_14 : decode cX3_behindEvents 14 = .ok (.iload_n 2, 1) := by decide +kernel
theorem dX3_behindEvents_15 : decode cX3_behindEvents 15 = .ok (.if_icmp .ge 20, 3) := by decide +kernel
theorem dX3_behindEvents_18 : decode cX3_behindEvents 18 = .ok (.aload_n 0, 1) := by decide +kernel
theorem dX3_behindEvents_19 : decode cX3_behindEvents 19 = .ok (.iload_n 3, 1) := by decide +kernel
theorem dX3_behindEvents_20 : decode cX3_behindEvents 20 = .ok (.iaload, 1) := by decide +kernel
theorem dX3_behindEvents_21 : decode cX3_behindEvents 21 = .ok (.bipush 47, 2) := by decide +kernel
theorem dX3_behindEvents_23 : decode cX3_behindEvents 23 = .ok (.if_icmp .ne 12, 3) := by decide +kernel
theorem dX3_behindEvents_26 : decode cX3_behindEvents 26 = .ok (.iinc 3 2, 3) := by decide +kernel
theorem dX3_behindEvents_29 : decode cX3_behindEvents 29 = .ok (.iinc 4 1, 3) := by decide +kernel
theorem dX3_behindEvents_32 : decode cX3_behindEvents 32 = .ok (.goto (-25), 3) := by decide +kernel
theorem dX3_behindEvents_35 : decode cX3_behindEvents 35 = .ok (.iload_n 3, 1) := by decide +kernel
theorem dX3_behindEvents_36 : decode cX3_behindEvents 36 = .ok (.ireturn, 1) := by decide +kernel
set_option maxRecDepth 20000 in
theorem ggX3_takeOffice_X3_behindEvents : GoodIn wsX3_takeOffice wsX3_behindEvents := goodIn_r _ [12] (by decide +kernel) (by decide +kernel)
set_option maxRecDepth 20000 in
theorem gX3_takeOffice_X3_behindEvents : GoodIn wsX3_takeOffice (va_wsS RX3 220 yX3_behindEvents wsX3_behindEvents) := goodIn_app (goodIn_of _ (by decide +kernel)) ggX3_takeOffice_X3_behindEvents
set_option maxRecDepth 20000 in
theorem ggX3_takeOffice_X3_kindOf : GoodIn wsX3_takeOffice wsX3_kindOf := goodIn_r _ [15] (by decide +kernel) (by decide +kernel)
set_option maxRecDepth 20000 in
theorem gX3_takeOffice_X3_kindOf : GoodIn wsX3_takeOffice (va_wsS RX3 217 yX3_kindOf wsX3_kindOf) := goodIn_app (goodIn_of _ (by decide +kernel)) ggX3_takeOffice_X3_kindOf
theorem dX3_takeOffice_0 : decode cX3_takeOffice 0 = .ok (.aload_n 1, 1) := by decide +kernel
theorem dX3_takeOffice_1 : decode cX3_takeOffice 1 = .ok (.iload_n 2, 1) := by decide +kernel
theorem dX3_takeOffice_2 : decode cX3_takeOffice 2 = .ok (.iload_n 3, 1) := by decide +kernel
theorem dX3_takeOffice_3 : decode cX3_takeOffice 3 = .ok (.invokestatic 220, 3) := by decide +kernel
theorem dX3_takeOffice_6 : decode cX3_takeOffice 6 = .ok (.istore 4, 2) := by decide +kernel
theorem dX3_takeOffice_8 : decode cX3_takeOffice 8 = .ok (.aload_n 0, 1) := by decide +kernel
theorem dX3_takeOffice_9 : decode cX3_takeOffice 9 = .ok (.iconst 0, 1) := by decide +kernel
theorem dX3_takeOffice_10 : decode cX3_takeOffice 10 = .ok (.putfield 40, 3) := by decide +kernel
theorem dX3_takeOffice_13 : decode cX3_takeOffice 13 = .ok (.aload_n 0, 1) := by decide +kernel
theorem dX3_takeOffice_14 : decode cX3_takeOffice 14 = .ok (.iconst 0, 1) := by decide +kernel
theorem dX3_takeOffice_15 : decode cX3_takeOffice 15 = .ok (.putfield 33, 3) := by decide +kernel
theorem dX3_takeOffice_18 : decode cX3_takeOffice 18 = .ok (.aload_n 0, 1) := by decide +kernel
theorem dX3_takeOffice_19 : decode cX3_takeOffice 19 = .ok (.iconst 0, 1) := by decide +kernel
theorem dX3_takeOffice_20 : decode cX3_takeOffice 20 = .ok (.putfield 37, 3) := by decide +kernel
theorem dX3_takeOffice_23 : decode cX3_takeOffice 23 = .ok (.iload_n 2, 1) := by decide +kernel
theorem dX3_takeOffice_24 : decode cX3_takeOffice 24 = .ok (.iconst 2, 1) := by decide +kernel
theorem dX3_takeOffice_25 : decode cX3_takeOffice 25 = .ok (.iadd, 1) := by decide +kernel
theorem dX3_takeOffice_26 : decode cX3_takeOffice 26 = .ok (.istore 5, 2) := by decide +kernel
theorem dX3_takeOffice_28 : decode cX3_takeOffice 28 = .ok (.iload 5, 2) := by decide +kernel
theorem dX3_takeOffice_30 : decode cX3_takeOffice 30 = .ok (.iload 4, 2) := by decide +kernel
theorem dX3_takeOffice_32 : decode cX3_takeOffice 32 = .ok (.if_icmp .ge 43, 3) := by decide +kernel
theorem dX3_takeOffice_35 : decode cX3_takeOffice 35 = .ok (.aload_n 0, 1) := by decide +kernel
theorem dX3_takeOffice_36 : decode cX3_takeOffice 36 = .ok (.getfield 33, 3) := by decide +kernel
theorem dX3_takeOffice_39 : decode cX3_takeOffice 39 = .ok (.iconst 5, 1) := by decide +kernel
theorem dX3_takeOffice_40 : decode cX3_takeOffice 40 = .ok (.if_icmp .ge 35, 3) := by decide +kernel
theorem dX3_takeOffice_43 : decode cX3_takeOffice 43 = .ok (.aload_n 0, 1) := by decide +kernel
theorem dX3_takeOffice_44 : decode cX3_takeOffice 44 = .ok (.getfield 17, 3) := by decide +kernel
theorem dX3_takeOffice_47 : decode cX3_takeOffice 47 = .ok (.aload_n 0, 1) := by decide +kernel
theorem dX3_takeOffice_48 : decode cX3_takeOffice 48 = .ok (.getfield 33, 3) := by decide +kernel
theorem dX3_takeOffice_51 : decode cX3_takeOffice 51 = .ok (.aload_n 1, 1) := by decide +kernel
theorem dX3_takeOffice_52 : decode cX3_takeOffice 52 = .ok (.iload 5, 2) := by decide +kernel
theorem dX3_takeOffice_54 : decode cX3_takeOffice 54 = .ok (.iaload, 1) := by decide +kernel
theorem dX3_takeOffice_55 : decode cX3_takeOffice 55 = .ok (.bipush 48, 2) := by decide +kernel
theorem dX3_takeOffice_57 : decode cX3_takeOffice 57 = .ok (.isub, 1) := by decide +kernel
theorem dX3_takeOffice_58 : decode cX3_takeOffice 58 = .ok (.iastore, 1) := by decide +kernel
theorem dX3_takeOffice_59 : decode cX3_takeOffice 59 = .ok (.aload_n 0, 1) := by decide +kernel
theorem dX3_takeOffice_60 : decode cX3_takeOffice 60 = .ok (.dup, 1) := by decide +kernel
theorem dX3_takeOffice_61 : decode cX3_takeOffice 61 = .ok (.getfield 33, 3) := by decide +kernel
theorem dX3_takeOffice_64 : decode cX3_takeOffice 64 = .ok (.iconst 1, 1) := by decide +kernel
theorem dX3_takeOffice_65 : decode cX3_takeOffice 65 = .ok (.iadd, 1) := by decide +kernel
theorem dX3_takeOffice_66 : decode cX3_takeOffice 66 = .ok (.putfield 33, 3) := by decide +kernel
theorem dX3_takeOffice_69 : decode cX3_takeOffice 69 = .ok (.iinc 5 2, 3) := by decide +kernel
theorem dX3_takeOffice_72 : decode cX3_takeOffice 72 = .ok (.goto (-44), 3) := by decide +kernel
theorem dX3_takeOffice_75 : decode cX3_takeOffice 75 = .ok (.iload 4, 2) := by decide +kernel
theorem dX3_takeOffice_77 : decode cX3_takeOffice 77 = .ok (.istore 5, 2) := by decide +kernel
theorem dX3_takeOffice_79 : decode cX3_takeOffice 79 = .ok (.iload 5, 2) := by decide +kernel
theorem dX3_takeOffice_81 : decode cX3_takeOffice 81 = .ok (.iconst 5, 1) := by decide +kernel
theorem dX3_takeOffice_82 : decode cX3_takeOffice 82 = .ok (.iadd, 1) := by decide +kernel
theorem dX3_takeOffice_83 : decode cX3_takeOffice 83 = .ok (.iload_n 3, 1) := by decide +kernel
theorem dX3_takeOffice_84 : decode cX3_takeOffice 84 = .ok (.if_icmp .gt 93, 3) := by decide +kernel
theorem dX3_takeOffice_87 : decode cX3_takeOffice 87 = .ok (.aload_n 0, 1) := by decide +kernel
theorem dX3_takeOffice_88 : decode cX3_takeOffice 88 = .ok (.getfield 37, 3) := by decide +kernel
theorem dX3_takeOffice_91 : decode cX3_takeOffice 91 = .ok (.iconst 4, 1) := by decide +kernel
theorem dX3_takeOffice_92 : decode cX3_takeOffice 92 = .ok (.if_icmp .ge 85, 3) := by decide +kernel
theorem dX3_takeOffice_95 : decode cX3_takeOffice 95 = .ok (.aload_n 0, 1) := by decide +kernel
theorem dX3_takeOffice_96 : decode cX3_takeOffice 96 = .ok (.getfield 23, 3) := by decide +kernel
theorem dX3_takeOffice_99 : decode cX3_takeOffice 99 = .ok (.aload_n 0, 1) := by decide +kernel
theorem dX3_takeOffice_100 : decode cX3_takeOffice 100 = .ok (.getfield 37, 3) := by decide +kernel
theorem dX3_takeOffice_103 : decode cX3_takeOffice 103 = .ok (.aaload, 1) := by decide +kernel
theorem dX3_takeOffice_104 : decode cX3_takeOffice 104 = .ok (.astore 6, 2) := by decide +kernel
theorem dX3_takeOffice_106 : decode cX3_takeOffice 106 = .ok (.aload 6, 2) := by decide +kernel
theorem dX3_takeOffice_108 : decode cX3_takeOffice 108 = .ok (.aload_n 1, 1) := by decide +kernel
theorem dX3_takeOffice_109 : decode cX3_takeOffice 109 = .ok (.iload 5, 2) := by decide +kernel
theorem dX3_takeOffice_111 : decode cX3_takeOffice 111 = .ok (.iconst 1, 1) := by decide +kernel
theorem dX3_takeOffice_112 : decode cX3_takeOffice 112 = .ok (.iadd, 1) := by decide +kernel
theorem dX3_takeOffice_113 : decode cX3_takeOffice 113 = .ok (.iaload, 1) := by decide +kernel
theorem dX3_takeOffice_114 : decode cX3_takeOffice 114 = .ok (.invokestatic 217, 3) := by decide +kernel
theorem dX3_takeOffice_117 : decode cX3_takeOffice 117 = .ok (.putfield 88, 3) := by decide +kernel
theorem dX3_takeOffice_120 : decode cX3_takeOffice 120 = .ok (.aload 6, 2) := by decide +kernel
theorem dX3_takeOffice_122 : decode cX3_takeOffice 122 = .ok (.aload_n 1, 1) := by decide +kernel
theorem dX3_takeOffice_123 : decode cX3_takeOffice 123 = .ok (.iload 5, 2) := by decide +kernel
theorem dX3_takeOffice_125 : decode cX3_takeOffice 125 = .ok (.iconst 2, 1) := by decide +kernel
theorem dX3_takeOffice_126 : decode cX3_takeOffice 126 = .ok (.iadd, 1) := by decide +kernel
theorem dX3_takeOffice_127 : decode cX3_takeOffice 127 = .ok (.iaload, 1) := by decide +kernel
theorem dX3_takeOffice_128 : decode cX3_takeOffice 128 = .ok (.bipush 48, 2) := by decide +kernel
theorem dX3_takeOffice_130 : decode cX3_takeOffice 130 = .ok (.isub, 1) := by decide +kernel
theorem dX3_takeOffice_131 : decode cX3_takeOffice 131 = .ok (.putfield 91, 3) := by decide +kernel
theorem dX3_takeOffice_134 : decode cX3_takeOffice 134 = .ok (.aload 6, 2) := by decide +kernel
theorem dX3_takeOffice_136 : decode cX3_takeOffice 136 = .ok (.bipush 10, 2) := by decide +kernel
theorem dX3_takeOffice_138 : decode cX3_takeOffice 138 = .ok (.aload_n 1, 1) := by decide +kernel
theorem dX3_takeOffice_139 : decode cX3_takeOffice 139 = .ok (.iload 5, 2) := by decide +kernel
theorem dX3_takeOffice_141 : decode cX3_takeOffice 141 = .ok (.iconst 3, 1) := by decide +kernel
theorem dX3_takeOffice_142 : decode cX3_takeOffice 142 = .ok (.iadd, 1) := by decide +kernel
theorem dX3_takeOffice_143 : decode cX3_takeOffice 143 = .ok (.iaload, 1) := by decide +kernel
theorem dX3_takeOffice_144 : decode cX3_takeOffice 144 = .ok (.bipush 48, 2) := by decide +kernel
theorem dX3_takeOffice_146 : decode cX3_takeOffice 146 = .ok (.isub, 1) := by decide +kernel
theorem dX3_takeOffice_147 : decode cX3_takeOffice 147 = .ok (.imul, 1) := by decide +kernel
theorem dX3_takeOffice_148 : decode cX3_takeOffice 148 = .ok (.aload_n 1, 1) := by decide +kernel
theorem dX3_takeOffice_149 : decode cX3_takeOffice 149 = .ok (.iload 5, 2) := by decide +kernel
theorem dX3_takeOffice_151 : decode cX3_takeOffice 151 = .ok (.iconst 4, 1) := by decide +kernel
theorem dX3_takeOffice_152 : decode cX3_takeOffice 152 = .ok (.iadd, 1) := by decide +kernel
theorem dX3_takeOffice_153 : decode cX3_takeOffice 153 = .ok (.iaload, 1) := by decide +kernel
theorem dX3_takeOffice_154 : decode cX3_takeOffice 154 = .ok (.iadd, 1) := by decide +kernel
theorem dX3_takeOffice_155 : decode cX3_takeOffice 155 = .ok (.bipush 48, 2) := by decide +kernel
theorem dX3_takeOffice_157 : decode cX3_takeOffice 157 = .ok (.isub, 1) := by decide +kernel
theorem dX3_takeOffice_158 : decode cX3_takeOffice 158 = .ok (.putfield 94, 3) := by decide +kernel
theorem dX3_takeOffice_161 : decode cX3_takeOffice 161 = .ok (.aload_n 0, 1) := by decide +kernel
theorem dX3_takeOffice_162 : decode cX3_takeOffice 162 = .ok (.dup, 1) := by decide +kernel
theorem dX3_takeOffice_163 : decode cX3_takeOffice 163 = .ok (.getfield 37, 3) := by decide +kernel
theorem dX3_takeOffice_166 : decode cX3_takeOffice 166 = .ok (.iconst 1, 1) := by decide +kernel
theorem dX3_takeOffice_167 : decode cX3_takeOffice 167 = .ok (.iadd, 1) := by decide +kernel
theorem dX3_takeOffice_168 : decode cX3_takeOffice 168 = .ok (.putfield 37, 3) := by decide +kernel
theorem dX3_takeOffice_171 : decode cX3_takeOffice 171 = .ok (.iinc 5 5, 3) := by decide +kernel
theorem dX3_takeOffice_174 : decode cX3_takeOffice 174 = .ok (.goto (-95), 3) := by decide +kernel
theorem dX3_takeOffice_177 : decode cX3_takeOffice 177 = .ok (.return_, 1) := by decide +kernel
theorem dX3_paysEach_0 : decode cX3_paysEach 0 = .ok (.iload_n 0, 1) := by decide +kernel
theorem dX3_paysEach_1 : decode cX3_paysEach 1 = .ok (.lookupswitch 33 #[(0, 27), (1, 29)], 27) := by decide +kernel
theorem dX3_paysEach_28 : decode cX3_paysEach 28 = .ok (.iload_n 1, 1) := by decide +kernel
theorem dX3_paysEach_29 : decode cX3_paysEach 29 = .ok (.ireturn, 1) := by decide +kernel
theorem dX3_paysEach_30 : decode cX3_paysEach 30 = .ok (.iload_n 1, 1) := by decide +kernel
theorem dX3_paysEach_31 : decode cX3_paysEach 31 = .ok (.iconst 1, 1) := by decide +kernel
theorem dX3_paysEach_32 : decode cX3_paysEach 32 = .ok (.iadd, 1) := by decide +kernel
theorem dX3_paysEach_33 : decode cX3_paysEach 33 = .ok (.ireturn, 1) := by decide +kernel
theorem dX3_paysEach_34 : decode cX3_paysEach 34 = .ok (.iconst 2, 1) := by decide +kernel
theorem dX3_paysEach_35 : decode cX3_paysEach 35 = .ok (.iload_n 1, 1) := by decide +kernel
theorem dX3_paysEach_36 : decode cX3_paysEach 36 = .ok (.iconst 1, 1) := by decide +kernel
theorem dX3_paysEach_37 : decode cX3_paysEach 37 = .ok (.iadd, 1) := by decide +kernel
theorem dX3_paysEach_38 : decode cX3_paysEach 38 = .ok (.imul, 1) := by decide +kernel
theorem dX3_paysEach_39 : decode cX3_paysEach 39 = .ok (.ireturn, 1) := by decide +kernel
set_option maxRecDepth 20000 in
theorem ggX3_isFraud_X3_allEvents : GoodIn wsX3_isFraud wsX3_allEvents := goodIn_r _ [5, 6, 7, 8, 9, 10, 11, 12, 13, 14, 15] (by decide +kernel) (by decide +kernel)
set_option maxRecDepth 20000 in
theorem gX3_isFraud_X3_allEvents : GoodIn wsX3_isFraud (wsV RX3 142 RX3 yX3_allEvents wsX3_allEvents) := goodIn_app (goodIn_of _ (by decide +kernel)) ggX3_isFraud_X3_allEvents
theorem dX3_isFraud_0 : decode cX3_isFraud 0 = .ok (.iload_n 1, 1) := by decide +kernel
theorem dX3_isFraud_1 : decode cX3_isFraud 1 = .ok (.aload_n 0, 1) := by decide +kernel
theorem dX3_isFraud_2 : decode cX3_isFraud 2 = .ok (.invokevirtual 142, 3) := by decide +kernel
theorem dX3_isFraud_5 : decode cX3_isFraud 5 = .ok (.iand, 1) := by decide +kernel
theorem dX3_isFraud_6 : decode cX3_isFraud 6 = .ok (.aload_n 0, 1) := by decide +kernel
theorem dX3_isFraud_7 : decode cX3_isFraud 7 = .ok (.invokevirtual 142, 3) := by decide +kernel
theorem dX3_isFraud_10 : decode cX3_isFraud 10 = .ok (.if_icmp .ne 7, 3) := by decide +kernel
theorem dX3_isFraud_13 : decode cX3_isFraud 13 = .ok (.iconst 1, 1) := by decide +kernel
theorem dX3_isFraud_14 : decode cX3_isFraud 14 = .ok (.goto 4, 3) := by decide +kernel
theorem dX3_isFraud_17 : decode cX3_isFraud 17 = .ok (.iconst 0, 1) := by decide +kernel
theorem dX3_isFraud_18 : decode cX3_isFraud 18 = .ok (.ireturn, 1) := by decide +kernel
set_option maxRecDepth 20000 in
theorem ggX3_payment_X3_isFraud : GoodIn wsX3_payment wsX3_isFraud := goodIn_r _ [5, 6, 7, 8, 4, 9, 10, 21, 22, 23, 24, 25, 26, 27, 28, 29] (by decide +kernel) (by decide +kernel)
set_option maxRecDepth 20000 in
theorem gX3_payment_X3_isFraud : GoodIn wsX3_payment (wsV RX3 101 RX3 yX3_isFraud wsX3_isFraud) := goodIn_app (goodIn_of _ (by decide +kernel)) ggX3_payment_X3_isFraud
set_option maxRecDepth 20000 in
theorem ggX3_payment_X3_paysEach : GoodIn wsX3_payment wsX3_paysEach := goodIn_r _ [13] (by decide +kernel) (by decide +kernel)
set_option maxRecDepth 20000 in
theorem gX3_payment_X3_paysEach : GoodIn wsX3_payment (va_wsS RX3 97 yX3_paysEach wsX3_paysEach) := goodIn_app (goodIn_of _ (by decide +kernel)) ggX3_payment_X3_paysEach
set_option maxRecDepth 20000 in
theorem ggX3_payment_J6_bitCount_0f7a4 : GoodIn wsX3_payment wsJ6_bitCount_0f7a4 := goodIn_r _ [17, 18, 19, 20] (by decide +kernel) (by decide +kernel)
set_option maxRecDepth 20000 in
theorem gX3_payment_J6_bitCount_0f7a4 : GoodIn wsX3_payment (va_wsS RX3 223 yJ6_bitCount_0f7a4 wsJ6_bitCount_0f7a4) := goodIn_app (goodIn_of _ (by decide +kernel)) ggX3_payment_J6_bitCount_0f7a4
theorem dX3_payment_0 : decode cX3_payment 0 = .ok (.aload_n 0, 1) := by decide +kernel
theorem dX3_payment_1 : decode cX3_payment 1 = .ok (.iload_n 3, 1) := by decide +kernel
theorem dX3_payment_2 : decode cX3_payment 2 = .ok (.invokevirtual 101, 3) := by decide +kernel
theorem dX3_payment_5 : decode cX3_payment 5 = .ok (.ifCond .eq 7, 3) := by decide +kernel
theorem dX3_payment_8 : decode cX3_payment 8 = .ok (.iconst 0, 1) := by decide +kernel
theorem dX3_payment_9 : decode cX3_payment 9 = .ok (.goto 16, 3) := by decide +kernel
theorem dX3_payment_12 : decode cX3_payment 12 = .ok (.iload_n 1, 1) := by decide +kernel
theorem dX3_payment_13 : decode cX3_payment 13 = .ok (.iload_n 2, 1) := by decide +kernel
theorem dX3_payment_14 : decode cX3_payment 14 = .ok (.invokestatic 97, 3) := by decide +kernel
theorem dX3_payment_17 : decode cX3_payment 17 = .ok (.iload_n 3, 1) := by decide +kernel
theorem dX3_payment_18 : decode cX3_payment 18 = .ok (.iload 4, 2) := by decide +kernel
theorem dX3_payment_20 : decode cX3_payment 20 = .ok (.iand, 1) := by decide +kernel
theorem dX3_payment_21 : decode cX3_payment 21 = .ok (.invokestatic 223, 3) := by decide +kernel
theorem dX3_payment_24 : decode cX3_payment 24 = .ok (.imul, 1) := by decide +kernel
theorem dX3_payment_25 : decode cX3_payment 25 = .ok (.ireturn, 1) := by decide +kernel
set_option maxRecDepth 20000 in
theorem ggX3_paidTo_X3_payment : GoodIn wsX3_paidTo wsX3_payment := goodIn_r _ [9, 10, 11, 12, 8, 13, 14, 15, 16, 17, 18, 19, 20, 21, 22, 23, 24, 25, 26, 27, 28, 29, 30, 31, 32, 33, 34, 35, 36, 37] (by decide +kernel) (by decide +kernel)
set_option maxRecDepth 20000 in
theorem gX3_paidTo_X3_payment : GoodIn wsX3_paidTo (wsV RX3 134 RX3 yX3_payment wsX3_payment) := goodIn_app (goodIn_of _ (by decide +kernel)) ggX3_paidTo_X3_payment
theorem dX3_paidTo_0 : decode cX3_paidTo 0 = .ok (.aload_n 0, 1) := by decide +kernel
theorem dX3_paidTo_1 : decode cX3_paidTo 1 = .ok (.getfield 23, 3) := by decide +kernel
theorem dX3_paidTo_4 : decode cX3_paidTo 4 = .ok (.iload_n 1, 1) := by decide +kernel
theorem dX3_paidTo_5 : decode cX3_paidTo 5 = .ok (.aaload, 1) := by decide +kernel
theorem dX3_paidTo_6 : decode cX3_paidTo 6 = .ok (.astore_n 3, 1) := by decide +kernel
theorem dX3_paidTo_7 : decode cX3_paidTo 7 = .ok (.aload_n 0, 1) := by decide +kernel
theorem dX3_paidTo_8 : decode cX3_paidTo 8 = .ok (.aload_n 3, 1) := by decide +kernel
theorem dX3_paidTo_9 : decode cX3_paidTo 9 = .ok (.getfield 88, 3) := by decide +kernel
theorem dX3_paidTo_12 : decode cX3_paidTo 12 = .ok (.aload_n 3, 1) := by decide +kernel
theorem dX3_paidTo_13 : decode cX3_paidTo 13 = .ok (.getfield 91, 3) := by decide +kernel
theorem dX3_paidTo_16 : decode cX3_paidTo 16 = .ok (.aload_n 3, 1) := by decide +kernel
theorem dX3_paidTo_17 : decode cX3_paidTo 17 = .ok (.getfield 94, 3) := by decide +kernel
theorem dX3_paidTo_20 : decode cX3_paidTo 20 = .ok (.iload_n 2, 1) := by decide +kernel
theorem dX3_paidTo_21 : decode cX3_paidTo 21 = .ok (.invokevirtual 134, 3) := by decide +kernel
theorem dX3_paidTo_24 : decode cX3_paidTo 24 = .ok (.ireturn, 1) := by decide +kernel
set_option maxRecDepth 20000 in
theorem ggX3_paidToAll_X3_paidTo : GoodIn wsX3_paidToAll wsX3_paidTo := goodIn_r _ [6, 7, 8, 9, 10, 11, 12, 13, 5, 14, 15, 16, 17, 18, 19, 20, 21, 22, 23, 24, 25, 26, 27, 28, 29, 30, 31, 32, 33, 34, 35, 36, 37, 38, 39, 40, 41, 42, 43, 44, 45] (by decide +kernel) (by decide +kernel)
set_option maxRecDepth 20000 in
theorem gX3_paidToAll_X3_paidTo : GoodIn wsX3_paidToAll (wsV RX3 107 RX3 yX3_paidTo wsX3_paidTo) := goodIn_app (goodIn_of _ (by decide +kernel)) ggX3_paidToAll_X3_paidTo
theorem dX3_paidToAll_0 : decode cX3_paidToAll 0 = .ok (.iconst 0, 1) := by decide +kernel
theorem dX3_paidToAll_1 : decode cX3_paidToAll 1 = .ok (.istore_n 2, 1) := by decide +kernel
theorem dX3_paidToAll_2 : decode cX3_paidToAll 2 = .ok (.iconst 0, 1) := by decide +kernel
theorem dX3_paidToAll_3 : decode cX3_paidToAll 3 = .ok (.istore_n 3, 1) := by decide +kernel
theorem dX3_paidToAll_4 : decode cX3_paidToAll 4 = .ok (.iload_n 3, 1) := by decide +kernel
theorem dX3_paidToAll_5 : decode cX3_paidToAll 5 = .ok (.aload_n 0, 1) := by decide +kernel
theorem dX3_paidToAll_6 : decode cX3_paidToAll 6 = .ok (.getfield 37, 3) := by decide +kernel
theorem dX3_paidToAll_9 : decode cX3_paidToAll 9 = .ok (.if_icmp .ge 18, 3) := by decide +kernel
theorem dX3_paidToAll_12 : decode cX3_paidToAll 12 = .ok (.iload_n 2, 1) := by decide +kernel
theorem dX3_paidToAll_13 : decode cX3_paidToAll 13 = .ok (.aload_n 0, 1) := by decide +kernel
theorem dX3_paidToAll_14 : decode cX3_paidToAll 14 = .ok (.iload_n 3, 1) := by decide +kernel
theorem dX3_paidToAll_15 : decode cX3_paidToAll 15 = .ok (.iload_n 1, 1) := by decide +kernel
theorem dX3_paidToAll_16 : decode cX3_paidToAll 16 = .ok (.invokevirtual 107, 3) := by decide +kernel
theorem dX3_paidToAll_19 : decode cX3_paidToAll 19 = .ok (.iadd, 1) := by decide +kernel
theorem dX3_paidToAll_20 : decode cX3_paidToAll 20 = .ok (.istore_n 2, 1) := by decide +kernel
theorem dX3_paidToAll_21 : decode cX3_paidToAll 21 = .ok (.iinc 3 1, 3) := by decide +kernel
theorem dX3_paidToAll_24 : decode cX3_paidToAll 24 = .ok (.goto (-20), 3) := by decide +kernel
theorem dX3_paidToAll_27 : decode cX3_paidToAll 27 = .ok (.iload_n 2, 1) := by decide +kernel
theorem dX3_paidToAll_28 : decode cX3_paidToAll 28 = .ok (.ireturn, 1) := by decide +kernel
set_option maxRecDepth 20000 in
theorem ggX3_countFrauds_X3_isFraud : GoodIn wsX3_countFrauds wsX3_isFraud := goodIn_r _ [8, 9, 10, 11, 7, 12, 13, 14, 15, 16, 17, 18, 19, 20, 21, 22] (by decide +kernel) (by decide +kernel)
set_option maxRecDepth 20000 in
theorem gX3_countFrauds_X3_isFraud : GoodIn wsX3_countFrauds (wsV RX3 101 RX3 yX3_isFraud wsX3_isFraud) := goodIn_app (goodIn_of _ (by decide +kernel)) ggX3_countFrauds_X3_isFraud
theorem dX3_countFrauds_0 : decode cX3_countFrauds 0 = .ok (.iconst 0, 1) := by decide +kernel
theorem dX3_countFrauds_1 : decode cX3_countFrauds 1 = .ok (.istore_n 1, 1) := by decide +kernel
theorem dX3_countFrauds_2 : decode cX3_countFrauds 2 = .ok (.iconst 0, 1) := by decide +kernel
theorem dX3_countFrauds_3 : decode cX3_countFrauds 3 = .ok (.istore_n 2, 1) := by decide +kernel
theorem dX3_countFrauds_4 : decode cX3_countFrauds 4 = .ok (.iload_n 2, 1) := by decide +kernel
theorem dX3_countFrauds_5 : decode cX3_countFrauds 5 = .ok (.aload_n 0, 1) := by decide +kernel
theorem dX3_countFrauds_6 : decode cX3_countFrauds 6 = .ok (.getfield 37, 3) := by decide +kernel
theorem dX3_countFrauds_9 : decode cX3_countFrauds 9 = .ok (.if_icmp .ge 28, 3) := by decide +kernel
theorem dX3_countFrauds_12 : decode cX3_countFrauds 12 = .ok (.aload_n 0, 1) := by decide +kernel
theorem dX3_countFrauds_13 : decode cX3_countFrauds 13 = .ok (.aload_n 0, 1) := by decide +kernel
theorem dX3_countFrauds_14 : decode cX3_countFrauds 14 = .ok (.getfield 23, 3) := by decide +kernel
theorem dX3_countFrauds_17 : decode cX3_countFrauds 17 = .ok (.iload_n 2, 1) := by decide +kernel
theorem dX3_countFrauds_18 : decode cX3_countFrauds 18 = .ok (.aaload, 1) := by decide +kernel
theorem dX3_countFrauds_19 : decode cX3_countFrauds 19 = .ok (.getfield 94, 3) := by decide +kernel
theorem dX3_countFrauds_22 : decode cX3_countFrauds 22 = .ok (.invokevirtual 101, 3) := by decide +kernel
theorem dX3_countFrauds_25 : decode cX3_countFrauds 25 = .ok (.ifCond .eq 6, 3) := by decide +kernel
theorem dX3_countFrauds_28 : decode cX3_countFrauds 28 = .ok (.iinc 1 1, 3) := by decide +kernel
theorem dX3_countFrauds_31 : decode cX3_countFrauds 31 = .ok (.iinc 2 1, 3) := by decide +kernel
theorem dX3_countFrauds_34 : decode cX3_countFrauds 34 = .ok (.goto (-30), 3) := by decide +kernel
theorem dX3_countFrauds_37 : decode cX3_countFrauds 37 = .ok (.iload_n 1, 1) := by decide +kernel
theorem dX3_countFrauds_38 : decode cX3_countFrauds 38 = .ok (.ireturn, 1) := by decide +kernel
set_option maxRecDepth 20000 in
theorem ggX3_premiumsOfYear_X3_allEvents : GoodIn wsX3_premiumsOfYear wsX3_allEvents := goodIn_r _ [8, 9, 17, 18, 19, 20, 21, 22, 23, 24, 25] (by decide +kernel) (by decide +kernel)
set_option maxRecDepth 20000 in
theorem gX3_premiumsOfYear_X3_allEvents : GoodIn wsX3_premiumsOfYear (wsV RX3 142 RX3 yX3_allEvents wsX3_allEvents) := goodIn_app (goodIn_of _ (by decide +kernel)) ggX3_premiumsOfYear_X3_allEvents
set_option maxRecDepth 20000 in
theorem ggX3_premiumsOfYear_J6_bitCount_0f7a4 : GoodIn wsX3_premiumsOfYear wsJ6_bitCount_0f7a4 := goodIn_r _ [13, 14, 15, 16] (by decide +kernel) (by decide +kernel)
set_option maxRecDepth 20000 in
theorem gX3_premiumsOfYear_J6_bitCount_0f7a4 : GoodIn wsX3_premiumsOfYear (va_wsS RX3 223 yJ6_bitCount_0f7a4 wsJ6_bitCount_0f7a4) := goodIn_app (goodIn_of _ (by decide +kernel)) ggX3_premiumsOfYear_J6_bitCount_0f7a4
theorem dX3_premiumsOfYear_0 : decode cX3_premiumsOfYear 0 = .ok (.iconst 0, 1) := by decide +kernel
theorem dX3_premiumsOfYear_1 : decode cX3_premiumsOfYear 1 = .ok (.istore_n 2, 1) := by decide +kernel
theorem dX3_premiumsOfYear_2 : decode cX3_premiumsOfYear 2 = .ok (.iconst 0, 1) := by decide +kernel
theorem dX3_premiumsOfYear_3 : decode cX3_premiumsOfYear 3 = .ok (.istore_n 3, 1) := by decide +kernel
theorem dX3_premiumsOfYear_4 : decode cX3_premiumsOfYear 4 = .ok (.iload_n 3, 1) := by decide +kernel
theorem dX3_premiumsOfYear_5 : decode cX3_premiumsOfYear 5 = .ok (.aload_n 0, 1) := by decide +kernel
theorem dX3_premiumsOfYear_6 : decode cX3_premiumsOfYear 6 = .ok (.getfield 37, 3) := by decide +kernel
theorem dX3_premiumsOfYear_9 : decode cX3_premiumsOfYear 9 = .ok (.if_icmp .ge 31, 3) := by decide +kernel
theorem dX3_premiumsOfYear_12 : decode cX3_premiumsOfYear 12 = .ok (.iload_n 2, 1) := by decide +kernel
theorem dX3_premiumsOfYear_13 : decode cX3_premiumsOfYear 13 = .ok (.iload_n 1, 1) := by decide +kernel
theorem dX3_premiumsOfYear_14 : decode cX3_premiumsOfYear 14 = .ok (.aload_n 0, 1) := by decide +kernel
theorem dX3_premiumsOfYear_15 : decode cX3_premiumsOfYear 15 = .ok (.getfield 23, 3) := by decide +kernel
theorem dX3_premiumsOfYear_18 : decode cX3_premiumsOfYear 18 = .ok (.iload_n 3, 1) := by decide +kernel
theorem dX3_premiumsOfYear_19 : decode cX3_premiumsOfYear 19 = .ok (.aaload, 1) := by decide +kernel
theorem dX3_premiumsOfYear_20 : decode cX3_premiumsOfYear 20 = .ok (.getfield 94, 3) := by decide +kernel
theorem dX3_premiumsOfYear_23 : decode cX3_premiumsOfYear 23 = .ok (.aload_n 0, 1) := by decide +kernel
theorem dX3_premiumsOfYear_24 : decode cX3_premiumsOfYear 24 = .ok (.invokevirtual 142, 3) := by decide +kernel
theorem dX3_premiumsOfYear_27 : decode cX3_premiumsOfYear 27 = .ok (.iand, 1) := by decide +kernel
theorem dX3_premiumsOfYear_28 : decode cX3_premiumsOfYear 28 = .ok (.invokestatic 223, 3) := by decide +kernel
theorem dX3_premiumsOfYear_31 : decode cX3_premiumsOfYear 31 = .ok (.imul, 1) := by decide +kernel
theorem dX3_premiumsOfYear_32 : decode cX3_premiumsOfYear 32 = .ok (.iadd, 1) := by decide +kernel
theorem dX3_premiumsOfYear_33 : decode cX3_premiumsOfYear 33 = .ok (.istore_n 2, 1) := by decide +kernel
theorem dX3_premiumsOfYear_34 : decode cX3_premiumsOfYear 34 = .ok (.iinc 3 1, 3) := by decide +kernel
theorem dX3_premiumsOfYear_37 : decode cX3_premiumsOfYear 37 = .ok (.goto (-33), 3) := by decide +kernel
theorem dX3_premiumsOfYear_40 : decode cX3_premiumsOfYear 40 = .ok (.iload_n 2, 1) := by decide +kernel
theorem dX3_premiumsOfYear_41 : decode cX3_premiumsOfYear 41 = .ok (.ireturn, 1) := by decide +kernel
set_option maxRecDepth 20000 in
theorem ggX3_officeOverYears_X3_premiumsOfYear : GoodIn wsX3_officeOverYears wsX3_premiumsOfYear := goodIn_r _ [9, 10, 11, 12, 13, 14, 15, 8, 16, 17, 18, 19, 20, 21, 22, 23, 24, 46, 47, 48, 49, 50, 51, 52, 53, 54, 55, 56, 57] (by decide +kernel) (by decide +kernel)
set_option maxRecDepth 20000 in
theorem gX3_officeOverYears_X3_premiumsOfYear : GoodIn wsX3_officeOverYears (wsV RX3 228 RX3 yX3_premiumsOfYear wsX3_premiumsOfYear) := goodIn_app (goodIn_of _ (by decide +kernel)) ggX3_officeOverYears_X3_premiumsOfYear
set_option maxRecDepth 20000 in
theorem ggX3_officeOverYears_X3_paidToAll : GoodIn wsX3_officeOverYears wsX3_paidToAll := goodIn_r _ [28, 10, 29, 30, 31, 8, 32, 11, 33, 34, 12, 35, 36, 37, 38, 39, 40, 41, 42, 13, 14, 15, 16, 17, 43, 44, 45, 18, 19, 20, 21, 22, 23, 24, 46, 47, 48, 49, 50, 51, 52, 53, 54, 55, 56, 57] (by decide +kernel) (by decide +kernel)
set_option maxRecDepth 20000 in
theorem gX3_officeOverYears_X3_paidToAll : GoodIn wsX3_officeOverYears (wsV RX3 114 RX3 yX3_paidToAll wsX3_paidToAll) := goodIn_app (goodIn_of _ (by decide +kernel)) ggX3_officeOverYears_X3_paidToAll
theorem dX3_officeOverYears_0 : decode cX3_officeOverYears 0 = .ok (.aload_n 0, 1) := by decide +kernel
theorem dX3_officeOverYears_1 : decode cX3_officeOverYears 1 = .ok (.iload_n 1, 1) := by decide +kernel
theorem dX3_officeOverYears_2 : decode cX3_officeOverYears 2 = .ok (.invokevirtual 228, 3) := by decide +kernel
theorem dX3_officeOverYears_5 : decode cX3_officeOverYears 5 = .ok (.istore 6, 2) := by decide +kernel
theorem dX3_officeOverYears_7 : decode cX3_officeOverYears 7 = .ok (.iconst 0, 1) := by decide +kernel
theorem dX3_officeOverYears_8 : decode cX3_officeOverYears 8 = .ok (.istore 7, 2) := by decide +kernel
theorem dX3_officeOverYears_10 : decode cX3_officeOverYears 10 = .ok (.bipush (-9), 2) := by decide +kernel
theorem dX3_officeOverYears_12 : decode cX3_officeOverYears 12 = .ok (.istore 8, 2) := by decide +kernel
theorem dX3_officeOverYears_14 : decode cX3_officeOverYears 14 = .ok (.iconst 0, 1) := by decide +kernel
theorem dX3_officeOverYears_15 : decode cX3_officeOverYears 15 = .ok (.istore 9, 2) := by decide +kernel
theorem dX3_officeOverYears_17 : decode cX3_officeOverYears 17 = .ok (.iconst 0, 1) := by decide +kernel
theorem dX3_officeOverYears_18 : decode cX3_officeOverYears 18 = .ok (.istore 10, 2) := by decide +kernel
theorem dX3_officeOverYears_20 : decode cX3_officeOverYears 20 = .ok (.iload_n 3, 1) := by decide +kernel
theorem dX3_officeOverYears_21 : decode cX3_officeOverYears 21 = .ok (.istore 11, 2) := by decide +kernel
theorem dX3_officeOverYears_23 : decode cX3_officeOverYears 23 = .ok (.iload 11, 2) := by decide +kernel
theorem dX3_officeOverYears_25 : decode cX3_officeOverYears 25 = .ok (.iload 4, 2) := by decide +kernel
theorem dX3_officeOverYears_27 : decode cX3_officeOverYears 27 = .ok (.if_icmp .ge 63, 3) := by decide +kernel
theorem dX3_officeOverYears_30 : decode cX3_officeOverYears 30 = .ok (.aload_n 0, 1) := by decide +kernel
theorem dX3_officeOverYears_31 : decode cX3_officeOverYears 31 = .ok (.aload_n 2, 1) := by decide +kernel
theorem dX3_officeOverYears_32 : decode cX3_officeOverYears 32 = .ok (.iload 11, 2) := by decide +kernel
theorem dX3_officeOverYears_34 : decode cX3_officeOverYears 34 = .ok (.iaload, 1) := by decide +kernel
theorem dX3_officeOverYears_35 : decode cX3_officeOverYears 35 = .ok (.invokevirtual 114, 3) := by decide +kernel
theorem dX3_officeOverYears_38 : decode cX3_officeOverYears 38 = .ok (.istore 12, 2) := by decide +kernel
theorem dX3_officeOverYears_40 : decode cX3_officeOverYears 40 = .ok (.iload 7, 2) := by decide +kernel
theorem dX3_officeOverYears_42 : decode cX3_officeOverYears 42 = .ok (.iload 6, 2) := by decide +kernel
theorem dX3_officeOverYears_44 : decode cX3_officeOverYears 44 = .ok (.iload 12, 2) := by decide +kernel
theorem dX3_officeOverYears_46 : decode cX3_officeOverYears 46 = .ok (.isub, 1) := by decide +kernel
theorem dX3_officeOverYears_47 : decode cX3_officeOverYears 47 = .ok (.iadd, 1) := by decide +kernel
theorem dX3_officeOverYears_48 : decode cX3_officeOverYears 48 = .ok (.istore 7, 2) := by decide +kernel
theorem dX3_officeOverYears_50 : decode cX3_officeOverYears 50 = .ok (.iload 7, 2) := by decide +kernel
theorem dX3_officeOverYears_52 : decode cX3_officeOverYears 52 = .ok (.ifCond .ge 16, 3) := by decide +kernel
theorem dX3_officeOverYears_55 : decode cX3_officeOverYears 55 = .ok (.iload 8, 2) := by decide +kernel
theorem dX3_officeOverYears_57 : decode cX3_officeOverYears 57 = .ok (.bipush (-9), 2) := by decide +kernel
theorem dX3_officeOverYears_59 : decode cX3_officeOverYears 59 = .ok (.if_icmp .ne 9, 3) := by decide +kernel
theorem dX3_officeOverYears_62 : decode cX3_officeOverYears 62 = .ok (.iload 11, 2) := by decide +kernel
theorem dX3_officeOverYears_64 : decode cX3_officeOverYears 64 = .ok (.iload_n 3, 1) := by decide +kernel
theorem dX3_officeOverYears_65 : decode cX3_officeOverYears 65 = .ok (.isub, 1) := by decide +kernel
theorem dX3_officeOverYears_66 : decode cX3_officeOverYears 66 = .ok (.istore 8, 2) := by decide +kernel
theorem dX3_officeOverYears_68 : decode cX3_officeOverYears 68 = .ok (.iload 9, 2) := by decide +kernel
theorem dX3_officeOverYears_70 : decode cX3_officeOverYears 70 = .ok (.iload 12, 2) := by decide +kernel
theorem dX3_officeOverYears_72 : decode cX3_officeOverYears 72 = .ok (.iadd, 1) := by decide +kernel
theorem dX3_officeOverYears_73 : decode cX3_officeOverYears 73 = .ok (.istore 9, 2) := by decide +kernel
theorem dX3_officeOverYears_75 : decode cX3_officeOverYears 75 = .ok (.iload 10, 2) := by decide +kernel
theorem dX3_officeOverYears_77 : decode cX3_officeOverYears 77 = .ok (.iload 12, 2) := by decide +kernel
theorem dX3_officeOverYears_79 : decode cX3_officeOverYears 79 = .ok (.invokestatic 231, 3) := by decide +kernel
theorem dX3_officeOverYears_82 : decode cX3_officeOverYears 82 = .ok (.istore 10, 2) := by decide +kernel
theorem dX3_officeOverYears_84 : decode cX3_officeOverYears 84 = .ok (.iinc 11 1, 3) := by decide +kernel
theorem dX3_officeOverYears_87 : decode cX3_officeOverYears 87 = .ok (.goto (-64), 3) := by decide +kernel
theorem dX3_officeOverYears_90 : decode cX3_officeOverYears 90 = .ok (.iload 5, 2) := by decide +kernel
theorem dX3_officeOverYears_92 : decode cX3_officeOverYears 92 = .ok (.tableswitch 37 0 2 #[28, 31, 34], 28) := by decide +kernel
theorem dX3_officeOverYears_120 : decode cX3_officeOverYears 120 = .ok (.iload 7, 2) := by decide +kernel
theorem dX3_officeOverYears_122 : decode cX3_officeOverYears 122 = .ok (.ireturn, 1) := by decide +kernel
theorem dX3_officeOverYears_123 : decode cX3_officeOverYears 123 = .ok (.iload 8, 2) := by decide +kernel
theorem dX3_officeOverYears_125 : decode cX3_officeOverYears 125 = .ok (.ireturn, 1) := by decide +kernel
theorem dX3_officeOverYears_126 : decode cX3_officeOverYears 126 = .ok (.iload 9, 2) := by decide +kernel
theorem dX3_officeOverYears_128 : decode cX3_officeOverYears 128 = .ok (.ireturn, 1) := by decide +kernel
theorem dX3_officeOverYears_129 : decode cX3_officeOverYears 129 = .ok (.iload 10, 2) := by decide +kernel
theorem dX3_officeOverYears_131 : decode cX3_officeOverYears 131 = .ok (.ireturn, 1) := by decide +kernel
set_option maxRecDepth 20000 in
theorem ggX3_paidOverYears_X3_isProphet : GoodIn wsX3_paidOverYears wsX3_isProphet := goodIn_r _ [5, 6, 38, 39, 40, 41, 42, 43, 44, 45, 46] (by decide +kernel) (by decide +kernel)
set_option maxRecDepth 20000 in
theorem gX3_paidOverYears_X3_isProphet : GoodIn wsX3_paidOverYears (wsV RX3 85 RX3 yX3_isProphet wsX3_isProphet) := goodIn_app (goodIn_of _ (by decide +kernel)) ggX3_paidOverYears_X3_isProphet
set_option maxRecDepth 20000 in
theorem ggX3_paidOverYears_X3_paidTo : GoodIn wsX3_paidOverYears wsX3_paidTo := goodIn_r _ [10, 11, 12, 13, 14, 15, 16, 17, 4, 18, 19, 20, 21, 22, 23, 24, 25, 26, 27, 28, 29, 30, 31, 32, 33, 34, 35, 36, 37, 38, 39, 40, 41, 42, 43, 44, 45, 46, 47, 48, 49] (by decide +kernel) (by decide +kernel)
set_option maxRecDepth 20000 in
theorem gX3_paidOverYears_X3_paidTo : GoodIn wsX3_paidOverYears (wsV RX3 107 RX3 yX3_paidTo wsX3_paidTo) := goodIn_app (goodIn_of _ (by decide +kernel)) ggX3_paidOverYears_X3_paidTo
theorem dX3_paidOverYears_0 : decode cX3_paidOverYears 0 = .ok (.aload_n 0, 1) := by decide +kernel
theorem dX3_paidOverYears_1 : decode cX3_paidOverYears 1 = .ok (.iload_n 1, 1) := by decide +kernel
theorem dX3_paidOverYears_2 : decode cX3_paidOverYears 2 = .ok (.invokevirtual 85, 3) := by decide +kernel
theorem dX3_paidOverYears_5 : decode cX3_paidOverYears 5 = .ok (.ifCond .ne 6, 3) := by decide +kernel
theorem dX3_paidOverYears_8 : decode cX3_paidOverYears 8 = .ok (.bipush (-9), 2) := by decide +kernel
theorem dX3_paidOverYears_10 : decode cX3_paidOverYears 10 = .ok (.ireturn, 1) := by decide +kernel
theorem dX3_paidOverYears_11 : decode cX3_paidOverYears 11 = .ok (.iconst 0, 1) := by decide +kernel
theorem dX3_paidOverYears_12 : decode cX3_paidOverYears 12 = .ok (.istore 5, 2) := by decide +kernel
theorem dX3_paidOverYears_14 : decode cX3_paidOverYears 14 = .ok (.iload_n 3, 1) := by decide +kernel
theorem dX3_paidOverYears_15 : decode cX3_paidOverYears 15 = .ok (.istore 6, 2) := by decide +kernel
theorem dX3_paidOverYears_17 : decode cX3_paidOverYears 17 = .ok (.iload 6, 2) := by decide +kernel
theorem dX3_paidOverYears_19 : decode cX3_paidOverYears 19 = .ok (.iload 4, 2) := by decide +kernel
theorem dX3_paidOverYears_21 : decode cX3_paidOverYears 21 = .ok (.if_icmp .ge 23, 3) := by decide +kernel
theorem dX3_paidOverYears_24 : decode cX3_paidOverYears 24 = .ok (.iload 5, 2) := by decide +kernel
theorem dX3_paidOverYears_26 : decode cX3_paidOverYears 26 = .ok (.aload_n 0, 1) := by decide +kernel
theorem dX3_paidOverYears_27 : decode cX3_paidOverYears 27 = .ok (.iload_n 1, 1) := by decide +kernel
theorem dX3_paidOverYears_28 : decode cX3_paidOverYears 28 = .ok (.aload_n 2, 1) := by decide +kernel
theorem dX3_paidOverYears_29 : decode cX3_paidOverYears 29 = .ok (.iload 6, 2) := by decide +kernel
theorem dX3_paidOverYears_31 : decode cX3_paidOverYears 31 = .ok (.iaload, 1) := by decide +kernel
theorem dX3_paidOverYears_32 : decode cX3_paidOverYears 32 = .ok (.invokevirtual 107, 3) := by decide +kernel
theorem dX3_paidOverYears_35 : decode cX3_paidOverYears 35 = .ok (.iadd, 1) := by decide +kernel
theorem dX3_paidOverYears_36 : decode cX3_paidOverYears 36 = .ok (.istore 5, 2) := by decide +kernel
theorem dX3_paidOverYears_38 : decode cX3_paidOverYears 38 = .ok (.iinc 6 1, 3) := by decide +kernel
theorem dX3_paidOverYears_41 : decode cX3_paidOverYears 41 = .ok (.goto (-24), 3) := by decide +kernel
theorem dX3_paidOverYears_44 : decode cX3_paidOverYears 44 = .ok (.iload 5, 2) := by decide +kernel
theorem dX3_paidOverYears_46 : decode cX3_paidOverYears 46 = .ok (.ireturn, 1) := by decide +kernel
set_option maxRecDepth 20000 in
theorem ggX3_weightOf_X3_isIn : GoodIn wsX3_weightOf wsX3_isIn := goodIn_r _ [6] (by decide +kernel) (by decide +kernel)
set_option maxRecDepth 20000 in
theorem gX3_weightOf_X3_isIn : GoodIn wsX3_weightOf (va_wsS RX3 236 yX3_isIn wsX3_isIn) := goodIn_app (goodIn_of _ (by decide +kernel)) ggX3_weightOf_X3_isIn
theorem dX3_weightOf_0 : decode cX3_weightOf 0 = .ok (.iconst 1, 1) := by decide +kernel
theorem dX3_weightOf_1 : decode cX3_weightOf 1 = .ok (.istore_n 2, 1) := by decide +kernel
theorem dX3_weightOf_2 : decode cX3_weightOf 2 = .ok (.iconst 0, 1) := by decide +kernel
theorem dX3_weightOf_3 : decode cX3_weightOf 3 = .ok (.istore_n 3, 1) := by decide +kernel
theorem dX3_weightOf_4 : decode cX3_weightOf 4 = .ok (.iload_n 3, 1) := by decide +kernel
theorem dX3_weightOf_5 : decode cX3_weightOf 5 = .ok (.aload_n 0, 1) := by decide +kernel
theorem dX3_weightOf_6 : decode cX3_weightOf 6 = .ok (.getfield 33, 3) := by decide +kernel
theorem dX3_weightOf_9 : decode cX3_weightOf 9 = .ok (.if_icmp .ge 38, 3) := by decide +kernel
theorem dX3_weightOf_12 : decode cX3_weightOf 12 = .ok (.iload_n 2, 1) := by decide +kernel
theorem dX3_weightOf_13 : decode cX3_weightOf 13 = .ok (.iload_n 1, 1) := by decide +kernel
theorem dX3_weightOf_14 : decode cX3_weightOf 14 = .ok (.iload_n 3, 1) := by decide +kernel
theorem dX3_weightOf_15 : decode cX3_weightOf 15 = .ok (.invokestatic 236, 3) := by decide +kernel
theorem dX3_weightOf_18 : decode cX3_weightOf 18 = .ok (.ifCond .eq 12, 3) := by decide +kernel
theorem dX3_weightOf_21 : decode cX3_weightOf 21 = .ok (.aload_n 0, 1) := by decide +kernel
theorem dX3_weightOf_22 : decode cX3_weightOf 22 = .ok (.getfield 17, 3) := by decide +kernel
theorem dX3_weightOf_25 : decode cX3_weightOf 25 = .ok (.iload_n 3, 1) := by decide +kernel
theorem dX3_weightOf_26 : decode cX3_weightOf 26 = .ok (.iaload, 1) := by decide +kernel
theorem dX3_weightOf_27 : decode cX3_weightOf 27 = .ok (.goto 12, 3) := by decide +kernel
theorem dX3_weightOf_30 : decode cX3_weightOf 30 = .ok (.bipush 10, 2) := by decide +kernel
theorem dX3_weightOf_32 : decode cX3_weightOf 32 = .ok (.aload_n 0, 1) := by decide +kernel
theorem dX3_weightOf_33 : decode cX3_weightOf 33 = .ok (.getfield 17, 3) := by decide +kernel
theorem dX3_weightOf_36 : decode cX3_weightOf 36 = .ok (.iload_n 3, 1) := by decide +kernel
theorem dX3_weightOf_37 : decode cX3_weightOf 37 = .ok (.iaload, 1) := by decide +kernel
theorem dX3_weightOf_38 : decode cX3_weightOf 38 = .ok (.isub, 1) := by decide +kernel
theorem dX3_weightOf_39 : decode cX3_weightOf 39 = .ok (.imul, 1) := by decide +kernel
theorem dX3_weightOf_40 : decode cX3_weightOf 40 = .ok (.istore_n 2, 1) := by decide +kernel
theorem dX3_weightOf_41 : decode cX3_weightOf 41 = .ok (.iinc 3 1, 3) := by decide +kernel
theorem dX3_weightOf_44 : decode cX3_weightOf 44 = .ok (.goto (-40), 3) := by decide +kernel
theorem dX3_weightOf_47 : decode cX3_weightOf 47 = .ok (.iload_n 2, 1) := by decide +kernel
theorem dX3_weightOf_48 : decode cX3_weightOf 48 = .ok (.ireturn, 1) := by decide +kernel
theorem dX3_weightOfAll_0 : decode cX3_weightOfAll 0 = .ok (.iconst 1, 1) := by decide +kernel
theorem dX3_weightOfAll_1 : decode cX3_weightOfAll 1 = .ok (.istore_n 1, 1) := by decide +kernel
theorem dX3_weightOfAll_2 : decode cX3_weightOfAll 2 = .ok (.iconst 0, 1) := by decide +kernel
theorem dX3_weightOfAll_3 : decode cX3_weightOfAll 3 = .ok (.istore_n 2, 1) := by decide +kernel
theorem dX3_weightOfAll_4 : decode cX3_weightOfAll 4 = .ok (.iload_n 2, 1) := by decide +kernel
theorem dX3_weightOfAll_5 : decode cX3_weightOfAll 5 = .ok (.aload_n 0, 1) := by decide +kernel
theorem dX3_weightOfAll_6 : decode cX3_weightOfAll 6 = .ok (.getfield 33, 3) := by decide +kernel
theorem dX3_weightOfAll_9 : decode cX3_weightOfAll 9 = .ok (.if_icmp .ge 14, 3) := by decide +kernel
theorem dX3_weightOfAll_12 : decode cX3_weightOfAll 12 = .ok (.iload_n 1, 1) := by decide +kernel
theorem dX3_weightOfAll_13 : decode cX3_weightOfAll 13 = .ok (.bipush 10, 2) := by decide +kernel
theorem dX3_weightOfAll_15 : decode cX3_weightOfAll 15 = .ok (.imul, 1) := by decide +kernel
theorem dX3_weightOfAll_16 : decode cX3_weightOfAll 16 = .ok (.istore_n 1, 1) := by decide +kernel
theorem dX3_weightOfAll_17 : decode cX3_weightOfAll 17 = .ok (.iinc 2 1, 3) := by decide +kernel
theorem dX3_weightOfAll_20 : decode cX3_weightOfAll 20 = .ok (.goto (-16), 3) := by decide +kernel
theorem dX3_weightOfAll_23 : decode cX3_weightOfAll 23 = .ok (.iload_n 1, 1) := by decide +kernel
theorem dX3_weightOfAll_24 : decode cX3_weightOfAll 24 = .ok (.ireturn, 1) := by decide +kernel
set_option maxRecDepth 20000 in
theorem ggX3_weightFrom_X3_allEvents : GoodIn wsX3_weightFrom wsX3_allEvents := goodIn_r _ [5, 6, 46, 47, 48, 49, 50, 51, 52, 53, 54] (by decide +kernel) (by decide +kernel)
set_option maxRecDepth 20000 in
theorem gX3_weightFrom_X3_allEvents : GoodIn wsX3_weightFrom (wsV RX3 142 RX3 yX3_allEvents wsX3_allEvents) := goodIn_app (goodIn_of _ (by decide +kernel)) ggX3_weightFrom_X3_allEvents
set_option maxRecDepth 20000 in
theorem ggX3_weightFrom_X3_paidToAll : GoodIn wsX3_weightFrom wsX3_paidToAll := goodIn_r _ [10, 11, 12, 13, 14, 4, 15, 16, 17, 18, 19, 20, 21, 22, 23, 24, 25, 26, 27, 1, 2, 3, 5, 6, 28, 29, 30, 31, 32, 33, 34, 35, 36, 37, 46, 47, 48, 49, 50, 51, 52, 53, 54, 55, 56, 57] (by decide +kernel) (by decide +kernel)
set_option maxRecDepth 20000 in
theorem gX3_weightFrom_X3_paidToAll : GoodIn wsX3_weightFrom (wsV RX3 114 RX3 yX3_paidToAll wsX3_paidToAll) := goodIn_app (goodIn_of _ (by decide +kernel)) ggX3_weightFrom_X3_paidToAll
set_option maxRecDepth 20000 in
theorem ggX3_weightFrom_X3_weightOf : GoodIn wsX3_weightFrom wsX3_weightOf := goodIn_r _ [41, 6, 42, 43, 44, 4, 45, 46, 47, 48, 49, 50, 51, 52, 53, 54] (by decide +kernel) (by decide +kernel)
set_option maxRecDepth 20000 in
theorem gX3_weightFrom_X3_weightOf : GoodIn wsX3_weightFrom (wsV RX3 239 RX3 yX3_weightOf wsX3_weightOf) := goodIn_app (goodIn_of _ (by decide +kernel)) ggX3_weightFrom_X3_weightOf
theorem dX3_weightFrom_0 : decode cX3_weightFrom 0 = .ok (.iconst 0, 1) := by decide +kernel
theorem dX3_weightFrom_1 : decode cX3_weightFrom 1 = .ok (.istore_n 2, 1) := by decide +kernel
theorem dX3_weightFrom_2 : decode cX3_weightFrom 2 = .ok (.iconst 0, 1) := by decide +kernel
theorem dX3_weightFrom_3 : decode cX3_weightFrom 3 = .ok (.istore_n 3, 1) := by decide +kernel
theorem dX3_weightFrom_4 : decode cX3_weightFrom 4 = .ok (.iload_n 3, 1) := by decide +kernel
theorem dX3_weightFrom_5 : decode cX3_weightFrom 5 = .ok (.aload_n 0, 1) := by decide +kernel
theorem dX3_weightFrom_6 : decode cX3_weightFrom 6 = .ok (.invokevirtual 142, 3) := by decide +kernel
theorem dX3_weightFrom_9 : decode cX3_weightFrom 9 = .ok (.if_icmp .gt 26, 3) := by decide +kernel
theorem dX3_weightFrom_12 : decode cX3_weightFrom 12 = .ok (.aload_n 0, 1) := by decide +kernel
theorem dX3_weightFrom_13 : decode cX3_weightFrom 13 = .ok (.iload_n 3, 1) := by decide +kernel
theorem dX3_weightFrom_14 : decode cX3_weightFrom 14 = .ok (.invokevirtual 114, 3) := by decide +kernel
theorem dX3_weightFrom_17 : decode cX3_weightFrom 17 = .ok (.iload_n 1, 1) := by decide +kernel
theorem dX3_weightFrom_18 : decode cX3_weightFrom 18 = .ok (.if_icmp .lt 11, 3) := by decide +kernel
theorem dX3_weightFrom_21 : decode cX3_weightFrom 21 = .ok (.iload_n 2, 1) := by decide +kernel
theorem dX3_weightFrom_22 : decode cX3_weightFrom 22 = .ok (.aload_n 0, 1) := by decide +kernel
theorem dX3_weightFrom_23 : decode cX3_weightFrom 23 = .ok (.iload_n 3, 1) := by decide +kernel
theorem dX3_weightFrom_24 : decode cX3_weightFrom 24 = .ok (.invokevirtual 239, 3) := by decide +kernel
theorem dX3_weightFrom_27 : decode cX3_weightFrom 27 = .ok (.iadd, 1) := by decide +kernel
theorem dX3_weightFrom_28 : decode cX3_weightFrom 28 = .ok (.istore_n 2, 1) := by decide +kernel
theorem dX3_weightFrom_29 : decode cX3_weightFrom 29 = .ok (.iinc 3 1, 3) := by decide +kernel
theorem dX3_weightFrom_32 : decode cX3_weightFrom 32 = .ok (.goto (-28), 3) := by decide +kernel
theorem dX3_weightFrom_35 : decode cX3_weightFrom 35 = .ok (.iload_n 2, 1) := by decide +kernel
theorem dX3_weightFrom_36 : decode cX3_weightFrom 36 = .ok (.ireturn, 1) := by decide +kernel
set_option maxRecDepth 20000 in
theorem ggX3_tenthsGained_X3_isIn : GoodIn wsX3_tenthsGained wsX3_isIn := goodIn_r _ [6] (by decide +kernel) (by decide +kernel)
set_option maxRecDepth 20000 in
theorem gX3_tenthsGained_X3_isIn : GoodIn wsX3_tenthsGained (va_wsS RX3 236 yX3_isIn wsX3_isIn) := goodIn_app (goodIn_of _ (by decide +kernel)) ggX3_tenthsGained_X3_isIn
theorem dX3_tenthsGained_0 : decode cX3_tenthsGained 0 = .ok (.iconst 0, 1) := by decide +kernel
theorem dX3_tenthsGained_1 : decode cX3_tenthsGained 1 = .ok (.istore 4, 2) := by decide +kernel
theorem dX3_tenthsGained_3 : decode cX3_tenthsGained 3 = .ok (.iconst 0, 1) := by decide +kernel
theorem dX3_tenthsGained_4 : decode cX3_tenthsGained 4 = .ok (.istore 5, 2) := by decide +kernel
theorem dX3_tenthsGained_6 : decode cX3_tenthsGained 6 = .ok (.iload 5, 2) := by decide +kernel
theorem dX3_tenthsGained_8 : decode cX3_tenthsGained 8 = .ok (.aload_n 0, 1) := by decide +kernel
theorem dX3_tenthsGained_9 : decode cX3_tenthsGained 9 = .ok (.getfield 33, 3) := by decide +kernel
theorem dX3_tenthsGained_12 : decode cX3_tenthsGained 12 = .ok (.if_icmp .ge 37, 3) := by decide +kernel
theorem dX3_tenthsGained_15 : decode cX3_tenthsGained 15 = .ok (.iload_n 3, 1) := by decide +kernel
theorem dX3_tenthsGained_16 : decode cX3_tenthsGained 16 = .ok (.iload 5, 2) := by decide +kernel
theorem dX3_tenthsGained_18 : decode cX3_tenthsGained 18 = .ok (.invokestatic 236, 3) := by decide +kernel
theorem dX3_tenthsGained_21 : decode cX3_tenthsGained 21 = .ok (.ifCond .eq 22, 3) := by decide +kernel
theorem dX3_tenthsGained_24 : decode cX3_tenthsGained 24 = .ok (.iload 4, 2) := by decide +kernel
theorem dX3_tenthsGained_26 : decode cX3_tenthsGained 26 = .ok (.iload_n 1, 1) := by decide +kernel
theorem dX3_tenthsGained_27 : decode cX3_tenthsGained 27 = .ok (.aload_n 0, 1) := by decide +kernel
theorem dX3_tenthsGained_28 : decode cX3_tenthsGained 28 = .ok (.getfield 17, 3) := by decide +kernel
theorem dX3_tenthsGained_31 : decode cX3_tenthsGained 31 = .ok (.iload 5, 2) := by decide +kernel
theorem dX3_tenthsGained_33 : decode cX3_tenthsGained 33 = .ok (.iaload, 1) := by decide +kernel
theorem dX3_tenthsGained_34 : decode cX3_tenthsGained 34 = .ok (.imul, 1) := by decide +kernel
theorem dX3_tenthsGained_35 : decode cX3_tenthsGained 35 = .ok (.bipush 10, 2) := by decide +kernel
theorem dX3_tenthsGained_37 : decode cX3_tenthsGained 37 = .ok (.iload_n 2, 1) := by decide +kernel
theorem dX3_tenthsGained_38 : decode cX3_tenthsGained 38 = .ok (.imul, 1) := by decide +kernel
theorem dX3_tenthsGained_39 : decode cX3_tenthsGained 39 = .ok (.isub, 1) := by decide +kernel
theorem dX3_tenthsGained_40 : decode cX3_tenthsGained 40 = .ok (.iadd, 1) := by decide +kernel
theorem dX3_tenthsGained_41 : decode cX3_tenthsGained 41 = .ok (.istore 4, 2) := by decide +kernel
theorem dX3_tenthsGained_43 : decode cX3_tenthsGained 43 = .ok (.iinc 5 1, 3) := by decide +kernel
theorem dX3_tenthsGained_46 : decode cX3_tenthsGained 46 = .ok (.goto (-40), 3) := by decide +kernel
theorem dX3_tenthsGained_49 : decode cX3_tenthsGained 49 = .ok (.iload 4, 2) := by decide +kernel
theorem dX3_tenthsGained_51 : decode cX3_tenthsGained 51 = .ok (.ireturn, 1) := by decide +kernel
set_option maxRecDepth 20000 in
theorem ggX3_shareNumber_X3_greatestDivisor : GoodIn wsX3_shareNumber wsX3_greatestDivisor := goodIn_r _ [4, 5, 6, 7, 8] (by decide +kernel) (by decide +kernel)
set_option maxRecDepth 20000 in
theorem gX3_shareNumber_X3_greatestDivisor : GoodIn wsX3_shareNumber (va_wsS RX3 242 yX3_greatestDivisor wsX3_greatestDivisor) := goodIn_app (goodIn_of _ (by decide +kernel)) ggX3_shareNumber_X3_greatestDivisor
theorem dX3_shareNumber_0 : decode cX3_shareNumber 0 = .ok (.iload_n 0, 1) := by decide +kernel
theorem dX3_shareNumber_1 : decode cX3_shareNumber 1 = .ok (.iload_n 1, 1) := by decide +kernel
theorem dX3_shareNumber_2 : decode cX3_shareNumber 2 = .ok (.invokestatic 242, 3) := by decide +kernel
theorem dX3_shareNumber_5 : decode cX3_shareNumber 5 = .ok (.istore_n 3, 1) := by decide +kernel
theorem dX3_shareNumber_6 : decode cX3_shareNumber 6 = .ok (.iload_n 2, 1) := by decide +kernel
theorem dX3_shareNumber_7 : decode cX3_shareNumber 7 = .ok (.ifCond .ne 7, 3) := by decide +kernel
theorem dX3_shareNumber_10 : decode cX3_shareNumber 10 = .ok (.iload_n 0, 1) := by decide +kernel
theorem dX3_shareNumber_11 : decode cX3_shareNumber 11 = .ok (.goto 4, 3) := by decide +kernel
theorem dX3_shareNumber_14 : decode cX3_shareNumber 14 = .ok (.iload_n 1, 1) := by decide +kernel
theorem dX3_shareNumber_15 : decode cX3_shareNumber 15 = .ok (.iload_n 3, 1) := by decide +kernel
theorem dX3_shareNumber_16 : decode cX3_shareNumber 16 = .ok (.idiv, 1) := by decide +kernel
theorem dX3_shareNumber_17 : decode cX3_shareNumber 17 = .ok (.i2l, 1) := by decide +kernel
theorem dX3_shareNumber_18 : decode cX3_shareNumber 18 = .ok (.lreturn, 1) := by decide +kernel
theorem dX3_greatestDivisor_0 : decode cX3_greatestDivisor 0 = .ok (.iload_n 0, 1) := by decide +kernel
theorem dX3_greatestDivisor_1 : decode cX3_greatestDivisor 1 = .ok (.istore_n 2, 1) := by decide +kernel
theorem dX3_greatestDivisor_2 : decode cX3_greatestDivisor 2 = .ok (.iload_n 1, 1) := by decide +kernel
theorem dX3_greatestDivisor_3 : decode cX3_greatestDivisor 3 = .ok (.istore_n 3, 1) := by decide +kernel
theorem dX3_greatestDivisor_4 : decode cX3_greatestDivisor 4 = .ok (.iconst 0, 1) := by decide +kernel
theorem dX3_greatestDivisor_5 : decode cX3_greatestDivisor 5 = .ok (.istore 4, 2) := by decide +kernel
theorem dX3_greatestDivisor_7 : decode cX3_greatestDivisor 7 = .ok (.iload 4, 2) := by decide +kernel
theorem dX3_greatestDivisor_9 : decode cX3_greatestDivisor 9 = .ok (.bipush 100, 2) := by decide +kernel
theorem dX3_greatestDivisor_11 : decode cX3_greatestDivisor 11 = .ok (.if_icmp .ge 23, 3) := by decide +kernel
theorem dX3_greatestDivisor_14 : decode cX3_greatestDivisor 14 = .ok (.iload_n 3, 1) := by decide +kernel
theorem dX3_greatestDivisor_15 : decode cX3_greatestDivisor 15 = .ok (.ifCond .eq 19, 3) := by decide +kernel
theorem dX3_greatestDivisor_18 : decode cX3_greatestDivisor 18 = .ok (.iload_n 2, 1) := by decide +kernel
theorem dX3_greatestDivisor_19 : decode cX3_greatestDivisor 19 = .ok (.iload_n 3, 1) := by decide +kernel
theorem dX3_greatestDivisor_20 : decode cX3_greatestDivisor 20 = .ok (.irem, 1) := by decide +kernel
theorem dX3_greatestDivisor_21 : decode cX3_greatestDivisor 21 = .ok (.istore 5, 2) := by decide +kernel
theorem dX3_greatestDivisor_23 : decode cX3_greatestDivisor 23 = .ok (.iload_n 3, 1) := by decide +kernel
theorem dX3_greatestDivisor_24 : decode cX3_greatestDivisor 24 = .ok (.istore_n 2, 1) := by decide +kernel
theorem dX3_greatestDivisor_25 : decode cX3_greatestDivisor 25 = .ok (.iload 5, 2) := by decide +kernel
theorem dX3_greatestDivisor_27 : decode cX3_greatestDivisor 27 = .ok (.istore_n 3, 1) := by decide +kernel
theorem dX3_greatestDivisor_28 : decode cX3_greatestDivisor 28 = .ok (.iinc 4 1, 3) := by decide +kernel
theorem dX3_greatestDivisor_31 : decode cX3_greatestDivisor 31 = .ok (.goto (-24), 3) := by decide +kernel
theorem dX3_greatestDivisor_34 : decode cX3_greatestDivisor 34 = .ok (.iload_n 2, 1) := by decide +kernel
theorem dX3_greatestDivisor_35 : decode cX3_greatestDivisor 35 = .ok (.iconst 1, 1) := by decide +kernel
theorem dX3_greatestDivisor_36 : decode cX3_greatestDivisor 36 = .ok (.invokestatic 231, 3) := by decide +kernel
theorem dX3_greatestDivisor_39 : decode cX3_greatestDivisor 39 = .ok (.ireturn, 1) := by decide +kernel
set_option maxRecDepth 20000 in
theorem ggX3_agreesWithReadings_X3_payment : GoodIn wsX3_agreesWithReadings wsX3_payment := goodIn_r _ [10, 11, 12, 13, 9, 14, 15, 16, 17, 18, 19, 20, 21, 22, 23, 24, 25, 26, 27, 28, 29, 38, 39, 40, 41, 42, 43, 44, 45, 46] (by decide +kernel) (by decide +kernel)
set_option maxRecDepth 20000 in
theorem gX3_agreesWithReadings_X3_payment : GoodIn wsX3_agreesWithReadings (wsV RX3 134 RX3 yX3_payment wsX3_payment) := goodIn_app (goodIn_of _ (by decide +kernel)) ggX3_agreesWithReadings_X3_payment
set_option maxRecDepth 20000 in
theorem ggX3_agreesWithReadings_X3_paidTo : GoodIn wsX3_agreesWithReadings wsX3_paidTo := goodIn_r _ [33, 34, 35, 36, 37, 6, 7, 8, 9, 10, 11, 12, 13, 14, 15, 16, 17, 18, 19, 20, 21, 22, 23, 24, 25, 26, 27, 28, 29, 38, 39, 40, 41, 42, 43, 44, 45, 46, 50, 51, 52] (by decide +kernel) (by decide +kernel)
set_option maxRecDepth 20000 in
theorem gX3_agreesWithReadings_X3_paidTo : GoodIn wsX3_agreesWithReadings (wsV RX3 107 RX3 yX3_paidTo wsX3_paidTo) := goodIn_app (goodIn_of _ (by decide +kernel)) ggX3_agreesWithReadings_X3_paidTo
theorem dX3_agreesWithReadings_0 : decode cX3_agreesWithReadings 0 = .ok (.iconst 0, 1) := by decide +kernel
theorem dX3_agreesWithReadings_1 : decode cX3_agreesWithReadings 1 = .ok (.istore 5, 2) := by decide +kernel
theorem dX3_agreesWithReadings_3 : decode cX3_agreesWithReadings 3 = .ok (.iload 5, 2) := by decide +kernel
theorem dX3_agreesWithReadings_5 : decode cX3_agreesWithReadings 5 = .ok (.aload_n 0, 1) := by decide +kernel
theorem dX3_agreesWithReadings_6 : decode cX3_agreesWithReadings 6 = .ok (.getfield 40, 3) := by decide +kernel
theorem dX3_agreesWithReadings_9 : decode cX3_agreesWithReadings 9 = .ok (.if_icmp .ge 71, 3) := by decide +kernel
theorem dX3_agreesWithReadings_12 : decode cX3_agreesWithReadings 12 = .ok (.aload_n 0, 1) := by decide +kernel
theorem dX3_agreesWithReadings_13 : decode cX3_agreesWithReadings 13 = .ok (.getfield 29, 3) := by decide +kernel
theorem dX3_agreesWithReadings_16 : decode cX3_agreesWithReadings 16 = .ok (.iload 5, 2) := by decide +kernel
theorem dX3_agreesWithReadings_18 : decode cX3_agreesWithReadings 18 = .ok (.aaload, 1) := by decide +kernel
theorem dX3_agreesWithReadings_19 : decode cX3_agreesWithReadings 19 = .ok (.astore 6, 2) := by decide +kernel
theorem dX3_agreesWithReadings_21 : decode cX3_agreesWithReadings 21 = .ok (.aload 6, 2) := by decide +kernel
theorem dX3_agreesWithReadings_23 : decode cX3_agreesWithReadings 23 = .ok (.getfield 155, 3) := by decide +kernel
theorem dX3_agreesWithReadings_26 : decode cX3_agreesWithReadings 26 = .ok (.iload_n 1, 1) := by decide +kernel
theorem dX3_agreesWithReadings_27 : decode cX3_agreesWithReadings 27 = .ok (.if_icmp .ne 19, 3) := by decide +kernel
theorem dX3_agreesWithReadings_30 : decode cX3_agreesWithReadings 30 = .ok (.aload_n 0, 1) := by decide +kernel
theorem dX3_agreesWithReadings_31 : decode cX3_agreesWithReadings 31 = .ok (.iload_n 2, 1) := by decide +kernel
theorem dX3_agreesWithReadings_32 : decode cX3_agreesWithReadings 32 = .ok (.iload_n 3, 1) := by decide +kernel
theorem dX3_agreesWithReadings_33 : decode cX3_agreesWithReadings 33 = .ok (.iload 4, 2) := by decide +kernel
theorem dX3_agreesWithReadings_35 : decode cX3_agreesWithReadings 35 = .ok (.aload 6, 2) := by decide +kernel
theorem dX3_agreesWithReadings_37 : decode cX3_agreesWithReadings 37 = .ok (.getfield 158, 3) := by decide +kernel
theorem dX3_agreesWithReadings_40 : decode cX3_agreesWithReadings 40 = .ok (.invokevirtual 134, 3) := by decide +kernel
theorem dX3_agreesWithReadings_43 : decode cX3_agreesWithReadings 43 = .ok (.goto 17, 3) := by decide +kernel
theorem dX3_agreesWithReadings_46 : decode cX3_agreesWithReadings 46 = .ok (.aload_n 0, 1) := by decide +kernel
theorem dX3_agreesWithReadings_47 : decode cX3_agreesWithReadings 47 = .ok (.aload 6, 2) := by decide +kernel
theorem dX3_agreesWithReadings_49 : decode cX3_agreesWithReadings 49 = .ok (.getfield 155, 3) := by decide +kernel
theorem dX3_agreesWithReadings_52 : decode cX3_agreesWithReadings 52 = .ok (.aload 6, 2) := by decide +kernel
theorem dX3_agreesWithReadings_54 : decode cX3_agreesWithReadings 54 = .ok (.getfield 158, 3) := by decide +kernel
theorem dX3_agreesWithReadings_57 : decode cX3_agreesWithReadings 57 = .ok (.invokevirtual 107, 3) := by decide +kernel
theorem dX3_agreesWithReadings_60 : decode cX3_agreesWithReadings 60 = .ok (.istore 7, 2) := by decide +kernel
theorem dX3_agreesWithReadings_62 : decode cX3_agreesWithReadings 62 = .ok (.iload 7, 2) := by decide +kernel
theorem dX3_agreesWithReadings_64 : decode cX3_agreesWithReadings 64 = .ok (.aload 6, 2) := by decide +kernel
theorem dX3_agreesWithReadings_66 : decode cX3_agreesWithReadings 66 = .ok (.getfield 161, 3) := by decide +kernel
theorem dX3_agreesWithReadings_69 : decode cX3_agreesWithReadings 69 = .ok (.if_icmp .eq 5, 3) := by decide +kernel
theorem dX3_agreesWithReadings_72 : decode cX3_agreesWithReadings 72 = .ok (.iconst 0, 1) := by decide +kernel
theorem dX3_agreesWithReadings_73 : decode cX3_agreesWithReadings 73 = .ok (.ireturn, 1) := by decide +kernel
theorem dX3_agreesWithReadings_74 : decode cX3_agreesWithReadings 74 = .ok (.iinc 5 1, 3) := by decide +kernel
theorem dX3_agreesWithReadings_77 : decode cX3_agreesWithReadings 77 = .ok (.goto (-74), 3) := by decide +kernel
theorem dX3_agreesWithReadings_80 : decode cX3_agreesWithReadings 80 = .ok (.iconst 1, 1) := by decide +kernel
theorem dX3_agreesWithReadings_81 : decode cX3_agreesWithReadings 81 = .ok (.ireturn, 1) := by decide +kernel
theorem dX3_leaveInTrace_0 : decode cX3_leaveInTrace 0 = .ok (.aload_n 0, 1) := by decide +kernel
theorem dX3_leaveInTrace_1 : decode cX3_leaveInTrace 1 = .ok (.bipush 31, 2) := by decide +kernel
theorem dX3_leaveInTrace_3 : decode cX3_leaveInTrace 3 = .ok (.aload_n 0, 1) := by decide +kernel
theorem dX3_leaveInTrace_4 : decode cX3_leaveInTrace 4 = .ok (.getfield 43, 3) := by decide +kernel
theorem dX3_leaveInTrace_7 : decode cX3_leaveInTrace 7 = .ok (.imul, 1) := by decide +kernel
theorem dX3_leaveInTrace_8 : decode cX3_leaveInTrace 8 = .ok (.iload_n 1, 1) := by decide +kernel
theorem dX3_leaveInTrace_9 : decode cX3_leaveInTrace 9 = .ok (.iadd, 1) := by decide +kernel
theorem dX3_leaveInTrace_10 : decode cX3_leaveInTrace 10 = .ok (.putfield 43, 3) := by decide +kernel
theorem dX3_leaveInTrace_13 : decode cX3_leaveInTrace 13 = .ok (.return_, 1) := by decide +kernel
set_option maxRecDepth 20000 in
theorem ggX3_modestTells_X3_leaveInTrace : GoodIn wsX3_modestTells wsX3_leaveInTrace := goodIn_r _ [5, 6, 7, 8, 9, 10, 11, 12, 13, 14, 15] (by decide +kernel) (by decide +kernel)
set_option maxRecDepth 20000 in
theorem gX3_modestTells_X3_leaveInTrace : GoodIn wsX3_modestTells (wsV RX3 245 RX3 yX3_leaveInTrace wsX3_leaveInTrace) := goodIn_app (goodIn_of _ (by decide +kernel)) ggX3_modestTells_X3_leaveInTrace
theorem dX3_modestTells_0 : decode cX3_modestTells 0 = .ok (.aload_n 0, 1) := by decide +kernel
theorem dX3_modestTells_1 : decode cX3_modestTells 1 = .ok (.iconst 1, 1) := by decide +kernel
theorem dX3_modestTells_2 : decode cX3_modestTells 2 = .ok (.invokevirtual 245, 3) := by decide +kernel
theorem dX3_modestTells_5 : decode cX3_modestTells 5 = .ok (.iload_n 1, 1) := by decide +kernel
theorem dX3_modestTells_6 : decode cX3_modestTells 6 = .ok (.ireturn, 1) := by decide +kernel
set_option maxRecDepth 20000 in
theorem ggX3_sureTells_X3_leaveInTrace : GoodIn wsX3_sureTells wsX3_leaveInTrace := goodIn_r _ [5, 6, 11, 12, 13, 14, 15, 16, 17, 18, 19] (by decide +kernel) (by decide +kernel)
set_option maxRecDepth 20000 in
theorem gX3_sureTells_X3_leaveInTrace : GoodIn wsX3_sureTells (wsV RX3 245 RX3 yX3_leaveInTrace wsX3_leaveInTrace) := goodIn_app (goodIn_of _ (by decide +kernel)) ggX3_sureTells_X3_leaveInTrace
set_option maxRecDepth 20000 in
theorem ggX3_sureTells_X3_modestTells : GoodIn wsX3_sureTells wsX3_modestTells := goodIn_r _ [10, 1, 2, 3, 4, 5, 6, 11, 12, 13, 14, 15, 16, 17, 18, 19] (by decide +kernel) (by decide +kernel)
set_option maxRecDepth 20000 in
theorem gX3_sureTells_X3_modestTells : GoodIn wsX3_sureTells (wsV RX3 193 RX3 yX3_modestTells wsX3_modestTells) := goodIn_app (goodIn_of _ (by decide +kernel)) ggX3_sureTells_X3_modestTells
theorem dX3_sureTells_0 : decode cX3_sureTells 0 = .ok (.aload_n 0, 1) := by decide +kernel
theorem dX3_sureTells_1 : decode cX3_sureTells 1 = .ok (.iconst 2, 1) := by decide +kernel
theorem dX3_sureTells_2 : decode cX3_sureTells 2 = .ok (.invokevirtual 245, 3) := by decide +kernel
theorem dX3_sureTells_5 : decode cX3_sureTells 5 = .ok (.aload_n 0, 1) := by decide +kernel
theorem dX3_sureTells_6 : decode cX3_sureTells 6 = .ok (.iload_n 1, 1) := by decide +kernel
theorem dX3_sureTells_7 : decode cX3_sureTells 7 = .ok (.invokevirtual 193, 3) := by decide +kernel
theorem dX3_sureTells_10 : decode cX3_sureTells 10 = .ok (.bipush 100, 2) := by decide +kernel
theorem dX3_sureTells_12 : decode cX3_sureTells 12 = .ok (.iadd, 1) := by decide +kernel
theorem dX3_sureTells_13 : decode cX3_sureTells 13 = .ok (.ireturn, 1) := by decide +kernel
set_option maxRecDepth 20000 in
theorem ggX3_loudTells_X3_leaveInTrace : GoodIn wsX3_loudTells wsX3_leaveInTrace := goodIn_r _ [5, 6, 15, 16, 17, 18, 19, 20, 21, 22, 23] (by decide +kernel) (by decide +kernel)
set_option maxRecDepth 20000 in
theorem gX3_loudTells_X3_leaveInTrace : GoodIn wsX3_loudTells (wsV RX3 245 RX3 yX3_leaveInTrace wsX3_leaveInTrace) := goodIn_app (goodIn_of _ (by decide +kernel)) ggX3_loudTells_X3_leaveInTrace
set_option maxRecDepth 20000 in
theorem ggX3_loudTells_X3_sureTells : GoodIn wsX3_loudTells wsX3_sureTells := goodIn_r _ [10, 1, 2, 3, 4, 5, 6, 11, 12, 13, 14, 15, 16, 17, 18, 19, 20, 21, 22, 23] (by decide +kernel) (by decide +kernel)
set_option maxRecDepth 20000 in
theorem gX3_loudTells_X3_sureTells : GoodIn wsX3_loudTells (wsV RX3 196 RX3 yX3_sureTells wsX3_sureTells) := goodIn_app (goodIn_of _ (by decide +kernel)) ggX3_loudTells_X3_sureTells
set_option maxRecDepth 20000 in
theorem ggX3_loudTells_X3_modestTells : GoodIn wsX3_loudTells wsX3_modestTells := goodIn_r _ [14, 1, 2, 3, 4, 5, 6, 15, 16, 17, 18, 19, 20, 21, 22, 23] (by decide +kernel) (by decide +kernel)
set_option maxRecDepth 20000 in
theorem gX3_loudTells_X3_modestTells : GoodIn wsX3_loudTells (wsV RX3 193 RX3 yX3_modestTells wsX3_modestTells) := goodIn_app (goodIn_of _ (by decide +kernel)) ggX3_loudTells_X3_modestTells
theorem dX3_loudTells_0 : decode cX3_loudTells 0 = .ok (.aload_n 0, 1) := by decide +kernel
theorem dX3_loudTells_1 : decode cX3_loudTells 1 = .ok (.iconst 3, 1) := by decide +kernel
theorem dX3_loudTells_2 : decode cX3_loudTells 2 = .ok (.invokevirtual 245, 3) := by decide +kernel
theorem dX3_loudTells_5 : decode cX3_loudTells 5 = .ok (.aload_n 0, 1) := by decide +kernel
theorem dX3_loudTells_6 : decode cX3_loudTells 6 = .ok (.iload_n 1, 1) := by decide +kernel
theorem dX3_loudTells_7 : decode cX3_loudTells 7 = .ok (.invokevirtual 196, 3) := by decide +kernel
theorem dX3_loudTells_10 : decode cX3_loudTells 10 = .ok (.istore_n 2, 1) := by decide +kernel
theorem dX3_loudTells_11 : decode cX3_loudTells 11 = .ok (.iload_n 2, 1) := by decide +kernel
theorem dX3_loudTells_12 : decode cX3_loudTells 12 = .ok (.aload_n 0, 1) := by decide +kernel
theorem dX3_loudTells_13 : decode cX3_loudTells 13 = .ok (.iload_n 1, 1) := by decide +kernel
theorem dX3_loudTells_14 : decode cX3_loudTells 14 = .ok (.invokevirtual 193, 3) := by decide +kernel
theorem dX3_loudTells_17 : decode cX3_loudTells 17 = .ok (.iadd, 1) := by decide +kernel
theorem dX3_loudTells_18 : decode cX3_loudTells 18 = .ok (.ireturn, 1) := by decide +kernel
set_option maxRecDepth 20000 in
theorem ggX3_lentBodyHears_X3_leaveInTrace : GoodIn wsX3_lentBodyHears wsX3_leaveInTrace := goodIn_r _ [5, 6, 7, 8, 9, 10, 11, 12, 13, 14, 15] (by decide +kernel) (by decide +kernel)
set_option maxRecDepth 20000 in
theorem gX3_lentBodyHears_X3_leaveInTrace : GoodIn wsX3_lentBodyHears (wsV RX3 245 RX3 yX3_leaveInTrace wsX3_leaveInTrace) := goodIn_app (goodIn_of _ (by decide +kernel)) ggX3_lentBodyHears_X3_leaveInTrace
theorem dX3_lentBodyHears_0 : decode cX3_lentBodyHears 0 = .ok (.aload_n 0, 1) := by decide +kernel
theorem dX3_lentBodyHears_1 : decode cX3_lentBodyHears 1 = .ok (.iconst 4, 1) := by decide +kernel
theorem dX3_lentBodyHears_2 : decode cX3_lentBodyHears 2 = .ok (.invokevirtual 245, 3) := by decide +kernel
theorem dX3_lentBodyHears_5 : decode cX3_lentBodyHears 5 = .ok (.iload_n 1, 1) := by decide +kernel
theorem dX3_lentBodyHears_6 : decode cX3_lentBodyHears 6 = .ok (.ireturn, 1) := by decide +kernel
set_option maxRecDepth 20000 in
theorem ggX3_loudIsHeard_X3_leaveInTrace : GoodIn wsX3_loudIsHeard wsX3_leaveInTrace := goodIn_r _ [5, 6, 7, 8, 9, 10, 11, 12, 13, 14, 15] (by decide +kernel) (by decide +kernel)
set_option maxRecDepth 20000 in
theorem gX3_loudIsHeard_X3_leaveInTrace : GoodIn wsX3_loudIsHeard (wsV RX3 245 RX3 yX3_leaveInTrace wsX3_leaveInTrace) := goodIn_app (goodIn_of _ (by decide +kernel)) ggX3_loudIsHeard_X3_leaveInTrace
theorem dX3_loudIsHeard_0 : decode cX3_loudIsHeard 0 = .ok (.aload_n 0, 1) := by decide +kernel
theorem dX3_loudIsHeard_1 : decode cX3_loudIsHeard 1 = .ok (.iconst 5, 1) := by decide +kernel
theorem dX3_loudIsHeard_2 : decode cX3_loudIsHeard 2 = .ok (.invokevirtual 245, 3) := by decide +kernel
theorem dX3_loudIsHeard_5 : decode cX3_loudIsHeard 5 = .ok (.bipush 20, 2) := by decide +kernel
theorem dX3_loudIsHeard_7 : decode cX3_loudIsHeard 7 = .ok (.ireturn, 1) := by decide +kernel
end
section
theorem dX4_init_0 : decode cX4_init 0 = .ok (.aload_n 0, 1) := by decide +kernel
theorem dX4_init_1 : decode cX4_init 1 = .ok (.invokespecial 1, 3) := by decide +kernel
theorem dX4_init_4 : decode cX4_init 4 = .ok (.aload_n 0, 1) := by decide +kernel
theorem dX4_init_5 : decode cX4_init 5 = .ok (.iconst 5, 1) := by decide +kernel
theorem dX4_init_6 : decode cX4_init 6 = .ok (.newarray .int, 2) := by decide +kernel
theorem dX4_init_8 : decode cX4_init 8 = .ok (.putfield 7, 3) := by decide +kernel
theorem dX4_init_11 : decode cX4_init 11 = .ok (.aload_n 0, 1) := by decide +kernel
theorem dX4_init_12 : decode cX4_init 12 = .ok (.iconst 4, 1) := by decide +kernel
theorem dX4_init_13 : decode cX4_init 13 = .ok (.newarray .int, 2) := by decide +kernel
theorem dX4_init_15 : decode cX4_init 15 = .ok (.putfield 13, 3) := by decide +kernel
theorem dX4_init_18 : decode cX4_init 18 = .ok (.aload_n 0, 1) := by decide +kernel
theorem dX4_init_19 : decode cX4_init 19 = .ok (.iconst 4, 1) := by decide +kernel
theorem dX4_init_20 : decode cX4_init 20 = .ok (.newarray .int, 2) := by decide +kernel
theorem dX4_init_22 : decode cX4_init 22 = .ok (.putfield 16, 3) := by decide +kernel
theorem dX4_init_25 : decode cX4_init 25 = .ok (.aload_n 0, 1) := by decide +kernel
theorem dX4_init_26 : decode cX4_init 26 = .ok (.iconst 4, 1) := by decide +kernel
theorem dX4_init_27 : decode cX4_init 27 = .ok (.newarray .int, 2) := by decide +kernel
theorem dX4_init_29 : decode cX4_init 29 = .ok (.putfield 19, 3) := by decide +kernel
theorem dX4_init_32 : decode cX4_init 32 = .ok (.aload_n 0, 1) := by decide +kernel
theorem dX4_init_33 : decode cX4_init 33 = .ok (.iconst 5, 1) := by decide +kernel
theorem dX4_init_34 : decode cX4_init 34 = .ok (.newarray .int, 2) := by decide +kernel
theorem dX4_init_36 : decode cX4_init 36 = .ok (.putfield 22, 3) := by decide +kernel
theorem dX4_init_39 : decode cX4_init 39 = .ok (.aload_n 0, 1) := by decide +kernel
theorem dX4_init_40 : decode cX4_init 40 = .ok (.iconst 4, 1) := by decide +kernel
theorem dX4_init_41 : decode cX4_init 41 = .ok (.newarray .int, 2) := by decide +kernel
theorem dX4_init_43 : decode cX4_init 43 = .ok (.putfield 25, 3) := by decide +kernel
theorem dX4_init_46 : decode cX4_init 46 = .ok (.aload_n 0, 1) := by decide +kernel
theorem dX4_init_47 : decode cX4_init 47 = .ok (.iconst 4, 1) := by decide +kernel
theorem dX4_init_48 : decode cX4_init 48 = .ok (.newarray .int, 2) := by decide +kernel
theorem dX4_init_50 : decode cX4_init 50 = .ok (.putfield 28, 3) := by decide +kernel
theorem dX4_init_53 : decode cX4_init 53 = .ok (.aload_n 0, 1) := by decide +kernel
theorem dX4_init_54 : decode cX4_init 54 = .ok (.iconst 4, 1) := by decide +kernel
theorem dX4_init_55 : decode cX4_init 55 = .ok (.newarray .int, 2) := by decide +kernel
theorem dX4_init_57 : decode cX4_init 57 = .ok (.putfield 31, 3) := by decide +kernel
theorem dX4_init_60 : decode cX4_init 60 = .ok (.aload_n 0, 1) := by decide +kernel
theorem dX4_init_61 : decode cX4_init 61 = .ok (.bipush 8, 2) := by decide +kernel
theorem dX4_init_63 : decode cX4_init 63 = .ok (.newarray .int, 2) := by decide +kernel
theorem dX4_init_65 : decode cX4_init 65 = .ok (.putfield 34, 3) := by decide +kernel
theorem dX4_init_68 : decode cX4_init 68 = .ok (.aload_n 0, 1) := by decide +kernel
theorem dX4_init_69 : decode cX4_init 69 = .ok (.bipush 8, 2) := by decide +kernel
theorem dX4_init_71 : decode cX4_init 71 = .ok (.newarray .int, 2) := by decide +kernel
theorem dX4_init_73 : decode cX4_init 73 = .ok (.putfield 37, 3) := by decide +kernel
theorem dX4_init_76 : decode cX4_init 76 = .ok (.aload_n 0, 1) := by decide +kernel
theorem dX4_init_77 : decode cX4_init 77 = .ok (.bipush 8, 2) := by decide +kernel
theorem dX4_init_79 : decode cX4_init 79 = .ok (.newarray .int, 2) := by decide +kernel
theorem dX4_init_81 : decode cX4_init 81 = .ok (.putfield 40, 3) := by decide +kernel
theorem dX4_init_84 : decode cX4_init 84 = .ok (.aload_n 0, 1) := by decide +kernel
theorem dX4_init_85 : decode cX4_init 85 = .ok (.iconst 4, 1) := by decide +kernel
theorem dX4_init_86 : decode cX4_init 86 = .ok (.newarray .int, 2) := by decide +kernel
theorem dX4_init_88 : decode cX4_init 88 = .ok (.putfield 43, 3) := by decide +kernel
theorem dX4_init_91 : decode cX4_init 91 = .ok (.aload_n 0, 1) := by decide +kernel
theorem dX4_init_92 : decode cX4_init 92 = .ok (.iconst 4, 1) := by decide +kernel
theorem dX4_init_93 : decode cX4_init 93 = .ok (.newarray .int, 2) := by decide +kernel
theorem dX4_init_95 : decode cX4_init 95 = .ok (.putfield 46, 3) := by decide +kernel
theorem dX4_init_98 : decode cX4_init 98 = .ok (.aload_n 0, 1) := by decide +kernel
theorem dX4_init_99 : decode cX4_init 99 = .ok (.sipush 240, 3) := by decide +kernel
theorem dX4_init_102 : decode cX4_init 102 = .ok (.newarray .int, 2) := by decide +kernel
theorem dX4_init_104 : decode cX4_init 104 = .ok (.putfield 49, 3) := by decide +kernel
theorem dX4_init_107 : decode cX4_init 107 = .ok (.aload_n 0, 1) := by decide +kernel
theorem dX4_init_108 : decode cX4_init 108 = .ok (.bipush 60, 2) := by decide +kernel
theorem dX4_init_110 : decode cX4_init 110 = .ok (.newarray .int, 2) := by decide +kernel
theorem dX4_init_112 : decode cX4_init 112 = .ok (.putfield 52, 3) := by decide +kernel
theorem dX4_init_115 : decode cX4_init 115 = .ok (.iconst 0, 1) := by decide +kernel
theorem dX4_init_116 : decode cX4_init 116 = .ok (.istore_n 1, 1) := by decide +kernel
theorem dX4_init_117 : decode cX4_init 117 = .ok (.iload_n 1, 1) := by decide +kernel
theorem dX4_init_118 : decode cX4_init 118 = .ok (.iconst 4, 1) := by decide +kernel
theorem dX4_init_119 : decode cX4_init 119 = .ok (.if_icmp .ge 16, 3) := by decide +kernel
theorem dX4_init_122 : decode cX4_init 122 = .ok (.aload_n 0, 1) := by decide +kernel
theorem dX4_init_123 : decode cX4_init 123 = .ok (.getfield 43, 3) := by decide +kernel
theorem dX4_init_126 : decode cX4_init 126 = .ok (.iload_n 1, 1) := by decide +kernel
theorem dX4_init_127 : decode cX4_init 127 = .ok (.iconst (-1), 1) := by decide +kernel
theorem dX4_init_128 : decode cX4_init 128 = .ok (.iastore, 1) := by decide +kernel
theorem dX4_init_129 : decode cX4_init 129 = .ok (.iinc 1 1, 3) := by decide +kernel
theorem dX4_init_132 : decode cX4_init 132 = .ok (.goto (-15), 3) := by decide +kernel
theorem dX4_init_135 : decode cX4_init 135 = .ok (.return_, 1) := by decide +kernel
theorem dX4_in_0 : decode cX4_in 0 = .ok (.lload_n 0, 1) := by decide +kernel
theorem dX4_in_1 : decode cX4_in 1 = .ok (.lload_n 2, 1) := by decide +kernel
theorem dX4_in_2 : decode cX4_in 2 = .ok (.lcmp, 1) := by decide +kernel
theorem dX4_in_3 : decode cX4_in 3 = .ok (.ifCond .lt 14, 3) := by decide +kernel
theorem dX4_in_6 : decode cX4_in 6 = .ok (.lload_n 0, 1) := by decide +kernel
theorem dX4_in_7 : decode cX4_in 7 = .ok (.lload 4, 2) := by decide +kernel
theorem dX4_in_9 : decode cX4_in 9 = .ok (.lcmp, 1) := by decide +kernel
theorem dX4_in_10 : decode cX4_in 10 = .ok (.ifCond .gt 7, 3) := by decide +kernel
theorem dX4_in_13 : decode cX4_in 13 = .ok (.iconst 1, 1) := by decide +kernel
theorem dX4_in_14 : decode cX4_in 14 = .ok (.goto 4, 3) := by decide +kernel
theorem dX4_in_17 : decode cX4_in 17 = .ok (.iconst 0, 1) := by decide +kernel
theorem dX4_in_18 : decode cX4_in 18 = .ok (.ireturn, 1) := by decide +kernel
theorem dX4_lost_0 : decode cX4_lost 0 = .ok (.ldc2_w 55, 3) := by decide +kernel
theorem dX4_lost_3 : decode cX4_lost 3 = .ok (.lreturn, 1) := by decide +kernel
theorem dX4_isIn_0 : decode cX4_isIn 0 = .ok (.iload_n 0, 1) := by decide +kernel
theorem dX4_isIn_1 : decode cX4_isIn 1 = .ok (.iload_n 1, 1) := by decide +kernel
theorem dX4_isIn_2 : decode cX4_isIn 2 = .ok (.ishr, 1) := by decide +kernel
theorem dX4_isIn_3 : decode cX4_isIn 3 = .ok (.iconst 1, 1) := by decide +kernel
theorem dX4_isIn_4 : decode cX4_isIn 4 = .ok (.iand, 1) := by decide +kernel
theorem dX4_isIn_5 : decode cX4_isIn 5 = .ok (.iconst 1, 1) := by decide +kernel
theorem dX4_isIn_6 : decode cX4_isIn 6 = .ok (.if_icmp .ne 7, 3) := by decide +kernel
theorem dX4_isIn_9 : decode cX4_isIn 9 = .ok (.iconst 1, 1) := by decide +kernel
theorem dX4_isIn_10 : decode cX4_isIn 10 = .ok (.goto 4, 3) := by decide +kernel
theorem dX4_isIn_13 : decode cX4_isIn 13 = .ok (.iconst 0, 1) := by decide +kernel
theorem dX4_isIn_14 : decode cX4_isIn 14 = .ok (.ireturn, 1) := by decide +kernel
theorem dX4_bits_0 : decode cX4_bits 0 = .ok (.iconst 0, 1) := by decide +kernel
theorem dX4_bits_1 : decode cX4_bits 1 = .ok (.istore_n 1, 1) := by decide +kernel
theorem dX4_bits_2 : decode cX4_bits 2 = .ok (.iload_n 0, 1) := by decide +kernel
theorem dX4_bits_3 : decode cX4_bits 3 = .ok (.istore_n 2, 1) := by decide +kernel
theorem dX4_bits_4 : decode cX4_bits 4 = .ok (.iload_n 2, 1) := by decide +kernel
theorem dX4_bits_5 : decode cX4_bits 5 = .ok (.ifCond .le 16, 3) := by decide +kernel
theorem dX4_bits_8 : decode cX4_bits 8 = .ok (.iload_n 1, 1) := by decide +kernel
theorem dX4_bits_9 : decode cX4_bits 9 = .ok (.iload_n 2, 1) := by decide +kernel
theorem dX4_bits_10 : decode cX4_bits 10 = .ok (.iconst 1, 1) := by decide +kernel
theorem dX4_bits_11 : decode cX4_bits 11 = .ok (.iand, 1) := by decide +kernel
theorem dX4_bits_12 : decode cX4_bits 12 = .ok (.iadd, 1) := by decide +kernel
theorem dX4_bits_13 : decode cX4_bits 13 = .ok (.istore_n 1, 1) := by decide +kernel
theorem dX4_bits_14 : decode cX4_bits 14 = .ok (.iload_n 2, 1) := by decide +kernel
theorem dX4_bits_15 : decode cX4_bits 15 = .ok (.iconst 1, 1) := by decide +kernel
theorem dX4_bits_16 : decode cX4_bits 16 = .ok (.ishr, 1) := by decide +kernel
theorem dX4_bits_17 : decode cX4_bits 17 = .ok (.istore_n 2, 1) := by decide +kernel
theorem dX4_bits_18 : decode cX4_bits 18 = .ok (.goto (-14), 3) := by decide +kernel
theorem dX4_bits_21 : decode cX4_bits 21 = .ok (.iload_n 1, 1) := by decide +kernel
theorem dX4_bits_22 : decode cX4_bits 22 = .ok (.ireturn, 1) := by decide +kernel
theorem dX4_share_0 : decode cX4_share 0 = .ok (.lload_n 0, 1) := by decide +kernel
theorem dX4_share_1 : decode cX4_share 1 = .ok (.lstore 5, 2) := by decide +kernel
theorem dX4_share_3 : decode cX4_share 3 = .ok (.lload_n 2, 1) := by decide +kernel
theorem dX4_share_4 : decode cX4_share 4 = .ok (.lstore 7, 2) := by decide +kernel
theorem dX4_share_6 : decode cX4_share 6 = .ok (.lload 7, 2) := by decide +kernel
theorem dX4_share_8 : decode cX4_share 8 = .ok (.lconst 0, 1) := by decide +kernel
theorem dX4_share_9 : decode cX4_share 9 = .ok (.lcmp, 1) := by decide +kernel
theorem dX4_share_10 : decode cX4_share 10 = .ok (.ifCond .eq 21, 3) := by decide +kernel
theorem dX4_share_13 : decode cX4_share 13 = .ok (.lload 5, 2) := by decide +kernel
theorem dX4_share_15 : decode cX4_share 15 = .ok (.lload 7, 2) := by decide +kernel
theorem dX4_share_17 : decode cX4_share 17 = .ok (.lrem, 1) := by decide +kernel
theorem dX4_share_18 : decode cX4_share 18 = .ok (.lstore 9, 2) := by decide +kernel
theorem dX4_share_20 : decode cX4_share 20 = .ok (.lload 7, 2) := by decide +kernel
theorem dX4_share_22 : decode cX4_share 22 = .ok (.lstore 5, 2) := by decide +kernel
theorem dX4_share_24 : decode cX4_share 24 = .ok (.lload 9, 2) := by decide +kernel
theorem dX4_share_26 : decode cX4_share 26 = .ok (.lstore 7, 2) := by decide +kernel
theorem dX4_share_28 : decode cX4_share 28 = .ok (.goto (-22), 3) := by decide +kernel
theorem dX4_share_31 : decode cX4_share 31 = .ok (.iload 4, 2) := by decide +kernel
theorem dX4_share_33 : decode cX4_share 33 = .ok (.ifCond .ne 7, 3) := by decide +kernel
theorem dX4_share_36 : decode cX4_share 36 = .ok (.lload_n 0, 1) := by decide +kernel
theorem dX4_share_37 : decode cX4_share 37 = .ok (.goto 4, 3) := by decide +kernel
theorem dX4_share_40 : decode cX4_share 40 = .ok (.lload_n 2, 1) := by decide +kernel
theorem dX4_share_41 : decode cX4_share 41 = .ok (.lload 5, 2) := by decide +kernel
theorem dX4_share_43 : decode cX4_share 43 = .ok (.ldiv, 1) := by decide +kernel
theorem dX4_share_44 : decode cX4_share 44 = .ok (.lreturn, 1) := by decide +kernel
theorem dX4_refused_0 : decode cX4_refused 0 = .ok (.aload_n 0, 1) := by decide +kernel
theorem dX4_refused_1 : decode cX4_refused 1 = .ok (.iconst 0, 1) := by decide +kernel
theorem dX4_refused_2 : decode cX4_refused 2 = .ok (.putfield 57, 3) := by decide +kernel
theorem dX4_refused_5 : decode cX4_refused 5 = .ok (.iload_n 1, 1) := by decide +kernel
theorem dX4_refused_6 : decode cX4_refused 6 = .ok (.ireturn, 1) := by decide +kernel
theorem dX4_failed_0 : decode cX4_failed 0 = .ok (.aload_n 0, 1) := by decide +kernel
theorem dX4_failed_1 : decode cX4_failed 1 = .ok (.iload_n 1, 1) := by decide +kernel
theorem dX4_failed_2 : decode cX4_failed 2 = .ok (.putfield 57, 3) := by decide +kernel
theorem dX4_failed_5 : decode cX4_failed 5 = .ok (.bipush (-10), 2) := by decide +kernel
theorem dX4_failed_7 : decode cX4_failed 7 = .ok (.iload_n 1, 1) := by decide +kernel
theorem dX4_failed_8 : decode cX4_failed 8 = .ok (.isub, 1) := by decide +kernel
theorem dX4_failed_9 : decode cX4_failed 9 = .ok (.ireturn, 1) := by decide +kernel
set_option maxRecDepth 20000 in
theorem ggX4_failedLong_X4_lost : GoodIn wsX4_failedLong wsX4_lost := goodIn_r _ [5, 6] (by decide +kernel) (by decide +kernel)
set_option maxRecDepth 20000 in
theorem gX4_failedLong_X4_lost : GoodIn wsX4_failedLong (va_wsS RX4 61 yX4_lost wsX4_lost) := goodIn_app (goodIn_of _ (by decide +kernel)) ggX4_failedLong_X4_lost
theorem dX4_failedLong_0 : decode cX4_failedLong 0 = .ok (.aload_n 0, 1) := by decide +kernel
theorem dX4_failedLong_1 : decode cX4_failedLong 1 = .ok (.iload_n 1, 1) := by decide +kernel
theorem dX4_failedLong_2 : decode cX4_failedLong 2 = .ok (.putfield 57, 3) := by decide +kernel
theorem dX4_failedLong_5 : decode cX4_failedLong 5 = .ok (.invokestatic 61, 3) := by decide +kernel
theorem dX4_failedLong_8 : decode cX4_failedLong 8 = .ok (.lreturn, 1) := by decide +kernel
set_option maxRecDepth 20000 in
theorem ggX4_noEvent_X4_in : GoodIn wsX4_noEvent wsX4_in := goodIn_r _ [5] (by decide +kernel) (by decide +kernel)
set_option maxRecDepth 20000 in
theorem gX4_noEvent_X4_in : GoodIn wsX4_noEvent (va_wsS RX4 68 yX4_in wsX4_in) := goodIn_app (goodIn_of _ (by decide +kernel)) ggX4_noEvent_X4_in
theorem dX4_noEvent_0 : decode cX4_noEvent 0 = .ok (.iload_n 1, 1) := by decide +kernel
theorem dX4_noEvent_1 : decode cX4_noEvent 1 = .ok (.i2l, 1) := by decide +kernel
theorem dX4_noEvent_2 : decode cX4_noEvent 2 = .ok (.lconst 0, 1) := by decide +kernel
theorem dX4_noEvent_3 : decode cX4_noEvent 3 = .ok (.aload_n 0, 1) := by decide +kernel
theorem dX4_noEvent_4 : decode cX4_noEvent 4 = .ok (.getfield 65, 3) := by decide +kernel
theorem dX4_noEvent_7 : decode cX4_noEvent 7 = .ok (.i2l, 1) := by decide +kernel
theorem dX4_noEvent_8 : decode cX4_noEvent 8 = .ok (.lconst 1, 1) := by decide +kernel
theorem dX4_noEvent_9 : decode cX4_noEvent 9 = .ok (.lsub, 1) := by decide +kernel
theorem dX4_noEvent_10 : decode cX4_noEvent 10 = .ok (.invokestatic 68, 3) := by decide +kernel
theorem dX4_noEvent_13 : decode cX4_noEvent 13 = .ok (.ifCond .ne 7, 3) := by decide +kernel
theorem dX4_noEvent_16 : decode cX4_noEvent 16 = .ok (.iconst 1, 1) := by decide +kernel
theorem dX4_noEvent_17 : decode cX4_noEvent 17 = .ok (.goto 4, 3) := by decide +kernel
theorem dX4_noEvent_20 : decode cX4_noEvent 20 = .ok (.iconst 0, 1) := by decide +kernel
theorem dX4_noEvent_21 : decode cX4_noEvent 21 = .ok (.ireturn, 1) := by decide +kernel
set_option maxRecDepth 20000 in
theorem ggX4_noProphet_X4_in : GoodIn wsX4_noProphet wsX4_in := goodIn_r _ [5] (by decide +kernel) (by decide +kernel)
set_option maxRecDepth 20000 in
theorem gX4_noProphet_X4_in : GoodIn wsX4_noProphet (va_wsS RX4 68 yX4_in wsX4_in) := goodIn_app (goodIn_of _ (by decide +kernel)) ggX4_noProphet_X4_in
theorem dX4_noProphet_0 : decode cX4_noProphet 0 = .ok (.iload_n 1, 1) := by decide +kernel
theorem dX4_noProphet_1 : decode cX4_noProphet 1 = .ok (.i2l, 1) := by decide +kernel
theorem dX4_noProphet_2 : decode cX4_noProphet 2 = .ok (.lconst 0, 1) := by decide +kernel
theorem dX4_noProphet_3 : decode cX4_noProphet 3 = .ok (.aload_n 0, 1) := by decide +kernel
theorem dX4_noProphet_4 : decode cX4_noProphet 4 = .ok (.getfield 72, 3) := by decide +kernel
theorem dX4_noProphet_7 : decode cX4_noProphet 7 = .ok (.i2l, 1) := by decide +kernel
theorem dX4_noProphet_8 : decode cX4_noProphet 8 = .ok (.lconst 1, 1) := by decide +kernel
theorem dX4_noProphet_9 : decode cX4_noProphet 9 = .ok (.lsub, 1) := by decide +kernel
theorem dX4_noProphet_10 : decode cX4_noProphet 10 = .ok (.invokestatic 68, 3) := by decide +kernel
theorem dX4_noProphet_13 : decode cX4_noProphet 13 = .ok (.ifCond .ne 7, 3) := by decide +kernel
theorem dX4_noProphet_16 : decode cX4_noProphet 16 = .ok (.iconst 1, 1) := by decide +kernel
theorem dX4_noProphet_17 : decode cX4_noProphet 17 = .ok (.goto 4, 3) := by decide +kernel
theorem dX4_noProphet_20 : decode cX4_noProphet 20 = .ok (.iconst 0, 1) := by decide +kernel
theorem dX4_noProphet_21 : decode cX4_noProphet 21 = .ok (.ireturn, 1) := by decide +kernel
theorem dX4_allEvents_0 : decode cX4_allEvents 0 = .ok (.iconst 1, 1) := by decide +kernel
theorem dX4_allEvents_1 : decode cX4_allEvents 1 = .ok (.aload_n 0, 1) := by decide +kernel
theorem dX4_allEvents_2 : decode cX4_allEvents 2 = .ok (.getfield 65, 3) := by decide +kernel
theorem dX4_allEvents_5 : decode cX4_allEvents 5 = .ok (.ishl, 1) := by decide +kernel
theorem dX4_allEvents_6 : decode cX4_allEvents 6 = .ok (.iconst 1, 1) := by decide +kernel
theorem dX4_allEvents_7 : decode cX4_allEvents 7 = .ok (.isub, 1) := by decide +kernel
theorem dX4_allEvents_8 : decode cX4_allEvents 8 = .ok (.ireturn, 1) := by decide +kernel
set_option maxRecDepth 20000 in
theorem ggX4_noSet_X4_allEvents : GoodIn wsX4_noSet wsX4_allEvents := goodIn_r _ [5, 6, 10, 11, 12, 13, 14, 15, 16, 17, 18, 19, 20, 21, 22, 23, 24, 25, 26, 27, 28, 29, 30, 31, 32, 33, 34, 35, 36] (by decide +kernel) (by decide +kernel)
set_option maxRecDepth 20000 in
theorem gX4_noSet_X4_allEvents : GoodIn wsX4_noSet (wsV RX4 75 RX4 yX4_allEvents wsX4_allEvents) := goodIn_app (goodIn_of _ (by decide +kernel)) ggX4_noSet_X4_allEvents
set_option maxRecDepth 20000 in
theorem ggX4_noSet_X4_in : GoodIn wsX4_noSet wsX4_in := goodIn_r _ [9] (by decide +kernel) (by decide +kernel)
set_option maxRecDepth 20000 in
theorem gX4_noSet_X4_in : GoodIn wsX4_noSet (va_wsS RX4 68 yX4_in wsX4_in) := goodIn_app (goodIn_of _ (by decide +kernel)) ggX4_noSet_X4_in
theorem dX4_noSet_0 : decode cX4_noSet 0 = .ok (.iload_n 1, 1) := by decide +kernel
theorem dX4_noSet_1 : decode cX4_noSet 1 = .ok (.i2l, 1) := by decide +kernel
theorem dX4_noSet_2 : decode cX4_noSet 2 = .ok (.lconst 0, 1) := by decide +kernel
theorem dX4_noSet_3 : decode cX4_noSet 3 = .ok (.aload_n 0, 1) := by decide +kernel
theorem dX4_noSet_4 : decode cX4_noSet 4 = .ok (.invokevirtual 75, 3) := by decide +kernel
theorem dX4_noSet_7 : decode cX4_noSet 7 = .ok (.i2l, 1) := by decide +kernel
theorem dX4_noSet_8 : decode cX4_noSet 8 = .ok (.invokestatic 68, 3) := by decide +kernel
theorem dX4_noSet_11 : decode cX4_noSet 11 = .ok (.ifCond .ne 7, 3) := by decide +kernel
theorem dX4_noSet_14 : decode cX4_noSet 14 = .ok (.iconst 1, 1) := by decide +kernel
theorem dX4_noSet_15 : decode cX4_noSet 15 = .ok (.goto 4, 3) := by decide +kernel
theorem dX4_noSet_18 : decode cX4_noSet 18 = .ok (.iconst 0, 1) := by decide +kernel
theorem dX4_noSet_19 : decode cX4_noSet 19 = .ok (.ireturn, 1) := by decide +kernel
theorem dX4_codeAt_0 : decode cX4_codeAt 0 = .ok (.aload_n 0, 1) := by decide +kernel
theorem dX4_codeAt_1 : decode cX4_codeAt 1 = .ok (.getfield 79, 3) := by decide +kernel
theorem dX4_codeAt_4 : decode cX4_codeAt 4 = .ok (.iload_n 2, 1) := by decide +kernel
theorem dX4_codeAt_5 : decode cX4_codeAt 5 = .ok (.if_icmp .ge 17, 3) := by decide +kernel
theorem dX4_codeAt_8 : decode cX4_codeAt 8 = .ok (.aload_n 0, 1) := by decide +kernel
theorem dX4_codeAt_9 : decode cX4_codeAt 9 = .ok (.getfield 49, 3) := by decide +kernel
theorem dX4_codeAt_12 : decode cX4_codeAt 12 = .ok (.iload_n 1, 1) := by decide +kernel
theorem dX4_codeAt_13 : decode cX4_codeAt 13 = .ok (.aload_n 0, 1) := by decide +kernel
theorem dX4_codeAt_14 : decode cX4_codeAt 14 = .ok (.getfield 79, 3) := by decide +kernel
theorem dX4_codeAt_17 : decode cX4_codeAt 17 = .ok (.iadd, 1) := by decide +kernel
theorem dX4_codeAt_18 : decode cX4_codeAt 18 = .ok (.iaload, 1) := by decide +kernel
theorem dX4_codeAt_19 : decode cX4_codeAt 19 = .ok (.goto 5, 3) := by decide +kernel
theorem dX4_codeAt_22 : decode cX4_codeAt 22 = .ok (.bipush (-9), 2) := by decide +kernel
theorem dX4_codeAt_24 : decode cX4_codeAt 24 = .ok (.ireturn, 1) := by decide +kernel
set_option maxRecDepth 20000 in
theorem ggX4_figure_X4_codeAt : GoodIn wsX4_figure wsX4_codeAt := goodIn_r _ [6, 1, 7, 11, 12, 13, 14, 15, 16, 17, 18, 19, 20, 21, 22, 23, 24, 25, 26, 27, 28, 29, 30, 31, 32, 33, 34, 35, 36, 37] (by decide +kernel) (by decide +kernel)
set_option maxRecDepth 20000 in
theorem gX4_figure_X4_codeAt : GoodIn wsX4_figure (wsV RX4 82 RX4 yX4_codeAt wsX4_codeAt) := goodIn_app (goodIn_of _ (by decide +kernel)) ggX4_figure_X4_codeAt
set_option maxRecDepth 20000 in
theorem ggX4_figure_X4_in : GoodIn wsX4_figure wsX4_in := goodIn_r _ [10] (by decide +kernel) (by decide +kernel)
set_option maxRecDepth 20000 in
theorem gX4_figure_X4_in : GoodIn wsX4_figure (va_wsS RX4 68 yX4_in wsX4_in) := goodIn_app (goodIn_of _ (by decide +kernel)) ggX4_figure_X4_in
theorem dX4_figure_0 : decode cX4_figure 0 = .ok (.aload_n 0, 1) := by decide +kernel
theorem dX4_figure_1 : decode cX4_figure 1 = .ok (.iload_n 1, 1) := by decide +kernel
theorem dX4_figure_2 : decode cX4_figure 2 = .ok (.iload_n 2, 1) := by decide +kernel
theorem dX4_figure_3 : decode cX4_figure 3 = .ok (.invokevirtual 82, 3) := by decide +kernel
theorem dX4_figure_6 : decode cX4_figure 6 = .ok (.bipush 48, 2) := by decide +kernel
theorem dX4_figure_8 : decode cX4_figure 8 = .ok (.isub, 1) := by decide +kernel
theorem dX4_figure_9 : decode cX4_figure 9 = .ok (.istore 4, 2) := by decide +kernel
theorem dX4_figure_11 : decode cX4_figure 11 = .ok (.iload 4, 2) := by decide +kernel
theorem dX4_figure_13 : decode cX4_figure 13 = .ok (.i2l, 1) := by decide +kernel
theorem dX4_figure_14 : decode cX4_figure 14 = .ok (.lconst 0, 1) := by decide +kernel
theorem dX4_figure_15 : decode cX4_figure 15 = .ok (.iload_n 3, 1) := by decide +kernel
theorem dX4_figure_16 : decode cX4_figure 16 = .ok (.i2l, 1) := by decide +kernel
theorem dX4_figure_17 : decode cX4_figure 17 = .ok (.invokestatic 68, 3) := by decide +kernel
theorem dX4_figure_20 : decode cX4_figure 20 = .ok (.istore 5, 2) := by decide +kernel
theorem dX4_figure_22 : decode cX4_figure 22 = .ok (.aload_n 0, 1) := by decide +kernel
theorem dX4_figure_23 : decode cX4_figure 23 = .ok (.dup, 1) := by decide +kernel
theorem dX4_figure_24 : decode cX4_figure 24 = .ok (.getfield 79, 3) := by decide +kernel
theorem dX4_figure_27 : decode cX4_figure 27 = .ok (.iload 5, 2) := by decide +kernel
theorem dX4_figure_29 : decode cX4_figure 29 = .ok (.ifCond .eq 7, 3) := by decide +kernel
theorem dX4_figure_32 : decode cX4_figure 32 = .ok (.iconst 1, 1) := by decide +kernel
theorem dX4_figure_33 : decode cX4_figure 33 = .ok (.goto 4, 3) := by decide +kernel
theorem dX4_figure_36 : decode cX4_figure 36 = .ok (.iconst 0, 1) := by decide +kernel
theorem dX4_figure_37 : decode cX4_figure 37 = .ok (.iadd, 1) := by decide +kernel
theorem dX4_figure_38 : decode cX4_figure 38 = .ok (.putfield 79, 3) := by decide +kernel
theorem dX4_figure_41 : decode cX4_figure 41 = .ok (.iload 5, 2) := by decide +kernel
theorem dX4_figure_43 : decode cX4_figure 43 = .ok (.ifCond .eq 8, 3) := by decide +kernel
theorem dX4_figure_46 : decode cX4_figure 46 = .ok (.iload 4, 2) := by decide +kernel
theorem dX4_figure_48 : decode cX4_figure 48 = .ok (.goto 5, 3) := by decide +kernel
theorem dX4_figure_51 : decode cX4_figure 51 = .ok (.bipush (-9), 2) := by decide +kernel
theorem dX4_figure_53 : decode cX4_figure 53 = .ok (.ireturn, 1) := by decide +kernel
set_option maxRecDepth 20000 in
theorem ggX4_readsEvent_X4_codeAt : GoodIn wsX4_readsEvent wsX4_codeAt := goodIn_r _ [8, 2, 9, 17, 18, 19, 20, 21, 22, 23, 24, 25, 26, 27, 28, 29, 30, 31, 32, 33, 34, 35, 36, 37, 38, 39, 40, 41, 42, 43] (by decide +kernel) (by decide +kernel)
set_option maxRecDepth 20000 in
theorem gX4_readsEvent_X4_codeAt : GoodIn wsX4_readsEvent (wsV RX4 82 RX4 yX4_codeAt wsX4_codeAt) := goodIn_app (goodIn_of _ (by decide +kernel)) ggX4_readsEvent_X4_codeAt
set_option maxRecDepth 20000 in
theorem ggX4_readsEvent_X4_figure : GoodIn wsX4_readsEvent wsX4_figure := goodIn_r _ [13, 2, 4, 5, 6, 7, 8, 9, 14, 15, 16, 17, 18, 19, 20, 21, 22, 23, 24, 25, 26, 27, 28, 29, 30, 31, 32, 33, 34, 35, 36, 37, 38, 39, 40, 41, 42, 43] (by decide +kernel) (by decide +kernel)
set_option maxRecDepth 20000 in
theorem gX4_readsEvent_X4_figure : GoodIn wsX4_readsEvent (wsV RX4 89 RX4 yX4_figure wsX4_figure) := goodIn_app (goodIn_of _ (by decide +kernel)) ggX4_readsEvent_X4_figure
theorem dX4_readsEvent_0 : decode cX4_readsEvent 0 = .ok (.aload_n 0, 1) := by decide +kernel
theorem dX4_readsEvent_1 : decode cX4_readsEvent 1 = .ok (.getfield 86, 3) := by decide +kernel
theorem dX4_readsEvent_4 : decode cX4_readsEvent 4 = .ok (.iconst 5, 1) := by decide +kernel
theorem dX4_readsEvent_5 : decode cX4_readsEvent 5 = .ok (.if_icmp .eq 14, 3) := by decide +kernel
theorem dX4_readsEvent_8 : decode cX4_readsEvent 8 = .ok (.aload_n 0, 1) := by decide +kernel
theorem dX4_readsEvent_9 : decode cX4_readsEvent 9 = .ok (.iload_n 1, 1) := by decide +kernel
theorem dX4_readsEvent_10 : decode cX4_readsEvent 10 = .ok (.iload_n 2, 1) := by decide +kernel
theorem dX4_readsEvent_11 : decode cX4_readsEvent 11 = .ok (.invokevirtual 82, 3) := by decide +kernel
theorem dX4_readsEvent_14 : decode cX4_readsEvent 14 = .ok (.bipush 47, 2) := by decide +kernel
theorem dX4_readsEvent_16 : decode cX4_readsEvent 16 = .ok (.if_icmp .eq 5, 3) := by decide +kernel
theorem dX4_readsEvent_19 : decode cX4_readsEvent 19 = .ok (.iconst 0, 1) := by decide +kernel
theorem dX4_readsEvent_20 : decode cX4_readsEvent 20 = .ok (.ireturn, 1) := by decide +kernel
theorem dX4_readsEvent_21 : decode cX4_readsEvent 21 = .ok (.aload_n 0, 1) := by decide +kernel
theorem dX4_readsEvent_22 : decode cX4_readsEvent 22 = .ok (.dup, 1) := by decide +kernel
theorem dX4_readsEvent_23 : decode cX4_readsEvent 23 = .ok (.getfield 79, 3) := by decide +kernel
theorem dX4_readsEvent_26 : decode cX4_readsEvent 26 = .ok (.iconst 1, 1) := by decide +kernel
theorem dX4_readsEvent_27 : decode cX4_readsEvent 27 = .ok (.iadd, 1) := by decide +kernel
theorem dX4_readsEvent_28 : decode cX4_readsEvent 28 = .ok (.putfield 79, 3) := by decide +kernel
theorem dX4_readsEvent_31 : decode cX4_readsEvent 31 = .ok (.aload_n 0, 1) := by decide +kernel
theorem dX4_readsEvent_32 : decode cX4_readsEvent 32 = .ok (.iload_n 1, 1) := by decide +kernel
theorem dX4_readsEvent_33 : decode cX4_readsEvent 33 = .ok (.iload_n 2, 1) := by decide +kernel
theorem dX4_readsEvent_34 : decode cX4_readsEvent 34 = .ok (.bipush 9, 2) := by decide +kernel
theorem dX4_readsEvent_36 : decode cX4_readsEvent 36 = .ok (.invokevirtual 89, 3) := by decide +kernel
theorem dX4_readsEvent_39 : decode cX4_readsEvent 39 = .ok (.istore_n 3, 1) := by decide +kernel
theorem dX4_readsEvent_40 : decode cX4_readsEvent 40 = .ok (.iload_n 3, 1) := by decide +kernel
theorem dX4_readsEvent_41 : decode cX4_readsEvent 41 = .ok (.ifCond .ge 5, 3) := by decide +kernel
theorem dX4_readsEvent_44 : decode cX4_readsEvent 44 = .ok (.iconst 0, 1) := by decide +kernel
theorem dX4_readsEvent_45 : decode cX4_readsEvent 45 = .ok (.ireturn, 1) := by decide +kernel
theorem dX4_readsEvent_46 : decode cX4_readsEvent 46 = .ok (.aload_n 0, 1) := by decide +kernel
theorem dX4_readsEvent_47 : decode cX4_readsEvent 47 = .ok (.getfield 22, 3) := by decide +kernel
theorem dX4_readsEvent_50 : decode cX4_readsEvent 50 = .ok (.aload_n 0, 1) := by decide +kernel
theorem dX4_readsEvent_51 : decode cX4_readsEvent 51 = .ok (.getfield 86, 3) := by decide +kernel
theorem dX4_readsEvent_54 : decode cX4_readsEvent 54 = .ok (.iload_n 3, 1) := by decide +kernel
theorem dX4_readsEvent_55 : decode cX4_readsEvent 55 = .ok (.iastore, 1) := by decide +kernel
theorem dX4_readsEvent_56 : decode cX4_readsEvent 56 = .ok (.aload_n 0, 1) := by decide +kernel
theorem dX4_readsEvent_57 : decode cX4_readsEvent 57 = .ok (.dup, 1) := by decide +kernel
theorem dX4_readsEvent_58 : decode cX4_readsEvent 58 = .ok (.getfield 86, 3) := by decide +kernel
theorem dX4_readsEvent_61 : decode cX4_readsEvent 61 = .ok (.iconst 1, 1) := by decide +kernel
theorem dX4_readsEvent_62 : decode cX4_readsEvent 62 = .ok (.iadd, 1) := by decide +kernel
theorem dX4_readsEvent_63 : decode cX4_readsEvent 63 = .ok (.putfield 86, 3) := by decide +kernel
theorem dX4_readsEvent_66 : decode cX4_readsEvent 66 = .ok (.iconst 1, 1) := by decide +kernel
theorem dX4_readsEvent_67 : decode cX4_readsEvent 67 = .ok (.ireturn, 1) := by decide +kernel
set_option maxRecDepth 20000 in
theorem ggX4_readsProphet_X4_codeAt : GoodIn wsX4_readsProphet wsX4_codeAt := goodIn_r _ [10, 2, 11, 19, 20, 21, 22, 23, 24, 25, 26, 27, 28, 29, 30, 31, 32, 33, 34, 35, 36, 37, 38, 39, 40, 41, 42, 43, 44, 45] (by decide +kernel) (by decide +kernel)
set_option maxRecDepth 20000 in
theorem gX4_readsProphet_X4_codeAt : GoodIn wsX4_readsProphet (wsV RX4 82 RX4 yX4_codeAt wsX4_codeAt) := goodIn_app (goodIn_of _ (by decide +kernel)) ggX4_readsProphet_X4_codeAt
set_option maxRecDepth 20000 in
theorem ggX4_readsProphet_X4_figure : GoodIn wsX4_readsProphet wsX4_figure := goodIn_r _ [15, 2, 6, 7, 8, 9, 10, 11, 16, 17, 18, 19, 20, 21, 22, 23, 24, 25, 26, 27, 28, 29, 30, 31, 32, 33, 34, 35, 36, 37, 38, 39, 40, 41, 42, 43, 44, 45] (by decide +kernel) (by decide +kernel)
set_option maxRecDepth 20000 in
theorem gX4_readsProphet_X4_figure : GoodIn wsX4_readsProphet (wsV RX4 89 RX4 yX4_figure wsX4_figure) := goodIn_app (goodIn_of _ (by decide +kernel)) ggX4_readsProphet_X4_figure
theorem dX4_readsProphet_0 : decode cX4_readsProphet 0 = .ok (.aload_n 0, 1) := by decide +kernel
theorem dX4_readsProphet_1 : decode cX4_readsProphet 1 = .ok (.getfield 93, 3) := by decide +kernel
theorem dX4_readsProphet_4 : decode cX4_readsProphet 4 = .ok (.iconst 4, 1) := by decide +kernel
theorem dX4_readsProphet_5 : decode cX4_readsProphet 5 = .ok (.if_icmp .eq 14, 3) := by decide +kernel
theorem dX4_readsProphet_8 : decode cX4_readsProphet 8 = .ok (.aload_n 0, 1) := by decide +kernel
theorem dX4_readsProphet_9 : decode cX4_readsProphet 9 = .ok (.iload_n 1, 1) := by decide +kernel
theorem dX4_readsProphet_10 : decode cX4_readsProphet 10 = .ok (.iload_n 2, 1) := by decide +kernel
theorem dX4_readsProphet_11 : decode cX4_readsProphet 11 = .ok (.invokevirtual 82, 3) := by decide +kernel
theorem dX4_readsProphet_14 : decode cX4_readsProphet 14 = .ok (.bipush 59, 2) := by decide +kernel
theorem dX4_readsProphet_16 : decode cX4_readsProphet 16 = .ok (.if_icmp .eq 5, 3) := by decide +kernel
theorem dX4_readsProphet_19 : decode cX4_readsProphet 19 = .ok (.iconst 0, 1) := by decide +kernel
theorem dX4_readsProphet_20 : decode cX4_readsProphet 20 = .ok (.ireturn, 1) := by decide +kernel
theorem dX4_readsProphet_21 : decode cX4_readsProphet 21 = .ok (.aload_n 0, 1) := by decide +kernel
theorem dX4_readsProphet_22 : decode cX4_readsProphet 22 = .ok (.dup, 1) := by decide +kernel
theorem dX4_readsProphet_23 : decode cX4_readsProphet 23 = .ok (.getfield 79, 3) := by decide +kernel
theorem dX4_readsProphet_26 : decode cX4_readsProphet 26 = .ok (.iconst 1, 1) := by decide +kernel
theorem dX4_readsProphet_27 : decode cX4_readsProphet 27 = .ok (.iadd, 1) := by decide +kernel
theorem dX4_readsProphet_28 : decode cX4_readsProphet 28 = .ok (.putfield 79, 3) := by decide +kernel
theorem dX4_readsProphet_31 : decode cX4_readsProphet 31 = .ok (.aload_n 0, 1) := by decide +kernel
theorem dX4_readsProphet_32 : decode cX4_readsProphet 32 = .ok (.iload_n 1, 1) := by decide +kernel
theorem dX4_readsProphet_33 : decode cX4_readsProphet 33 = .ok (.iload_n 2, 1) := by decide +kernel
theorem dX4_readsProphet_34 : decode cX4_readsProphet 34 = .ok (.invokevirtual 82, 3) := by decide +kernel
theorem dX4_readsProphet_37 : decode cX4_readsProphet 37 = .ok (.istore_n 3, 1) := by decide +kernel
theorem dX4_readsProphet_38 : decode cX4_readsProphet 38 = .ok (.iload_n 3, 1) := by decide +kernel
theorem dX4_readsProphet_39 : decode cX4_readsProphet 39 = .ok (.bipush 109, 2) := by decide +kernel
theorem dX4_readsProphet_41 : decode cX4_readsProphet 41 = .ok (.if_icmp .eq 17, 3) := by decide +kernel
theorem dX4_readsProphet_44 : decode cX4_readsProphet 44 = .ok (.iload_n 3, 1) := by decide +kernel
theorem dX4_readsProphet_45 : decode cX4_readsProphet 45 = .ok (.bipush 115, 2) := by decide +kernel
theorem dX4_readsProphet_47 : decode cX4_readsProphet 47 = .ok (.if_icmp .eq 11, 3) := by decide +kernel
theorem dX4_readsProphet_50 : decode cX4_readsProphet 50 = .ok (.iload_n 3, 1) := by decide +kernel
theorem dX4_readsProphet_51 : decode cX4_readsProphet 51 = .ok (.bipush 108, 2) := by decide +kernel
theorem dX4_readsProphet_53 : decode cX4_readsProphet 53 = .ok (.if_icmp .eq 5, 3) := by decide +kernel
theorem dX4_readsProphet_56 : decode cX4_readsProphet 56 = .ok (.iconst 0, 1) := by decide +kernel
theorem dX4_readsProphet_57 : decode cX4_readsProphet 57 = .ok (.ireturn, 1) := by decide +kernel
theorem dX4_readsProphet_58 : decode cX4_readsProphet 58 = .ok (.aload_n 0, 1) := by decide +kernel
theorem dX4_readsProphet_59 : decode cX4_readsProphet 59 = .ok (.dup, 1) := by decide +kernel
theorem dX4_readsProphet_60 : decode cX4_readsProphet 60 = .ok (.getfield 79, 3) := by decide +kernel
theorem dX4_readsProphet_63 : decode cX4_readsProphet 63 = .ok (.iconst 1, 1) := by decide +kernel
theorem dX4_readsProphet_64 : decode cX4_readsProphet 64 = .ok (.iadd, 1) := by decide +kernel
theorem dX4_readsProphet_65 : decode cX4_readsProphet 65 = .ok (.putfield 79, 3) := by decide +kernel
theorem dX4_readsProphet_68 : decode cX4_readsProphet 68 = .ok (.aload_n 0, 1) := by decide +kernel
theorem dX4_readsProphet_69 : decode cX4_readsProphet 69 = .ok (.iload_n 1, 1) := by decide +kernel
theorem dX4_readsProphet_70 : decode cX4_readsProphet 70 = .ok (.iload_n 2, 1) := by decide +kernel
theorem dX4_readsProphet_71 : decode cX4_readsProphet 71 = .ok (.bipush 9, 2) := by decide +kernel
theorem dX4_readsProphet_73 : decode cX4_readsProphet 73 = .ok (.invokevirtual 89, 3) := by decide +kernel
theorem dX4_readsProphet_76 : decode cX4_readsProphet 76 = .ok (.istore 4, 2) := by decide +kernel
theorem dX4_readsProphet_78 : decode cX4_readsProphet 78 = .ok (.iload 4, 2) := by decide +kernel
theorem dX4_readsProphet_80 : decode cX4_readsProphet 80 = .ok (.ifCond .ge 8, 3) := by decide +kernel
theorem dX4_readsProphet_83 : decode cX4_readsProphet 83 = .ok (.bipush (-9), 2) := by decide +kernel
theorem dX4_readsProphet_85 : decode cX4_readsProphet 85 = .ok (.goto 10, 3) := by decide +kernel
theorem dX4_readsProphet_88 : decode cX4_readsProphet 88 = .ok (.aload_n 0, 1) := by decide +kernel
theorem dX4_readsProphet_89 : decode cX4_readsProphet 89 = .ok (.iload_n 1, 1) := by decide +kernel
theorem dX4_readsProphet_90 : decode cX4_readsProphet 90 = .ok (.iload_n 2, 1) := by decide +kernel
theorem dX4_readsProphet_91 : decode cX4_readsProphet 91 = .ok (.iconst 3, 1) := by decide +kernel
theorem dX4_readsProphet_92 : decode cX4_readsProphet 92 = .ok (.invokevirtual 89, 3) := by decide +kernel
theorem dX4_readsProphet_95 : decode cX4_readsProphet 95 = .ok (.istore 5, 2) := by decide +kernel
theorem dX4_readsProphet_97 : decode cX4_readsProphet 97 = .ok (.iload 5, 2) := by decide +kernel
theorem dX4_readsProphet_99 : decode cX4_readsProphet 99 = .ok (.ifCond .ge 8, 3) := by decide +kernel
theorem dX4_readsProphet_102 : decode cX4_readsProphet 102 = .ok (.bipush (-9), 2) := by decide +kernel
theorem dX4_readsProphet_104 : decode cX4_readsProphet 104 = .ok (.goto 21, 3) := by decide +kernel
theorem dX4_readsProphet_107 : decode cX4_readsProphet 107 = .ok (.aload_n 0, 1) := by decide +kernel
theorem dX4_readsProphet_108 : decode cX4_readsProphet 108 = .ok (.iload_n 1, 1) := by decide +kernel
theorem dX4_readsProphet_109 : decode cX4_readsProphet 109 = .ok (.iload_n 2, 1) := by decide +kernel
theorem dX4_readsProphet_110 : decode cX4_readsProphet 110 = .ok (.iload 5, 2) := by decide +kernel
theorem dX4_readsProphet_112 : decode cX4_readsProphet 112 = .ok (.iconst 3, 1) := by decide +kernel
theorem dX4_readsProphet_113 : decode cX4_readsProphet 113 = .ok (.if_icmp .ne 7, 3) := by decide +kernel
theorem dX4_readsProphet_116 : decode cX4_readsProphet 116 = .ok (.iconst 1, 1) := by decide +kernel
theorem dX4_readsProphet_117 : decode cX4_readsProphet 117 = .ok (.goto 5, 3) := by decide +kernel
theorem dX4_readsProphet_120 : decode cX4_readsProphet 120 = .ok (.bipush 9, 2) := by decide +kernel
theorem dX4_readsProphet_122 : decode cX4_readsProphet 122 = .ok (.invokevirtual 89, 3) := by decide +kernel
theorem dX4_readsProphet_125 : decode cX4_readsProphet 125 = .ok (.istore 6, 2) := by decide +kernel
theorem dX4_readsProphet_127 : decode cX4_readsProphet 127 = .ok (.iload 6, 2) := by decide +kernel
theorem dX4_readsProphet_129 : decode cX4_readsProphet 129 = .ok (.ifCond .ge 5, 3) := by decide +kernel
theorem dX4_readsProphet_132 : decode cX4_readsProphet 132 = .ok (.iconst 0, 1) := by decide +kernel
theorem dX4_readsProphet_133 : decode cX4_readsProphet 133 = .ok (.ireturn, 1) := by decide +kernel
theorem dX4_readsProphet_134 : decode cX4_readsProphet 134 = .ok (.aload_n 0, 1) := by decide +kernel
theorem dX4_readsProphet_135 : decode cX4_readsProphet 135 = .ok (.getfield 25, 3) := by decide +kernel
theorem dX4_readsProphet_138 : decode cX4_readsProphet 138 = .ok (.aload_n 0, 1) := by decide +kernel
theorem dX4_readsProphet_139 : decode cX4_readsProphet 139 = .ok (.getfield 93, 3) := by decide +kernel
theorem dX4_readsProphet_142 : decode cX4_readsProphet 142 = .ok (.iload_n 3, 1) := by decide +kernel
theorem dX4_readsProphet_143 : decode cX4_readsProphet 143 = .ok (.bipush 109, 2) := by decide +kernel
theorem dX4_readsProphet_145 : decode cX4_readsProphet 145 = .ok (.if_icmp .ne 7, 3) := by decide +kernel
theorem dX4_readsProphet_148 : decode cX4_readsProphet 148 = .ok (.iconst 0, 1) := by decide +kernel
theorem dX4_readsProphet_149 : decode cX4_readsProphet 149 = .ok (.goto 14, 3) := by decide +kernel
theorem dX4_readsProphet_152 : decode cX4_readsProphet 152 = .ok (.iload_n 3, 1) := by decide +kernel
theorem dX4_readsProphet_153 : decode cX4_readsProphet 153 = .ok (.bipush 115, 2) := by decide +kernel
theorem dX4_readsProphet_155 : decode cX4_readsProphet 155 = .ok (.if_icmp .ne 7, 3) := by decide +kernel
theorem dX4_readsProphet_158 : decode cX4_readsProphet 158 = .ok (.iconst 1, 1) := by decide +kernel
theorem dX4_readsProphet_159 : decode cX4_readsProphet 159 = .ok (.goto 4, 3) := by decide +kernel
theorem dX4_readsProphet_162 : decode cX4_readsProphet 162 = .ok (.iconst 2, 1) := by decide +kernel
theorem dX4_readsProphet_163 : decode cX4_readsProphet 163 = .ok (.iastore, 1) := by decide +kernel
theorem dX4_readsProphet_164 : decode cX4_readsProphet 164 = .ok (.aload_n 0, 1) := by decide +kernel
theorem dX4_readsProphet_165 : decode cX4_readsProphet 165 = .ok (.getfield 28, 3) := by decide +kernel
theorem dX4_readsProphet_168 : decode cX4_readsProphet 168 = .ok (.aload_n 0, 1) := by decide +kernel
theorem dX4_readsProphet_169 : decode cX4_readsProphet 169 = .ok (.getfield 93, 3) := by decide +kernel
theorem dX4_readsProphet_172 : decode cX4_readsProphet 172 = .ok (.iload 4, 2) := by decide +kernel
theorem dX4_readsProphet_174 : decode cX4_readsProphet 174 = .ok (.iastore, 1) := by decide +kernel
theorem dX4_readsProphet_175 : decode cX4_readsProphet 175 = .ok (.aload_n 0, 1) := by decide +kernel
theorem dX4_readsProphet_176 : decode cX4_readsProphet 176 = .ok (.getfield 31, 3) := by decide +kernel
theorem dX4_readsProphet_179 : decode cX4_readsProphet 179 = .ok (.aload_n 0, 1) := by decide +kernel
theorem dX4_readsProphet_180 : decode cX4_readsProphet 180 = .ok (.getfield 93, 3) := by decide +kernel
theorem dX4_readsProphet_183 : decode cX4_readsProphet 183 = .ok (.bipush 10, 2) := by decide +kernel
theorem dX4_readsProphet_185 : decode cX4_readsProphet 185 = .ok (.iload 5, 2) := by decide +kernel
theorem dX4_readsProphet_187 : decode cX4_readsProphet 187 = .ok (.imul, 1) := by decide +kernel
theorem dX4_readsProphet_188 : decode cX4_readsProphet 188 = .ok (.iload 6, 2) := by decide +kernel
theorem dX4_readsProphet_190 : decode cX4_readsProphet 190 = .ok (.iadd, 1) := by decide +kernel
theorem dX4_readsProphet_191 : decode cX4_readsProphet 191 = .ok (.iastore, 1) := by decide +kernel
theorem dX4_readsProphet_192 : decode cX4_readsProphet 192 = .ok (.aload_n 0, 1) := by decide +kernel
theorem dX4_readsProphet_193 : decode cX4_readsProphet 193 = .ok (.dup, 1) := by decide +kernel
theorem dX4_readsProphet_194 : decode cX4_readsProphet 194 = .ok (.getfield 93, 3) := by decide +kernel
theorem dX4_readsProphet_197 : decode cX4_readsProphet 197 = .ok (.iconst 1, 1) := by decide +kernel
theorem dX4_readsProphet_198 : decode cX4_readsProphet 198 = .ok (.iadd, 1) := by decide +kernel
theorem dX4_readsProphet_199 : decode cX4_readsProphet 199 = .ok (.putfield 93, 3) := by decide +kernel
theorem dX4_readsProphet_202 : decode cX4_readsProphet 202 = .ok (.iconst 1, 1) := by decide +kernel
theorem dX4_readsProphet_203 : decode cX4_readsProphet 203 = .ok (.ireturn, 1) := by decide +kernel
set_option maxRecDepth 20000 in
theorem ggX4_readsOffice_X4_codeAt : GoodIn wsX4_readsOffice wsX4_codeAt := goodIn_r _ [8, 1, 9, 29, 30, 31, 32, 33, 34, 35, 36, 37, 38, 39, 40, 41, 42, 43, 44, 45, 46, 47, 48, 49, 50, 51, 52, 53, 54, 55] (by decide +kernel) (by decide +kernel)
set_option maxRecDepth 20000 in
theorem gX4_readsOffice_X4_codeAt : GoodIn wsX4_readsOffice (wsV RX4 82 RX4 yX4_codeAt wsX4_codeAt) := goodIn_app (goodIn_of _ (by decide +kernel)) ggX4_readsOffice_X4_codeAt
set_option maxRecDepth 20000 in
theorem ggX4_readsOffice_X4_readsEvent : GoodIn wsX4_readsOffice wsX4_readsEvent := goodIn_r _ [13, 2, 1, 14, 4, 5, 6, 7, 8, 9, 15, 16, 17, 18, 19, 20, 21, 29, 30, 31, 32, 33, 34, 35, 36, 37, 38, 39, 40, 41, 42, 43, 44, 45, 46, 47, 48, 49, 50, 51, 52, 53, 54, 55] (by decide +kernel) (by decide +kernel)
set_option maxRecDepth 20000 in
theorem gX4_readsOffice_X4_readsEvent : GoodIn wsX4_readsOffice (wsV RX4 96 RX4 yX4_readsEvent wsX4_readsEvent) := goodIn_app (goodIn_of _ (by decide +kernel)) ggX4_readsOffice_X4_readsEvent
set_option maxRecDepth 20000 in
theorem ggX4_readsOffice_X4_readsProphet : GoodIn wsX4_readsOffice wsX4_readsProphet := goodIn_r _ [25, 3, 1, 26, 27, 28, 4, 5, 6, 7, 8, 9, 15, 16, 17, 18, 19, 20, 21, 29, 30, 31, 32, 33, 34, 35, 36, 37, 38, 39, 40, 41, 42, 43, 44, 45, 46, 47, 48, 49, 50, 51, 52, 53, 54, 55] (by decide +kernel) (by decide +kernel)
set_option maxRecDepth 20000 in
theorem gX4_readsOffice_X4_readsProphet : GoodIn wsX4_readsOffice (wsV RX4 100 RX4 yX4_readsProphet wsX4_readsProphet) := goodIn_app (goodIn_of _ (by decide +kernel)) ggX4_readsOffice_X4_readsProphet
theorem dX4_readsOffice_0 : decode cX4_readsOffice 0 = .ok (.aload_n 0, 1) := by decide +kernel
theorem dX4_readsOffice_1 : decode cX4_readsOffice 1 = .ok (.iconst 0, 1) := by decide +kernel
theorem dX4_readsOffice_2 : decode cX4_readsOffice 2 = .ok (.putfield 79, 3) := by decide +kernel
theorem dX4_readsOffice_5 : decode cX4_readsOffice 5 = .ok (.aload_n 0, 1) := by decide +kernel
theorem dX4_readsOffice_6 : decode cX4_readsOffice 6 = .ok (.iconst 0, 1) := by decide +kernel
theorem dX4_readsOffice_7 : decode cX4_readsOffice 7 = .ok (.putfield 86, 3) := by decide +kernel
theorem dX4_readsOffice_10 : decode cX4_readsOffice 10 = .ok (.aload_n 0, 1) := by decide +kernel
theorem dX4_readsOffice_11 : decode cX4_readsOffice 11 = .ok (.iconst 0, 1) := by decide +kernel
theorem dX4_readsOffice_12 : decode cX4_readsOffice 12 = .ok (.putfield 93, 3) := by decide +kernel
theorem dX4_readsOffice_15 : decode cX4_readsOffice 15 = .ok (.aload_n 0, 1) := by decide +kernel
theorem dX4_readsOffice_16 : decode cX4_readsOffice 16 = .ok (.iload_n 1, 1) := by decide +kernel
theorem dX4_readsOffice_17 : decode cX4_readsOffice 17 = .ok (.iload_n 2, 1) := by decide +kernel
theorem dX4_readsOffice_18 : decode cX4_readsOffice 18 = .ok (.invokevirtual 82, 3) := by decide +kernel
theorem dX4_readsOffice_21 : decode cX4_readsOffice 21 = .ok (.bipush 119, 2) := by decide +kernel
theorem dX4_readsOffice_23 : decode cX4_readsOffice 23 = .ok (.if_icmp .ne 7, 3) := by decide +kernel
theorem dX4_readsOffice_26 : decode cX4_readsOffice 26 = .ok (.iconst 1, 1) := by decide +kernel
theorem dX4_readsOffice_27 : decode cX4_readsOffice 27 = .ok (.goto 4, 3) := by decide +kernel
theorem dX4_readsOffice_30 : decode cX4_readsOffice 30 = .ok (.iconst 0, 1) := by decide +kernel
theorem dX4_readsOffice_31 : decode cX4_readsOffice 31 = .ok (.istore_n 3, 1) := by decide +kernel
theorem dX4_readsOffice_32 : decode cX4_readsOffice 32 = .ok (.aload_n 0, 1) := by decide +kernel
theorem dX4_readsOffice_33 : decode cX4_readsOffice 33 = .ok (.dup, 1) := by decide +kernel
theorem dX4_readsOffice_34 : decode cX4_readsOffice 34 = .ok (.getfield 79, 3) := by decide +kernel
theorem dX4_readsOffice_37 : decode cX4_readsOffice 37 = .ok (.iload_n 3, 1) := by decide +kernel
theorem dX4_readsOffice_38 : decode cX4_readsOffice 38 = .ok (.ifCond .eq 7, 3) := by decide +kernel
theorem dX4_readsOffice_41 : decode cX4_readsOffice 41 = .ok (.iconst 1, 1) := by decide +kernel
theorem dX4_readsOffice_42 : decode cX4_readsOffice 42 = .ok (.goto 4, 3) := by decide +kernel
theorem dX4_readsOffice_45 : decode cX4_readsOffice 45 = .ok (.iconst 0, 1) := by decide +kernel
theorem dX4_readsOffice_46 : decode cX4_readsOffice 46 = .ok (.iadd, 1) := by decide +kernel
theorem dX4_readsOffice_47 : decode cX4_readsOffice 47 = .ok (.putfield 79, 3) := by decide +kernel
theorem dX4_readsOffice_50 : decode cX4_readsOffice 50 = .ok (.iload_n 3, 1) := by decide +kernel
theorem dX4_readsOffice_51 : decode cX4_readsOffice 51 = .ok (.ifCond .eq 31, 3) := by decide +kernel
theorem dX4_readsOffice_54 : decode cX4_readsOffice 54 = .ok (.aload_n 0, 1) := by decide +kernel
theorem dX4_readsOffice_55 : decode cX4_readsOffice 55 = .ok (.getfield 86, 3) := by decide +kernel
theorem dX4_readsOffice_58 : decode cX4_readsOffice 58 = .ok (.ifCond .eq 14, 3) := by decide +kernel
theorem dX4_readsOffice_61 : decode cX4_readsOffice 61 = .ok (.aload_n 0, 1) := by decide +kernel
theorem dX4_readsOffice_62 : decode cX4_readsOffice 62 = .ok (.iload_n 1, 1) := by decide +kernel
theorem dX4_readsOffice_63 : decode cX4_readsOffice 63 = .ok (.iload_n 2, 1) := by decide +kernel
theorem dX4_readsOffice_64 : decode cX4_readsOffice 64 = .ok (.invokevirtual 82, 3) := by decide +kernel
theorem dX4_readsOffice_67 : decode cX4_readsOffice 67 = .ok (.bipush 47, 2) := by decide +kernel
theorem dX4_readsOffice_69 : decode cX4_readsOffice 69 = .ok (.if_icmp .ne 13, 3) := by decide +kernel
theorem dX4_readsOffice_72 : decode cX4_readsOffice 72 = .ok (.aload_n 0, 1) := by decide +kernel
theorem dX4_readsOffice_73 : decode cX4_readsOffice 73 = .ok (.iload_n 1, 1) := by decide +kernel
theorem dX4_readsOffice_74 : decode cX4_readsOffice 74 = .ok (.iload_n 2, 1) := by decide +kernel
theorem dX4_readsOffice_75 : decode cX4_readsOffice 75 = .ok (.invokevirtual 96, 3) := by decide +kernel
theorem dX4_readsOffice_78 : decode cX4_readsOffice 78 = .ok (.istore_n 3, 1) := by decide +kernel
theorem dX4_readsOffice_79 : decode cX4_readsOffice 79 = .ok (.goto (-29), 3) := by decide +kernel
theorem dX4_readsOffice_82 : decode cX4_readsOffice 82 = .ok (.iload_n 3, 1) := by decide +kernel
theorem dX4_readsOffice_83 : decode cX4_readsOffice 83 = .ok (.ifCond .eq 28, 3) := by decide +kernel
theorem dX4_readsOffice_86 : decode cX4_readsOffice 86 = .ok (.aload_n 0, 1) := by decide +kernel
theorem dX4_readsOffice_87 : decode cX4_readsOffice 87 = .ok (.getfield 93, 3) := by decide +kernel
theorem dX4_readsOffice_90 : decode cX4_readsOffice 90 = .ok (.ifCond .eq 11, 3) := by decide +kernel
theorem dX4_readsOffice_93 : decode cX4_readsOffice 93 = .ok (.aload_n 0, 1) := by decide +kernel
theorem dX4_readsOffice_94 : decode cX4_readsOffice 94 = .ok (.getfield 79, 3) := by decide +kernel
theorem dX4_readsOffice_97 : decode cX4_readsOffice 97 = .ok (.iload_n 2, 1) := by decide +kernel
theorem dX4_readsOffice_98 : decode cX4_readsOffice 98 = .ok (.if_icmp .ge 13, 3) := by decide +kernel
theorem dX4_readsOffice_101 : decode cX4_readsOffice 101 = .ok (.aload_n 0, 1) := by decide +kernel
theorem dX4_readsOffice_102 : decode cX4_readsOffice 102 = .ok (.iload_n 1, 1) := by decide +kernel
theorem dX4_readsOffice_103 : decode cX4_readsOffice 103 = .ok (.iload_n 2, 1) := by decide +kernel
theorem dX4_readsOffice_104 : decode cX4_readsOffice 104 = .ok (.invokevirtual 100, 3) := by decide +kernel
theorem dX4_readsOffice_107 : decode cX4_readsOffice 107 = .ok (.istore_n 3, 1) := by decide +kernel
theorem dX4_readsOffice_108 : decode cX4_readsOffice 108 = .ok (.goto (-26), 3) := by decide +kernel
theorem dX4_readsOffice_111 : decode cX4_readsOffice 111 = .ok (.iload_n 3, 1) := by decide +kernel
theorem dX4_readsOffice_112 : decode cX4_readsOffice 112 = .ok (.ireturn, 1) := by decide +kernel
set_option maxRecDepth 20000 in
theorem ggX4_cellsBarred_X4_failed : GoodIn wsX4_cellsBarred wsX4_failed := goodIn_r _ [7, 8, 12, 13, 14, 15, 16, 17, 18, 19, 20, 21, 22, 23, 24, 25, 26, 27, 28, 29, 30, 31, 32, 33, 34, 35, 36, 37, 38] (by decide +kernel) (by decide +kernel)
set_option maxRecDepth 20000 in
theorem gX4_cellsBarred_X4_failed : GoodIn wsX4_cellsBarred (wsV RX4 103 RX4 yX4_failed wsX4_failed) := goodIn_app (goodIn_of _ (by decide +kernel)) ggX4_cellsBarred_X4_failed
set_option maxRecDepth 20000 in
theorem ggX4_cellsBarred_X4_isBeyond : GoodIn wsX4_cellsBarred wsX4_isBeyond := goodIn_r _ [11] (by decide +kernel) (by decide +kernel)
set_option maxRecDepth 20000 in
theorem gX4_cellsBarred_X4_isBeyond : GoodIn wsX4_cellsBarred (va_wsS RX4 107 yX4_isBeyond wsX4_isBeyond) := goodIn_app (goodIn_of _ (by decide +kernel)) ggX4_cellsBarred_X4_isBeyond
theorem dX4_cellsBarred_0 : decode cX4_cellsBarred 0 = .ok (.aload_n 0, 1) := by decide +kernel
theorem dX4_cellsBarred_1 : decode cX4_cellsBarred 1 = .ok (.getfield 43, 3) := by decide +kernel
theorem dX4_cellsBarred_4 : decode cX4_cellsBarred 4 = .ok (.iload_n 1, 1) := by decide +kernel
theorem dX4_cellsBarred_5 : decode cX4_cellsBarred 5 = .ok (.iaload, 1) := by decide +kernel
theorem dX4_cellsBarred_6 : decode cX4_cellsBarred 6 = .ok (.ifCond .lt 19, 3) := by decide +kernel
theorem dX4_cellsBarred_9 : decode cX4_cellsBarred 9 = .ok (.aload_n 0, 1) := by decide +kernel
theorem dX4_cellsBarred_10 : decode cX4_cellsBarred 10 = .ok (.getfield 46, 3) := by decide +kernel
theorem dX4_cellsBarred_13 : decode cX4_cellsBarred 13 = .ok (.iload_n 1, 1) := by decide +kernel
theorem dX4_cellsBarred_14 : decode cX4_cellsBarred 14 = .ok (.iaload, 1) := by decide +kernel
theorem dX4_cellsBarred_15 : decode cX4_cellsBarred 15 = .ok (.iload_n 2, 1) := by decide +kernel
theorem dX4_cellsBarred_16 : decode cX4_cellsBarred 16 = .ok (.if_icmp .eq 9, 3) := by decide +kernel
theorem dX4_cellsBarred_19 : decode cX4_cellsBarred 19 = .ok (.aload_n 0, 1) := by decide +kernel
theorem dX4_cellsBarred_20 : decode cX4_cellsBarred 20 = .ok (.iconst 2, 1) := by decide +kernel
theorem dX4_cellsBarred_21 : decode cX4_cellsBarred 21 = .ok (.invokevirtual 103, 3) := by decide +kernel
theorem dX4_cellsBarred_24 : decode cX4_cellsBarred 24 = .ok (.ireturn, 1) := by decide +kernel
theorem dX4_cellsBarred_25 : decode cX4_cellsBarred 25 = .ok (.aload_n 0, 1) := by decide +kernel
theorem dX4_cellsBarred_26 : decode cX4_cellsBarred 26 = .ok (.getfield 43, 3) := by decide +kernel
theorem dX4_cellsBarred_29 : decode cX4_cellsBarred 29 = .ok (.iload_n 1, 1) := by decide +kernel
theorem dX4_cellsBarred_30 : decode cX4_cellsBarred 30 = .ok (.iaload, 1) := by decide +kernel
theorem dX4_cellsBarred_31 : decode cX4_cellsBarred 31 = .ok (.ifCond .ge 9, 3) := by decide +kernel
theorem dX4_cellsBarred_34 : decode cX4_cellsBarred 34 = .ok (.aload_n 0, 1) := by decide +kernel
theorem dX4_cellsBarred_35 : decode cX4_cellsBarred 35 = .ok (.iconst 1, 1) := by decide +kernel
theorem dX4_cellsBarred_36 : decode cX4_cellsBarred 36 = .ok (.invokevirtual 103, 3) := by decide +kernel
theorem dX4_cellsBarred_39 : decode cX4_cellsBarred 39 = .ok (.ireturn, 1) := by decide +kernel
theorem dX4_cellsBarred_40 : decode cX4_cellsBarred 40 = .ok (.lload 4, 2) := by decide +kernel
theorem dX4_cellsBarred_42 : decode cX4_cellsBarred 42 = .ok (.lconst 0, 1) := by decide +kernel
theorem dX4_cellsBarred_43 : decode cX4_cellsBarred 43 = .ok (.lcmp, 1) := by decide +kernel
theorem dX4_cellsBarred_44 : decode cX4_cellsBarred 44 = .ok (.ifCond .ge 9, 3) := by decide +kernel
theorem dX4_cellsBarred_47 : decode cX4_cellsBarred 47 = .ok (.aload_n 0, 1) := by decide +kernel
theorem dX4_cellsBarred_48 : decode cX4_cellsBarred 48 = .ok (.iconst 4, 1) := by decide +kernel
theorem dX4_cellsBarred_49 : decode cX4_cellsBarred 49 = .ok (.invokevirtual 103, 3) := by decide +kernel
theorem dX4_cellsBarred_52 : decode cX4_cellsBarred 52 = .ok (.ireturn, 1) := by decide +kernel
theorem dX4_cellsBarred_53 : decode cX4_cellsBarred 53 = .ok (.iload_n 3, 1) := by decide +kernel
theorem dX4_cellsBarred_54 : decode cX4_cellsBarred 54 = .ok (.lload 4, 2) := by decide +kernel
theorem dX4_cellsBarred_56 : decode cX4_cellsBarred 56 = .ok (.aload_n 0, 1) := by decide +kernel
theorem dX4_cellsBarred_57 : decode cX4_cellsBarred 57 = .ok (.getfield 43, 3) := by decide +kernel
theorem dX4_cellsBarred_60 : decode cX4_cellsBarred 60 = .ok (.iload_n 1, 1) := by decide +kernel
theorem dX4_cellsBarred_61 : decode cX4_cellsBarred 61 = .ok (.iaload, 1) := by decide +kernel
theorem dX4_cellsBarred_62 : decode cX4_cellsBarred 62 = .ok (.invokestatic 107, 3) := by decide +kernel
theorem dX4_cellsBarred_65 : decode cX4_cellsBarred 65 = .ok (.ifCond .eq 11, 3) := by decide +kernel
theorem dX4_cellsBarred_68 : decode cX4_cellsBarred 68 = .ok (.aload_n 0, 1) := by decide +kernel
theorem dX4_cellsBarred_69 : decode cX4_cellsBarred 69 = .ok (.iconst 3, 1) := by decide +kernel
theorem dX4_cellsBarred_70 : decode cX4_cellsBarred 70 = .ok (.invokevirtual 103, 3) := by decide +kernel
theorem dX4_cellsBarred_73 : decode cX4_cellsBarred 73 = .ok (.goto 4, 3) := by decide +kernel
theorem dX4_cellsBarred_76 : decode cX4_cellsBarred 76 = .ok (.iconst 0, 1) := by decide +kernel
theorem dX4_cellsBarred_77 : decode cX4_cellsBarred 77 = .ok (.ireturn, 1) := by decide +kernel
set_option maxRecDepth 20000 in
theorem ggX4_office_X4_noSheet : GoodIn wsX4_office wsX4_noSheet := goodIn_r _ [19, 20, 21, 22, 18, 23] (by decide +kernel) (by decide +kernel)
set_option maxRecDepth 20000 in
theorem gX4_office_X4_noSheet : GoodIn wsX4_office (va_wsS RX4 111 yX4_noSheet wsX4_noSheet) := goodIn_app (goodIn_of _ (by decide +kernel)) ggX4_office_X4_noSheet
set_option maxRecDepth 20000 in
theorem ggX4_office_X4_refused : GoodIn wsX4_office wsX4_refused := goodIn_r _ [27, 28, 63, 64, 65, 66, 67, 68, 69, 70, 71, 72, 73, 74, 75, 76, 77, 78, 79, 80, 81, 82, 83, 84, 85, 86, 87, 88, 89] (by decide +kernel) (by decide +kernel)
set_option maxRecDepth 20000 in
theorem gX4_office_X4_refused : GoodIn wsX4_office (wsV RX4 115 RX4 yX4_refused wsX4_refused) := goodIn_app (goodIn_of _ (by decide +kernel)) ggX4_office_X4_refused
set_option maxRecDepth 20000 in
theorem ggX4_office_X4_in : GoodIn wsX4_office wsX4_in := goodIn_r _ [23] (by decide +kernel) (by decide +kernel)
set_option maxRecDepth 20000 in
theorem gX4_office_X4_in : GoodIn wsX4_office (va_wsS RX4 68 yX4_in wsX4_in) := goodIn_app (goodIn_of _ (by decide +kernel)) ggX4_office_X4_in
set_option maxRecDepth 20000 in
theorem ggX4_office_X4_cellsBarred : GoodIn wsX4_office wsX4_cellsBarred := goodIn_r _ [32, 33, 34, 35, 36, 37, 18, 38, 28, 39, 40, 41, 63, 64, 65, 66, 67, 68, 69, 70, 71, 72, 73, 74, 75, 76, 77, 78, 79, 80, 81, 82, 83, 84, 85, 86, 87, 88, 89] (by decide +kernel) (by decide +kernel)
set_option maxRecDepth 20000 in
theorem gX4_office_X4_cellsBarred : GoodIn wsX4_office (wsV RX4 120 RX4 yX4_cellsBarred wsX4_cellsBarred) := goodIn_app (goodIn_of _ (by decide +kernel)) ggX4_office_X4_cellsBarred
set_option maxRecDepth 20000 in
theorem ggX4_office_X4_readsOffice : GoodIn wsX4_office wsX4_readsOffice := goodIn_r _ [45, 2, 3, 5, 46, 47, 48, 18, 49, 50, 51, 52, 53, 54, 8, 55, 56, 57, 58, 21, 22, 23, 59, 60, 61, 62, 10, 12, 14, 63, 64, 65, 66, 67, 68, 69, 70, 71, 72, 73, 74, 75, 76, 77, 78, 79, 80, 81, 82, 83, 84, 85, 86, 87, 88, 89] (by decide +kernel) (by decide +kernel)
set_option maxRecDepth 20000 in
theorem gX4_office_X4_readsOffice : GoodIn wsX4_office (wsV RX4 124 RX4 yX4_readsOffice wsX4_readsOffice) := goodIn_app (goodIn_of _ (by decide +kernel)) ggX4_office_X4_readsOffice
theorem dX4_office_0 : decode cX4_office 0 = .ok (.iload_n 1, 1) := by decide +kernel
theorem dX4_office_1 : decode cX4_office 1 = .ok (.invokestatic 111, 3) := by decide +kernel
theorem dX4_office_4 : decode cX4_office 4 = .ok (.ifCond .eq 9, 3) := by decide +kernel
theorem dX4_office_7 : decode cX4_office 7 = .ok (.aload_n 0, 1) := by decide +kernel
theorem dX4_office_8 : decode cX4_office 8 = .ok (.iconst (-1), 1) := by decide +kernel
theorem dX4_office_9 : decode cX4_office 9 = .ok (.invokevirtual 115, 3) := by decide +kernel
theorem dX4_office_12 : decode cX4_office 12 = .ok (.ireturn, 1) := by decide +kernel
theorem dX4_office_13 : decode cX4_office 13 = .ok (.iload_n 2, 1) := by decide +kernel
theorem dX4_office_14 : decode cX4_office 14 = .ok (.i2l, 1) := by decide +kernel
theorem dX4_office_15 : decode cX4_office 15 = .ok (.lconst 0, 1) := by decide +kernel
theorem dX4_office_16 : decode cX4_office 16 = .ok (.ldc2_w 118, 3) := by decide +kernel
theorem dX4_office_19 : decode cX4_office 19 = .ok (.invokestatic 68, 3) := by decide +kernel
theorem dX4_office_22 : decode cX4_office 22 = .ok (.ifCond .ne 10, 3) := by decide +kernel
theorem dX4_office_25 : decode cX4_office 25 = .ok (.aload_n 0, 1) := by decide +kernel
theorem dX4_office_26 : decode cX4_office 26 = .ok (.bipush (-2), 2) := by decide +kernel
theorem dX4_office_28 : decode cX4_office 28 = .ok (.invokevirtual 115, 3) := by decide +kernel
theorem dX4_office_31 : decode cX4_office 31 = .ok (.ireturn, 1) := by decide +kernel
theorem dX4_office_32 : decode cX4_office 32 = .ok (.aload_n 0, 1) := by decide +kernel
theorem dX4_office_33 : decode cX4_office 33 = .ok (.iload_n 1, 1) := by decide +kernel
theorem dX4_office_34 : decode cX4_office 34 = .ok (.iload_n 2, 1) := by decide +kernel
theorem dX4_office_35 : decode cX4_office 35 = .ok (.iload_n 3, 1) := by decide +kernel
theorem dX4_office_36 : decode cX4_office 36 = .ok (.iload 4, 2) := by decide +kernel
theorem dX4_office_38 : decode cX4_office 38 = .ok (.i2l, 1) := by decide +kernel
theorem dX4_office_39 : decode cX4_office 39 = .ok (.invokevirtual 120, 3) := by decide +kernel
theorem dX4_office_42 : decode cX4_office 42 = .ok (.istore 5, 2) := by decide +kernel
theorem dX4_office_44 : decode cX4_office 44 = .ok (.iload 5, 2) := by decide +kernel
theorem dX4_office_46 : decode cX4_office 46 = .ok (.ifCond .ge 6, 3) := by decide +kernel
theorem dX4_office_49 : decode cX4_office 49 = .ok (.iload 5, 2) := by decide +kernel
theorem dX4_office_51 : decode cX4_office 51 = .ok (.ireturn, 1) := by decide +kernel
theorem dX4_office_52 : decode cX4_office 52 = .ok (.aload_n 0, 1) := by decide +kernel
theorem dX4_office_53 : decode cX4_office 53 = .ok (.bipush 60, 2) := by decide +kernel
theorem dX4_office_55 : decode cX4_office 55 = .ok (.iload_n 1, 1) := by decide +kernel
theorem dX4_office_56 : decode cX4_office 56 = .ok (.imul, 1) := by decide +kernel
theorem dX4_office_57 : decode cX4_office 57 = .ok (.iload_n 3, 1) := by decide +kernel
theorem dX4_office_58 : decode cX4_office 58 = .ok (.iadd, 1) := by decide +kernel
theorem dX4_office_59 : decode cX4_office 59 = .ok (.iload 4, 2) := by decide +kernel
theorem dX4_office_61 : decode cX4_office 61 = .ok (.invokevirtual 124, 3) := by decide +kernel
theorem dX4_office_64 : decode cX4_office 64 = .ok (.ifCond .ne 15, 3) := by decide +kernel
theorem dX4_office_67 : decode cX4_office 67 = .ok (.aload_n 0, 1) := by decide +kernel
theorem dX4_office_68 : decode cX4_office 68 = .ok (.bipush (-100), 2) := by decide +kernel
theorem dX4_office_70 : decode cX4_office 70 = .ok (.aload_n 0, 1) := by decide +kernel
theorem dX4_office_71 : decode cX4_office 71 = .ok (.getfield 79, 3) := by decide +kernel
theorem dX4_office_74 : decode cX4_office 74 = .ok (.isub, 1) := by decide +kernel
theorem dX4_office_75 : decode cX4_office 75 = .ok (.invokevirtual 115, 3) := by decide +kernel
theorem dX4_office_78 : decode cX4_office 78 = .ok (.ireturn, 1) := by decide +kernel
theorem dX4_office_79 : decode cX4_office 79 = .ok (.aload_n 0, 1) := by decide +kernel
theorem dX4_office_80 : decode cX4_office 80 = .ok (.aload_n 0, 1) := by decide +kernel
theorem dX4_office_81 : decode cX4_office 81 = .ok (.getfield 86, 3) := by decide +kernel
theorem dX4_office_84 : decode cX4_office 84 = .ok (.putfield 65, 3) := by decide +kernel
theorem dX4_office_87 : decode cX4_office 87 = .ok (.aload_n 0, 1) := by decide +kernel
theorem dX4_office_88 : decode cX4_office 88 = .ok (.aload_n 0, 1) := by decide +kernel
theorem dX4_office_89 : decode cX4_office 89 = .ok (.getfield 93, 3) := by decide +kernel
theorem dX4_office_92 : decode cX4_office 92 = .ok (.putfield 72, 3) := by decide +kernel
theorem dX4_office_95 : decode cX4_office 95 = .ok (.iconst 0, 1) := by decide +kernel
theorem dX4_office_96 : decode cX4_office 96 = .ok (.istore 6, 2) := by decide +kernel
theorem dX4_office_98 : decode cX4_office 98 = .ok (.iload 6, 2) := by decide +kernel
theorem dX4_office_100 : decode cX4_office 100 = .ok (.aload_n 0, 1) := by decide +kernel
theorem dX4_office_101 : decode cX4_office 101 = .ok (.getfield 65, 3) := by decide +kernel
theorem dX4_office_104 : decode cX4_office 104 = .ok (.if_icmp .ge 23, 3) := by decide +kernel
theorem dX4_office_107 : decode cX4_office 107 = .ok (.aload_n 0, 1) := by decide +kernel
theorem dX4_office_108 : decode cX4_office 108 = .ok (.getfield 7, 3) := by decide +kernel
theorem dX4_office_111 : decode cX4_office 111 = .ok (.iload 6, 2) := by decide +kernel
theorem dX4_office_113 : decode cX4_office 113 = .ok (.aload_n 0, 1) := by decide +kernel
theorem dX4_office_114 : decode cX4_office 114 = .ok (.getfield 22, 3) := by decide +kernel
theorem dX4_office_117 : decode cX4_office 117 = .ok (.iload 6, 2) := by decide +kernel
theorem dX4_office_119 : decode cX4_office 119 = .ok (.iaload, 1) := by decide +kernel
theorem dX4_office_120 : decode cX4_office 120 = .ok (.iastore, 1) := by decide +kernel
theorem dX4_office_121 : decode cX4_office 121 = .ok (.iinc 6 1, 3) := by decide +kernel
theorem dX4_office_124 : decode cX4_office 124 = .ok (.goto (-26), 3) := by decide +kernel
theorem dX4_office_127 : decode cX4_office 127 = .ok (.iconst 0, 1) := by decide +kernel
theorem dX4_office_128 : decode cX4_office 128 = .ok (.istore 6, 2) := by decide +kernel
theorem dX4_office_130 : decode cX4_office 130 = .ok (.iload 6, 2) := by decide +kernel
theorem dX4_office_132 : decode cX4_office 132 = .ok (.aload_n 0, 1) := by decide +kernel
theorem dX4_office_133 : decode cX4_office 133 = .ok (.getfield 72, 3) := by decide +kernel
theorem dX4_office_136 : decode cX4_office 136 = .ok (.if_icmp .ge 51, 3) := by decide +kernel
theorem dX4_office_139 : decode cX4_office 139 = .ok (.aload_n 0, 1) := by decide +kernel
theorem dX4_office_140 : decode cX4_office 140 = .ok (.getfield 13, 3) := by decide +kernel
theorem dX4_office_143 : decode cX4_office 143 = .ok (.iload 6, 2) := by decide +kernel
theorem dX4_office_145 : decode cX4_office 145 = .ok (.aload_n 0, 1) := by decide +kernel
theorem dX4_office_146 : decode cX4_office 146 = .ok (.getfield 25, 3) := by decide +kernel
theorem dX4_office_149 : decode cX4_office 149 = .ok (.iload 6, 2) := by decide +kernel
theorem dX4_office_151 : decode cX4_office 151 = .ok (.iaload, 1) := by decide +kernel
theorem dX4_office_152 : decode cX4_office 152 = .ok (.iastore, 1) := by decide +kernel
theorem dX4_office_153 : decode cX4_office 153 = .ok (.aload_n 0, 1) := by decide +kernel
theorem dX4_office_154 : decode cX4_office 154 = .ok (.getfield 16, 3) := by decide +kernel
theorem dX4_office_157 : decode cX4_office 157 = .ok (.iload 6, 2) := by decide +kernel
theorem dX4_office_159 : decode cX4_office 159 = .ok (.aload_n 0, 1) := by decide +kernel
theorem dX4_office_160 : decode cX4_office 160 = .ok (.getfield 28, 3) := by decide +kernel
theorem dX4_office_163 : decode cX4_office 163 = .ok (.iload 6, 2) := by decide +kernel
theorem dX4_office_165 : decode cX4_office 165 = .ok (.iaload, 1) := by decide +kernel
theorem dX4_office_166 : decode cX4_office 166 = .ok (.iastore, 1) := by decide +kernel
theorem dX4_office_167 : decode cX4_office 167 = .ok (.aload_n 0, 1) := by decide +kernel
theorem dX4_office_168 : decode cX4_office 168 = .ok (.getfield 19, 3) := by decide +kernel
theorem dX4_office_171 : decode cX4_office 171 = .ok (.iload 6, 2) := by decide +kernel
theorem dX4_office_173 : decode cX4_office 173 = .ok (.aload_n 0, 1) := by decide +kernel
theorem dX4_office_174 : decode cX4_office 174 = .ok (.getfield 31, 3) := by decide +kernel
theorem dX4_office_177 : decode cX4_office 177 = .ok (.iload 6, 2) := by decide +kernel
theorem dX4_office_179 : decode cX4_office 179 = .ok (.iaload, 1) := by decide +kernel
theorem dX4_office_180 : decode cX4_office 180 = .ok (.iastore, 1) := by decide +kernel
theorem dX4_office_181 : decode cX4_office 181 = .ok (.iinc 6 1, 3) := by decide +kernel
theorem dX4_office_184 : decode cX4_office 184 = .ok (.goto (-54), 3) := by decide +kernel
theorem dX4_office_187 : decode cX4_office 187 = .ok (.aload_n 0, 1) := by decide +kernel
theorem dX4_office_188 : decode cX4_office 188 = .ok (.iconst 0, 1) := by decide +kernel
theorem dX4_office_189 : decode cX4_office 189 = .ok (.putfield 127, 3) := by decide +kernel
theorem dX4_office_192 : decode cX4_office 192 = .ok (.aload_n 0, 1) := by decide +kernel
theorem dX4_office_193 : decode cX4_office 193 = .ok (.aload_n 0, 1) := by decide +kernel
theorem dX4_office_194 : decode cX4_office 194 = .ok (.getfield 72, 3) := by decide +kernel
theorem dX4_office_197 : decode cX4_office 197 = .ok (.invokevirtual 115, 3) := by decide +kernel
theorem dX4_office_200 : decode cX4_office 200 = .ok (.ireturn, 1) := by decide +kernel
set_option maxRecDepth 20000 in
theorem ggX4_chance_X4_noEvent : GoodIn wsX4_chance wsX4_noEvent := goodIn_r _ [6, 7, 8, 9, 5, 10, 11, 12, 13, 14, 15, 16, 17, 18, 19, 20, 21, 22, 23, 24, 25, 26, 27, 28, 29, 30, 31, 32, 33, 34, 35, 36, 37] (by decide +kernel) (by decide +kernel)
set_option maxRecDepth 20000 in
theorem gX4_chance_X4_noEvent : GoodIn wsX4_chance (wsV RX4 130 RX4 yX4_noEvent wsX4_noEvent) := goodIn_app (goodIn_of _ (by decide +kernel)) ggX4_chance_X4_noEvent
theorem dX4_chance_0 : decode cX4_chance 0 = .ok (.aload_n 0, 1) := by decide +kernel
theorem dX4_chance_1 : decode cX4_chance 1 = .ok (.iload_n 1, 1) := by decide +kernel
theorem dX4_chance_2 : decode cX4_chance 2 = .ok (.invokevirtual 130, 3) := by decide +kernel
theorem dX4_chance_5 : decode cX4_chance 5 = .ok (.ifCond .eq 7, 3) := by decide +kernel
theorem dX4_chance_8 : decode cX4_chance 8 = .ok (.iconst (-1), 1) := by decide +kernel
theorem dX4_chance_9 : decode cX4_chance 9 = .ok (.goto 9, 3) := by decide +kernel
theorem dX4_chance_12 : decode cX4_chance 12 = .ok (.aload_n 0, 1) := by decide +kernel
theorem dX4_chance_13 : decode cX4_chance 13 = .ok (.getfield 7, 3) := by decide +kernel
theorem dX4_chance_16 : decode cX4_chance 16 = .ok (.iload_n 1, 1) := by decide +kernel
theorem dX4_chance_17 : decode cX4_chance 17 = .ok (.iaload, 1) := by decide +kernel
theorem dX4_chance_18 : decode cX4_chance 18 = .ok (.ireturn, 1) := by decide +kernel
set_option maxRecDepth 20000 in
theorem ggX4_fate_X4_noEvent : GoodIn wsX4_fate wsX4_noEvent := goodIn_r _ [7, 8, 9, 10, 6, 11, 12, 13, 14, 15, 16, 17, 18, 19, 20, 21, 22, 23, 24, 25, 26, 27, 28, 29, 30, 31, 32, 33, 34, 35, 36, 37, 38] (by decide +kernel) (by decide +kernel)
set_option maxRecDepth 20000 in
theorem gX4_fate_X4_noEvent : GoodIn wsX4_fate (wsV RX4 130 RX4 yX4_noEvent wsX4_noEvent) := goodIn_app (goodIn_of _ (by decide +kernel)) ggX4_fate_X4_noEvent
set_option maxRecDepth 20000 in
theorem ggX4_fate_X4_in : GoodIn wsX4_fate wsX4_in := goodIn_r _ [11] (by decide +kernel) (by decide +kernel)
set_option maxRecDepth 20000 in
theorem gX4_fate_X4_in : GoodIn wsX4_fate (va_wsS RX4 68 yX4_in wsX4_in) := goodIn_app (goodIn_of _ (by decide +kernel)) ggX4_fate_X4_in
theorem dX4_fate_0 : decode cX4_fate 0 = .ok (.aload_n 0, 1) := by decide +kernel
theorem dX4_fate_1 : decode cX4_fate 1 = .ok (.iload_n 1, 1) := by decide +kernel
theorem dX4_fate_2 : decode cX4_fate 2 = .ok (.invokevirtual 130, 3) := by decide +kernel
theorem dX4_fate_5 : decode cX4_fate 5 = .ok (.ifCond .eq 5, 3) := by decide +kernel
theorem dX4_fate_8 : decode cX4_fate 8 = .ok (.iconst (-1), 1) := by decide +kernel
theorem dX4_fate_9 : decode cX4_fate 9 = .ok (.ireturn, 1) := by decide +kernel
theorem dX4_fate_10 : decode cX4_fate 10 = .ok (.iload_n 2, 1) := by decide +kernel
theorem dX4_fate_11 : decode cX4_fate 11 = .ok (.i2l, 1) := by decide +kernel
theorem dX4_fate_12 : decode cX4_fate 12 = .ok (.lconst 0, 1) := by decide +kernel
theorem dX4_fate_13 : decode cX4_fate 13 = .ok (.ldc2_w 133, 3) := by decide +kernel
theorem dX4_fate_16 : decode cX4_fate 16 = .ok (.invokestatic 68, 3) := by decide +kernel
theorem dX4_fate_19 : decode cX4_fate 19 = .ok (.ifCond .ne 6, 3) := by decide +kernel
theorem dX4_fate_22 : decode cX4_fate 22 = .ok (.bipush (-2), 2) := by decide +kernel
theorem dX4_fate_24 : decode cX4_fate 24 = .ok (.ireturn, 1) := by decide +kernel
theorem dX4_fate_25 : decode cX4_fate 25 = .ok (.aload_n 0, 1) := by decide +kernel
theorem dX4_fate_26 : decode cX4_fate 26 = .ok (.getfield 7, 3) := by decide +kernel
theorem dX4_fate_29 : decode cX4_fate 29 = .ok (.iload_n 1, 1) := by decide +kernel
theorem dX4_fate_30 : decode cX4_fate 30 = .ok (.iaload, 1) := by decide +kernel
theorem dX4_fate_31 : decode cX4_fate 31 = .ok (.istore_n 3, 1) := by decide +kernel
theorem dX4_fate_32 : decode cX4_fate 32 = .ok (.aload_n 0, 1) := by decide +kernel
theorem dX4_fate_33 : decode cX4_fate 33 = .ok (.getfield 7, 3) := by decide +kernel
theorem dX4_fate_36 : decode cX4_fate 36 = .ok (.iload_n 1, 1) := by decide +kernel
theorem dX4_fate_37 : decode cX4_fate 37 = .ok (.iload_n 2, 1) := by decide +kernel
theorem dX4_fate_38 : decode cX4_fate 38 = .ok (.iastore, 1) := by decide +kernel
theorem dX4_fate_39 : decode cX4_fate 39 = .ok (.iload_n 3, 1) := by decide +kernel
theorem dX4_fate_40 : decode cX4_fate 40 = .ok (.ireturn, 1) := by decide +kernel
theorem dX4_paysOf_0 : decode cX4_paysOf 0 = .ok (.aload_n 0, 1) := by decide +kernel
theorem dX4_paysOf_1 : decode cX4_paysOf 1 = .ok (.getfield 16, 3) := by decide +kernel
theorem dX4_paysOf_4 : decode cX4_paysOf 4 = .ok (.iload_n 1, 1) := by decide +kernel
theorem dX4_paysOf_5 : decode cX4_paysOf 5 = .ok (.iaload, 1) := by decide +kernel
theorem dX4_paysOf_6 : decode cX4_paysOf 6 = .ok (.istore_n 2, 1) := by decide +kernel
theorem dX4_paysOf_7 : decode cX4_paysOf 7 = .ok (.aload_n 0, 1) := by decide +kernel
theorem dX4_paysOf_8 : decode cX4_paysOf 8 = .ok (.getfield 13, 3) := by decide +kernel
theorem dX4_paysOf_11 : decode cX4_paysOf 11 = .ok (.iload_n 1, 1) := by decide +kernel
theorem dX4_paysOf_12 : decode cX4_paysOf 12 = .ok (.iaload, 1) := by decide +kernel
theorem dX4_paysOf_13 : decode cX4_paysOf 13 = .ok (.ifCond .ne 7, 3) := by decide +kernel
theorem dX4_paysOf_16 : decode cX4_paysOf 16 = .ok (.iload_n 2, 1) := by decide +kernel
theorem dX4_paysOf_17 : decode cX4_paysOf 17 = .ok (.goto 24, 3) := by decide +kernel
theorem dX4_paysOf_20 : decode cX4_paysOf 20 = .ok (.aload_n 0, 1) := by decide +kernel
theorem dX4_paysOf_21 : decode cX4_paysOf 21 = .ok (.getfield 13, 3) := by decide +kernel
theorem dX4_paysOf_24 : decode cX4_paysOf 24 = .ok (.iload_n 1, 1) := by decide +kernel
theorem dX4_paysOf_25 : decode cX4_paysOf 25 = .ok (.iaload, 1) := by decide +kernel
theorem dX4_paysOf_26 : decode cX4_paysOf 26 = .ok (.iconst 1, 1) := by decide +kernel
theorem dX4_paysOf_27 : decode cX4_paysOf 27 = .ok (.if_icmp .ne 9, 3) := by decide +kernel
theorem dX4_paysOf_30 : decode cX4_paysOf 30 = .ok (.iload_n 2, 1) := by decide +kernel
theorem dX4_paysOf_31 : decode cX4_paysOf 31 = .ok (.iconst 1, 1) := by decide +kernel
theorem dX4_paysOf_32 : decode cX4_paysOf 32 = .ok (.iadd, 1) := by decide +kernel
theorem dX4_paysOf_33 : decode cX4_paysOf 33 = .ok (.goto 8, 3) := by decide +kernel
theorem dX4_paysOf_36 : decode cX4_paysOf 36 = .ok (.iconst 2, 1) := by decide +kernel
theorem dX4_paysOf_37 : decode cX4_paysOf 37 = .ok (.iload_n 2, 1) := by decide +kernel
theorem dX4_paysOf_38 : decode cX4_paysOf 38 = .ok (.iconst 1, 1) := by decide +kernel
theorem dX4_paysOf_39 : decode cX4_paysOf 39 = .ok (.iadd, 1) := by decide +kernel
theorem dX4_paysOf_40 : decode cX4_paysOf 40 = .ok (.imul, 1) := by decide +kernel
theorem dX4_paysOf_41 : decode cX4_paysOf 41 = .ok (.ireturn, 1) := by decide +kernel
set_option maxRecDepth 20000 in
theorem ggX4_isFraud_X4_allEvents : GoodIn wsX4_isFraud wsX4_allEvents := goodIn_r _ [6, 7, 8, 9, 10, 11, 12, 13, 14, 15, 16, 17, 18, 19, 20, 21, 22, 23, 24, 25, 26, 27, 28, 29, 30, 31, 32, 33, 34] (by decide +kernel) (by decide +kernel)
set_option maxRecDepth 20000 in
theorem gX4_isFraud_X4_allEvents : GoodIn wsX4_isFraud (wsV RX4 75 RX4 yX4_allEvents wsX4_allEvents) := goodIn_app (goodIn_of _ (by decide +kernel)) ggX4_isFraud_X4_allEvents
theorem dX4_isFraud_0 : decode cX4_isFraud 0 = .ok (.aload_n 0, 1) := by decide +kernel
theorem dX4_isFraud_1 : decode cX4_isFraud 1 = .ok (.getfield 19, 3) := by decide +kernel
theorem dX4_isFraud_4 : decode cX4_isFraud 4 = .ok (.iload_n 1, 1) := by decide +kernel
theorem dX4_isFraud_5 : decode cX4_isFraud 5 = .ok (.iaload, 1) := by decide +kernel
theorem dX4_isFraud_6 : decode cX4_isFraud 6 = .ok (.aload_n 0, 1) := by decide +kernel
theorem dX4_isFraud_7 : decode cX4_isFraud 7 = .ok (.invokevirtual 75, 3) := by decide +kernel
theorem dX4_isFraud_10 : decode cX4_isFraud 10 = .ok (.iand, 1) := by decide +kernel
theorem dX4_isFraud_11 : decode cX4_isFraud 11 = .ok (.aload_n 0, 1) := by decide +kernel
theorem dX4_isFraud_12 : decode cX4_isFraud 12 = .ok (.invokevirtual 75, 3) := by decide +kernel
theorem dX4_isFraud_15 : decode cX4_isFraud 15 = .ok (.if_icmp .ne 7, 3) := by decide +kernel
theorem dX4_isFraud_18 : decode cX4_isFraud 18 = .ok (.iconst 1, 1) := by decide +kernel
theorem dX4_isFraud_19 : decode cX4_isFraud 19 = .ok (.goto 4, 3) := by decide +kernel
theorem dX4_isFraud_22 : decode cX4_isFraud 22 = .ok (.iconst 0, 1) := by decide +kernel
theorem dX4_isFraud_23 : decode cX4_isFraud 23 = .ok (.ireturn, 1) := by decide +kernel
set_option maxRecDepth 20000 in
theorem ggX4_ofProphet_X4_noProphet : GoodIn wsX4_ofProphet wsX4_noProphet := goodIn_r _ [8, 9, 10, 11, 7, 12, 26, 27, 28, 29, 30, 31, 32, 33, 34, 35, 36, 37, 38, 39, 40, 41, 42, 43, 44, 45, 46, 47, 48, 49, 50, 51, 52] (by decide +kernel) (by decide +kernel)
set_option maxRecDepth 20000 in
theorem gX4_ofProphet_X4_noProphet : GoodIn wsX4_ofProphet (wsV RX4 135 RX4 yX4_noProphet wsX4_noProphet) := goodIn_app (goodIn_of _ (by decide +kernel)) ggX4_ofProphet_X4_noProphet
set_option maxRecDepth 20000 in
theorem ggX4_ofProphet_X4_paysOf : GoodIn wsX4_ofProphet wsX4_paysOf := goodIn_r _ [16, 2, 1, 26, 27, 28, 29, 30, 31, 32, 33, 34, 35, 36, 37, 38, 39, 40, 41, 42, 43, 44, 45, 46, 47, 48, 49, 50, 51, 52] (by decide +kernel) (by decide +kernel)
set_option maxRecDepth 20000 in
theorem gX4_ofProphet_X4_paysOf : GoodIn wsX4_ofProphet (wsV RX4 138 RX4 yX4_paysOf wsX4_paysOf) := goodIn_app (goodIn_of _ (by decide +kernel)) ggX4_ofProphet_X4_paysOf
set_option maxRecDepth 20000 in
theorem ggX4_ofProphet_X4_isFraud : GoodIn wsX4_ofProphet wsX4_isFraud := goodIn_r _ [20, 3, 21, 22, 23, 7, 24, 25, 26, 27, 28, 29, 30, 31, 32, 33, 34, 35, 36, 37, 38, 39, 40, 41, 42, 43, 44, 45, 46, 47, 48, 49, 50, 51, 52] (by decide +kernel) (by decide +kernel)
set_option maxRecDepth 20000 in
theorem gX4_ofProphet_X4_isFraud : GoodIn wsX4_ofProphet (wsV RX4 141 RX4 yX4_isFraud wsX4_isFraud) := goodIn_app (goodIn_of _ (by decide +kernel)) ggX4_ofProphet_X4_isFraud
theorem dX4_ofProphet_0 : decode cX4_ofProphet 0 = .ok (.aload_n 0, 1) := by decide +kernel
theorem dX4_ofProphet_1 : decode cX4_ofProphet 1 = .ok (.iload_n 1, 1) := by decide +kernel
theorem dX4_ofProphet_2 : decode cX4_ofProphet 2 = .ok (.invokevirtual 135, 3) := by decide +kernel
theorem dX4_ofProphet_5 : decode cX4_ofProphet 5 = .ok (.ifCond .eq 5, 3) := by decide +kernel
theorem dX4_ofProphet_8 : decode cX4_ofProphet 8 = .ok (.iconst (-1), 1) := by decide +kernel
theorem dX4_ofProphet_9 : decode cX4_ofProphet 9 = .ok (.ireturn, 1) := by decide +kernel
theorem dX4_ofProphet_10 : decode cX4_ofProphet 10 = .ok (.iload_n 2, 1) := by decide +kernel
theorem dX4_ofProphet_11 : decode cX4_ofProphet 11 = .ok (.tableswitch 74 0 4 #[33, 40, 47, 54, 60], 33) := by decide +kernel
theorem dX4_ofProphet_44 : decode cX4_ofProphet 44 = .ok (.aload_n 0, 1) := by decide +kernel
theorem dX4_ofProphet_45 : decode cX4_ofProphet 45 = .ok (.getfield 13, 3) := by decide +kernel
theorem dX4_ofProphet_48 : decode cX4_ofProphet 48 = .ok (.iload_n 1, 1) := by decide +kernel
theorem dX4_ofProphet_49 : decode cX4_ofProphet 49 = .ok (.iaload, 1) := by decide +kernel
theorem dX4_ofProphet_50 : decode cX4_ofProphet 50 = .ok (.ireturn, 1) := by decide +kernel
theorem dX4_ofProphet_51 : decode cX4_ofProphet 51 = .ok (.aload_n 0, 1) := by decide +kernel
theorem dX4_ofProphet_52 : decode cX4_ofProphet 52 = .ok (.getfield 16, 3) := by decide +kernel
theorem dX4_ofProphet_55 : decode cX4_ofProphet 55 = .ok (.iload_n 1, 1) := by decide +kernel
theorem dX4_ofProphet_56 : decode cX4_ofProphet 56 = .ok (.iaload, 1) := by decide +kernel
theorem dX4_ofProphet_57 : decode cX4_ofProphet 57 = .ok (.ireturn, 1) := by decide +kernel
theorem dX4_ofProphet_58 : decode cX4_ofProphet 58 = .ok (.aload_n 0, 1) := by decide +kernel
theorem dX4_ofProphet_59 : decode cX4_ofProphet 59 = .ok (.getfield 19, 3) := by decide +kernel
theorem dX4_ofProphet_62 : decode cX4_ofProphet 62 = .ok (.iload_n 1, 1) := by decide +kernel
theorem dX4_ofProphet_63 : decode cX4_ofProphet 63 = .ok (.iaload, 1) := by decide +kernel
theorem dX4_ofProphet_64 : decode cX4_ofProphet 64 = .ok (.ireturn, 1) := by decide +kernel
theorem dX4_ofProphet_65 : decode cX4_ofProphet 65 = .ok (.aload_n 0, 1) := by decide +kernel
theorem dX4_ofProphet_66 : decode cX4_ofProphet 66 = .ok (.iload_n 1, 1) := by decide +kernel
theorem dX4_ofProphet_67 : decode cX4_ofProphet 67 = .ok (.invokevirtual 138, 3) := by decide +kernel
theorem dX4_ofProphet_70 : decode cX4_ofProphet 70 = .ok (.ireturn, 1) := by decide +kernel
theorem dX4_ofProphet_71 : decode cX4_ofProphet 71 = .ok (.aload_n 0, 1) := by decide +kernel
theorem dX4_ofProphet_72 : decode cX4_ofProphet 72 = .ok (.iload_n 1, 1) := by decide +kernel
theorem dX4_ofProphet_73 : decode cX4_ofProphet 73 = .ok (.invokevirtual 141, 3) := by decide +kernel
theorem dX4_ofProphet_76 : decode cX4_ofProphet 76 = .ok (.ifCond .eq 7, 3) := by decide +kernel
theorem dX4_ofProphet_79 : decode cX4_ofProphet 79 = .ok (.iconst 1, 1) := by decide +kernel
theorem dX4_ofProphet_80 : decode cX4_ofProphet 80 = .ok (.goto 4, 3) := by decide +kernel
theorem dX4_ofProphet_83 : decode cX4_ofProphet 83 = .ok (.iconst 0, 1) := by decide +kernel
theorem dX4_ofProphet_84 : decode cX4_ofProphet 84 = .ok (.ireturn, 1) := by decide +kernel
theorem dX4_ofProphet_85 : decode cX4_ofProphet 85 = .ok (.bipush (-2), 2) := by decide +kernel
theorem dX4_ofProphet_87 : decode cX4_ofProphet 87 = .ok (.ireturn, 1) := by decide +kernel
set_option maxRecDepth 20000 in
theorem ggX4_say_X4_noProphet : GoodIn wsX4_say wsX4_noProphet := goodIn_r _ [7, 8, 9, 10, 6, 11, 12, 13, 14, 15, 16, 17, 18, 19, 20, 21, 22, 23, 24, 25, 26, 27, 28, 29, 30, 31, 32, 33, 34, 35, 36, 37, 38] (by decide +kernel) (by decide +kernel)
set_option maxRecDepth 20000 in
theorem gX4_say_X4_noProphet : GoodIn wsX4_say (wsV RX4 135 RX4 yX4_noProphet wsX4_noProphet) := goodIn_app (goodIn_of _ (by decide +kernel)) ggX4_say_X4_noProphet
set_option maxRecDepth 20000 in
theorem ggX4_say_X4_in : GoodIn wsX4_say wsX4_in := goodIn_r _ [11] (by decide +kernel) (by decide +kernel)
set_option maxRecDepth 20000 in
theorem gX4_say_X4_in : GoodIn wsX4_say (va_wsS RX4 68 yX4_in wsX4_in) := goodIn_app (goodIn_of _ (by decide +kernel)) ggX4_say_X4_in
theorem dX4_say_0 : decode cX4_say 0 = .ok (.aload_n 0, 1) := by decide +kernel
theorem dX4_say_1 : decode cX4_say 1 = .ok (.iload_n 1, 1) := by decide +kernel
theorem dX4_say_2 : decode cX4_say 2 = .ok (.invokevirtual 135, 3) := by decide +kernel
theorem dX4_say_5 : decode cX4_say 5 = .ok (.ifCond .eq 5, 3) := by decide +kernel
theorem dX4_say_8 : decode cX4_say 8 = .ok (.iconst (-1), 1) := by decide +kernel
theorem dX4_say_9 : decode cX4_say 9 = .ok (.ireturn, 1) := by decide +kernel
theorem dX4_say_10 : decode cX4_say 10 = .ok (.iload_n 2, 1) := by decide +kernel
theorem dX4_say_11 : decode cX4_say 11 = .ok (.i2l, 1) := by decide +kernel
theorem dX4_say_12 : decode cX4_say 12 = .ok (.lconst 0, 1) := by decide +kernel
theorem dX4_say_13 : decode cX4_say 13 = .ok (.ldc2_w 144, 3) := by decide +kernel
theorem dX4_say_16 : decode cX4_say 16 = .ok (.invokestatic 68, 3) := by decide +kernel
theorem dX4_say_19 : decode cX4_say 19 = .ok (.ifCond .ne 6, 3) := by decide +kernel
theorem dX4_say_22 : decode cX4_say 22 = .ok (.bipush (-2), 2) := by decide +kernel
theorem dX4_say_24 : decode cX4_say 24 = .ok (.ireturn, 1) := by decide +kernel
theorem dX4_say_25 : decode cX4_say 25 = .ok (.aload_n 0, 1) := by decide +kernel
theorem dX4_say_26 : decode cX4_say 26 = .ok (.getfield 19, 3) := by decide +kernel
theorem dX4_say_29 : decode cX4_say 29 = .ok (.iload_n 1, 1) := by decide +kernel
theorem dX4_say_30 : decode cX4_say 30 = .ok (.iaload, 1) := by decide +kernel
theorem dX4_say_31 : decode cX4_say 31 = .ok (.istore_n 3, 1) := by decide +kernel
theorem dX4_say_32 : decode cX4_say 32 = .ok (.aload_n 0, 1) := by decide +kernel
theorem dX4_say_33 : decode cX4_say 33 = .ok (.getfield 19, 3) := by decide +kernel
theorem dX4_say_36 : decode cX4_say 36 = .ok (.iload_n 1, 1) := by decide +kernel
theorem dX4_say_37 : decode cX4_say 37 = .ok (.iload_n 2, 1) := by decide +kernel
theorem dX4_say_38 : decode cX4_say 38 = .ok (.iastore, 1) := by decide +kernel
theorem dX4_say_39 : decode cX4_say 39 = .ok (.iload_n 3, 1) := by decide +kernel
theorem dX4_say_40 : decode cX4_say 40 = .ok (.ireturn, 1) := by decide +kernel
set_option maxRecDepth 20000 in
theorem ggX4_paidTo_X4_isFraud : GoodIn wsX4_paidTo wsX4_isFraud := goodIn_r _ [6, 1, 7, 8, 9, 5, 10, 11, 21, 22, 23, 24, 25, 26, 27, 28, 29, 30, 31, 32, 33, 34, 35, 36, 37, 38, 39, 40, 41, 42, 43, 44, 45, 46, 47] (by decide +kernel) (by decide +kernel)
set_option maxRecDepth 20000 in
theorem gX4_paidTo_X4_isFraud : GoodIn wsX4_paidTo (wsV RX4 141 RX4 yX4_isFraud wsX4_isFraud) := goodIn_app (goodIn_of _ (by decide +kernel)) ggX4_paidTo_X4_isFraud
set_option maxRecDepth 20000 in
theorem ggX4_paidTo_X4_paysOf : GoodIn wsX4_paidTo wsX4_paysOf := goodIn_r _ [15, 16, 17, 21, 22, 23, 24, 25, 26, 27, 28, 29, 30, 31, 32, 33, 34, 35, 36, 37, 38, 39, 40, 41, 42, 43, 44, 45, 46, 47] (by decide +kernel) (by decide +kernel)
set_option maxRecDepth 20000 in
theorem gX4_paidTo_X4_paysOf : GoodIn wsX4_paidTo (wsV RX4 138 RX4 yX4_paysOf wsX4_paysOf) := goodIn_app (goodIn_of _ (by decide +kernel)) ggX4_paidTo_X4_paysOf
set_option maxRecDepth 20000 in
theorem ggX4_paidTo_X4_allEvents : GoodIn wsX4_paidTo wsX4_allEvents := goodIn_r _ [10, 11, 21, 22, 23, 24, 25, 26, 27, 28, 29, 30, 31, 32, 33, 34, 35, 36, 37, 38, 39, 40, 41, 42, 43, 44, 45, 46, 47] (by decide +kernel) (by decide +kernel)
set_option maxRecDepth 20000 in
theorem gX4_paidTo_X4_allEvents : GoodIn wsX4_paidTo (wsV RX4 75 RX4 yX4_allEvents wsX4_allEvents) := goodIn_app (goodIn_of _ (by decide +kernel)) ggX4_paidTo_X4_allEvents
set_option maxRecDepth 20000 in
theorem ggX4_paidTo_X4_bits : GoodIn wsX4_paidTo wsX4_bits := goodIn_r _ [20] (by decide +kernel) (by decide +kernel)
set_option maxRecDepth 20000 in
theorem gX4_paidTo_X4_bits : GoodIn wsX4_paidTo (va_wsS RX4 146 yX4_bits wsX4_bits) := goodIn_app (goodIn_of _ (by decide +kernel)) ggX4_paidTo_X4_bits
theorem dX4_paidTo_0 : decode cX4_paidTo 0 = .ok (.aload_n 0, 1) := by decide +kernel
theorem dX4_paidTo_1 : decode cX4_paidTo 1 = .ok (.iload_n 1, 1) := by decide +kernel
theorem dX4_paidTo_2 : decode cX4_paidTo 2 = .ok (.invokevirtual 141, 3) := by decide +kernel
theorem dX4_paidTo_5 : decode cX4_paidTo 5 = .ok (.ifCond .eq 7, 3) := by decide +kernel
theorem dX4_paidTo_8 : decode cX4_paidTo 8 = .ok (.iconst 0, 1) := by decide +kernel
theorem dX4_paidTo_9 : decode cX4_paidTo 9 = .ok (.goto 25, 3) := by decide +kernel
theorem dX4_paidTo_12 : decode cX4_paidTo 12 = .ok (.aload_n 0, 1) := by decide +kernel
theorem dX4_paidTo_13 : decode cX4_paidTo 13 = .ok (.iload_n 1, 1) := by decide +kernel
theorem dX4_paidTo_14 : decode cX4_paidTo 14 = .ok (.invokevirtual 138, 3) := by decide +kernel
theorem dX4_paidTo_17 : decode cX4_paidTo 17 = .ok (.aload_n 0, 1) := by decide +kernel
theorem dX4_paidTo_18 : decode cX4_paidTo 18 = .ok (.getfield 19, 3) := by decide +kernel
theorem dX4_paidTo_21 : decode cX4_paidTo 21 = .ok (.iload_n 1, 1) := by decide +kernel
theorem dX4_paidTo_22 : decode cX4_paidTo 22 = .ok (.iaload, 1) := by decide +kernel
theorem dX4_paidTo_23 : decode cX4_paidTo 23 = .ok (.iload_n 2, 1) := by decide +kernel
theorem dX4_paidTo_24 : decode cX4_paidTo 24 = .ok (.iand, 1) := by decide +kernel
theorem dX4_paidTo_25 : decode cX4_paidTo 25 = .ok (.aload_n 0, 1) := by decide +kernel
theorem dX4_paidTo_26 : decode cX4_paidTo 26 = .ok (.invokevirtual 75, 3) := by decide +kernel
theorem dX4_paidTo_29 : decode cX4_paidTo 29 = .ok (.iand, 1) := by decide +kernel
theorem dX4_paidTo_30 : decode cX4_paidTo 30 = .ok (.invokestatic 146, 3) := by decide +kernel
theorem dX4_paidTo_33 : decode cX4_paidTo 33 = .ok (.imul, 1) := by decide +kernel
theorem dX4_paidTo_34 : decode cX4_paidTo 34 = .ok (.ireturn, 1) := by decide +kernel
set_option maxRecDepth 20000 in
theorem ggX4_paidToAll_X4_paidTo : GoodIn wsX4_paidToAll wsX4_paidTo := goodIn_r _ [6, 7, 8, 9, 10, 5, 11, 12, 13, 14, 15, 16, 17, 18, 19, 20, 21, 22, 23, 24, 25, 26, 27, 28, 29, 30, 31, 32, 33, 34, 35, 36, 37, 38, 39, 40, 41, 42, 43, 44, 45, 46, 47, 48, 49, 50, 51, 52] (by decide +kernel) (by decide +kernel)
set_option maxRecDepth 20000 in
theorem gX4_paidToAll_X4_paidTo : GoodIn wsX4_paidToAll (wsV RX4 149 RX4 yX4_paidTo wsX4_paidTo) := goodIn_app (goodIn_of _ (by decide +kernel)) ggX4_paidToAll_X4_paidTo
theorem dX4_paidToAll_0 : decode cX4_paidToAll 0 = .ok (.iconst 0, 1) := by decide +kernel
theorem dX4_paidToAll_1 : decode cX4_paidToAll 1 = .ok (.istore_n 2, 1) := by decide +kernel
theorem dX4_paidToAll_2 : decode cX4_paidToAll 2 = .ok (.iconst 0, 1) := by decide +kernel
theorem dX4_paidToAll_3 : decode cX4_paidToAll 3 = .ok (.istore_n 3, 1) := by decide +kernel
theorem dX4_paidToAll_4 : decode cX4_paidToAll 4 = .ok (.iload_n 3, 1) := by decide +kernel
theorem dX4_paidToAll_5 : decode cX4_paidToAll 5 = .ok (.aload_n 0, 1) := by decide +kernel
theorem dX4_paidToAll_6 : decode cX4_paidToAll 6 = .ok (.getfield 72, 3) := by decide +kernel
theorem dX4_paidToAll_9 : decode cX4_paidToAll 9 = .ok (.if_icmp .ge 18, 3) := by decide +kernel
theorem dX4_paidToAll_12 : decode cX4_paidToAll 12 = .ok (.iload_n 2, 1) := by decide +kernel
theorem dX4_paidToAll_13 : decode cX4_paidToAll 13 = .ok (.aload_n 0, 1) := by decide +kernel
theorem dX4_paidToAll_14 : decode cX4_paidToAll 14 = .ok (.iload_n 3, 1) := by decide +kernel
theorem dX4_paidToAll_15 : decode cX4_paidToAll 15 = .ok (.iload_n 1, 1) := by decide +kernel
theorem dX4_paidToAll_16 : decode cX4_paidToAll 16 = .ok (.invokevirtual 149, 3) := by decide +kernel
theorem dX4_paidToAll_19 : decode cX4_paidToAll 19 = .ok (.iadd, 1) := by decide +kernel
theorem dX4_paidToAll_20 : decode cX4_paidToAll 20 = .ok (.istore_n 2, 1) := by decide +kernel
theorem dX4_paidToAll_21 : decode cX4_paidToAll 21 = .ok (.iinc 3 1, 3) := by decide +kernel
theorem dX4_paidToAll_24 : decode cX4_paidToAll 24 = .ok (.goto (-20), 3) := by decide +kernel
theorem dX4_paidToAll_27 : decode cX4_paidToAll 27 = .ok (.iload_n 2, 1) := by decide +kernel
theorem dX4_paidToAll_28 : decode cX4_paidToAll 28 = .ok (.ireturn, 1) := by decide +kernel
set_option maxRecDepth 20000 in
theorem ggX4_paid_X4_noProphet : GoodIn wsX4_paid wsX4_noProphet := goodIn_r _ [5, 6, 7, 8, 4, 9, 37, 38, 39, 40, 41, 42, 43, 44, 45, 46, 47, 48, 49, 50, 51, 52, 53, 54, 55, 56, 57, 58, 59, 60, 61, 62, 63] (by decide +kernel) (by decide +kernel)
set_option maxRecDepth 20000 in
theorem gX4_paid_X4_noProphet : GoodIn wsX4_paid (wsV RX4 135 RX4 yX4_noProphet wsX4_noProphet) := goodIn_app (goodIn_of _ (by decide +kernel)) ggX4_paid_X4_noProphet
set_option maxRecDepth 20000 in
theorem ggX4_paid_X4_noSet : GoodIn wsX4_paid wsX4_noSet := goodIn_r _ [13, 14, 15, 16, 4, 17, 18, 7, 8, 9, 37, 38, 39, 40, 41, 42, 43, 44, 45, 46, 47, 48, 49, 50, 51, 52, 53, 54, 55, 56, 57, 58, 59, 60, 61, 62, 63] (by decide +kernel) (by decide +kernel)
set_option maxRecDepth 20000 in
theorem gX4_paid_X4_noSet : GoodIn wsX4_paid (wsV RX4 152 RX4 yX4_noSet wsX4_noSet) := goodIn_app (goodIn_of _ (by decide +kernel)) ggX4_paid_X4_noSet
set_option maxRecDepth 20000 in
theorem ggX4_paid_X4_paidTo : GoodIn wsX4_paid wsX4_paidTo := goodIn_r _ [22, 23, 24, 25, 26, 4, 27, 14, 15, 16, 17, 18, 28, 29, 30, 31, 32, 33, 34, 35, 36, 37, 38, 39, 40, 41, 42, 43, 44, 45, 46, 47, 48, 49, 50, 51, 52, 53, 54, 55, 56, 57, 58, 59, 60, 61, 62, 63] (by decide +kernel) (by decide +kernel)
set_option maxRecDepth 20000 in
theorem gX4_paid_X4_paidTo : GoodIn wsX4_paid (wsV RX4 149 RX4 yX4_paidTo wsX4_paidTo) := goodIn_app (goodIn_of _ (by decide +kernel)) ggX4_paid_X4_paidTo
theorem dX4_paid_0 : decode cX4_paid 0 = .ok (.aload_n 0, 1) := by decide +kernel
theorem dX4_paid_1 : decode cX4_paid 1 = .ok (.iload_n 1, 1) := by decide +kernel
theorem dX4_paid_2 : decode cX4_paid 2 = .ok (.invokevirtual 135, 3) := by decide +kernel
theorem dX4_paid_5 : decode cX4_paid 5 = .ok (.ifCond .eq 5, 3) := by decide +kernel
theorem dX4_paid_8 : decode cX4_paid 8 = .ok (.iconst (-1), 1) := by decide +kernel
theorem dX4_paid_9 : decode cX4_paid 9 = .ok (.ireturn, 1) := by decide +kernel
theorem dX4_paid_10 : decode cX4_paid 10 = .ok (.aload_n 0, 1) := by decide +kernel
theorem dX4_paid_11 : decode cX4_paid 11 = .ok (.iload_n 2, 1) := by decide +kernel
theorem dX4_paid_12 : decode cX4_paid 12 = .ok (.invokevirtual 152, 3) := by decide +kernel
theorem dX4_paid_15 : decode cX4_paid 15 = .ok (.ifCond .eq 8, 3) := by decide +kernel
theorem dX4_paid_18 : decode cX4_paid 18 = .ok (.bipush (-2), 2) := by decide +kernel
theorem dX4_paid_20 : decode cX4_paid 20 = .ok (.goto 9, 3) := by decide +kernel
theorem dX4_paid_23 : decode cX4_paid 23 = .ok (.aload_n 0, 1) := by decide +kernel
theorem dX4_paid_24 : decode cX4_paid 24 = .ok (.iload_n 1, 1) := by decide +kernel
theorem dX4_paid_25 : decode cX4_paid 25 = .ok (.iload_n 2, 1) := by decide +kernel
theorem dX4_paid_26 : decode cX4_paid 26 = .ok (.invokevirtual 149, 3) := by decide +kernel
theorem dX4_paid_29 : decode cX4_paid 29 = .ok (.ireturn, 1) := by decide +kernel
set_option maxRecDepth 20000 in
theorem ggX4_total_X4_noSet : GoodIn wsX4_total wsX4_noSet := goodIn_r _ [6, 7, 8, 9, 5, 10, 11, 12, 13, 14, 37, 38, 39, 40, 41, 42, 43, 44, 45, 46, 47, 48, 49, 50, 51, 52, 53, 54, 55, 56, 57, 58, 59, 60, 61, 62, 63] (by decide +kernel) (by decide +kernel)
set_option maxRecDepth 20000 in
theorem gX4_total_X4_noSet : GoodIn wsX4_total (wsV RX4 152 RX4 yX4_noSet wsX4_noSet) := goodIn_app (goodIn_of _ (by decide +kernel)) ggX4_total_X4_noSet
set_option maxRecDepth 20000 in
theorem ggX4_total_X4_paidToAll : GoodIn wsX4_total wsX4_paidToAll := goodIn_r _ [18, 1, 19, 20, 21, 5, 22, 23, 24, 25, 26, 27, 7, 8, 9, 10, 11, 28, 29, 30, 31, 32, 33, 34, 35, 36, 37, 38, 39, 40, 41, 42, 43, 44, 45, 46, 47, 48, 49, 50, 51, 52, 53, 54, 55, 56, 57, 58, 59, 60, 61, 62, 63] (by decide +kernel) (by decide +kernel)
set_option maxRecDepth 20000 in
theorem gX4_total_X4_paidToAll : GoodIn wsX4_total (wsV RX4 155 RX4 yX4_paidToAll wsX4_paidToAll) := goodIn_app (goodIn_of _ (by decide +kernel)) ggX4_total_X4_paidToAll
theorem dX4_total_0 : decode cX4_total 0 = .ok (.aload_n 0, 1) := by decide +kernel
theorem dX4_total_1 : decode cX4_total 1 = .ok (.getfield 72, 3) := by decide +kernel
theorem dX4_total_4 : decode cX4_total 4 = .ok (.ifCond .ne 6, 3) := by decide +kernel
theorem dX4_total_7 : decode cX4_total 7 = .ok (.bipush (-3), 2) := by decide +kernel
theorem dX4_total_9 : decode cX4_total 9 = .ok (.ireturn, 1) := by decide +kernel
theorem dX4_total_10 : decode cX4_total 10 = .ok (.aload_n 0, 1) := by decide +kernel
theorem dX4_total_11 : decode cX4_total 11 = .ok (.iload_n 1, 1) := by decide +kernel
theorem dX4_total_12 : decode cX4_total 12 = .ok (.invokevirtual 152, 3) := by decide +kernel
theorem dX4_total_15 : decode cX4_total 15 = .ok (.ifCond .eq 8, 3) := by decide +kernel
theorem dX4_total_18 : decode cX4_total 18 = .ok (.bipush (-2), 2) := by decide +kernel
theorem dX4_total_20 : decode cX4_total 20 = .ok (.goto 8, 3) := by decide +kernel
theorem dX4_total_23 : decode cX4_total 23 = .ok (.aload_n 0, 1) := by decide +kernel
theorem dX4_total_24 : decode cX4_total 24 = .ok (.iload_n 1, 1) := by decide +kernel
theorem dX4_total_25 : decode cX4_total 25 = .ok (.invokevirtual 155, 3) := by decide +kernel
theorem dX4_total_28 : decode cX4_total 28 = .ok (.ireturn, 1) := by decide +kernel
set_option maxRecDepth 20000 in
theorem ggX4_premiumsOf_X4_allEvents : GoodIn wsX4_premiumsOf wsX4_allEvents := goodIn_r _ [7, 8, 12, 13, 14, 15, 16, 17, 18, 19, 20, 21, 22, 23, 24, 25, 26, 27, 28, 29, 30, 31, 32, 33, 34, 35, 36, 37, 38] (by decide +kernel) (by decide +kernel)
set_option maxRecDepth 20000 in
theorem gX4_premiumsOf_X4_allEvents : GoodIn wsX4_premiumsOf (wsV RX4 75 RX4 yX4_allEvents wsX4_allEvents) := goodIn_app (goodIn_of _ (by decide +kernel)) ggX4_premiumsOf_X4_allEvents
set_option maxRecDepth 20000 in
theorem ggX4_premiumsOf_X4_bits : GoodIn wsX4_premiumsOf wsX4_bits := goodIn_r _ [11] (by decide +kernel) (by decide +kernel)
set_option maxRecDepth 20000 in
theorem gX4_premiumsOf_X4_bits : GoodIn wsX4_premiumsOf (va_wsS RX4 146 yX4_bits wsX4_bits) := goodIn_app (goodIn_of _ (by decide +kernel)) ggX4_premiumsOf_X4_bits
theorem dX4_premiumsOf_0 : decode cX4_premiumsOf 0 = .ok (.iconst 0, 1) := by decide +kernel
theorem dX4_premiumsOf_1 : decode cX4_premiumsOf 1 = .ok (.istore_n 2, 1) := by decide +kernel
theorem dX4_premiumsOf_2 : decode cX4_premiumsOf 2 = .ok (.iconst 0, 1) := by decide +kernel
theorem dX4_premiumsOf_3 : decode cX4_premiumsOf 3 = .ok (.istore_n 3, 1) := by decide +kernel
theorem dX4_premiumsOf_4 : decode cX4_premiumsOf 4 = .ok (.iload_n 3, 1) := by decide +kernel
theorem dX4_premiumsOf_5 : decode cX4_premiumsOf 5 = .ok (.aload_n 0, 1) := by decide +kernel
theorem dX4_premiumsOf_6 : decode cX4_premiumsOf 6 = .ok (.getfield 72, 3) := by decide +kernel
theorem dX4_premiumsOf_9 : decode cX4_premiumsOf 9 = .ok (.if_icmp .ge 28, 3) := by decide +kernel
theorem dX4_premiumsOf_12 : decode cX4_premiumsOf 12 = .ok (.iload_n 2, 1) := by decide +kernel
theorem dX4_premiumsOf_13 : decode cX4_premiumsOf 13 = .ok (.iload_n 1, 1) := by decide +kernel
theorem dX4_premiumsOf_14 : decode cX4_premiumsOf 14 = .ok (.aload_n 0, 1) := by decide +kernel
theorem dX4_premiumsOf_15 : decode cX4_premiumsOf 15 = .ok (.getfield 19, 3) := by decide +kernel
theorem dX4_premiumsOf_18 : decode cX4_premiumsOf 18 = .ok (.iload_n 3, 1) := by decide +kernel
theorem dX4_premiumsOf_19 : decode cX4_premiumsOf 19 = .ok (.iaload, 1) := by decide +kernel
theorem dX4_premiumsOf_20 : decode cX4_premiumsOf 20 = .ok (.aload_n 0, 1) := by decide +kernel
theorem dX4_premiumsOf_21 : decode cX4_premiumsOf 21 = .ok (.invokevirtual 75, 3) := by decide +kernel
theorem dX4_premiumsOf_24 : decode cX4_premiumsOf 24 = .ok (.iand, 1) := by decide +kernel
theorem dX4_premiumsOf_25 : decode cX4_premiumsOf 25 = .ok (.invokestatic 146, 3) := by decide +kernel
theorem dX4_premiumsOf_28 : decode cX4_premiumsOf 28 = .ok (.imul, 1) := by decide +kernel
theorem dX4_premiumsOf_29 : decode cX4_premiumsOf 29 = .ok (.iadd, 1) := by decide +kernel
theorem dX4_premiumsOf_30 : decode cX4_premiumsOf 30 = .ok (.istore_n 2, 1) := by decide +kernel
theorem dX4_premiumsOf_31 : decode cX4_premiumsOf 31 = .ok (.iinc 3 1, 3) := by decide +kernel
theorem dX4_premiumsOf_34 : decode cX4_premiumsOf 34 = .ok (.goto (-30), 3) := by decide +kernel
theorem dX4_premiumsOf_37 : decode cX4_premiumsOf 37 = .ok (.iload_n 2, 1) := by decide +kernel
theorem dX4_premiumsOf_38 : decode cX4_premiumsOf 38 = .ok (.ireturn, 1) := by decide +kernel
set_option maxRecDepth 20000 in
theorem ggX4_goYears_X4_paidToAll : GoodIn wsX4_goYears wsX4_paidToAll := goodIn_r _ [10, 11, 12, 13, 14, 9, 15, 16, 17, 18, 19, 20, 21, 22, 23, 24, 25, 26, 27, 28, 29, 30, 31, 32, 33, 34, 39, 40, 41, 42, 43, 44, 45, 46, 47, 48, 49, 50, 51, 52, 53, 54, 55, 56, 57, 58, 59, 60, 61, 62, 63, 64, 65] (by decide +kernel) (by decide +kernel)
set_option maxRecDepth 20000 in
theorem gX4_goYears_X4_paidToAll : GoodIn wsX4_goYears (wsV RX4 155 RX4 yX4_paidToAll wsX4_paidToAll) := goodIn_app (goodIn_of _ (by decide +kernel)) ggX4_goYears_X4_paidToAll
set_option maxRecDepth 20000 in
theorem ggX4_goYears_X4_premiumsOf : GoodIn wsX4_goYears wsX4_premiumsOf := goodIn_r _ [38, 11, 16, 21, 22, 23, 9, 24, 25, 32, 33, 34, 39, 40, 41, 42, 43, 44, 45, 46, 47, 48, 49, 50, 51, 52, 53, 54, 55, 56, 57, 58, 59, 60, 61, 62, 63, 64, 65] (by decide +kernel) (by decide +kernel)
set_option maxRecDepth 20000 in
theorem gX4_goYears_X4_premiumsOf : GoodIn wsX4_goYears (wsV RX4 170 RX4 yX4_premiumsOf wsX4_premiumsOf) := goodIn_app (goodIn_of _ (by decide +kernel)) ggX4_goYears_X4_premiumsOf
theorem dX4_goYears_0 : decode cX4_goYears 0 = .ok (.aload_n 0, 1) := by decide +kernel
theorem dX4_goYears_1 : decode cX4_goYears 1 = .ok (.iconst 0, 1) := by decide +kernel
theorem dX4_goYears_2 : decode cX4_goYears 2 = .ok (.putfield 158, 3) := by decide +kernel
theorem dX4_goYears_5 : decode cX4_goYears 5 = .ok (.aload_n 0, 1) := by decide +kernel
theorem dX4_goYears_6 : decode cX4_goYears 6 = .ok (.bipush (-9), 2) := by decide +kernel
theorem dX4_goYears_8 : decode cX4_goYears 8 = .ok (.putfield 161, 3) := by decide +kernel
theorem dX4_goYears_11 : decode cX4_goYears 11 = .ok (.aload_n 0, 1) := by decide +kernel
theorem dX4_goYears_12 : decode cX4_goYears 12 = .ok (.iconst 0, 1) := by decide +kernel
theorem dX4_goYears_13 : decode cX4_goYears 13 = .ok (.putfield 164, 3) := by decide +kernel
theorem dX4_goYears_16 : decode cX4_goYears 16 = .ok (.aload_n 0, 1) := by decide +kernel
theorem dX4_goYears_17 : decode cX4_goYears 17 = .ok (.iconst 0, 1) := by decide +kernel
theorem dX4_goYears_18 : decode cX4_goYears 18 = .ok (.putfield 167, 3) := by decide +kernel
theorem dX4_goYears_21 : decode cX4_goYears 21 = .ok (.iconst 0, 1) := by decide +kernel
theorem dX4_goYears_22 : decode cX4_goYears 22 = .ok (.istore 4, 2) := by decide +kernel
theorem dX4_goYears_24 : decode cX4_goYears 24 = .ok (.iload 4, 2) := by decide +kernel
theorem dX4_goYears_26 : decode cX4_goYears 26 = .ok (.iload_n 3, 1) := by decide +kernel
theorem dX4_goYears_27 : decode cX4_goYears 27 = .ok (.if_icmp .ge 101, 3) := by decide +kernel
theorem dX4_goYears_30 : decode cX4_goYears 30 = .ok (.aload_n 0, 1) := by decide +kernel
theorem dX4_goYears_31 : decode cX4_goYears 31 = .ok (.aload_n 0, 1) := by decide +kernel
theorem dX4_goYears_32 : decode cX4_goYears 32 = .ok (.getfield 49, 3) := by decide +kernel
theorem dX4_goYears_35 : decode cX4_goYears 35 = .ok (.iload_n 2, 1) := by decide +kernel
theorem dX4_goYears_36 : decode cX4_goYears 36 = .ok (.iload 4, 2) := by decide +kernel
theorem dX4_goYears_38 : decode cX4_goYears 38 = .ok (.iadd, 1) := by decide +kernel
theorem dX4_goYears_39 : decode cX4_goYears 39 = .ok (.iaload, 1) := by decide +kernel
theorem dX4_goYears_40 : decode cX4_goYears 40 = .ok (.invokevirtual 155, 3) := by decide +kernel
theorem dX4_goYears_43 : decode cX4_goYears 43 = .ok (.istore 5, 2) := by decide +kernel
theorem dX4_goYears_45 : decode cX4_goYears 45 = .ok (.aload_n 0, 1) := by decide +kernel
theorem dX4_goYears_46 : decode cX4_goYears 46 = .ok (.dup, 1) := by decide +kernel
theorem dX4_goYears_47 : decode cX4_goYears 47 = .ok (.getfield 158, 3) := by decide +kernel
theorem dX4_goYears_50 : decode cX4_goYears 50 = .ok (.aload_n 0, 1) := by decide +kernel
theorem dX4_goYears_51 : decode cX4_goYears 51 = .ok (.iload_n 1, 1) := by decide +kernel
theorem dX4_goYears_52 : decode cX4_goYears 52 = .ok (.invokevirtual 170, 3) := by decide +kernel
theorem dX4_goYears_55 : decode cX4_goYears 55 = .ok (.iload 5, 2) := by decide +kernel
theorem dX4_goYears_57 : decode cX4_goYears 57 = .ok (.isub, 1) := by decide +kernel
theorem dX4_goYears_58 : decode cX4_goYears 58 = .ok (.iadd, 1) := by decide +kernel
theorem dX4_goYears_59 : decode cX4_goYears 59 = .ok (.putfield 158, 3) := by decide +kernel
theorem dX4_goYears_62 : decode cX4_goYears 62 = .ok (.aload_n 0, 1) := by decide +kernel
theorem dX4_goYears_63 : decode cX4_goYears 63 = .ok (.aload_n 0, 1) := by decide +kernel
theorem dX4_goYears_64 : decode cX4_goYears 64 = .ok (.getfield 161, 3) := by decide +kernel
theorem dX4_goYears_67 : decode cX4_goYears 67 = .ok (.ifCond .ge 15, 3) := by decide +kernel
theorem dX4_goYears_70 : decode cX4_goYears 70 = .ok (.aload_n 0, 1) := by decide +kernel
theorem dX4_goYears_71 : decode cX4_goYears 71 = .ok (.getfield 158, 3) := by decide +kernel
theorem dX4_goYears_74 : decode cX4_goYears 74 = .ok (.ifCond .ge 8, 3) := by decide +kernel
theorem dX4_goYears_77 : decode cX4_goYears 77 = .ok (.iload 4, 2) := by decide +kernel
theorem dX4_goYears_79 : decode cX4_goYears 79 = .ok (.goto 7, 3) := by decide +kernel
theorem dX4_goYears_82 : decode cX4_goYears 82 = .ok (.aload_n 0, 1) := by decide +kernel
theorem dX4_goYears_83 : decode cX4_goYears 83 = .ok (.getfield 161, 3) := by decide +kernel
theorem dX4_goYears_86 : decode cX4_goYears 86 = .ok (.putfield 161, 3) := by decide +kernel
theorem dX4_goYears_89 : decode cX4_goYears 89 = .ok (.aload_n 0, 1) := by decide +kernel
theorem dX4_goYears_90 : decode cX4_goYears 90 = .ok (.dup, 1) := by decide +kernel
theorem dX4_goYears_91 : decode cX4_goYears 91 = .ok (.getfield 164, 3) := by decide +kernel
theorem dX4_goYears_94 : decode cX4_goYears 94 = .ok (.iload 5, 2) := by decide +kernel
theorem dX4_goYears_96 : decode cX4_goYears 96 = .ok (.iadd, 1) := by decide +kernel
theorem dX4_goYears_97 : decode cX4_goYears 97 = .ok (.putfield 164, 3) := by decide +kernel
theorem dX4_goYears_100 : decode cX4_goYears 100 = .ok (.aload_n 0, 1) := by decide +kernel
theorem dX4_goYears_101 : decode cX4_goYears 101 = .ok (.iload 5, 2) := by decide +kernel
theorem dX4_goYears_103 : decode cX4_goYears 103 = .ok (.aload_n 0, 1) := by decide +kernel
theorem dX4_goYears_104 : decode cX4_goYears 104 = .ok (.getfield 167, 3) := by decide +kernel
theorem dX4_goYears_107 : decode cX4_goYears 107 = .ok (.if_icmp .le 8, 3) := by decide +kernel
theorem dX4_goYears_110 : decode cX4_goYears 110 = .ok (.iload 5, 2) := by decide +kernel
theorem dX4_goYears_112 : decode cX4_goYears 112 = .ok (.goto 7, 3) := by decide +kernel
theorem dX4_goYears_115 : decode cX4_goYears 115 = .ok (.aload_n 0, 1) := by decide +kernel
theorem dX4_goYears_116 : decode cX4_goYears 116 = .ok (.getfield 167, 3) := by decide +kernel
theorem dX4_goYears_119 : decode cX4_goYears 119 = .ok (.putfield 167, 3) := by decide +kernel
theorem dX4_goYears_122 : decode cX4_goYears 122 = .ok (.iinc 4 1, 3) := by decide +kernel
theorem dX4_goYears_125 : decode cX4_goYears 125 = .ok (.goto (-101), 3) := by decide +kernel
theorem dX4_goYears_128 : decode cX4_goYears 128 = .ok (.return_, 1) := by decide +kernel
set_option maxRecDepth 20000 in
theorem ggX4_paidBy_X4_paidTo : GoodIn wsX4_paidBy wsX4_paidTo := goodIn_r _ [6, 7, 8, 9, 10, 5, 11, 12, 13, 14, 15, 16, 17, 18, 19, 20, 21, 22, 23, 24, 25, 26, 27, 28, 29, 30, 31, 32, 33, 34, 35, 36, 37, 38, 39, 40, 41, 42, 43, 44, 45, 46, 47, 48, 49, 50, 51, 52] (by decide +kernel) (by decide +kernel)
set_option maxRecDepth 20000 in
theorem gX4_paidBy_X4_paidTo : GoodIn wsX4_paidBy (wsV RX4 149 RX4 yX4_paidTo wsX4_paidTo) := goodIn_app (goodIn_of _ (by decide +kernel)) ggX4_paidBy_X4_paidTo
theorem dX4_paidBy_0 : decode cX4_paidBy 0 = .ok (.iconst 0, 1) := by decide +kernel
theorem dX4_paidBy_1 : decode cX4_paidBy 1 = .ok (.istore 4, 2) := by decide +kernel
theorem dX4_paidBy_3 : decode cX4_paidBy 3 = .ok (.iconst 0, 1) := by decide +kernel
theorem dX4_paidBy_4 : decode cX4_paidBy 4 = .ok (.istore 5, 2) := by decide +kernel
theorem dX4_paidBy_6 : decode cX4_paidBy 6 = .ok (.iload 5, 2) := by decide +kernel
theorem dX4_paidBy_8 : decode cX4_paidBy 8 = .ok (.iload_n 3, 1) := by decide +kernel
theorem dX4_paidBy_9 : decode cX4_paidBy 9 = .ok (.if_icmp .ge 28, 3) := by decide +kernel
theorem dX4_paidBy_12 : decode cX4_paidBy 12 = .ok (.iload 4, 2) := by decide +kernel
theorem dX4_paidBy_14 : decode cX4_paidBy 14 = .ok (.aload_n 0, 1) := by decide +kernel
theorem dX4_paidBy_15 : decode cX4_paidBy 15 = .ok (.iload_n 1, 1) := by decide +kernel
theorem dX4_paidBy_16 : decode cX4_paidBy 16 = .ok (.aload_n 0, 1) := by decide +kernel
theorem dX4_paidBy_17 : decode cX4_paidBy 17 = .ok (.getfield 49, 3) := by decide +kernel
theorem dX4_paidBy_20 : decode cX4_paidBy 20 = .ok (.iload_n 2, 1) := by decide +kernel
theorem dX4_paidBy_21 : decode cX4_paidBy 21 = .ok (.iload 5, 2) := by decide +kernel
theorem dX4_paidBy_23 : decode cX4_paidBy 23 = .ok (.iadd, 1) := by decide +kernel
theorem dX4_paidBy_24 : decode cX4_paidBy 24 = .ok (.iaload, 1) := by decide +kernel
theorem dX4_paidBy_25 : decode cX4_paidBy 25 = .ok (.invokevirtual 149, 3) := by decide +kernel
theorem dX4_paidBy_28 : decode cX4_paidBy 28 = .ok (.iadd, 1) := by decide +kernel
theorem dX4_paidBy_29 : decode cX4_paidBy 29 = .ok (.istore 4, 2) := by decide +kernel
theorem dX4_paidBy_31 : decode cX4_paidBy 31 = .ok (.iinc 5 1, 3) := by decide +kernel
theorem dX4_paidBy_34 : decode cX4_paidBy 34 = .ok (.goto (-28), 3) := by decide +kernel
theorem dX4_paidBy_37 : decode cX4_paidBy 37 = .ok (.iload 4, 2) := by decide +kernel
theorem dX4_paidBy_39 : decode cX4_paidBy 39 = .ok (.ireturn, 1) := by decide +kernel
set_option maxRecDepth 20000 in
theorem ggX4_years_X4_noSheet : GoodIn wsX4_years wsX4_noSheet := goodIn_r _ [16, 1, 17, 18, 15, 19] (by decide +kernel) (by decide +kernel)
set_option maxRecDepth 20000 in
theorem gX4_years_X4_noSheet : GoodIn wsX4_years (va_wsS RX4 111 yX4_noSheet wsX4_noSheet) := goodIn_app (goodIn_of _ (by decide +kernel)) ggX4_years_X4_noSheet
set_option maxRecDepth 20000 in
theorem ggX4_years_X4_refused : GoodIn wsX4_years wsX4_refused := goodIn_r _ [23, 24, 85, 86, 87, 88, 89, 90, 91, 92, 93, 94, 95, 96, 97, 98, 99, 100, 101, 102, 103, 104, 105, 106, 107, 108, 109, 110, 111] (by decide +kernel) (by decide +kernel)
set_option maxRecDepth 20000 in
theorem gX4_years_X4_refused : GoodIn wsX4_years (wsV RX4 115 RX4 yX4_refused wsX4_refused) := goodIn_app (goodIn_of _ (by decide +kernel)) ggX4_years_X4_refused
set_option maxRecDepth 20000 in
theorem ggX4_years_X4_in : GoodIn wsX4_years wsX4_in := goodIn_r _ [19] (by decide +kernel) (by decide +kernel)
set_option maxRecDepth 20000 in
theorem gX4_years_X4_in : GoodIn wsX4_years (va_wsS RX4 68 yX4_in wsX4_in) := goodIn_app (goodIn_of _ (by decide +kernel)) ggX4_years_X4_in
set_option maxRecDepth 20000 in
theorem ggX4_years_X4_cellsBarred : GoodIn wsX4_years wsX4_cellsBarred := goodIn_r _ [28, 29, 30, 31, 32, 33, 15, 34, 24, 35, 36, 37, 85, 86, 87, 88, 89, 90, 91, 92, 93, 94, 95, 96, 97, 98, 99, 100, 101, 102, 103, 104, 105, 106, 107, 108, 109, 110, 111] (by decide +kernel) (by decide +kernel)
set_option maxRecDepth 20000 in
theorem gX4_years_X4_cellsBarred : GoodIn wsX4_years (wsV RX4 120 RX4 yX4_cellsBarred wsX4_cellsBarred) := goodIn_app (goodIn_of _ (by decide +kernel)) ggX4_years_X4_cellsBarred
set_option maxRecDepth 20000 in
theorem ggX4_years_X4_noSet : GoodIn wsX4_years wsX4_noSet := goodIn_r _ [41, 42, 43, 44, 15, 45, 46, 17, 18, 19, 85, 86, 87, 88, 89, 90, 91, 92, 93, 94, 95, 96, 97, 98, 99, 100, 101, 102, 103, 104, 105, 106, 107, 108, 109, 110, 111] (by decide +kernel) (by decide +kernel)
set_option maxRecDepth 20000 in
theorem gX4_years_X4_noSet : GoodIn wsX4_years (wsV RX4 152 RX4 yX4_noSet wsX4_noSet) := goodIn_app (goodIn_of _ (by decide +kernel)) ggX4_years_X4_noSet
set_option maxRecDepth 20000 in
theorem ggX4_years_X4_goYears : GoodIn wsX4_years wsX4_goYears := goodIn_r _ [50, 9, 10, 11, 12, 8, 51, 52, 53, 15, 54, 7, 55, 56, 57, 58, 59, 60, 61, 62, 63, 42, 43, 44, 45, 46, 64, 65, 66, 67, 68, 69, 70, 71, 72, 73, 74, 75, 76, 85, 86, 87, 88, 89, 90, 91, 92, 93, 94, 95, 96, 97, 98, 99, 100, 101, 102, 103, 104, 105, 106, 107, 108, 109, 110, 111] (by decide +kernel) (by decide +kernel)
set_option maxRecDepth 20000 in
theorem gX4_years_X4_goYears : GoodIn wsX4_years (wsV RX4 181 RX4 yX4_goYears wsX4_goYears) := goodIn_app (goodIn_of _ (by decide +kernel)) ggX4_years_X4_goYears
set_option maxRecDepth 20000 in
theorem ggX4_years_X4_noProphet : GoodIn wsX4_years wsX4_noProphet := goodIn_r _ [80, 7, 17, 18, 15, 19, 85, 86, 87, 88, 89, 90, 91, 92, 93, 94, 95, 96, 97, 98, 99, 100, 101, 102, 103, 104, 105, 106, 107, 108, 109, 110, 111] (by decide +kernel) (by decide +kernel)
set_option maxRecDepth 20000 in
theorem gX4_years_X4_noProphet : GoodIn wsX4_years (wsV RX4 135 RX4 yX4_noProphet wsX4_noProphet) := goodIn_app (goodIn_of _ (by decide +kernel)) ggX4_years_X4_noProphet
set_option maxRecDepth 20000 in
theorem ggX4_years_X4_paidBy : GoodIn wsX4_years wsX4_paidBy := goodIn_r _ [84, 8, 55, 56, 57, 15, 58, 59, 60, 61, 62, 63, 42, 43, 44, 45, 46, 64, 65, 66, 67, 68, 69, 70, 71, 72, 85, 86, 87, 88, 89, 90, 91, 92, 93, 94, 95, 96, 97, 98, 99, 100, 101, 102, 103, 104, 105, 106, 107, 108, 109, 110, 111] (by decide +kernel) (by decide +kernel)
set_option maxRecDepth 20000 in
theorem gX4_years_X4_paidBy : GoodIn wsX4_years (wsV RX4 185 RX4 yX4_paidBy wsX4_paidBy) := goodIn_app (goodIn_of _ (by decide +kernel)) ggX4_years_X4_paidBy
theorem dX4_years_0 : decode cX4_years 0 = .ok (.iload_n 2, 1) := by decide +kernel
theorem dX4_years_1 : decode cX4_years 1 = .ok (.invokestatic 111, 3) := by decide +kernel
theorem dX4_years_4 : decode cX4_years 4 = .ok (.ifCond .eq 9, 3) := by decide +kernel
theorem dX4_years_7 : decode cX4_years 7 = .ok (.aload_n 0, 1) := by decide +kernel
theorem dX4_years_8 : decode cX4_years 8 = .ok (.iconst (-1), 1) := by decide +kernel
theorem dX4_years_9 : decode cX4_years 9 = .ok (.invokevirtual 115, 3) := by decide +kernel
theorem dX4_years_12 : decode cX4_years 12 = .ok (.ireturn, 1) := by decide +kernel
theorem dX4_years_13 : decode cX4_years 13 = .ok (.iload 6, 2) := by decide +kernel
theorem dX4_years_15 : decode cX4_years 15 = .ok (.i2l, 1) := by decide +kernel
theorem dX4_years_16 : decode cX4_years 16 = .ok (.lconst 0, 1) := by decide +kernel
theorem dX4_years_17 : decode cX4_years 17 = .ok (.ldc2_w 173, 3) := by decide +kernel
theorem dX4_years_20 : decode cX4_years 20 = .ok (.invokestatic 68, 3) := by decide +kernel
theorem dX4_years_23 : decode cX4_years 23 = .ok (.ifCond .ne 18, 3) := by decide +kernel
theorem dX4_years_26 : decode cX4_years 26 = .ok (.iload 6, 2) := by decide +kernel
theorem dX4_years_28 : decode cX4_years 28 = .ok (.i2l, 1) := by decide +kernel
theorem dX4_years_29 : decode cX4_years 29 = .ok (.ldc2_w 175, 3) := by decide +kernel
theorem dX4_years_32 : decode cX4_years 32 = .ok (.ldc2_w 177, 3) := by decide +kernel
theorem dX4_years_35 : decode cX4_years 35 = .ok (.invokestatic 68, 3) := by decide +kernel
theorem dX4_years_38 : decode cX4_years 38 = .ok (.ifCond .eq 7, 3) := by decide +kernel
theorem dX4_years_41 : decode cX4_years 41 = .ok (.iconst 1, 1) := by decide +kernel
theorem dX4_years_42 : decode cX4_years 42 = .ok (.goto 4, 3) := by decide +kernel
theorem dX4_years_45 : decode cX4_years 45 = .ok (.iconst 0, 1) := by decide +kernel
theorem dX4_years_46 : decode cX4_years 46 = .ok (.istore 7, 2) := by decide +kernel
theorem dX4_years_48 : decode cX4_years 48 = .ok (.iload_n 1, 1) := by decide +kernel
theorem dX4_years_49 : decode cX4_years 49 = .ok (.i2l, 1) := by decide +kernel
theorem dX4_years_50 : decode cX4_years 50 = .ok (.lconst 0, 1) := by decide +kernel
theorem dX4_years_51 : decode cX4_years 51 = .ok (.ldc2_w 133, 3) := by decide +kernel
theorem dX4_years_54 : decode cX4_years 54 = .ok (.invokestatic 68, 3) := by decide +kernel
theorem dX4_years_57 : decode cX4_years 57 = .ok (.ifCond .eq 33, 3) := by decide +kernel
theorem dX4_years_60 : decode cX4_years 60 = .ok (.iload_n 3, 1) := by decide +kernel
theorem dX4_years_61 : decode cX4_years 61 = .ok (.i2l, 1) := by decide +kernel
theorem dX4_years_62 : decode cX4_years 62 = .ok (.lconst 0, 1) := by decide +kernel
theorem dX4_years_63 : decode cX4_years 63 = .ok (.ldc2_w 118, 3) := by decide +kernel
theorem dX4_years_66 : decode cX4_years 66 = .ok (.invokestatic 68, 3) := by decide +kernel
theorem dX4_years_69 : decode cX4_years 69 = .ok (.ifCond .eq 21, 3) := by decide +kernel
theorem dX4_years_72 : decode cX4_years 72 = .ok (.iload 5, 2) := by decide +kernel
theorem dX4_years_74 : decode cX4_years 74 = .ok (.i2l, 1) := by decide +kernel
theorem dX4_years_75 : decode cX4_years 75 = .ok (.lconst 0, 1) := by decide +kernel
theorem dX4_years_76 : decode cX4_years 76 = .ok (.ldc2_w 179, 3) := by decide +kernel
theorem dX4_years_79 : decode cX4_years 79 = .ok (.invokestatic 68, 3) := by decide +kernel
theorem dX4_years_82 : decode cX4_years 82 = .ok (.ifCond .eq 8, 3) := by decide +kernel
theorem dX4_years_85 : decode cX4_years 85 = .ok (.iload 7, 2) := by decide +kernel
theorem dX4_years_87 : decode cX4_years 87 = .ok (.ifCond .ne 10, 3) := by decide +kernel
theorem dX4_years_90 : decode cX4_years 90 = .ok (.aload_n 0, 1) := by decide +kernel
theorem dX4_years_91 : decode cX4_years 91 = .ok (.bipush (-2), 2) := by decide +kernel
theorem dX4_years_93 : decode cX4_years 93 = .ok (.invokevirtual 115, 3) := by decide +kernel
theorem dX4_years_96 : decode cX4_years 96 = .ok (.ireturn, 1) := by decide +kernel
theorem dX4_years_97 : decode cX4_years 97 = .ok (.aload_n 0, 1) := by decide +kernel
theorem dX4_years_98 : decode cX4_years 98 = .ok (.getfield 72, 3) := by decide +kernel
theorem dX4_years_101 : decode cX4_years 101 = .ok (.ifCond .ne 10, 3) := by decide +kernel
theorem dX4_years_104 : decode cX4_years 104 = .ok (.aload_n 0, 1) := by decide +kernel
theorem dX4_years_105 : decode cX4_years 105 = .ok (.bipush (-3), 2) := by decide +kernel
theorem dX4_years_107 : decode cX4_years 107 = .ok (.invokevirtual 115, 3) := by decide +kernel
theorem dX4_years_110 : decode cX4_years 110 = .ok (.ireturn, 1) := by decide +kernel
theorem dX4_years_111 : decode cX4_years 111 = .ok (.aload_n 0, 1) := by decide +kernel
theorem dX4_years_112 : decode cX4_years 112 = .ok (.iload_n 2, 1) := by decide +kernel
theorem dX4_years_113 : decode cX4_years 113 = .ok (.iload_n 3, 1) := by decide +kernel
theorem dX4_years_114 : decode cX4_years 114 = .ok (.iload 4, 2) := by decide +kernel
theorem dX4_years_116 : decode cX4_years 116 = .ok (.iload 5, 2) := by decide +kernel
theorem dX4_years_118 : decode cX4_years 118 = .ok (.i2l, 1) := by decide +kernel
theorem dX4_years_119 : decode cX4_years 119 = .ok (.invokevirtual 120, 3) := by decide +kernel
theorem dX4_years_122 : decode cX4_years 122 = .ok (.istore 8, 2) := by decide +kernel
theorem dX4_years_124 : decode cX4_years 124 = .ok (.iload 8, 2) := by decide +kernel
theorem dX4_years_126 : decode cX4_years 126 = .ok (.ifCond .ge 6, 3) := by decide +kernel
theorem dX4_years_129 : decode cX4_years 129 = .ok (.iload 8, 2) := by decide +kernel
theorem dX4_years_131 : decode cX4_years 131 = .ok (.ireturn, 1) := by decide +kernel
theorem dX4_years_132 : decode cX4_years 132 = .ok (.iconst 0, 1) := by decide +kernel
theorem dX4_years_133 : decode cX4_years 133 = .ok (.istore 9, 2) := by decide +kernel
theorem dX4_years_135 : decode cX4_years 135 = .ok (.iload 9, 2) := by decide +kernel
theorem dX4_years_137 : decode cX4_years 137 = .ok (.iload 5, 2) := by decide +kernel
theorem dX4_years_139 : decode cX4_years 139 = .ok (.if_icmp .ge 38, 3) := by decide +kernel
theorem dX4_years_142 : decode cX4_years 142 = .ok (.aload_n 0, 1) := by decide +kernel
theorem dX4_years_143 : decode cX4_years 143 = .ok (.aload_n 0, 1) := by decide +kernel
theorem dX4_years_144 : decode cX4_years 144 = .ok (.getfield 49, 3) := by decide +kernel
theorem dX4_years_147 : decode cX4_years 147 = .ok (.bipush 60, 2) := by decide +kernel
theorem dX4_years_149 : decode cX4_years 149 = .ok (.iload_n 2, 1) := by decide +kernel
theorem dX4_years_150 : decode cX4_years 150 = .ok (.imul, 1) := by decide +kernel
theorem dX4_years_151 : decode cX4_years 151 = .ok (.iload 4, 2) := by decide +kernel
theorem dX4_years_153 : decode cX4_years 153 = .ok (.iadd, 1) := by decide +kernel
theorem dX4_years_154 : decode cX4_years 154 = .ok (.iload 9, 2) := by decide +kernel
theorem dX4_years_156 : decode cX4_years 156 = .ok (.iadd, 1) := by decide +kernel
theorem dX4_years_157 : decode cX4_years 157 = .ok (.iaload, 1) := by decide +kernel
theorem dX4_years_158 : decode cX4_years 158 = .ok (.invokevirtual 152, 3) := by decide +kernel
theorem dX4_years_161 : decode cX4_years 161 = .ok (.ifCond .eq 10, 3) := by decide +kernel
theorem dX4_years_164 : decode cX4_years 164 = .ok (.aload_n 0, 1) := by decide +kernel
theorem dX4_years_165 : decode cX4_years 165 = .ok (.bipush (-2), 2) := by decide +kernel
theorem dX4_years_167 : decode cX4_years 167 = .ok (.invokevirtual 115, 3) := by decide +kernel
theorem dX4_years_170 : decode cX4_years 170 = .ok (.ireturn, 1) := by decide +kernel
theorem dX4_years_171 : decode cX4_years 171 = .ok (.iinc 9 1, 3) := by decide +kernel
theorem dX4_years_174 : decode cX4_years 174 = .ok (.goto (-39), 3) := by decide +kernel
theorem dX4_years_177 : decode cX4_years 177 = .ok (.aload_n 0, 1) := by decide +kernel
theorem dX4_years_178 : decode cX4_years 178 = .ok (.iload_n 1, 1) := by decide +kernel
theorem dX4_years_179 : decode cX4_years 179 = .ok (.bipush 60, 2) := by decide +kernel
theorem dX4_years_181 : decode cX4_years 181 = .ok (.iload_n 2, 1) := by decide +kernel
theorem dX4_years_182 : decode cX4_years 182 = .ok (.imul, 1) := by decide +kernel
theorem dX4_years_183 : decode cX4_years 183 = .ok (.iload 4, 2) := by decide +kernel
theorem dX4_years_185 : decode cX4_years 185 = .ok (.iadd, 1) := by decide +kernel
theorem dX4_years_186 : decode cX4_years 186 = .ok (.iload 5, 2) := by decide +kernel
theorem dX4_years_188 : decode cX4_years 188 = .ok (.invokevirtual 181, 3) := by decide +kernel
theorem dX4_years_191 : decode cX4_years 191 = .ok (.iload 6, 2) := by decide +kernel
theorem dX4_years_193 : decode cX4_years 193 = .ok (.bipush 9, 2) := by decide +kernel
theorem dX4_years_195 : decode cX4_years 195 = .ok (.if_icmp .le 43, 3) := by decide +kernel
theorem dX4_years_198 : decode cX4_years 198 = .ok (.aload_n 0, 1) := by decide +kernel
theorem dX4_years_199 : decode cX4_years 199 = .ok (.aload_n 0, 1) := by decide +kernel
theorem dX4_years_200 : decode cX4_years 200 = .ok (.iload 6, 2) := by decide +kernel
theorem dX4_years_202 : decode cX4_years 202 = .ok (.bipush 10, 2) := by decide +kernel
theorem dX4_years_204 : decode cX4_years 204 = .ok (.isub, 1) := by decide +kernel
theorem dX4_years_205 : decode cX4_years 205 = .ok (.invokevirtual 135, 3) := by decide +kernel
theorem dX4_years_208 : decode cX4_years 208 = .ok (.ifCond .eq 8, 3) := by decide +kernel
theorem dX4_years_211 : decode cX4_years 211 = .ok (.bipush (-9), 2) := by decide +kernel
theorem dX4_years_213 : decode cX4_years 213 = .ok (.goto 21, 3) := by decide +kernel
theorem dX4_years_216 : decode cX4_years 216 = .ok (.aload_n 0, 1) := by decide +kernel
theorem dX4_years_217 : decode cX4_years 217 = .ok (.iload 6, 2) := by decide +kernel
theorem dX4_years_219 : decode cX4_years 219 = .ok (.bipush 10, 2) := by decide +kernel
theorem dX4_years_221 : decode cX4_years 221 = .ok (.isub, 1) := by decide +kernel
theorem dX4_years_222 : decode cX4_years 222 = .ok (.bipush 60, 2) := by decide +kernel
theorem dX4_years_224 : decode cX4_years 224 = .ok (.iload_n 2, 1) := by decide +kernel
theorem dX4_years_225 : decode cX4_years 225 = .ok (.imul, 1) := by decide +kernel
theorem dX4_years_226 : decode cX4_years 226 = .ok (.iload 4, 2) := by decide +kernel
theorem dX4_years_228 : decode cX4_years 228 = .ok (.iadd, 1) := by decide +kernel
theorem dX4_years_229 : decode cX4_years 229 = .ok (.iload 5, 2) := by decide +kernel
theorem dX4_years_231 : decode cX4_years 231 = .ok (.invokevirtual 185, 3) := by decide +kernel
theorem dX4_years_234 : decode cX4_years 234 = .ok (.invokevirtual 115, 3) := by decide +kernel
theorem dX4_years_237 : decode cX4_years 237 = .ok (.ireturn, 1) := by decide +kernel
theorem dX4_years_238 : decode cX4_years 238 = .ok (.aload_n 0, 1) := by decide +kernel
theorem dX4_years_239 : decode cX4_years 239 = .ok (.iload 6, 2) := by decide +kernel
theorem dX4_years_241 : decode cX4_years 241 = .ok (.ifCond .ne 10, 3) := by decide +kernel
theorem dX4_years_244 : decode cX4_years 244 = .ok (.aload_n 0, 1) := by decide +kernel
theorem dX4_years_245 : decode cX4_years 245 = .ok (.getfield 158, 3) := by decide +kernel
theorem dX4_years_248 : decode cX4_years 248 = .ok (.goto 33, 3) := by decide +kernel
theorem dX4_years_251 : decode cX4_years 251 = .ok (.iload 6, 2) := by decide +kernel
theorem dX4_years_253 : decode cX4_years 253 = .ok (.iconst 1, 1) := by decide +kernel
theorem dX4_years_254 : decode cX4_years 254 = .ok (.if_icmp .ne 10, 3) := by decide +kernel
theorem dX4_years_257 : decode cX4_years 257 = .ok (.aload_n 0, 1) := by decide +kernel
theorem dX4_years_258 : decode cX4_years 258 = .ok (.getfield 161, 3) := by decide +kernel
theorem dX4_years_261 : decode cX4_years 261 = .ok (.goto 20, 3) := by decide +kernel
theorem dX4_years_264 : decode cX4_years 264 = .ok (.iload 6, 2) := by decide +kernel
theorem dX4_years_266 : decode cX4_years 266 = .ok (.iconst 2, 1) := by decide +kernel
theorem dX4_years_267 : decode cX4_years 267 = .ok (.if_icmp .ne 10, 3) := by decide +kernel
theorem dX4_years_270 : decode cX4_years 270 = .ok (.aload_n 0, 1) := by decide +kernel
theorem dX4_years_271 : decode cX4_years 271 = .ok (.getfield 164, 3) := by decide +kernel
theorem dX4_years_274 : decode cX4_years 274 = .ok (.goto 7, 3) := by decide +kernel
theorem dX4_years_277 : decode cX4_years 277 = .ok (.aload_n 0, 1) := by decide +kernel
theorem dX4_years_278 : decode cX4_years 278 = .ok (.getfield 167, 3) := by decide +kernel
theorem dX4_years_281 : decode cX4_years 281 = .ok (.invokevirtual 115, 3) := by decide +kernel
theorem dX4_years_284 : decode cX4_years 284 = .ok (.ireturn, 1) := by decide +kernel
set_option maxRecDepth 20000 in
theorem ggX4_fair_X4_noProphet : GoodIn wsX4_fair wsX4_noProphet := goodIn_r _ [9, 10, 11, 12, 8, 13, 38, 39, 40, 41, 42, 43, 44, 45, 46, 47, 48, 49, 50, 51, 52, 53, 54, 55, 56, 57, 58, 59, 60, 61, 62, 63, 64] (by decide +kernel) (by decide +kernel)
set_option maxRecDepth 20000 in
theorem gX4_fair_X4_noProphet : GoodIn wsX4_fair (wsV RX4 135 RX4 yX4_noProphet wsX4_noProphet) := goodIn_app (goodIn_of _ (by decide +kernel)) ggX4_fair_X4_noProphet
set_option maxRecDepth 20000 in
theorem ggX4_fair_X4_in : GoodIn wsX4_fair wsX4_in := goodIn_r _ [13] (by decide +kernel) (by decide +kernel)
set_option maxRecDepth 20000 in
theorem gX4_fair_X4_in : GoodIn wsX4_fair (va_wsS RX4 68 yX4_in wsX4_in) := goodIn_app (goodIn_of _ (by decide +kernel)) ggX4_fair_X4_in
set_option maxRecDepth 20000 in
theorem ggX4_fair_X4_lost : GoodIn wsX4_fair wsX4_lost := goodIn_r _ [16, 17] (by decide +kernel) (by decide +kernel)
set_option maxRecDepth 20000 in
theorem gX4_fair_X4_lost : GoodIn wsX4_fair (va_wsS RX4 61 yX4_lost wsX4_lost) := goodIn_app (goodIn_of _ (by decide +kernel)) ggX4_fair_X4_lost
set_option maxRecDepth 20000 in
theorem ggX4_fair_X4_isIn : GoodIn wsX4_fair wsX4_isIn := goodIn_r _ [20] (by decide +kernel) (by decide +kernel)
set_option maxRecDepth 20000 in
theorem gX4_fair_X4_isIn : GoodIn wsX4_fair (va_wsS RX4 188 yX4_isIn wsX4_isIn) := goodIn_app (goodIn_of _ (by decide +kernel)) ggX4_fair_X4_isIn
set_option maxRecDepth 20000 in
theorem ggX4_fair_X4_isFraud : GoodIn wsX4_fair wsX4_isFraud := goodIn_r _ [24, 2, 25, 26, 27, 8, 28, 1, 38, 39, 40, 41, 42, 43, 44, 45, 46, 47, 48, 49, 50, 51, 52, 53, 54, 55, 56, 57, 58, 59, 60, 61, 62, 63, 64] (by decide +kernel) (by decide +kernel)
set_option maxRecDepth 20000 in
theorem gX4_fair_X4_isFraud : GoodIn wsX4_fair (wsV RX4 141 RX4 yX4_isFraud wsX4_isFraud) := goodIn_app (goodIn_of _ (by decide +kernel)) ggX4_fair_X4_isFraud
set_option maxRecDepth 20000 in
theorem ggX4_fair_X4_paysOf : GoodIn wsX4_fair wsX4_paysOf := goodIn_r _ [32, 33, 34, 38, 39, 40, 41, 42, 43, 44, 45, 46, 47, 48, 49, 50, 51, 52, 53, 54, 55, 56, 57, 58, 59, 60, 61, 62, 63, 64] (by decide +kernel) (by decide +kernel)
set_option maxRecDepth 20000 in
theorem gX4_fair_X4_paysOf : GoodIn wsX4_fair (wsV RX4 138 RX4 yX4_paysOf wsX4_paysOf) := goodIn_app (goodIn_of _ (by decide +kernel)) ggX4_fair_X4_paysOf
set_option maxRecDepth 20000 in
theorem ggX4_fair_X4_share : GoodIn wsX4_fair wsX4_share := goodIn_r _ [37] (by decide +kernel) (by decide +kernel)
set_option maxRecDepth 20000 in
theorem gX4_fair_X4_share : GoodIn wsX4_fair (va_wsS RX4 191 yX4_share wsX4_share) := goodIn_app (goodIn_of _ (by decide +kernel)) ggX4_fair_X4_share
end
section
theorem dX4_fair_0 : decode cX4_fair 0 = .ok (.aload_n 0, 1) := by decide +kernel
theorem dX4_fair_1 : decode cX4_fair 1 = .ok (.iload_n 1, 1) := by decide +kernel
theorem dX4_fair_2 : decode cX4_fair 2 = .ok (.invokevirtual 135, 3) := by decide +kernel
theorem dX4_fair_5 : decode cX4_fair 5 = .ok (.ifCond .ne 13, 3) := by decide +kernel
theorem dX4_fair_8 : decode cX4_fair 8 = .ok (.iload_n 2, 1) := by decide +kernel
theorem dX4_fair_9 : decode cX4_fair 9 = .ok (.i2l, 1) := by decide +kernel
theorem dX4_fair_10 : decode cX4_fair 10 = .ok (.lconst 0, 1) := by decide +kernel
theorem dX4_fair_11 : decode cX4_fair 11 = .ok (.lconst 1, 1) := by decide +kernel
theorem dX4_fair_12 : decode cX4_fair 12 = .ok (.invokestatic 68, 3) := by decide +kernel
theorem dX4_fair_15 : decode cX4_fair 15 = .ok (.ifCond .ne 7, 3) := by decide +kernel
theorem dX4_fair_18 : decode cX4_fair 18 = .ok (.invokestatic 61, 3) := by decide +kernel
theorem dX4_fair_21 : decode cX4_fair 21 = .ok (.lreturn, 1) := by decide +kernel
theorem dX4_fair_22 : decode cX4_fair 22 = .ok (.lconst 0, 1) := by decide +kernel
theorem dX4_fair_23 : decode cX4_fair 23 = .ok (.lstore_n 3, 1) := by decide +kernel
theorem dX4_fair_24 : decode cX4_fair 24 = .ok (.iconst 0, 1) := by decide +kernel
theorem dX4_fair_25 : decode cX4_fair 25 = .ok (.istore 5, 2) := by decide +kernel
theorem dX4_fair_27 : decode cX4_fair 27 = .ok (.iload 5, 2) := by decide +kernel
theorem dX4_fair_29 : decode cX4_fair 29 = .ok (.aload_n 0, 1) := by decide +kernel
theorem dX4_fair_30 : decode cX4_fair 30 = .ok (.getfield 65, 3) := by decide +kernel
theorem dX4_fair_33 : decode cX4_fair 33 = .ok (.if_icmp .ge 52, 3) := by decide +kernel
theorem dX4_fair_36 : decode cX4_fair 36 = .ok (.lload_n 3, 1) := by decide +kernel
theorem dX4_fair_37 : decode cX4_fair 37 = .ok (.aload_n 0, 1) := by decide +kernel
theorem dX4_fair_38 : decode cX4_fair 38 = .ok (.getfield 19, 3) := by decide +kernel
theorem dX4_fair_41 : decode cX4_fair 41 = .ok (.iload_n 1, 1) := by decide +kernel
theorem dX4_fair_42 : decode cX4_fair 42 = .ok (.iaload, 1) := by decide +kernel
theorem dX4_fair_43 : decode cX4_fair 43 = .ok (.iload 5, 2) := by decide +kernel
theorem dX4_fair_45 : decode cX4_fair 45 = .ok (.invokestatic 188, 3) := by decide +kernel
theorem dX4_fair_48 : decode cX4_fair 48 = .ok (.ifCond .eq 28, 3) := by decide +kernel
theorem dX4_fair_51 : decode cX4_fair 51 = .ok (.aload_n 0, 1) := by decide +kernel
theorem dX4_fair_52 : decode cX4_fair 52 = .ok (.iload_n 1, 1) := by decide +kernel
theorem dX4_fair_53 : decode cX4_fair 53 = .ok (.invokevirtual 141, 3) := by decide +kernel
theorem dX4_fair_56 : decode cX4_fair 56 = .ok (.ifCond .ne 20, 3) := by decide +kernel
theorem dX4_fair_59 : decode cX4_fair 59 = .ok (.aload_n 0, 1) := by decide +kernel
theorem dX4_fair_60 : decode cX4_fair 60 = .ok (.iload_n 1, 1) := by decide +kernel
theorem dX4_fair_61 : decode cX4_fair 61 = .ok (.invokevirtual 138, 3) := by decide +kernel
theorem dX4_fair_64 : decode cX4_fair 64 = .ok (.aload_n 0, 1) := by decide +kernel
theorem dX4_fair_65 : decode cX4_fair 65 = .ok (.getfield 7, 3) := by decide +kernel
theorem dX4_fair_68 : decode cX4_fair 68 = .ok (.iload 5, 2) := by decide +kernel
theorem dX4_fair_70 : decode cX4_fair 70 = .ok (.iaload, 1) := by decide +kernel
theorem dX4_fair_71 : decode cX4_fair 71 = .ok (.imul, 1) := by decide +kernel
theorem dX4_fair_72 : decode cX4_fair 72 = .ok (.i2l, 1) := by decide +kernel
theorem dX4_fair_73 : decode cX4_fair 73 = .ok (.goto 4, 3) := by decide +kernel
theorem dX4_fair_76 : decode cX4_fair 76 = .ok (.lconst 0, 1) := by decide +kernel
theorem dX4_fair_77 : decode cX4_fair 77 = .ok (.ladd, 1) := by decide +kernel
theorem dX4_fair_78 : decode cX4_fair 78 = .ok (.lstore_n 3, 1) := by decide +kernel
theorem dX4_fair_79 : decode cX4_fair 79 = .ok (.iinc 5 1, 3) := by decide +kernel
theorem dX4_fair_82 : decode cX4_fair 82 = .ok (.goto (-55), 3) := by decide +kernel
theorem dX4_fair_85 : decode cX4_fair 85 = .ok (.lload_n 3, 1) := by decide +kernel
theorem dX4_fair_86 : decode cX4_fair 86 = .ok (.ldc2_w 175, 3) := by decide +kernel
theorem dX4_fair_89 : decode cX4_fair 89 = .ok (.iload_n 2, 1) := by decide +kernel
theorem dX4_fair_90 : decode cX4_fair 90 = .ok (.invokestatic 191, 3) := by decide +kernel
theorem dX4_fair_93 : decode cX4_fair 93 = .ok (.lreturn, 1) := by decide +kernel
set_option maxRecDepth 20000 in
theorem ggX4_safe_X4_noProphet : GoodIn wsX4_safe wsX4_noProphet := goodIn_r _ [5, 6, 7, 8, 4, 9, 33, 34, 35, 36, 37, 38, 39, 40, 41, 42, 43, 44, 45, 46, 47, 48, 49, 50, 51, 52, 53, 54, 55, 56, 57, 58, 59] (by decide +kernel) (by decide +kernel)
set_option maxRecDepth 20000 in
theorem gX4_safe_X4_noProphet : GoodIn wsX4_safe (wsV RX4 135 RX4 yX4_noProphet wsX4_noProphet) := goodIn_app (goodIn_of _ (by decide +kernel)) ggX4_safe_X4_noProphet
set_option maxRecDepth 20000 in
theorem ggX4_safe_X4_allEvents : GoodIn wsX4_safe wsX4_allEvents := goodIn_r _ [13, 14, 33, 34, 35, 36, 37, 38, 39, 40, 41, 42, 43, 44, 45, 46, 47, 48, 49, 50, 51, 52, 53, 54, 55, 56, 57, 58, 59] (by decide +kernel) (by decide +kernel)
set_option maxRecDepth 20000 in
theorem gX4_safe_X4_allEvents : GoodIn wsX4_safe (wsV RX4 75 RX4 yX4_allEvents wsX4_allEvents) := goodIn_app (goodIn_of _ (by decide +kernel)) ggX4_safe_X4_allEvents
set_option maxRecDepth 20000 in
theorem ggX4_safe_X4_paidTo : GoodIn wsX4_safe wsX4_paidTo := goodIn_r _ [18, 19, 20, 21, 22, 4, 23, 10, 11, 12, 13, 14, 24, 25, 26, 27, 28, 29, 30, 31, 32, 33, 34, 35, 36, 37, 38, 39, 40, 41, 42, 43, 44, 45, 46, 47, 48, 49, 50, 51, 52, 53, 54, 55, 56, 57, 58, 59] (by decide +kernel) (by decide +kernel)
set_option maxRecDepth 20000 in
theorem gX4_safe_X4_paidTo : GoodIn wsX4_safe (wsV RX4 149 RX4 yX4_paidTo wsX4_paidTo) := goodIn_app (goodIn_of _ (by decide +kernel)) ggX4_safe_X4_paidTo
theorem dX4_safe_0 : decode cX4_safe 0 = .ok (.aload_n 0, 1) := by decide +kernel
theorem dX4_safe_1 : decode cX4_safe 1 = .ok (.iload_n 1, 1) := by decide +kernel
theorem dX4_safe_2 : decode cX4_safe 2 = .ok (.invokevirtual 135, 3) := by decide +kernel
theorem dX4_safe_5 : decode cX4_safe 5 = .ok (.ifCond .eq 7, 3) := by decide +kernel
theorem dX4_safe_8 : decode cX4_safe 8 = .ok (.iconst (-1), 1) := by decide +kernel
theorem dX4_safe_9 : decode cX4_safe 9 = .ok (.goto 12, 3) := by decide +kernel
theorem dX4_safe_12 : decode cX4_safe 12 = .ok (.aload_n 0, 1) := by decide +kernel
theorem dX4_safe_13 : decode cX4_safe 13 = .ok (.iload_n 1, 1) := by decide +kernel
theorem dX4_safe_14 : decode cX4_safe 14 = .ok (.aload_n 0, 1) := by decide +kernel
theorem dX4_safe_15 : decode cX4_safe 15 = .ok (.invokevirtual 75, 3) := by decide +kernel
theorem dX4_safe_18 : decode cX4_safe 18 = .ok (.invokevirtual 149, 3) := by decide +kernel
theorem dX4_safe_21 : decode cX4_safe 21 = .ok (.ireturn, 1) := by decide +kernel
set_option maxRecDepth 20000 in
theorem ggX4_weightOf_X4_isIn : GoodIn wsX4_weightOf wsX4_isIn := goodIn_r _ [6] (by decide +kernel) (by decide +kernel)
set_option maxRecDepth 20000 in
theorem gX4_weightOf_X4_isIn : GoodIn wsX4_weightOf (va_wsS RX4 188 yX4_isIn wsX4_isIn) := goodIn_app (goodIn_of _ (by decide +kernel)) ggX4_weightOf_X4_isIn
theorem dX4_weightOf_0 : decode cX4_weightOf 0 = .ok (.lconst 1, 1) := by decide +kernel
theorem dX4_weightOf_1 : decode cX4_weightOf 1 = .ok (.lstore_n 2, 1) := by decide +kernel
theorem dX4_weightOf_2 : decode cX4_weightOf 2 = .ok (.iconst 0, 1) := by decide +kernel
theorem dX4_weightOf_3 : decode cX4_weightOf 3 = .ok (.istore 4, 2) := by decide +kernel
theorem dX4_weightOf_5 : decode cX4_weightOf 5 = .ok (.iload 4, 2) := by decide +kernel
theorem dX4_weightOf_7 : decode cX4_weightOf 7 = .ok (.aload_n 0, 1) := by decide +kernel
theorem dX4_weightOf_8 : decode cX4_weightOf 8 = .ok (.getfield 65, 3) := by decide +kernel
theorem dX4_weightOf_11 : decode cX4_weightOf 11 = .ok (.if_icmp .ge 43, 3) := by decide +kernel
theorem dX4_weightOf_14 : decode cX4_weightOf 14 = .ok (.lload_n 2, 1) := by decide +kernel
theorem dX4_weightOf_15 : decode cX4_weightOf 15 = .ok (.iload_n 1, 1) := by decide +kernel
theorem dX4_weightOf_16 : decode cX4_weightOf 16 = .ok (.iload 4, 2) := by decide +kernel
theorem dX4_weightOf_18 : decode cX4_weightOf 18 = .ok (.invokestatic 188, 3) := by decide +kernel
theorem dX4_weightOf_21 : decode cX4_weightOf 21 = .ok (.ifCond .eq 14, 3) := by decide +kernel
theorem dX4_weightOf_24 : decode cX4_weightOf 24 = .ok (.aload_n 0, 1) := by decide +kernel
theorem dX4_weightOf_25 : decode cX4_weightOf 25 = .ok (.getfield 7, 3) := by decide +kernel
theorem dX4_weightOf_28 : decode cX4_weightOf 28 = .ok (.iload 4, 2) := by decide +kernel
theorem dX4_weightOf_30 : decode cX4_weightOf 30 = .ok (.iaload, 1) := by decide +kernel
theorem dX4_weightOf_31 : decode cX4_weightOf 31 = .ok (.i2l, 1) := by decide +kernel
theorem dX4_weightOf_32 : decode cX4_weightOf 32 = .ok (.goto 14, 3) := by decide +kernel
theorem dX4_weightOf_35 : decode cX4_weightOf 35 = .ok (.bipush 10, 2) := by decide +kernel
theorem dX4_weightOf_37 : decode cX4_weightOf 37 = .ok (.aload_n 0, 1) := by decide +kernel
theorem dX4_weightOf_38 : decode cX4_weightOf 38 = .ok (.getfield 7, 3) := by decide +kernel
theorem dX4_weightOf_41 : decode cX4_weightOf 41 = .ok (.iload 4, 2) := by decide +kernel
theorem dX4_weightOf_43 : decode cX4_weightOf 43 = .ok (.iaload, 1) := by decide +kernel
theorem dX4_weightOf_44 : decode cX4_weightOf 44 = .ok (.isub, 1) := by decide +kernel
theorem dX4_weightOf_45 : decode cX4_weightOf 45 = .ok (.i2l, 1) := by decide +kernel
theorem dX4_weightOf_46 : decode cX4_weightOf 46 = .ok (.lmul, 1) := by decide +kernel
theorem dX4_weightOf_47 : decode cX4_weightOf 47 = .ok (.lstore_n 2, 1) := by decide +kernel
theorem dX4_weightOf_48 : decode cX4_weightOf 48 = .ok (.iinc 4 1, 3) := by decide +kernel
theorem dX4_weightOf_51 : decode cX4_weightOf 51 = .ok (.goto (-46), 3) := by decide +kernel
theorem dX4_weightOf_54 : decode cX4_weightOf 54 = .ok (.lload_n 2, 1) := by decide +kernel
theorem dX4_weightOf_55 : decode cX4_weightOf 55 = .ok (.lreturn, 1) := by decide +kernel
theorem dX4_weightOfAll_0 : decode cX4_weightOfAll 0 = .ok (.lconst 1, 1) := by decide +kernel
theorem dX4_weightOfAll_1 : decode cX4_weightOfAll 1 = .ok (.lstore_n 1, 1) := by decide +kernel
theorem dX4_weightOfAll_2 : decode cX4_weightOfAll 2 = .ok (.iconst 0, 1) := by decide +kernel
theorem dX4_weightOfAll_3 : decode cX4_weightOfAll 3 = .ok (.istore_n 3, 1) := by decide +kernel
theorem dX4_weightOfAll_4 : decode cX4_weightOfAll 4 = .ok (.iload_n 3, 1) := by decide +kernel
theorem dX4_weightOfAll_5 : decode cX4_weightOfAll 5 = .ok (.aload_n 0, 1) := by decide +kernel
theorem dX4_weightOfAll_6 : decode cX4_weightOfAll 6 = .ok (.getfield 65, 3) := by decide +kernel
theorem dX4_weightOfAll_9 : decode cX4_weightOfAll 9 = .ok (.if_icmp .ge 15, 3) := by decide +kernel
theorem dX4_weightOfAll_12 : decode cX4_weightOfAll 12 = .ok (.lload_n 1, 1) := by decide +kernel
theorem dX4_weightOfAll_13 : decode cX4_weightOfAll 13 = .ok (.ldc2_w 175, 3) := by decide +kernel
theorem dX4_weightOfAll_16 : decode cX4_weightOfAll 16 = .ok (.lmul, 1) := by decide +kernel
theorem dX4_weightOfAll_17 : decode cX4_weightOfAll 17 = .ok (.lstore_n 1, 1) := by decide +kernel
theorem dX4_weightOfAll_18 : decode cX4_weightOfAll 18 = .ok (.iinc 3 1, 3) := by decide +kernel
theorem dX4_weightOfAll_21 : decode cX4_weightOfAll 21 = .ok (.goto (-17), 3) := by decide +kernel
theorem dX4_weightOfAll_24 : decode cX4_weightOfAll 24 = .ok (.lload_n 1, 1) := by decide +kernel
theorem dX4_weightOfAll_25 : decode cX4_weightOfAll 25 = .ok (.lreturn, 1) := by decide +kernel
set_option maxRecDepth 20000 in
theorem ggX4_weightFrom_X4_allEvents : GoodIn wsX4_weightFrom wsX4_allEvents := goodIn_r _ [5, 6, 38, 39, 40, 41, 42, 43, 44, 45, 46, 47, 48, 49, 50, 51, 52, 53, 54, 55, 56, 57, 58, 59, 60, 61, 62, 63, 64] (by decide +kernel) (by decide +kernel)
set_option maxRecDepth 20000 in
theorem gX4_weightFrom_X4_allEvents : GoodIn wsX4_weightFrom (wsV RX4 75 RX4 yX4_allEvents wsX4_allEvents) := goodIn_app (goodIn_of _ (by decide +kernel)) ggX4_weightFrom_X4_allEvents
set_option maxRecDepth 20000 in
theorem ggX4_weightFrom_X4_paidToAll : GoodIn wsX4_weightFrom wsX4_paidToAll := goodIn_r _ [10, 11, 12, 13, 14, 4, 15, 16, 17, 18, 19, 20, 1, 2, 3, 5, 6, 21, 22, 23, 24, 25, 26, 27, 28, 29, 38, 39, 40, 41, 42, 43, 44, 45, 46, 47, 48, 49, 50, 51, 52, 53, 54, 55, 56, 57, 58, 59, 60, 61, 62, 63, 64] (by decide +kernel) (by decide +kernel)
set_option maxRecDepth 20000 in
theorem gX4_weightFrom_X4_paidToAll : GoodIn wsX4_weightFrom (wsV RX4 155 RX4 yX4_paidToAll wsX4_paidToAll) := goodIn_app (goodIn_of _ (by decide +kernel)) ggX4_weightFrom_X4_paidToAll
set_option maxRecDepth 20000 in
theorem ggX4_weightFrom_X4_weightOf : GoodIn wsX4_weightFrom wsX4_weightOf := goodIn_r _ [33, 6, 34, 35, 36, 4, 37, 38, 39, 40, 41, 42, 43, 44, 45, 46, 47, 48, 49, 50, 51, 52, 53, 54, 55, 56, 57, 58, 59, 60, 61, 62, 63, 64] (by decide +kernel) (by decide +kernel)
set_option maxRecDepth 20000 in
theorem gX4_weightFrom_X4_weightOf : GoodIn wsX4_weightFrom (wsV RX4 195 RX4 yX4_weightOf wsX4_weightOf) := goodIn_app (goodIn_of _ (by decide +kernel)) ggX4_weightFrom_X4_weightOf
theorem dX4_weightFrom_0 : decode cX4_weightFrom 0 = .ok (.lconst 0, 1) := by decide +kernel
theorem dX4_weightFrom_1 : decode cX4_weightFrom 1 = .ok (.lstore_n 2, 1) := by decide +kernel
theorem dX4_weightFrom_2 : decode cX4_weightFrom 2 = .ok (.iconst 0, 1) := by decide +kernel
theorem dX4_weightFrom_3 : decode cX4_weightFrom 3 = .ok (.istore 4, 2) := by decide +kernel
theorem dX4_weightFrom_5 : decode cX4_weightFrom 5 = .ok (.iload 4, 2) := by decide +kernel
theorem dX4_weightFrom_7 : decode cX4_weightFrom 7 = .ok (.aload_n 0, 1) := by decide +kernel
theorem dX4_weightFrom_8 : decode cX4_weightFrom 8 = .ok (.invokevirtual 75, 3) := by decide +kernel
theorem dX4_weightFrom_11 : decode cX4_weightFrom 11 = .ok (.if_icmp .gt 32, 3) := by decide +kernel
theorem dX4_weightFrom_14 : decode cX4_weightFrom 14 = .ok (.lload_n 2, 1) := by decide +kernel
theorem dX4_weightFrom_15 : decode cX4_weightFrom 15 = .ok (.aload_n 0, 1) := by decide +kernel
theorem dX4_weightFrom_16 : decode cX4_weightFrom 16 = .ok (.iload 4, 2) := by decide +kernel
theorem dX4_weightFrom_18 : decode cX4_weightFrom 18 = .ok (.invokevirtual 155, 3) := by decide +kernel
theorem dX4_weightFrom_21 : decode cX4_weightFrom 21 = .ok (.iload_n 1, 1) := by decide +kernel
theorem dX4_weightFrom_22 : decode cX4_weightFrom 22 = .ok (.if_icmp .lt 12, 3) := by decide +kernel
theorem dX4_weightFrom_25 : decode cX4_weightFrom 25 = .ok (.aload_n 0, 1) := by decide +kernel
theorem dX4_weightFrom_26 : decode cX4_weightFrom 26 = .ok (.iload 4, 2) := by decide +kernel
theorem dX4_weightFrom_28 : decode cX4_weightFrom 28 = .ok (.invokevirtual 195, 3) := by decide +kernel
theorem dX4_weightFrom_31 : decode cX4_weightFrom 31 = .ok (.goto 4, 3) := by decide +kernel
theorem dX4_weightFrom_34 : decode cX4_weightFrom 34 = .ok (.lconst 0, 1) := by decide +kernel
theorem dX4_weightFrom_35 : decode cX4_weightFrom 35 = .ok (.ladd, 1) := by decide +kernel
theorem dX4_weightFrom_36 : decode cX4_weightFrom 36 = .ok (.lstore_n 2, 1) := by decide +kernel
theorem dX4_weightFrom_37 : decode cX4_weightFrom 37 = .ok (.iinc 4 1, 3) := by decide +kernel
theorem dX4_weightFrom_40 : decode cX4_weightFrom 40 = .ok (.goto (-35), 3) := by decide +kernel
theorem dX4_weightFrom_43 : decode cX4_weightFrom 43 = .ok (.lload_n 2, 1) := by decide +kernel
theorem dX4_weightFrom_44 : decode cX4_weightFrom 44 = .ok (.lreturn, 1) := by decide +kernel
set_option maxRecDepth 20000 in
theorem ggX4_hold_X4_in : GoodIn wsX4_hold wsX4_in := goodIn_r _ [6] (by decide +kernel) (by decide +kernel)
set_option maxRecDepth 20000 in
theorem gX4_hold_X4_in : GoodIn wsX4_hold (va_wsS RX4 68 yX4_in wsX4_in) := goodIn_app (goodIn_of _ (by decide +kernel)) ggX4_hold_X4_in
set_option maxRecDepth 20000 in
theorem ggX4_hold_X4_weightOfAll : GoodIn wsX4_hold wsX4_weightOfAll := goodIn_r _ [10, 11, 1, 50, 51, 52, 53, 54, 55, 56, 57, 58, 59, 60, 61, 62, 63, 64, 65, 66, 67, 68, 69, 70, 71, 72, 73, 74, 75, 76] (by decide +kernel) (by decide +kernel)
set_option maxRecDepth 20000 in
theorem gX4_hold_X4_weightOfAll : GoodIn wsX4_hold (wsV RX4 199 RX4 yX4_weightOfAll wsX4_weightOfAll) := goodIn_app (goodIn_of _ (by decide +kernel)) ggX4_hold_X4_weightOfAll
set_option maxRecDepth 20000 in
theorem ggX4_hold_X4_weightFrom : GoodIn wsX4_hold wsX4_weightFrom := goodIn_r _ [15, 16, 17, 18, 5, 19, 11, 20, 21, 22, 23, 2, 24, 25, 26, 27, 28, 29, 30, 31, 32, 33, 34, 35, 36, 37, 38, 39, 40, 41, 42, 43, 44, 45, 46, 47, 48, 49, 50, 51, 52, 53, 54, 55, 56, 57, 58, 59, 60, 61, 62, 63, 64, 65, 66, 67, 68, 69, 70, 71, 72, 73, 74, 75, 76] (by decide +kernel) (by decide +kernel)
set_option maxRecDepth 20000 in
theorem gX4_hold_X4_weightFrom : GoodIn wsX4_hold (wsV RX4 202 RX4 yX4_weightFrom wsX4_weightFrom) := goodIn_app (goodIn_of _ (by decide +kernel)) ggX4_hold_X4_weightFrom
theorem dX4_hold_0 : decode cX4_hold 0 = .ok (.iload_n 1, 1) := by decide +kernel
theorem dX4_hold_1 : decode cX4_hold 1 = .ok (.i2l, 1) := by decide +kernel
theorem dX4_hold_2 : decode cX4_hold 2 = .ok (.lconst 0, 1) := by decide +kernel
theorem dX4_hold_3 : decode cX4_hold 3 = .ok (.ldc2_w 175, 3) := by decide +kernel
theorem dX4_hold_6 : decode cX4_hold 6 = .ok (.invokestatic 68, 3) := by decide +kernel
theorem dX4_hold_9 : decode cX4_hold 9 = .ok (.ifCond .ne 6, 3) := by decide +kernel
theorem dX4_hold_12 : decode cX4_hold 12 = .ok (.bipush (-2), 2) := by decide +kernel
theorem dX4_hold_14 : decode cX4_hold 14 = .ok (.ireturn, 1) := by decide +kernel
theorem dX4_hold_15 : decode cX4_hold 15 = .ok (.aload_n 0, 1) := by decide +kernel
theorem dX4_hold_16 : decode cX4_hold 16 = .ok (.getfield 72, 3) := by decide +kernel
theorem dX4_hold_19 : decode cX4_hold 19 = .ok (.ifCond .ne 6, 3) := by decide +kernel
theorem dX4_hold_22 : decode cX4_hold 22 = .ok (.bipush (-3), 2) := by decide +kernel
theorem dX4_hold_24 : decode cX4_hold 24 = .ok (.ireturn, 1) := by decide +kernel
theorem dX4_hold_25 : decode cX4_hold 25 = .ok (.iconst 0, 1) := by decide +kernel
theorem dX4_hold_26 : decode cX4_hold 26 = .ok (.istore_n 2, 1) := by decide +kernel
theorem dX4_hold_27 : decode cX4_hold 27 = .ok (.ldc2_w 175, 3) := by decide +kernel
theorem dX4_hold_30 : decode cX4_hold 30 = .ok (.aload_n 0, 1) := by decide +kernel
theorem dX4_hold_31 : decode cX4_hold 31 = .ok (.invokevirtual 199, 3) := by decide +kernel
theorem dX4_hold_34 : decode cX4_hold 34 = .ok (.aload_n 0, 1) := by decide +kernel
theorem dX4_hold_35 : decode cX4_hold 35 = .ok (.iload_n 2, 1) := by decide +kernel
theorem dX4_hold_36 : decode cX4_hold 36 = .ok (.iconst 1, 1) := by decide +kernel
theorem dX4_hold_37 : decode cX4_hold 37 = .ok (.iadd, 1) := by decide +kernel
theorem dX4_hold_38 : decode cX4_hold 38 = .ok (.invokevirtual 202, 3) := by decide +kernel
theorem dX4_hold_41 : decode cX4_hold 41 = .ok (.lsub, 1) := by decide +kernel
theorem dX4_hold_42 : decode cX4_hold 42 = .ok (.lmul, 1) := by decide +kernel
theorem dX4_hold_43 : decode cX4_hold 43 = .ok (.iload_n 1, 1) := by decide +kernel
theorem dX4_hold_44 : decode cX4_hold 44 = .ok (.i2l, 1) := by decide +kernel
theorem dX4_hold_45 : decode cX4_hold 45 = .ok (.aload_n 0, 1) := by decide +kernel
theorem dX4_hold_46 : decode cX4_hold 46 = .ok (.invokevirtual 199, 3) := by decide +kernel
theorem dX4_hold_49 : decode cX4_hold 49 = .ok (.lmul, 1) := by decide +kernel
theorem dX4_hold_50 : decode cX4_hold 50 = .ok (.lcmp, 1) := by decide +kernel
theorem dX4_hold_51 : decode cX4_hold 51 = .ok (.ifCond .ge 9, 3) := by decide +kernel
theorem dX4_hold_54 : decode cX4_hold 54 = .ok (.iinc 2 1, 3) := by decide +kernel
theorem dX4_hold_57 : decode cX4_hold 57 = .ok (.goto (-30), 3) := by decide +kernel
theorem dX4_hold_60 : decode cX4_hold 60 = .ok (.iload_n 2, 1) := by decide +kernel
theorem dX4_hold_61 : decode cX4_hold 61 = .ok (.ireturn, 1) := by decide +kernel
set_option maxRecDepth 20000 in
theorem ggX4_best_X4_noProphet : GoodIn wsX4_best wsX4_noProphet := goodIn_r _ [8, 9, 10, 11, 7, 12, 26, 27, 28, 29, 30, 31, 32, 33, 34, 35, 36, 37, 38, 39, 40, 41, 42, 43, 44, 45, 46, 47, 48, 49, 50, 51, 52] (by decide +kernel) (by decide +kernel)
set_option maxRecDepth 20000 in
theorem gX4_best_X4_noProphet : GoodIn wsX4_best (wsV RX4 135 RX4 yX4_noProphet wsX4_noProphet) := goodIn_app (goodIn_of _ (by decide +kernel)) ggX4_best_X4_noProphet
set_option maxRecDepth 20000 in
theorem ggX4_best_X4_in : GoodIn wsX4_best wsX4_in := goodIn_r _ [12] (by decide +kernel) (by decide +kernel)
set_option maxRecDepth 20000 in
theorem gX4_best_X4_in : GoodIn wsX4_best (va_wsS RX4 68 yX4_in wsX4_in) := goodIn_app (goodIn_of _ (by decide +kernel)) ggX4_best_X4_in
set_option maxRecDepth 20000 in
theorem ggX4_best_X4_allEvents : GoodIn wsX4_best wsX4_allEvents := goodIn_r _ [16, 2, 26, 27, 28, 29, 30, 31, 32, 33, 34, 35, 36, 37, 38, 39, 40, 41, 42, 43, 44, 45, 46, 47, 48, 49, 50, 51, 52] (by decide +kernel) (by decide +kernel)
set_option maxRecDepth 20000 in
theorem gX4_best_X4_allEvents : GoodIn wsX4_best (wsV RX4 75 RX4 yX4_allEvents wsX4_allEvents) := goodIn_app (goodIn_of _ (by decide +kernel)) ggX4_best_X4_allEvents
set_option maxRecDepth 20000 in
theorem ggX4_best_X4_isIn : GoodIn wsX4_best wsX4_isIn := goodIn_r _ [19] (by decide +kernel) (by decide +kernel)
set_option maxRecDepth 20000 in
theorem gX4_best_X4_isIn : GoodIn wsX4_best (va_wsS RX4 188 yX4_isIn wsX4_isIn) := goodIn_app (goodIn_of _ (by decide +kernel)) ggX4_best_X4_isIn
set_option maxRecDepth 20000 in
theorem ggX4_best_X4_paysOf : GoodIn wsX4_best wsX4_paysOf := goodIn_r _ [23, 24, 25, 26, 27, 28, 29, 30, 31, 32, 33, 34, 35, 36, 37, 38, 39, 40, 41, 42, 43, 44, 45, 46, 47, 48, 49, 50, 51, 52] (by decide +kernel) (by decide +kernel)
set_option maxRecDepth 20000 in
theorem gX4_best_X4_paysOf : GoodIn wsX4_best (wsV RX4 138 RX4 yX4_paysOf wsX4_paysOf) := goodIn_app (goodIn_of _ (by decide +kernel)) ggX4_best_X4_paysOf
theorem dX4_best_0 : decode cX4_best 0 = .ok (.aload_n 0, 1) := by decide +kernel
theorem dX4_best_1 : decode cX4_best 1 = .ok (.iload_n 1, 1) := by decide +kernel
theorem dX4_best_2 : decode cX4_best 2 = .ok (.invokevirtual 135, 3) := by decide +kernel
theorem dX4_best_5 : decode cX4_best 5 = .ok (.ifCond .eq 5, 3) := by decide +kernel
theorem dX4_best_8 : decode cX4_best 8 = .ok (.iconst (-1), 1) := by decide +kernel
theorem dX4_best_9 : decode cX4_best 9 = .ok (.ireturn, 1) := by decide +kernel
theorem dX4_best_10 : decode cX4_best 10 = .ok (.iload_n 2, 1) := by decide +kernel
theorem dX4_best_11 : decode cX4_best 11 = .ok (.i2l, 1) := by decide +kernel
theorem dX4_best_12 : decode cX4_best 12 = .ok (.lconst 0, 1) := by decide +kernel
theorem dX4_best_13 : decode cX4_best 13 = .ok (.ldc2_w 133, 3) := by decide +kernel
theorem dX4_best_16 : decode cX4_best 16 = .ok (.invokestatic 68, 3) := by decide +kernel
theorem dX4_best_19 : decode cX4_best 19 = .ok (.ifCond .ne 6, 3) := by decide +kernel
theorem dX4_best_22 : decode cX4_best 22 = .ok (.bipush (-2), 2) := by decide +kernel
theorem dX4_best_24 : decode cX4_best 24 = .ok (.ireturn, 1) := by decide +kernel
theorem dX4_best_25 : decode cX4_best 25 = .ok (.iconst 0, 1) := by decide +kernel
theorem dX4_best_26 : decode cX4_best 26 = .ok (.istore_n 3, 1) := by decide +kernel
theorem dX4_best_27 : decode cX4_best 27 = .ok (.iconst 0, 1) := by decide +kernel
theorem dX4_best_28 : decode cX4_best 28 = .ok (.istore 4, 2) := by decide +kernel
theorem dX4_best_30 : decode cX4_best 30 = .ok (.iconst 0, 1) := by decide +kernel
theorem dX4_best_31 : decode cX4_best 31 = .ok (.istore 5, 2) := by decide +kernel
theorem dX4_best_33 : decode cX4_best 33 = .ok (.iload 5, 2) := by decide +kernel
theorem dX4_best_35 : decode cX4_best 35 = .ok (.aload_n 0, 1) := by decide +kernel
theorem dX4_best_36 : decode cX4_best 36 = .ok (.invokevirtual 75, 3) := by decide +kernel
theorem dX4_best_39 : decode cX4_best 39 = .ok (.if_icmp .ge 97, 3) := by decide +kernel
theorem dX4_best_42 : decode cX4_best 42 = .ok (.iconst 0, 1) := by decide +kernel
theorem dX4_best_43 : decode cX4_best 43 = .ok (.istore 6, 2) := by decide +kernel
theorem dX4_best_45 : decode cX4_best 45 = .ok (.iconst 0, 1) := by decide +kernel
theorem dX4_best_46 : decode cX4_best 46 = .ok (.istore 7, 2) := by decide +kernel
theorem dX4_best_48 : decode cX4_best 48 = .ok (.iload 7, 2) := by decide +kernel
theorem dX4_best_50 : decode cX4_best 50 = .ok (.aload_n 0, 1) := by decide +kernel
theorem dX4_best_51 : decode cX4_best 51 = .ok (.getfield 65, 3) := by decide +kernel
theorem dX4_best_54 : decode cX4_best 54 = .ok (.if_icmp .ge 46, 3) := by decide +kernel
theorem dX4_best_57 : decode cX4_best 57 = .ok (.iload 6, 2) := by decide +kernel
theorem dX4_best_59 : decode cX4_best 59 = .ok (.iload 5, 2) := by decide +kernel
theorem dX4_best_61 : decode cX4_best 61 = .ok (.iload 7, 2) := by decide +kernel
theorem dX4_best_63 : decode cX4_best 63 = .ok (.invokestatic 188, 3) := by decide +kernel
theorem dX4_best_66 : decode cX4_best 66 = .ok (.ifCond .eq 24, 3) := by decide +kernel
theorem dX4_best_69 : decode cX4_best 69 = .ok (.aload_n 0, 1) := by decide +kernel
theorem dX4_best_70 : decode cX4_best 70 = .ok (.iload_n 1, 1) := by decide +kernel
theorem dX4_best_71 : decode cX4_best 71 = .ok (.invokevirtual 138, 3) := by decide +kernel
theorem dX4_best_74 : decode cX4_best 74 = .ok (.aload_n 0, 1) := by decide +kernel
theorem dX4_best_75 : decode cX4_best 75 = .ok (.getfield 7, 3) := by decide +kernel
theorem dX4_best_78 : decode cX4_best 78 = .ok (.iload 7, 2) := by decide +kernel
theorem dX4_best_80 : decode cX4_best 80 = .ok (.iaload, 1) := by decide +kernel
theorem dX4_best_81 : decode cX4_best 81 = .ok (.imul, 1) := by decide +kernel
theorem dX4_best_82 : decode cX4_best 82 = .ok (.bipush 10, 2) := by decide +kernel
theorem dX4_best_84 : decode cX4_best 84 = .ok (.iload_n 2, 1) := by decide +kernel
theorem dX4_best_85 : decode cX4_best 85 = .ok (.imul, 1) := by decide +kernel
theorem dX4_best_86 : decode cX4_best 86 = .ok (.isub, 1) := by decide +kernel
theorem dX4_best_87 : decode cX4_best 87 = .ok (.goto 4, 3) := by decide +kernel
theorem dX4_best_90 : decode cX4_best 90 = .ok (.iconst 0, 1) := by decide +kernel
theorem dX4_best_91 : decode cX4_best 91 = .ok (.iadd, 1) := by decide +kernel
theorem dX4_best_92 : decode cX4_best 92 = .ok (.istore 6, 2) := by decide +kernel
theorem dX4_best_94 : decode cX4_best 94 = .ok (.iinc 7 1, 3) := by decide +kernel
theorem dX4_best_97 : decode cX4_best 97 = .ok (.goto (-49), 3) := by decide +kernel
theorem dX4_best_100 : decode cX4_best 100 = .ok (.iload 6, 2) := by decide +kernel
theorem dX4_best_102 : decode cX4_best 102 = .ok (.iload 4, 2) := by decide +kernel
theorem dX4_best_104 : decode cX4_best 104 = .ok (.if_icmp .le 8, 3) := by decide +kernel
theorem dX4_best_107 : decode cX4_best 107 = .ok (.iload 5, 2) := by decide +kernel
theorem dX4_best_109 : decode cX4_best 109 = .ok (.goto 4, 3) := by decide +kernel
theorem dX4_best_112 : decode cX4_best 112 = .ok (.iload_n 3, 1) := by decide +kernel
theorem dX4_best_113 : decode cX4_best 113 = .ok (.istore_n 3, 1) := by decide +kernel
theorem dX4_best_114 : decode cX4_best 114 = .ok (.iload 6, 2) := by decide +kernel
theorem dX4_best_116 : decode cX4_best 116 = .ok (.iload 4, 2) := by decide +kernel
theorem dX4_best_118 : decode cX4_best 118 = .ok (.if_icmp .le 8, 3) := by decide +kernel
theorem dX4_best_121 : decode cX4_best 121 = .ok (.iload 6, 2) := by decide +kernel
theorem dX4_best_123 : decode cX4_best 123 = .ok (.goto 5, 3) := by decide +kernel
theorem dX4_best_126 : decode cX4_best 126 = .ok (.iload 4, 2) := by decide +kernel
theorem dX4_best_128 : decode cX4_best 128 = .ok (.istore 4, 2) := by decide +kernel
theorem dX4_best_130 : decode cX4_best 130 = .ok (.iinc 5 1, 3) := by decide +kernel
theorem dX4_best_133 : decode cX4_best 133 = .ok (.goto (-100), 3) := by decide +kernel
theorem dX4_best_136 : decode cX4_best 136 = .ok (.iload_n 3, 1) := by decide +kernel
theorem dX4_best_137 : decode cX4_best 137 = .ok (.ireturn, 1) := by decide +kernel
set_option maxRecDepth 20000 in
theorem ggX4_came_X4_in : GoodIn wsX4_came wsX4_in := goodIn_r _ [6] (by decide +kernel) (by decide +kernel)
set_option maxRecDepth 20000 in
theorem gX4_came_X4_in : GoodIn wsX4_came (va_wsS RX4 68 yX4_in wsX4_in) := goodIn_app (goodIn_of _ (by decide +kernel)) ggX4_came_X4_in
set_option maxRecDepth 20000 in
theorem ggX4_came_X4_allEvents : GoodIn wsX4_came wsX4_allEvents := goodIn_r _ [10, 11, 34, 35, 36, 37, 38, 39, 40, 41, 42, 43, 44, 45, 46, 47, 48, 49, 50, 51, 52, 53, 54, 55, 56, 57, 58, 59, 60] (by decide +kernel) (by decide +kernel)
set_option maxRecDepth 20000 in
theorem gX4_came_X4_allEvents : GoodIn wsX4_came (wsV RX4 75 RX4 yX4_allEvents wsX4_allEvents) := goodIn_app (goodIn_of _ (by decide +kernel)) ggX4_came_X4_allEvents
set_option maxRecDepth 20000 in
theorem ggX4_came_X4_paidToAll : GoodIn wsX4_came wsX4_paidToAll := goodIn_r _ [15, 2, 16, 17, 18, 5, 19, 20, 21, 22, 23, 24, 7, 8, 9, 10, 11, 25, 26, 27, 28, 29, 30, 31, 32, 33, 34, 35, 36, 37, 38, 39, 40, 41, 42, 43, 44, 45, 46, 47, 48, 49, 50, 51, 52, 53, 54, 55, 56, 57, 58, 59, 60] (by decide +kernel) (by decide +kernel)
set_option maxRecDepth 20000 in
theorem gX4_came_X4_paidToAll : GoodIn wsX4_came (wsV RX4 155 RX4 yX4_paidToAll wsX4_paidToAll) := goodIn_app (goodIn_of _ (by decide +kernel)) ggX4_came_X4_paidToAll
theorem dX4_came_0 : decode cX4_came 0 = .ok (.iload_n 1, 1) := by decide +kernel
theorem dX4_came_1 : decode cX4_came 1 = .ok (.i2l, 1) := by decide +kernel
theorem dX4_came_2 : decode cX4_came 2 = .ok (.lconst 0, 1) := by decide +kernel
theorem dX4_came_3 : decode cX4_came 3 = .ok (.ldc2_w 205, 3) := by decide +kernel
theorem dX4_came_6 : decode cX4_came 6 = .ok (.invokestatic 68, 3) := by decide +kernel
theorem dX4_came_9 : decode cX4_came 9 = .ok (.ifCond .eq 13, 3) := by decide +kernel
theorem dX4_came_12 : decode cX4_came 12 = .ok (.iload_n 2, 1) := by decide +kernel
theorem dX4_came_13 : decode cX4_came 13 = .ok (.i2l, 1) := by decide +kernel
theorem dX4_came_14 : decode cX4_came 14 = .ok (.lconst 0, 1) := by decide +kernel
theorem dX4_came_15 : decode cX4_came 15 = .ok (.lconst 1, 1) := by decide +kernel
theorem dX4_came_16 : decode cX4_came 16 = .ok (.invokestatic 68, 3) := by decide +kernel
theorem dX4_came_19 : decode cX4_came 19 = .ok (.ifCond .ne 6, 3) := by decide +kernel
theorem dX4_came_22 : decode cX4_came 22 = .ok (.bipush (-2), 2) := by decide +kernel
theorem dX4_came_24 : decode cX4_came 24 = .ok (.ireturn, 1) := by decide +kernel
theorem dX4_came_25 : decode cX4_came 25 = .ok (.aload_n 0, 1) := by decide +kernel
theorem dX4_came_26 : decode cX4_came 26 = .ok (.getfield 72, 3) := by decide +kernel
theorem dX4_came_29 : decode cX4_came 29 = .ok (.ifCond .ne 6, 3) := by decide +kernel
theorem dX4_came_32 : decode cX4_came 32 = .ok (.bipush (-3), 2) := by decide +kernel
theorem dX4_came_34 : decode cX4_came 34 = .ok (.ireturn, 1) := by decide +kernel
theorem dX4_came_35 : decode cX4_came 35 = .ok (.iconst 0, 1) := by decide +kernel
theorem dX4_came_36 : decode cX4_came 36 = .ok (.istore_n 3, 1) := by decide +kernel
theorem dX4_came_37 : decode cX4_came 37 = .ok (.bipush (-9), 2) := by decide +kernel
theorem dX4_came_39 : decode cX4_came 39 = .ok (.istore 4, 2) := by decide +kernel
theorem dX4_came_41 : decode cX4_came 41 = .ok (.aload_n 0, 1) := by decide +kernel
theorem dX4_came_42 : decode cX4_came 42 = .ok (.invokevirtual 75, 3) := by decide +kernel
theorem dX4_came_45 : decode cX4_came 45 = .ok (.istore 5, 2) := by decide +kernel
theorem dX4_came_47 : decode cX4_came 47 = .ok (.iload 5, 2) := by decide +kernel
theorem dX4_came_49 : decode cX4_came 49 = .ok (.ifCond .lt 53, 3) := by decide +kernel
theorem dX4_came_52 : decode cX4_came 52 = .ok (.aload_n 0, 1) := by decide +kernel
theorem dX4_came_53 : decode cX4_came 53 = .ok (.iload 5, 2) := by decide +kernel
theorem dX4_came_55 : decode cX4_came 55 = .ok (.invokevirtual 155, 3) := by decide +kernel
theorem dX4_came_58 : decode cX4_came 58 = .ok (.iload_n 1, 1) := by decide +kernel
theorem dX4_came_59 : decode cX4_came 59 = .ok (.if_icmp .ne 7, 3) := by decide +kernel
theorem dX4_came_62 : decode cX4_came 62 = .ok (.iconst 1, 1) := by decide +kernel
theorem dX4_came_63 : decode cX4_came 63 = .ok (.goto 4, 3) := by decide +kernel
theorem dX4_came_66 : decode cX4_came 66 = .ok (.iconst 0, 1) := by decide +kernel
theorem dX4_came_67 : decode cX4_came 67 = .ok (.istore 6, 2) := by decide +kernel
theorem dX4_came_69 : decode cX4_came 69 = .ok (.iload_n 3, 1) := by decide +kernel
theorem dX4_came_70 : decode cX4_came 70 = .ok (.iload 6, 2) := by decide +kernel
theorem dX4_came_72 : decode cX4_came 72 = .ok (.ifCond .eq 7, 3) := by decide +kernel
theorem dX4_came_75 : decode cX4_came 75 = .ok (.iconst 1, 1) := by decide +kernel
theorem dX4_came_76 : decode cX4_came 76 = .ok (.goto 4, 3) := by decide +kernel
theorem dX4_came_79 : decode cX4_came 79 = .ok (.iconst 0, 1) := by decide +kernel
theorem dX4_came_80 : decode cX4_came 80 = .ok (.iadd, 1) := by decide +kernel
theorem dX4_came_81 : decode cX4_came 81 = .ok (.istore_n 3, 1) := by decide +kernel
theorem dX4_came_82 : decode cX4_came 82 = .ok (.iload 6, 2) := by decide +kernel
theorem dX4_came_84 : decode cX4_came 84 = .ok (.ifCond .eq 8, 3) := by decide +kernel
theorem dX4_came_87 : decode cX4_came 87 = .ok (.iload 5, 2) := by decide +kernel
theorem dX4_came_89 : decode cX4_came 89 = .ok (.goto 5, 3) := by decide +kernel
theorem dX4_came_92 : decode cX4_came 92 = .ok (.iload 4, 2) := by decide +kernel
theorem dX4_came_94 : decode cX4_came 94 = .ok (.istore 4, 2) := by decide +kernel
theorem dX4_came_96 : decode cX4_came 96 = .ok (.iinc 5 (-1), 3) := by decide +kernel
theorem dX4_came_99 : decode cX4_came 99 = .ok (.goto (-52), 3) := by decide +kernel
theorem dX4_came_102 : decode cX4_came 102 = .ok (.iload_n 2, 1) := by decide +kernel
theorem dX4_came_103 : decode cX4_came 103 = .ok (.ifCond .ne 7, 3) := by decide +kernel
theorem dX4_came_106 : decode cX4_came 106 = .ok (.iload_n 3, 1) := by decide +kernel
theorem dX4_came_107 : decode cX4_came 107 = .ok (.goto 5, 3) := by decide +kernel
theorem dX4_came_110 : decode cX4_came 110 = .ok (.iload 4, 2) := by decide +kernel
theorem dX4_came_112 : decode cX4_came 112 = .ok (.ireturn, 1) := by decide +kernel
set_option maxRecDepth 20000 in
theorem ggX4_reading_X4_noProphet : GoodIn wsX4_reading wsX4_noProphet := goodIn_r _ [10, 11, 12, 13, 9, 14, 24, 25, 26, 27, 28, 29, 30, 31, 32, 33, 34, 35, 36, 37, 38, 39, 40, 41, 42, 43, 44, 45, 46, 47, 48, 49, 50] (by decide +kernel) (by decide +kernel)
set_option maxRecDepth 20000 in
theorem gX4_reading_X4_noProphet : GoodIn wsX4_reading (wsV RX4 135 RX4 yX4_noProphet wsX4_noProphet) := goodIn_app (goodIn_of _ (by decide +kernel)) ggX4_reading_X4_noProphet
set_option maxRecDepth 20000 in
theorem ggX4_reading_X4_noSet : GoodIn wsX4_reading wsX4_noSet := goodIn_r _ [18, 19, 20, 21, 9, 22, 23, 12, 13, 14, 24, 25, 26, 27, 28, 29, 30, 31, 32, 33, 34, 35, 36, 37, 38, 39, 40, 41, 42, 43, 44, 45, 46, 47, 48, 49, 50] (by decide +kernel) (by decide +kernel)
set_option maxRecDepth 20000 in
theorem gX4_reading_X4_noSet : GoodIn wsX4_reading (wsV RX4 152 RX4 yX4_noSet wsX4_noSet) := goodIn_app (goodIn_of _ (by decide +kernel)) ggX4_reading_X4_noSet
set_option maxRecDepth 20000 in
theorem ggX4_reading_X4_in : GoodIn wsX4_reading wsX4_in := goodIn_r _ [14] (by decide +kernel) (by decide +kernel)
set_option maxRecDepth 20000 in
theorem gX4_reading_X4_in : GoodIn wsX4_reading (va_wsS RX4 68 yX4_in wsX4_in) := goodIn_app (goodIn_of _ (by decide +kernel)) ggX4_reading_X4_in
theorem dX4_reading_0 : decode cX4_reading 0 = .ok (.aload_n 0, 1) := by decide +kernel
theorem dX4_reading_1 : decode cX4_reading 1 = .ok (.iload_n 1, 1) := by decide +kernel
theorem dX4_reading_2 : decode cX4_reading 2 = .ok (.invokevirtual 135, 3) := by decide +kernel
theorem dX4_reading_5 : decode cX4_reading 5 = .ok (.ifCond .eq 5, 3) := by decide +kernel
theorem dX4_reading_8 : decode cX4_reading 8 = .ok (.iconst (-1), 1) := by decide +kernel
theorem dX4_reading_9 : decode cX4_reading 9 = .ok (.ireturn, 1) := by decide +kernel
theorem dX4_reading_10 : decode cX4_reading 10 = .ok (.aload_n 0, 1) := by decide +kernel
theorem dX4_reading_11 : decode cX4_reading 11 = .ok (.iload_n 2, 1) := by decide +kernel
theorem dX4_reading_12 : decode cX4_reading 12 = .ok (.invokevirtual 152, 3) := by decide +kernel
theorem dX4_reading_15 : decode cX4_reading 15 = .ok (.ifCond .ne 15, 3) := by decide +kernel
theorem dX4_reading_18 : decode cX4_reading 18 = .ok (.iload_n 3, 1) := by decide +kernel
theorem dX4_reading_19 : decode cX4_reading 19 = .ok (.i2l, 1) := by decide +kernel
theorem dX4_reading_20 : decode cX4_reading 20 = .ok (.lconst 0, 1) := by decide +kernel
theorem dX4_reading_21 : decode cX4_reading 21 = .ok (.ldc2_w 205, 3) := by decide +kernel
theorem dX4_reading_24 : decode cX4_reading 24 = .ok (.invokestatic 68, 3) := by decide +kernel
theorem dX4_reading_27 : decode cX4_reading 27 = .ok (.ifCond .ne 6, 3) := by decide +kernel
theorem dX4_reading_30 : decode cX4_reading 30 = .ok (.bipush (-2), 2) := by decide +kernel
theorem dX4_reading_32 : decode cX4_reading 32 = .ok (.ireturn, 1) := by decide +kernel
theorem dX4_reading_33 : decode cX4_reading 33 = .ok (.aload_n 0, 1) := by decide +kernel
theorem dX4_reading_34 : decode cX4_reading 34 = .ok (.getfield 127, 3) := by decide +kernel
theorem dX4_reading_37 : decode cX4_reading 37 = .ok (.bipush 8, 2) := by decide +kernel
theorem dX4_reading_39 : decode cX4_reading 39 = .ok (.if_icmp .ne 6, 3) := by decide +kernel
theorem dX4_reading_42 : decode cX4_reading 42 = .ok (.bipush (-4), 2) := by decide +kernel
theorem dX4_reading_44 : decode cX4_reading 44 = .ok (.ireturn, 1) := by decide +kernel
theorem dX4_reading_45 : decode cX4_reading 45 = .ok (.aload_n 0, 1) := by decide +kernel
theorem dX4_reading_46 : decode cX4_reading 46 = .ok (.getfield 34, 3) := by decide +kernel
theorem dX4_reading_49 : decode cX4_reading 49 = .ok (.aload_n 0, 1) := by decide +kernel
theorem dX4_reading_50 : decode cX4_reading 50 = .ok (.getfield 127, 3) := by decide +kernel
theorem dX4_reading_53 : decode cX4_reading 53 = .ok (.iload_n 1, 1) := by decide +kernel
theorem dX4_reading_54 : decode cX4_reading 54 = .ok (.iastore, 1) := by decide +kernel
theorem dX4_reading_55 : decode cX4_reading 55 = .ok (.aload_n 0, 1) := by decide +kernel
theorem dX4_reading_56 : decode cX4_reading 56 = .ok (.getfield 37, 3) := by decide +kernel
theorem dX4_reading_59 : decode cX4_reading 59 = .ok (.aload_n 0, 1) := by decide +kernel
theorem dX4_reading_60 : decode cX4_reading 60 = .ok (.getfield 127, 3) := by decide +kernel
theorem dX4_reading_63 : decode cX4_reading 63 = .ok (.iload_n 2, 1) := by decide +kernel
theorem dX4_reading_64 : decode cX4_reading 64 = .ok (.iastore, 1) := by decide +kernel
theorem dX4_reading_65 : decode cX4_reading 65 = .ok (.aload_n 0, 1) := by decide +kernel
theorem dX4_reading_66 : decode cX4_reading 66 = .ok (.getfield 40, 3) := by decide +kernel
theorem dX4_reading_69 : decode cX4_reading 69 = .ok (.aload_n 0, 1) := by decide +kernel
theorem dX4_reading_70 : decode cX4_reading 70 = .ok (.getfield 127, 3) := by decide +kernel
theorem dX4_reading_73 : decode cX4_reading 73 = .ok (.iload_n 3, 1) := by decide +kernel
theorem dX4_reading_74 : decode cX4_reading 74 = .ok (.iastore, 1) := by decide +kernel
theorem dX4_reading_75 : decode cX4_reading 75 = .ok (.aload_n 0, 1) := by decide +kernel
theorem dX4_reading_76 : decode cX4_reading 76 = .ok (.dup, 1) := by decide +kernel
theorem dX4_reading_77 : decode cX4_reading 77 = .ok (.getfield 127, 3) := by decide +kernel
theorem dX4_reading_80 : decode cX4_reading 80 = .ok (.iconst 1, 1) := by decide +kernel
theorem dX4_reading_81 : decode cX4_reading 81 = .ok (.iadd, 1) := by decide +kernel
theorem dX4_reading_82 : decode cX4_reading 82 = .ok (.putfield 127, 3) := by decide +kernel
theorem dX4_reading_85 : decode cX4_reading 85 = .ok (.aload_n 0, 1) := by decide +kernel
theorem dX4_reading_86 : decode cX4_reading 86 = .ok (.getfield 127, 3) := by decide +kernel
theorem dX4_reading_89 : decode cX4_reading 89 = .ok (.iconst 1, 1) := by decide +kernel
theorem dX4_reading_90 : decode cX4_reading 90 = .ok (.isub, 1) := by decide +kernel
theorem dX4_reading_91 : decode cX4_reading 91 = .ok (.ireturn, 1) := by decide +kernel
set_option maxRecDepth 20000 in
theorem ggX4_back_X4_in : GoodIn wsX4_back wsX4_in := goodIn_r _ [5] (by decide +kernel) (by decide +kernel)
set_option maxRecDepth 20000 in
theorem gX4_back_X4_in : GoodIn wsX4_back (va_wsS RX4 68 yX4_in wsX4_in) := goodIn_app (goodIn_of _ (by decide +kernel)) ggX4_back_X4_in
theorem dX4_back_0 : decode cX4_back 0 = .ok (.iload_n 1, 1) := by decide +kernel
theorem dX4_back_1 : decode cX4_back 1 = .ok (.i2l, 1) := by decide +kernel
theorem dX4_back_2 : decode cX4_back 2 = .ok (.lconst 0, 1) := by decide +kernel
theorem dX4_back_3 : decode cX4_back 3 = .ok (.aload_n 0, 1) := by decide +kernel
theorem dX4_back_4 : decode cX4_back 4 = .ok (.getfield 127, 3) := by decide +kernel
theorem dX4_back_7 : decode cX4_back 7 = .ok (.i2l, 1) := by decide +kernel
theorem dX4_back_8 : decode cX4_back 8 = .ok (.invokestatic 68, 3) := by decide +kernel
theorem dX4_back_11 : decode cX4_back 11 = .ok (.ifCond .ne 6, 3) := by decide +kernel
theorem dX4_back_14 : decode cX4_back 14 = .ok (.bipush (-2), 2) := by decide +kernel
theorem dX4_back_16 : decode cX4_back 16 = .ok (.ireturn, 1) := by decide +kernel
theorem dX4_back_17 : decode cX4_back 17 = .ok (.aload_n 0, 1) := by decide +kernel
theorem dX4_back_18 : decode cX4_back 18 = .ok (.dup, 1) := by decide +kernel
theorem dX4_back_19 : decode cX4_back 19 = .ok (.getfield 127, 3) := by decide +kernel
theorem dX4_back_22 : decode cX4_back 22 = .ok (.iload_n 1, 1) := by decide +kernel
theorem dX4_back_23 : decode cX4_back 23 = .ok (.isub, 1) := by decide +kernel
theorem dX4_back_24 : decode cX4_back 24 = .ok (.putfield 127, 3) := by decide +kernel
theorem dX4_back_27 : decode cX4_back 27 = .ok (.aload_n 0, 1) := by decide +kernel
theorem dX4_back_28 : decode cX4_back 28 = .ok (.getfield 127, 3) := by decide +kernel
theorem dX4_back_31 : decode cX4_back 31 = .ok (.ireturn, 1) := by decide +kernel
set_option maxRecDepth 20000 in
theorem ggX4_areSo_X4_paidTo : GoodIn wsX4_areSo wsX4_paidTo := goodIn_r _ [9, 10, 11, 12, 13, 8, 14, 15, 16, 17, 18, 19, 20, 21, 22, 23, 24, 25, 26, 27, 28, 29, 30, 31, 32, 33, 34, 35, 36, 37, 38, 39, 40, 41, 42, 43, 44, 45, 46, 47, 48, 49, 50, 51, 52, 53, 54, 55] (by decide +kernel) (by decide +kernel)
set_option maxRecDepth 20000 in
theorem gX4_areSo_X4_paidTo : GoodIn wsX4_areSo (wsV RX4 149 RX4 yX4_paidTo wsX4_paidTo) := goodIn_app (goodIn_of _ (by decide +kernel)) ggX4_areSo_X4_paidTo
theorem dX4_areSo_0 : decode cX4_areSo 0 = .ok (.iconst 1, 1) := by decide +kernel
theorem dX4_areSo_1 : decode cX4_areSo 1 = .ok (.istore_n 1, 1) := by decide +kernel
theorem dX4_areSo_2 : decode cX4_areSo 2 = .ok (.iconst 0, 1) := by decide +kernel
theorem dX4_areSo_3 : decode cX4_areSo 3 = .ok (.istore_n 2, 1) := by decide +kernel
theorem dX4_areSo_4 : decode cX4_areSo 4 = .ok (.iload_n 2, 1) := by decide +kernel
theorem dX4_areSo_5 : decode cX4_areSo 5 = .ok (.aload_n 0, 1) := by decide +kernel
theorem dX4_areSo_6 : decode cX4_areSo 6 = .ok (.getfield 127, 3) := by decide +kernel
theorem dX4_areSo_9 : decode cX4_areSo 9 = .ok (.if_icmp .ge 44, 3) := by decide +kernel
theorem dX4_areSo_12 : decode cX4_areSo 12 = .ok (.iload_n 1, 1) := by decide +kernel
theorem dX4_areSo_13 : decode cX4_areSo 13 = .ok (.ifCond .eq 32, 3) := by decide +kernel
theorem dX4_areSo_16 : decode cX4_areSo 16 = .ok (.aload_n 0, 1) := by decide +kernel
theorem dX4_areSo_17 : decode cX4_areSo 17 = .ok (.aload_n 0, 1) := by decide +kernel
theorem dX4_areSo_18 : decode cX4_areSo 18 = .ok (.getfield 34, 3) := by decide +kernel
theorem dX4_areSo_21 : decode cX4_areSo 21 = .ok (.iload_n 2, 1) := by decide +kernel
theorem dX4_areSo_22 : decode cX4_areSo 22 = .ok (.iaload, 1) := by decide +kernel
theorem dX4_areSo_23 : decode cX4_areSo 23 = .ok (.aload_n 0, 1) := by decide +kernel
theorem dX4_areSo_24 : decode cX4_areSo 24 = .ok (.getfield 37, 3) := by decide +kernel
theorem dX4_areSo_27 : decode cX4_areSo 27 = .ok (.iload_n 2, 1) := by decide +kernel
theorem dX4_areSo_28 : decode cX4_areSo 28 = .ok (.iaload, 1) := by decide +kernel
theorem dX4_areSo_29 : decode cX4_areSo 29 = .ok (.invokevirtual 149, 3) := by decide +kernel
theorem dX4_areSo_32 : decode cX4_areSo 32 = .ok (.aload_n 0, 1) := by decide +kernel
theorem dX4_areSo_33 : decode cX4_areSo 33 = .ok (.getfield 40, 3) := by decide +kernel
theorem dX4_areSo_36 : decode cX4_areSo 36 = .ok (.iload_n 2, 1) := by decide +kernel
theorem dX4_areSo_37 : decode cX4_areSo 37 = .ok (.iaload, 1) := by decide +kernel
theorem dX4_areSo_38 : decode cX4_areSo 38 = .ok (.if_icmp .ne 7, 3) := by decide +kernel
theorem dX4_areSo_41 : decode cX4_areSo 41 = .ok (.iconst 1, 1) := by decide +kernel
theorem dX4_areSo_42 : decode cX4_areSo 42 = .ok (.goto 4, 3) := by decide +kernel
theorem dX4_areSo_45 : decode cX4_areSo 45 = .ok (.iconst 0, 1) := by decide +kernel
theorem dX4_areSo_46 : decode cX4_areSo 46 = .ok (.istore_n 1, 1) := by decide +kernel
theorem dX4_areSo_47 : decode cX4_areSo 47 = .ok (.iinc 2 1, 3) := by decide +kernel
theorem dX4_areSo_50 : decode cX4_areSo 50 = .ok (.goto (-46), 3) := by decide +kernel
theorem dX4_areSo_53 : decode cX4_areSo 53 = .ok (.iload_n 1, 1) := by decide +kernel
theorem dX4_areSo_54 : decode cX4_areSo 54 = .ok (.ireturn, 1) := by decide +kernel
set_option maxRecDepth 20000 in
theorem ggX4_covers_X4_noProphet : GoodIn wsX4_covers wsX4_noProphet := goodIn_r _ [6, 7, 8, 9, 5, 10, 41, 42, 43, 44, 45, 46, 47, 48, 49, 50, 51, 52, 53, 54, 55, 56, 57, 58, 59, 60, 61, 62, 63, 64, 65, 66, 67] (by decide +kernel) (by decide +kernel)
set_option maxRecDepth 20000 in
theorem gX4_covers_X4_noProphet : GoodIn wsX4_covers (wsV RX4 135 RX4 yX4_noProphet wsX4_noProphet) := goodIn_app (goodIn_of _ (by decide +kernel)) ggX4_covers_X4_noProphet
set_option maxRecDepth 20000 in
theorem ggX4_covers_X4_areSo : GoodIn wsX4_covers wsX4_areSo := goodIn_r _ [14, 15, 16, 17, 18, 19, 20, 21, 5, 22, 23, 24, 25, 26, 27, 28, 29, 30, 31, 32, 33, 34, 35, 36, 1, 37, 38, 39, 40, 41, 42, 43, 44, 45, 46, 47, 48, 49, 50, 51, 52, 53, 54, 55, 56, 57, 58, 59, 60, 61, 62, 63, 64, 65, 66, 67] (by decide +kernel) (by decide +kernel)
set_option maxRecDepth 20000 in
theorem gX4_covers_X4_areSo : GoodIn wsX4_covers (wsV RX4 207 RX4 yX4_areSo wsX4_areSo) := goodIn_app (goodIn_of _ (by decide +kernel)) ggX4_covers_X4_areSo
theorem dX4_covers_0 : decode cX4_covers 0 = .ok (.aload_n 0, 1) := by decide +kernel
theorem dX4_covers_1 : decode cX4_covers 1 = .ok (.iload_n 1, 1) := by decide +kernel
theorem dX4_covers_2 : decode cX4_covers 2 = .ok (.invokevirtual 135, 3) := by decide +kernel
theorem dX4_covers_5 : decode cX4_covers 5 = .ok (.ifCond .eq 5, 3) := by decide +kernel
theorem dX4_covers_8 : decode cX4_covers 8 = .ok (.iconst (-1), 1) := by decide +kernel
theorem dX4_covers_9 : decode cX4_covers 9 = .ok (.ireturn, 1) := by decide +kernel
theorem dX4_covers_10 : decode cX4_covers 10 = .ok (.aload_n 0, 1) := by decide +kernel
theorem dX4_covers_11 : decode cX4_covers 11 = .ok (.getfield 16, 3) := by decide +kernel
theorem dX4_covers_14 : decode cX4_covers 14 = .ok (.iload_n 1, 1) := by decide +kernel
theorem dX4_covers_15 : decode cX4_covers 15 = .ok (.iaload, 1) := by decide +kernel
theorem dX4_covers_16 : decode cX4_covers 16 = .ok (.istore_n 2, 1) := by decide +kernel
theorem dX4_covers_17 : decode cX4_covers 17 = .ok (.iconst 0, 1) := by decide +kernel
theorem dX4_covers_18 : decode cX4_covers 18 = .ok (.istore_n 3, 1) := by decide +kernel
theorem dX4_covers_19 : decode cX4_covers 19 = .ok (.iconst 0, 1) := by decide +kernel
theorem dX4_covers_20 : decode cX4_covers 20 = .ok (.istore 4, 2) := by decide +kernel
theorem dX4_covers_22 : decode cX4_covers 22 = .ok (.iload 4, 2) := by decide +kernel
theorem dX4_covers_24 : decode cX4_covers 24 = .ok (.bipush 10, 2) := by decide +kernel
theorem dX4_covers_26 : decode cX4_covers 26 = .ok (.if_icmp .ge 35, 3) := by decide +kernel
theorem dX4_covers_29 : decode cX4_covers 29 = .ok (.aload_n 0, 1) := by decide +kernel
theorem dX4_covers_30 : decode cX4_covers 30 = .ok (.getfield 16, 3) := by decide +kernel
theorem dX4_covers_33 : decode cX4_covers 33 = .ok (.iload_n 1, 1) := by decide +kernel
theorem dX4_covers_34 : decode cX4_covers 34 = .ok (.iload 4, 2) := by decide +kernel
theorem dX4_covers_36 : decode cX4_covers 36 = .ok (.iastore, 1) := by decide +kernel
theorem dX4_covers_37 : decode cX4_covers 37 = .ok (.iload_n 3, 1) := by decide +kernel
theorem dX4_covers_38 : decode cX4_covers 38 = .ok (.aload_n 0, 1) := by decide +kernel
theorem dX4_covers_39 : decode cX4_covers 39 = .ok (.invokevirtual 207, 3) := by decide +kernel
theorem dX4_covers_42 : decode cX4_covers 42 = .ok (.ifCond .eq 10, 3) := by decide +kernel
theorem dX4_covers_45 : decode cX4_covers 45 = .ok (.iconst 1, 1) := by decide +kernel
theorem dX4_covers_46 : decode cX4_covers 46 = .ok (.iload 4, 2) := by decide +kernel
theorem dX4_covers_48 : decode cX4_covers 48 = .ok (.ishl, 1) := by decide +kernel
theorem dX4_covers_49 : decode cX4_covers 49 = .ok (.goto 4, 3) := by decide +kernel
theorem dX4_covers_52 : decode cX4_covers 52 = .ok (.iconst 0, 1) := by decide +kernel
theorem dX4_covers_53 : decode cX4_covers 53 = .ok (.ior, 1) := by decide +kernel
theorem dX4_covers_54 : decode cX4_covers 54 = .ok (.istore_n 3, 1) := by decide +kernel
theorem dX4_covers_55 : decode cX4_covers 55 = .ok (.iinc 4 1, 3) := by decide +kernel
theorem dX4_covers_58 : decode cX4_covers 58 = .ok (.goto (-36), 3) := by decide +kernel
theorem dX4_covers_61 : decode cX4_covers 61 = .ok (.aload_n 0, 1) := by decide +kernel
theorem dX4_covers_62 : decode cX4_covers 62 = .ok (.getfield 16, 3) := by decide +kernel
theorem dX4_covers_65 : decode cX4_covers 65 = .ok (.iload_n 1, 1) := by decide +kernel
theorem dX4_covers_66 : decode cX4_covers 66 = .ok (.iload_n 2, 1) := by decide +kernel
theorem dX4_covers_67 : decode cX4_covers 67 = .ok (.iastore, 1) := by decide +kernel
theorem dX4_covers_68 : decode cX4_covers 68 = .ok (.iload_n 3, 1) := by decide +kernel
theorem dX4_covers_69 : decode cX4_covers 69 = .ok (.ireturn, 1) := by decide +kernel
set_option maxRecDepth 20000 in
theorem ggX4_kinds_X4_noProphet : GoodIn wsX4_kinds wsX4_noProphet := goodIn_r _ [6, 7, 8, 9, 5, 10, 41, 42, 43, 44, 45, 46, 47, 48, 49, 50, 51, 52, 53, 54, 55, 56, 57, 58, 59, 60, 61, 62, 63, 64, 65, 66, 67] (by decide +kernel) (by decide +kernel)
set_option maxRecDepth 20000 in
theorem gX4_kinds_X4_noProphet : GoodIn wsX4_kinds (wsV RX4 135 RX4 yX4_noProphet wsX4_noProphet) := goodIn_app (goodIn_of _ (by decide +kernel)) ggX4_kinds_X4_noProphet
set_option maxRecDepth 20000 in
theorem ggX4_kinds_X4_areSo : GoodIn wsX4_kinds wsX4_areSo := goodIn_r _ [14, 15, 16, 17, 18, 19, 20, 21, 5, 22, 23, 24, 25, 26, 27, 28, 29, 30, 31, 32, 33, 34, 35, 36, 37, 1, 38, 39, 40, 41, 42, 43, 44, 45, 46, 47, 48, 49, 50, 51, 52, 53, 54, 55, 56, 57, 58, 59, 60, 61, 62, 63, 64, 65, 66, 67] (by decide +kernel) (by decide +kernel)
set_option maxRecDepth 20000 in
theorem gX4_kinds_X4_areSo : GoodIn wsX4_kinds (wsV RX4 207 RX4 yX4_areSo wsX4_areSo) := goodIn_app (goodIn_of _ (by decide +kernel)) ggX4_kinds_X4_areSo
theorem dX4_kinds_0 : decode cX4_kinds 0 = .ok (.aload_n 0, 1) := by decide +kernel
theorem dX4_kinds_1 : decode cX4_kinds 1 = .ok (.iload_n 1, 1) := by decide +kernel
theorem dX4_kinds_2 : decode cX4_kinds 2 = .ok (.invokevirtual 135, 3) := by decide +kernel
theorem dX4_kinds_5 : decode cX4_kinds 5 = .ok (.ifCond .eq 5, 3) := by decide +kernel
theorem dX4_kinds_8 : decode cX4_kinds 8 = .ok (.iconst (-1), 1) := by decide +kernel
theorem dX4_kinds_9 : decode cX4_kinds 9 = .ok (.ireturn, 1) := by decide +kernel
theorem dX4_kinds_10 : decode cX4_kinds 10 = .ok (.aload_n 0, 1) := by decide +kernel
theorem dX4_kinds_11 : decode cX4_kinds 11 = .ok (.getfield 13, 3) := by decide +kernel
theorem dX4_kinds_14 : decode cX4_kinds 14 = .ok (.iload_n 1, 1) := by decide +kernel
theorem dX4_kinds_15 : decode cX4_kinds 15 = .ok (.iaload, 1) := by decide +kernel
theorem dX4_kinds_16 : decode cX4_kinds 16 = .ok (.istore_n 2, 1) := by decide +kernel
theorem dX4_kinds_17 : decode cX4_kinds 17 = .ok (.iconst 0, 1) := by decide +kernel
theorem dX4_kinds_18 : decode cX4_kinds 18 = .ok (.istore_n 3, 1) := by decide +kernel
theorem dX4_kinds_19 : decode cX4_kinds 19 = .ok (.iconst 0, 1) := by decide +kernel
theorem dX4_kinds_20 : decode cX4_kinds 20 = .ok (.istore 4, 2) := by decide +kernel
theorem dX4_kinds_22 : decode cX4_kinds 22 = .ok (.iload 4, 2) := by decide +kernel
theorem dX4_kinds_24 : decode cX4_kinds 24 = .ok (.iconst 3, 1) := by decide +kernel
theorem dX4_kinds_25 : decode cX4_kinds 25 = .ok (.if_icmp .ge 35, 3) := by decide +kernel
theorem dX4_kinds_28 : decode cX4_kinds 28 = .ok (.aload_n 0, 1) := by decide +kernel
theorem dX4_kinds_29 : decode cX4_kinds 29 = .ok (.getfield 13, 3) := by decide +kernel
theorem dX4_kinds_32 : decode cX4_kinds 32 = .ok (.iload_n 1, 1) := by decide +kernel
theorem dX4_kinds_33 : decode cX4_kinds 33 = .ok (.iload 4, 2) := by decide +kernel
theorem dX4_kinds_35 : decode cX4_kinds 35 = .ok (.iastore, 1) := by decide +kernel
theorem dX4_kinds_36 : decode cX4_kinds 36 = .ok (.iload_n 3, 1) := by decide +kernel
theorem dX4_kinds_37 : decode cX4_kinds 37 = .ok (.aload_n 0, 1) := by decide +kernel
theorem dX4_kinds_38 : decode cX4_kinds 38 = .ok (.invokevirtual 207, 3) := by decide +kernel
theorem dX4_kinds_41 : decode cX4_kinds 41 = .ok (.ifCond .eq 10, 3) := by decide +kernel
theorem dX4_kinds_44 : decode cX4_kinds 44 = .ok (.iconst 1, 1) := by decide +kernel
theorem dX4_kinds_45 : decode cX4_kinds 45 = .ok (.iload 4, 2) := by decide +kernel
theorem dX4_kinds_47 : decode cX4_kinds 47 = .ok (.ishl, 1) := by decide +kernel
theorem dX4_kinds_48 : decode cX4_kinds 48 = .ok (.goto 4, 3) := by decide +kernel
theorem dX4_kinds_51 : decode cX4_kinds 51 = .ok (.iconst 0, 1) := by decide +kernel
theorem dX4_kinds_52 : decode cX4_kinds 52 = .ok (.ior, 1) := by decide +kernel
theorem dX4_kinds_53 : decode cX4_kinds 53 = .ok (.istore_n 3, 1) := by decide +kernel
theorem dX4_kinds_54 : decode cX4_kinds 54 = .ok (.iinc 4 1, 3) := by decide +kernel
theorem dX4_kinds_57 : decode cX4_kinds 57 = .ok (.goto (-35), 3) := by decide +kernel
theorem dX4_kinds_60 : decode cX4_kinds 60 = .ok (.aload_n 0, 1) := by decide +kernel
theorem dX4_kinds_61 : decode cX4_kinds 61 = .ok (.getfield 13, 3) := by decide +kernel
theorem dX4_kinds_64 : decode cX4_kinds 64 = .ok (.iload_n 1, 1) := by decide +kernel
theorem dX4_kinds_65 : decode cX4_kinds 65 = .ok (.iload_n 2, 1) := by decide +kernel
theorem dX4_kinds_66 : decode cX4_kinds 66 = .ok (.iastore, 1) := by decide +kernel
theorem dX4_kinds_67 : decode cX4_kinds 67 = .ok (.iload_n 3, 1) := by decide +kernel
theorem dX4_kinds_68 : decode cX4_kinds 68 = .ok (.ireturn, 1) := by decide +kernel
set_option maxRecDepth 20000 in
theorem ggX4_sayings_X4_noProphet : GoodIn wsX4_sayings wsX4_noProphet := goodIn_r _ [6, 7, 8, 9, 5, 10, 45, 46, 47, 48, 49, 50, 51, 52, 53, 54, 55, 56, 57, 58, 59, 60, 61, 62, 63, 64, 65, 66, 67, 68, 69, 70, 71] (by decide +kernel) (by decide +kernel)
set_option maxRecDepth 20000 in
theorem gX4_sayings_X4_noProphet : GoodIn wsX4_sayings (wsV RX4 135 RX4 yX4_noProphet wsX4_noProphet) := goodIn_app (goodIn_of _ (by decide +kernel)) ggX4_sayings_X4_noProphet
set_option maxRecDepth 20000 in
theorem ggX4_sayings_X4_noEvent : GoodIn wsX4_sayings wsX4_noEvent := goodIn_r _ [14, 15, 8, 9, 5, 10, 45, 46, 47, 48, 49, 50, 51, 52, 53, 54, 55, 56, 57, 58, 59, 60, 61, 62, 63, 64, 65, 66, 67, 68, 69, 70, 71] (by decide +kernel) (by decide +kernel)
set_option maxRecDepth 20000 in
theorem gX4_sayings_X4_noEvent : GoodIn wsX4_sayings (wsV RX4 130 RX4 yX4_noEvent wsX4_noEvent) := goodIn_app (goodIn_of _ (by decide +kernel)) ggX4_sayings_X4_noEvent
set_option maxRecDepth 20000 in
theorem ggX4_sayings_X4_areSo : GoodIn wsX4_sayings wsX4_areSo := goodIn_r _ [19, 20, 21, 22, 23, 24, 25, 26, 5, 27, 1, 28, 29, 30, 31, 32, 33, 34, 35, 15, 36, 37, 38, 39, 40, 41, 42, 43, 44, 45, 46, 47, 48, 49, 50, 51, 52, 53, 54, 55, 56, 57, 58, 59, 60, 61, 62, 63, 64, 65, 66, 67, 68, 69, 70, 71] (by decide +kernel) (by decide +kernel)
set_option maxRecDepth 20000 in
theorem gX4_sayings_X4_areSo : GoodIn wsX4_sayings (wsV RX4 207 RX4 yX4_areSo wsX4_areSo) := goodIn_app (goodIn_of _ (by decide +kernel)) ggX4_sayings_X4_areSo
theorem dX4_sayings_0 : decode cX4_sayings 0 = .ok (.aload_n 0, 1) := by decide +kernel
theorem dX4_sayings_1 : decode cX4_sayings 1 = .ok (.iload_n 1, 1) := by decide +kernel
theorem dX4_sayings_2 : decode cX4_sayings 2 = .ok (.invokevirtual 135, 3) := by decide +kernel
theorem dX4_sayings_5 : decode cX4_sayings 5 = .ok (.ifCond .ne 11, 3) := by decide +kernel
theorem dX4_sayings_8 : decode cX4_sayings 8 = .ok (.aload_n 0, 1) := by decide +kernel
theorem dX4_sayings_9 : decode cX4_sayings 9 = .ok (.iload_n 2, 1) := by decide +kernel
theorem dX4_sayings_10 : decode cX4_sayings 10 = .ok (.invokevirtual 130, 3) := by decide +kernel
theorem dX4_sayings_13 : decode cX4_sayings 13 = .ok (.ifCond .eq 5, 3) := by decide +kernel
theorem dX4_sayings_16 : decode cX4_sayings 16 = .ok (.iconst (-1), 1) := by decide +kernel
theorem dX4_sayings_17 : decode cX4_sayings 17 = .ok (.ireturn, 1) := by decide +kernel
theorem dX4_sayings_18 : decode cX4_sayings 18 = .ok (.aload_n 0, 1) := by decide +kernel
theorem dX4_sayings_19 : decode cX4_sayings 19 = .ok (.getfield 19, 3) := by decide +kernel
theorem dX4_sayings_22 : decode cX4_sayings 22 = .ok (.iload_n 1, 1) := by decide +kernel
theorem dX4_sayings_23 : decode cX4_sayings 23 = .ok (.iaload, 1) := by decide +kernel
theorem dX4_sayings_24 : decode cX4_sayings 24 = .ok (.istore_n 3, 1) := by decide +kernel
theorem dX4_sayings_25 : decode cX4_sayings 25 = .ok (.iconst 0, 1) := by decide +kernel
theorem dX4_sayings_26 : decode cX4_sayings 26 = .ok (.istore 4, 2) := by decide +kernel
theorem dX4_sayings_28 : decode cX4_sayings 28 = .ok (.iconst 0, 1) := by decide +kernel
theorem dX4_sayings_29 : decode cX4_sayings 29 = .ok (.istore 5, 2) := by decide +kernel
theorem dX4_sayings_31 : decode cX4_sayings 31 = .ok (.iload 5, 2) := by decide +kernel
theorem dX4_sayings_33 : decode cX4_sayings 33 = .ok (.iconst 2, 1) := by decide +kernel
theorem dX4_sayings_34 : decode cX4_sayings 34 = .ok (.if_icmp .ge 47, 3) := by decide +kernel
theorem dX4_sayings_37 : decode cX4_sayings 37 = .ok (.aload_n 0, 1) := by decide +kernel
theorem dX4_sayings_38 : decode cX4_sayings 38 = .ok (.getfield 19, 3) := by decide +kernel
theorem dX4_sayings_41 : decode cX4_sayings 41 = .ok (.iload_n 1, 1) := by decide +kernel
theorem dX4_sayings_42 : decode cX4_sayings 42 = .ok (.iload_n 3, 1) := by decide +kernel
theorem dX4_sayings_43 : decode cX4_sayings 43 = .ok (.iconst 1, 1) := by decide +kernel
theorem dX4_sayings_44 : decode cX4_sayings 44 = .ok (.iload_n 2, 1) := by decide +kernel
theorem dX4_sayings_45 : decode cX4_sayings 45 = .ok (.ishl, 1) := by decide +kernel
theorem dX4_sayings_46 : decode cX4_sayings 46 = .ok (.iconst (-1), 1) := by decide +kernel
theorem dX4_sayings_47 : decode cX4_sayings 47 = .ok (.ixor, 1) := by decide +kernel
theorem dX4_sayings_48 : decode cX4_sayings 48 = .ok (.iand, 1) := by decide +kernel
theorem dX4_sayings_49 : decode cX4_sayings 49 = .ok (.iload 5, 2) := by decide +kernel
theorem dX4_sayings_51 : decode cX4_sayings 51 = .ok (.iload_n 2, 1) := by decide +kernel
theorem dX4_sayings_52 : decode cX4_sayings 52 = .ok (.ishl, 1) := by decide +kernel
theorem dX4_sayings_53 : decode cX4_sayings 53 = .ok (.ior, 1) := by decide +kernel
theorem dX4_sayings_54 : decode cX4_sayings 54 = .ok (.iastore, 1) := by decide +kernel
theorem dX4_sayings_55 : decode cX4_sayings 55 = .ok (.iload 4, 2) := by decide +kernel
theorem dX4_sayings_57 : decode cX4_sayings 57 = .ok (.aload_n 0, 1) := by decide +kernel
theorem dX4_sayings_58 : decode cX4_sayings 58 = .ok (.invokevirtual 207, 3) := by decide +kernel
theorem dX4_sayings_61 : decode cX4_sayings 61 = .ok (.ifCond .eq 10, 3) := by decide +kernel
theorem dX4_sayings_64 : decode cX4_sayings 64 = .ok (.iconst 1, 1) := by decide +kernel
theorem dX4_sayings_65 : decode cX4_sayings 65 = .ok (.iload 5, 2) := by decide +kernel
theorem dX4_sayings_67 : decode cX4_sayings 67 = .ok (.ishl, 1) := by decide +kernel
theorem dX4_sayings_68 : decode cX4_sayings 68 = .ok (.goto 4, 3) := by decide +kernel
theorem dX4_sayings_71 : decode cX4_sayings 71 = .ok (.iconst 0, 1) := by decide +kernel
theorem dX4_sayings_72 : decode cX4_sayings 72 = .ok (.ior, 1) := by decide +kernel
theorem dX4_sayings_73 : decode cX4_sayings 73 = .ok (.istore 4, 2) := by decide +kernel
theorem dX4_sayings_75 : decode cX4_sayings 75 = .ok (.iinc 5 1, 3) := by decide +kernel
theorem dX4_sayings_78 : decode cX4_sayings 78 = .ok (.goto (-47), 3) := by decide +kernel
theorem dX4_sayings_81 : decode cX4_sayings 81 = .ok (.aload_n 0, 1) := by decide +kernel
theorem dX4_sayings_82 : decode cX4_sayings 82 = .ok (.getfield 19, 3) := by decide +kernel
theorem dX4_sayings_85 : decode cX4_sayings 85 = .ok (.iload_n 1, 1) := by decide +kernel
theorem dX4_sayings_86 : decode cX4_sayings 86 = .ok (.iload_n 3, 1) := by decide +kernel
theorem dX4_sayings_87 : decode cX4_sayings 87 = .ok (.iastore, 1) := by decide +kernel
theorem dX4_sayings_88 : decode cX4_sayings 88 = .ok (.iload 4, 2) := by decide +kernel
theorem dX4_sayings_90 : decode cX4_sayings 90 = .ok (.ireturn, 1) := by decide +kernel
set_option maxRecDepth 20000 in
theorem ggX4_odds_X4_in : GoodIn wsX4_odds wsX4_in := goodIn_r _ [6] (by decide +kernel) (by decide +kernel)
set_option maxRecDepth 20000 in
theorem gX4_odds_X4_in : GoodIn wsX4_odds (va_wsS RX4 68 yX4_in wsX4_in) := goodIn_app (goodIn_of _ (by decide +kernel)) ggX4_odds_X4_in
set_option maxRecDepth 20000 in
theorem ggX4_odds_X4_lost : GoodIn wsX4_odds wsX4_lost := goodIn_r _ [9, 10] (by decide +kernel) (by decide +kernel)
set_option maxRecDepth 20000 in
theorem gX4_odds_X4_lost : GoodIn wsX4_odds (va_wsS RX4 61 yX4_lost wsX4_lost) := goodIn_app (goodIn_of _ (by decide +kernel)) ggX4_odds_X4_lost
set_option maxRecDepth 20000 in
theorem ggX4_odds_X4_weightFrom : GoodIn wsX4_odds wsX4_weightFrom := goodIn_r _ [14, 15, 16, 17, 5, 18, 19, 20, 21, 22, 23, 1, 24, 25, 26, 27, 28, 29, 30, 31, 32, 33, 34, 35, 36, 37, 38, 39, 40, 41, 42, 43, 44, 45, 46, 47, 48, 49, 58, 59, 60, 61, 62, 63, 64, 65, 66, 67, 68, 69, 70, 71, 72, 73, 74, 75, 76, 77, 78, 79, 80, 81, 82, 83, 84] (by decide +kernel) (by decide +kernel)
set_option maxRecDepth 20000 in
theorem gX4_odds_X4_weightFrom : GoodIn wsX4_odds (wsV RX4 202 RX4 yX4_weightFrom wsX4_weightFrom) := goodIn_app (goodIn_of _ (by decide +kernel)) ggX4_odds_X4_weightFrom
set_option maxRecDepth 20000 in
theorem ggX4_odds_X4_weightOfAll : GoodIn wsX4_odds wsX4_weightOfAll := goodIn_r _ [53, 19, 54, 58, 59, 60, 61, 62, 63, 64, 65, 66, 67, 68, 69, 70, 71, 72, 73, 74, 75, 76, 77, 78, 79, 80, 81, 82, 83, 84] (by decide +kernel) (by decide +kernel)
set_option maxRecDepth 20000 in
theorem gX4_odds_X4_weightOfAll : GoodIn wsX4_odds (wsV RX4 199 RX4 yX4_weightOfAll wsX4_weightOfAll) := goodIn_app (goodIn_of _ (by decide +kernel)) ggX4_odds_X4_weightOfAll
set_option maxRecDepth 20000 in
theorem ggX4_odds_X4_share : GoodIn wsX4_odds wsX4_share := goodIn_r _ [57] (by decide +kernel) (by decide +kernel)
set_option maxRecDepth 20000 in
theorem gX4_odds_X4_share : GoodIn wsX4_odds (va_wsS RX4 191 yX4_share wsX4_share) := goodIn_app (goodIn_of _ (by decide +kernel)) ggX4_odds_X4_share
theorem dX4_odds_0 : decode cX4_odds 0 = .ok (.aload_n 0, 1) := by decide +kernel
theorem dX4_odds_1 : decode cX4_odds 1 = .ok (.getfield 72, 3) := by decide +kernel
theorem dX4_odds_4 : decode cX4_odds 4 = .ok (.ifCond .eq 25, 3) := by decide +kernel
theorem dX4_odds_7 : decode cX4_odds 7 = .ok (.iload_n 1, 1) := by decide +kernel
theorem dX4_odds_8 : decode cX4_odds 8 = .ok (.i2l, 1) := by decide +kernel
theorem dX4_odds_9 : decode cX4_odds 9 = .ok (.lconst 0, 1) := by decide +kernel
theorem dX4_odds_10 : decode cX4_odds 10 = .ok (.ldc2_w 205, 3) := by decide +kernel
theorem dX4_odds_13 : decode cX4_odds 13 = .ok (.invokestatic 68, 3) := by decide +kernel
theorem dX4_odds_16 : decode cX4_odds 16 = .ok (.ifCond .eq 13, 3) := by decide +kernel
theorem dX4_odds_19 : decode cX4_odds 19 = .ok (.iload_n 2, 1) := by decide +kernel
theorem dX4_odds_20 : decode cX4_odds 20 = .ok (.i2l, 1) := by decide +kernel
theorem dX4_odds_21 : decode cX4_odds 21 = .ok (.lconst 0, 1) := by decide +kernel
theorem dX4_odds_22 : decode cX4_odds 22 = .ok (.lconst 1, 1) := by decide +kernel
theorem dX4_odds_23 : decode cX4_odds 23 = .ok (.invokestatic 68, 3) := by decide +kernel
theorem dX4_odds_26 : decode cX4_odds 26 = .ok (.ifCond .ne 7, 3) := by decide +kernel
theorem dX4_odds_29 : decode cX4_odds 29 = .ok (.invokestatic 61, 3) := by decide +kernel
theorem dX4_odds_32 : decode cX4_odds 32 = .ok (.lreturn, 1) := by decide +kernel
theorem dX4_odds_33 : decode cX4_odds 33 = .ok (.aload_n 0, 1) := by decide +kernel
theorem dX4_odds_34 : decode cX4_odds 34 = .ok (.iload_n 1, 1) := by decide +kernel
theorem dX4_odds_35 : decode cX4_odds 35 = .ok (.invokevirtual 202, 3) := by decide +kernel
theorem dX4_odds_38 : decode cX4_odds 38 = .ok (.aload_n 0, 1) := by decide +kernel
theorem dX4_odds_39 : decode cX4_odds 39 = .ok (.invokevirtual 199, 3) := by decide +kernel
theorem dX4_odds_42 : decode cX4_odds 42 = .ok (.iload_n 2, 1) := by decide +kernel
theorem dX4_odds_43 : decode cX4_odds 43 = .ok (.invokestatic 191, 3) := by decide +kernel
theorem dX4_odds_46 : decode cX4_odds 46 = .ok (.lreturn, 1) := by decide +kernel
set_option maxRecDepth 20000 in
theorem ggX4_noSheet_X4_in : GoodIn wsX4_noSheet wsX4_in := goodIn_r _ [5] (by decide +kernel) (by decide +kernel)
set_option maxRecDepth 20000 in
theorem gX4_noSheet_X4_in : GoodIn wsX4_noSheet (va_wsS RX4 68 yX4_in wsX4_in) := goodIn_app (goodIn_of _ (by decide +kernel)) ggX4_noSheet_X4_in
theorem dX4_noSheet_0 : decode cX4_noSheet 0 = .ok (.iload_n 0, 1) := by decide +kernel
theorem dX4_noSheet_1 : decode cX4_noSheet 1 = .ok (.i2l, 1) := by decide +kernel
theorem dX4_noSheet_2 : decode cX4_noSheet 2 = .ok (.lconst 0, 1) := by decide +kernel
theorem dX4_noSheet_3 : decode cX4_noSheet 3 = .ok (.ldc2_w 173, 3) := by decide +kernel
theorem dX4_noSheet_6 : decode cX4_noSheet 6 = .ok (.invokestatic 68, 3) := by decide +kernel
theorem dX4_noSheet_9 : decode cX4_noSheet 9 = .ok (.ifCond .ne 7, 3) := by decide +kernel
theorem dX4_noSheet_12 : decode cX4_noSheet 12 = .ok (.iconst 1, 1) := by decide +kernel
theorem dX4_noSheet_13 : decode cX4_noSheet 13 = .ok (.goto 4, 3) := by decide +kernel
theorem dX4_noSheet_16 : decode cX4_noSheet 16 = .ok (.iconst 0, 1) := by decide +kernel
theorem dX4_noSheet_17 : decode cX4_noSheet 17 = .ok (.ireturn, 1) := by decide +kernel
set_option maxRecDepth 20000 in
theorem ggX4_sheet_X4_noSheet : GoodIn wsX4_sheet wsX4_noSheet := goodIn_r _ [8, 9, 10, 11, 7, 12] (by decide +kernel) (by decide +kernel)
set_option maxRecDepth 20000 in
theorem gX4_sheet_X4_noSheet : GoodIn wsX4_sheet (va_wsS RX4 111 yX4_noSheet wsX4_noSheet) := goodIn_app (goodIn_of _ (by decide +kernel)) ggX4_sheet_X4_noSheet
set_option maxRecDepth 20000 in
theorem ggX4_sheet_X4_refused : GoodIn wsX4_sheet wsX4_refused := goodIn_r _ [16, 17, 22, 23, 24, 25, 26, 27, 28, 29, 30, 31, 32, 33, 34, 35, 36, 37, 38, 39, 40, 41, 42, 43, 44, 45, 46, 47, 48] (by decide +kernel) (by decide +kernel)
set_option maxRecDepth 20000 in
theorem gX4_sheet_X4_refused : GoodIn wsX4_sheet (wsV RX4 115 RX4 yX4_refused wsX4_refused) := goodIn_app (goodIn_of _ (by decide +kernel)) ggX4_sheet_X4_refused
set_option maxRecDepth 20000 in
theorem ggX4_sheet_X4_in : GoodIn wsX4_sheet wsX4_in := goodIn_r _ [12] (by decide +kernel) (by decide +kernel)
set_option maxRecDepth 20000 in
theorem gX4_sheet_X4_in : GoodIn wsX4_sheet (va_wsS RX4 68 yX4_in wsX4_in) := goodIn_app (goodIn_of _ (by decide +kernel)) ggX4_sheet_X4_in
set_option maxRecDepth 20000 in
theorem ggX4_sheet_X4_failed : GoodIn wsX4_sheet wsX4_failed := goodIn_r _ [21, 17, 22, 23, 24, 25, 26, 27, 28, 29, 30, 31, 32, 33, 34, 35, 36, 37, 38, 39, 40, 41, 42, 43, 44, 45, 46, 47, 48] (by decide +kernel) (by decide +kernel)
set_option maxRecDepth 20000 in
theorem gX4_sheet_X4_failed : GoodIn wsX4_sheet (wsV RX4 103 RX4 yX4_failed wsX4_failed) := goodIn_app (goodIn_of _ (by decide +kernel)) ggX4_sheet_X4_failed
theorem dX4_sheet_0 : decode cX4_sheet 0 = .ok (.iload_n 1, 1) := by decide +kernel
theorem dX4_sheet_1 : decode cX4_sheet 1 = .ok (.invokestatic 111, 3) := by decide +kernel
theorem dX4_sheet_4 : decode cX4_sheet 4 = .ok (.ifCond .eq 9, 3) := by decide +kernel
theorem dX4_sheet_7 : decode cX4_sheet 7 = .ok (.aload_n 0, 1) := by decide +kernel
theorem dX4_sheet_8 : decode cX4_sheet 8 = .ok (.iconst (-1), 1) := by decide +kernel
theorem dX4_sheet_9 : decode cX4_sheet 9 = .ok (.invokevirtual 115, 3) := by decide +kernel
theorem dX4_sheet_12 : decode cX4_sheet 12 = .ok (.ireturn, 1) := by decide +kernel
theorem dX4_sheet_13 : decode cX4_sheet 13 = .ok (.iload_n 2, 1) := by decide +kernel
theorem dX4_sheet_14 : decode cX4_sheet 14 = .ok (.i2l, 1) := by decide +kernel
theorem dX4_sheet_15 : decode cX4_sheet 15 = .ok (.lconst 0, 1) := by decide +kernel
theorem dX4_sheet_16 : decode cX4_sheet 16 = .ok (.ldc2_w 118, 3) := by decide +kernel
theorem dX4_sheet_19 : decode cX4_sheet 19 = .ok (.invokestatic 68, 3) := by decide +kernel
theorem dX4_sheet_22 : decode cX4_sheet 22 = .ok (.ifCond .eq 9, 3) := by decide +kernel
theorem dX4_sheet_25 : decode cX4_sheet 25 = .ok (.iload_n 3, 1) := by decide +kernel
theorem dX4_sheet_26 : decode cX4_sheet 26 = .ok (.bipush 60, 2) := by decide +kernel
theorem dX4_sheet_28 : decode cX4_sheet 28 = .ok (.if_icmp .le 10, 3) := by decide +kernel
theorem dX4_sheet_31 : decode cX4_sheet 31 = .ok (.aload_n 0, 1) := by decide +kernel
theorem dX4_sheet_32 : decode cX4_sheet 32 = .ok (.bipush (-2), 2) := by decide +kernel
theorem dX4_sheet_34 : decode cX4_sheet 34 = .ok (.invokevirtual 115, 3) := by decide +kernel
theorem dX4_sheet_37 : decode cX4_sheet 37 = .ok (.ireturn, 1) := by decide +kernel
theorem dX4_sheet_38 : decode cX4_sheet 38 = .ok (.iload_n 3, 1) := by decide +kernel
theorem dX4_sheet_39 : decode cX4_sheet 39 = .ok (.ifCond .ge 9, 3) := by decide +kernel
theorem dX4_sheet_42 : decode cX4_sheet 42 = .ok (.aload_n 0, 1) := by decide +kernel
theorem dX4_sheet_43 : decode cX4_sheet 43 = .ok (.iconst 4, 1) := by decide +kernel
theorem dX4_sheet_44 : decode cX4_sheet 44 = .ok (.invokevirtual 103, 3) := by decide +kernel
theorem dX4_sheet_47 : decode cX4_sheet 47 = .ok (.ireturn, 1) := by decide +kernel
theorem dX4_sheet_48 : decode cX4_sheet 48 = .ok (.aload_n 0, 1) := by decide +kernel
theorem dX4_sheet_49 : decode cX4_sheet 49 = .ok (.getfield 43, 3) := by decide +kernel
theorem dX4_sheet_52 : decode cX4_sheet 52 = .ok (.iload_n 1, 1) := by decide +kernel
theorem dX4_sheet_53 : decode cX4_sheet 53 = .ok (.iload_n 3, 1) := by decide +kernel
theorem dX4_sheet_54 : decode cX4_sheet 54 = .ok (.iastore, 1) := by decide +kernel
theorem dX4_sheet_55 : decode cX4_sheet 55 = .ok (.aload_n 0, 1) := by decide +kernel
theorem dX4_sheet_56 : decode cX4_sheet 56 = .ok (.getfield 46, 3) := by decide +kernel
theorem dX4_sheet_59 : decode cX4_sheet 59 = .ok (.iload_n 1, 1) := by decide +kernel
theorem dX4_sheet_60 : decode cX4_sheet 60 = .ok (.iload_n 2, 1) := by decide +kernel
theorem dX4_sheet_61 : decode cX4_sheet 61 = .ok (.iastore, 1) := by decide +kernel
theorem dX4_sheet_62 : decode cX4_sheet 62 = .ok (.iconst 0, 1) := by decide +kernel
theorem dX4_sheet_63 : decode cX4_sheet 63 = .ok (.istore 4, 2) := by decide +kernel
theorem dX4_sheet_65 : decode cX4_sheet 65 = .ok (.iload 4, 2) := by decide +kernel
theorem dX4_sheet_67 : decode cX4_sheet 67 = .ok (.iload_n 3, 1) := by decide +kernel
theorem dX4_sheet_68 : decode cX4_sheet 68 = .ok (.if_icmp .ge 22, 3) := by decide +kernel
theorem dX4_sheet_71 : decode cX4_sheet 71 = .ok (.aload_n 0, 1) := by decide +kernel
theorem dX4_sheet_72 : decode cX4_sheet 72 = .ok (.getfield 49, 3) := by decide +kernel
theorem dX4_sheet_75 : decode cX4_sheet 75 = .ok (.bipush 60, 2) := by decide +kernel
theorem dX4_sheet_77 : decode cX4_sheet 77 = .ok (.iload_n 1, 1) := by decide +kernel
theorem dX4_sheet_78 : decode cX4_sheet 78 = .ok (.imul, 1) := by decide +kernel
theorem dX4_sheet_79 : decode cX4_sheet 79 = .ok (.iload 4, 2) := by decide +kernel
theorem dX4_sheet_81 : decode cX4_sheet 81 = .ok (.iadd, 1) := by decide +kernel
theorem dX4_sheet_82 : decode cX4_sheet 82 = .ok (.iconst 0, 1) := by decide +kernel
theorem dX4_sheet_83 : decode cX4_sheet 83 = .ok (.iastore, 1) := by decide +kernel
theorem dX4_sheet_84 : decode cX4_sheet 84 = .ok (.iinc 4 1, 3) := by decide +kernel
theorem dX4_sheet_87 : decode cX4_sheet 87 = .ok (.goto (-22), 3) := by decide +kernel
theorem dX4_sheet_90 : decode cX4_sheet 90 = .ok (.aload_n 0, 1) := by decide +kernel
theorem dX4_sheet_91 : decode cX4_sheet 91 = .ok (.iconst 1, 1) := by decide +kernel
theorem dX4_sheet_92 : decode cX4_sheet 92 = .ok (.invokevirtual 115, 3) := by decide +kernel
theorem dX4_sheet_95 : decode cX4_sheet 95 = .ok (.ireturn, 1) := by decide +kernel
set_option maxRecDepth 20000 in
theorem ggX4_lose_X4_noSheet : GoodIn wsX4_lose wsX4_noSheet := goodIn_r _ [5, 6, 7, 8, 4, 9] (by decide +kernel) (by decide +kernel)
set_option maxRecDepth 20000 in
theorem gX4_lose_X4_noSheet : GoodIn wsX4_lose (va_wsS RX4 111 yX4_noSheet wsX4_noSheet) := goodIn_app (goodIn_of _ (by decide +kernel)) ggX4_lose_X4_noSheet
theorem dX4_lose_0 : decode cX4_lose 0 = .ok (.iload_n 1, 1) := by decide +kernel
theorem dX4_lose_1 : decode cX4_lose 1 = .ok (.invokestatic 111, 3) := by decide +kernel
theorem dX4_lose_4 : decode cX4_lose 4 = .ok (.ifCond .eq 5, 3) := by decide +kernel
theorem dX4_lose_7 : decode cX4_lose 7 = .ok (.iconst (-1), 1) := by decide +kernel
theorem dX4_lose_8 : decode cX4_lose 8 = .ok (.ireturn, 1) := by decide +kernel
theorem dX4_lose_9 : decode cX4_lose 9 = .ok (.aload_n 0, 1) := by decide +kernel
theorem dX4_lose_10 : decode cX4_lose 10 = .ok (.getfield 43, 3) := by decide +kernel
theorem dX4_lose_13 : decode cX4_lose 13 = .ok (.iload_n 1, 1) := by decide +kernel
theorem dX4_lose_14 : decode cX4_lose 14 = .ok (.iaload, 1) := by decide +kernel
theorem dX4_lose_15 : decode cX4_lose 15 = .ok (.ifCond .ge 7, 3) := by decide +kernel
theorem dX4_lose_18 : decode cX4_lose 18 = .ok (.iconst 0, 1) := by decide +kernel
theorem dX4_lose_19 : decode cX4_lose 19 = .ok (.goto 4, 3) := by decide +kernel
theorem dX4_lose_22 : decode cX4_lose 22 = .ok (.iconst 1, 1) := by decide +kernel
theorem dX4_lose_23 : decode cX4_lose 23 = .ok (.istore_n 2, 1) := by decide +kernel
theorem dX4_lose_24 : decode cX4_lose 24 = .ok (.aload_n 0, 1) := by decide +kernel
theorem dX4_lose_25 : decode cX4_lose 25 = .ok (.getfield 43, 3) := by decide +kernel
theorem dX4_lose_28 : decode cX4_lose 28 = .ok (.iload_n 1, 1) := by decide +kernel
theorem dX4_lose_29 : decode cX4_lose 29 = .ok (.iconst (-1), 1) := by decide +kernel
theorem dX4_lose_30 : decode cX4_lose 30 = .ok (.iastore, 1) := by decide +kernel
theorem dX4_lose_31 : decode cX4_lose 31 = .ok (.iload_n 2, 1) := by decide +kernel
theorem dX4_lose_32 : decode cX4_lose 32 = .ok (.ireturn, 1) := by decide +kernel
set_option maxRecDepth 20000 in
theorem ggX4_noCell_X4_in : GoodIn wsX4_noCell wsX4_in := goodIn_r _ [5] (by decide +kernel) (by decide +kernel)
set_option maxRecDepth 20000 in
theorem gX4_noCell_X4_in : GoodIn wsX4_noCell (va_wsS RX4 68 yX4_in wsX4_in) := goodIn_app (goodIn_of _ (by decide +kernel)) ggX4_noCell_X4_in
theorem dX4_noCell_0 : decode cX4_noCell 0 = .ok (.aload_n 0, 1) := by decide +kernel
theorem dX4_noCell_1 : decode cX4_noCell 1 = .ok (.getfield 43, 3) := by decide +kernel
theorem dX4_noCell_4 : decode cX4_noCell 4 = .ok (.iload_n 1, 1) := by decide +kernel
theorem dX4_noCell_5 : decode cX4_noCell 5 = .ok (.iaload, 1) := by decide +kernel
theorem dX4_noCell_6 : decode cX4_noCell 6 = .ok (.ifCond .ge 7, 3) := by decide +kernel
theorem dX4_noCell_9 : decode cX4_noCell 9 = .ok (.iconst 1, 1) := by decide +kernel
theorem dX4_noCell_10 : decode cX4_noCell 10 = .ok (.goto 26, 3) := by decide +kernel
theorem dX4_noCell_13 : decode cX4_noCell 13 = .ok (.iload_n 2, 1) := by decide +kernel
theorem dX4_noCell_14 : decode cX4_noCell 14 = .ok (.i2l, 1) := by decide +kernel
theorem dX4_noCell_15 : decode cX4_noCell 15 = .ok (.lconst 0, 1) := by decide +kernel
theorem dX4_noCell_16 : decode cX4_noCell 16 = .ok (.aload_n 0, 1) := by decide +kernel
theorem dX4_noCell_17 : decode cX4_noCell 17 = .ok (.getfield 43, 3) := by decide +kernel
theorem dX4_noCell_20 : decode cX4_noCell 20 = .ok (.iload_n 1, 1) := by decide +kernel
theorem dX4_noCell_21 : decode cX4_noCell 21 = .ok (.iaload, 1) := by decide +kernel
theorem dX4_noCell_22 : decode cX4_noCell 22 = .ok (.i2l, 1) := by decide +kernel
theorem dX4_noCell_23 : decode cX4_noCell 23 = .ok (.lconst 1, 1) := by decide +kernel
theorem dX4_noCell_24 : decode cX4_noCell 24 = .ok (.lsub, 1) := by decide +kernel
theorem dX4_noCell_25 : decode cX4_noCell 25 = .ok (.invokestatic 68, 3) := by decide +kernel
theorem dX4_noCell_28 : decode cX4_noCell 28 = .ok (.ifCond .eq 7, 3) := by decide +kernel
theorem dX4_noCell_31 : decode cX4_noCell 31 = .ok (.iconst 0, 1) := by decide +kernel
theorem dX4_noCell_32 : decode cX4_noCell 32 = .ok (.goto 4, 3) := by decide +kernel
theorem dX4_noCell_35 : decode cX4_noCell 35 = .ok (.iconst 3, 1) := by decide +kernel
theorem dX4_noCell_36 : decode cX4_noCell 36 = .ok (.ireturn, 1) := by decide +kernel
set_option maxRecDepth 20000 in
theorem ggX4_put_X4_noSheet : GoodIn wsX4_put wsX4_noSheet := goodIn_r _ [6, 7, 8, 9, 5, 10] (by decide +kernel) (by decide +kernel)
set_option maxRecDepth 20000 in
theorem gX4_put_X4_noSheet : GoodIn wsX4_put (va_wsS RX4 111 yX4_noSheet wsX4_noSheet) := goodIn_app (goodIn_of _ (by decide +kernel)) ggX4_put_X4_noSheet
set_option maxRecDepth 20000 in
theorem ggX4_put_X4_refused : GoodIn wsX4_put wsX4_refused := goodIn_r _ [14, 15, 25, 26, 27, 28, 29, 30, 31, 32, 33, 34, 35, 36, 37, 38, 39, 40, 41, 42, 43, 44, 45, 46, 47, 48, 49, 50, 51] (by decide +kernel) (by decide +kernel)
set_option maxRecDepth 20000 in
theorem gX4_put_X4_refused : GoodIn wsX4_put (wsV RX4 115 RX4 yX4_refused wsX4_refused) := goodIn_app (goodIn_of _ (by decide +kernel)) ggX4_put_X4_refused
set_option maxRecDepth 20000 in
theorem ggX4_put_X4_noCell : GoodIn wsX4_put wsX4_noCell := goodIn_r _ [19, 20, 8, 9, 5, 10, 25, 26, 27, 28, 29, 30, 31, 32, 33, 34, 35, 36, 37, 38, 39, 40, 41, 42, 43, 44, 45, 46, 47, 48, 49, 50, 51] (by decide +kernel) (by decide +kernel)
set_option maxRecDepth 20000 in
theorem gX4_put_X4_noCell : GoodIn wsX4_put (wsV RX4 211 RX4 yX4_noCell wsX4_noCell) := goodIn_app (goodIn_of _ (by decide +kernel)) ggX4_put_X4_noCell
set_option maxRecDepth 20000 in
theorem ggX4_put_X4_failed : GoodIn wsX4_put wsX4_failed := goodIn_r _ [24, 15, 25, 26, 27, 28, 29, 30, 31, 32, 33, 34, 35, 36, 37, 38, 39, 40, 41, 42, 43, 44, 45, 46, 47, 48, 49, 50, 51] (by decide +kernel) (by decide +kernel)
set_option maxRecDepth 20000 in
theorem gX4_put_X4_failed : GoodIn wsX4_put (wsV RX4 103 RX4 yX4_failed wsX4_failed) := goodIn_app (goodIn_of _ (by decide +kernel)) ggX4_put_X4_failed
theorem dX4_put_0 : decode cX4_put 0 = .ok (.iload_n 1, 1) := by decide +kernel
theorem dX4_put_1 : decode cX4_put 1 = .ok (.invokestatic 111, 3) := by decide +kernel
theorem dX4_put_4 : decode cX4_put 4 = .ok (.ifCond .eq 9, 3) := by decide +kernel
theorem dX4_put_7 : decode cX4_put 7 = .ok (.aload_n 0, 1) := by decide +kernel
theorem dX4_put_8 : decode cX4_put 8 = .ok (.iconst (-1), 1) := by decide +kernel
theorem dX4_put_9 : decode cX4_put 9 = .ok (.invokevirtual 115, 3) := by decide +kernel
theorem dX4_put_12 : decode cX4_put 12 = .ok (.ireturn, 1) := by decide +kernel
theorem dX4_put_13 : decode cX4_put 13 = .ok (.aload_n 0, 1) := by decide +kernel
theorem dX4_put_14 : decode cX4_put 14 = .ok (.iload_n 1, 1) := by decide +kernel
theorem dX4_put_15 : decode cX4_put 15 = .ok (.iload_n 2, 1) := by decide +kernel
theorem dX4_put_16 : decode cX4_put 16 = .ok (.invokevirtual 211, 3) := by decide +kernel
theorem dX4_put_19 : decode cX4_put 19 = .ok (.ifCond .le 14, 3) := by decide +kernel
theorem dX4_put_22 : decode cX4_put 22 = .ok (.aload_n 0, 1) := by decide +kernel
theorem dX4_put_23 : decode cX4_put 23 = .ok (.aload_n 0, 1) := by decide +kernel
theorem dX4_put_24 : decode cX4_put 24 = .ok (.iload_n 1, 1) := by decide +kernel
theorem dX4_put_25 : decode cX4_put 25 = .ok (.iload_n 2, 1) := by decide +kernel
theorem dX4_put_26 : decode cX4_put 26 = .ok (.invokevirtual 211, 3) := by decide +kernel
theorem dX4_put_29 : decode cX4_put 29 = .ok (.invokevirtual 103, 3) := by decide +kernel
theorem dX4_put_32 : decode cX4_put 32 = .ok (.ireturn, 1) := by decide +kernel
theorem dX4_put_33 : decode cX4_put 33 = .ok (.aload_n 0, 1) := by decide +kernel
theorem dX4_put_34 : decode cX4_put 34 = .ok (.getfield 49, 3) := by decide +kernel
theorem dX4_put_37 : decode cX4_put 37 = .ok (.bipush 60, 2) := by decide +kernel
theorem dX4_put_39 : decode cX4_put 39 = .ok (.iload_n 1, 1) := by decide +kernel
theorem dX4_put_40 : decode cX4_put 40 = .ok (.imul, 1) := by decide +kernel
theorem dX4_put_41 : decode cX4_put 41 = .ok (.iload_n 2, 1) := by decide +kernel
theorem dX4_put_42 : decode cX4_put 42 = .ok (.iadd, 1) := by decide +kernel
theorem dX4_put_43 : decode cX4_put 43 = .ok (.aload_n 0, 1) := by decide +kernel
theorem dX4_put_44 : decode cX4_put 44 = .ok (.getfield 46, 3) := by decide +kernel
theorem dX4_put_47 : decode cX4_put 47 = .ok (.iload_n 1, 1) := by decide +kernel
theorem dX4_put_48 : decode cX4_put 48 = .ok (.iaload, 1) := by decide +kernel
theorem dX4_put_49 : decode cX4_put 49 = .ok (.ifCond .ne 8, 3) := by decide +kernel
theorem dX4_put_52 : decode cX4_put 52 = .ok (.iload_n 3, 1) := by decide +kernel
theorem dX4_put_53 : decode cX4_put 53 = .ok (.i2b, 1) := by decide +kernel
theorem dX4_put_54 : decode cX4_put 54 = .ok (.goto 19, 3) := by decide +kernel
theorem dX4_put_57 : decode cX4_put 57 = .ok (.aload_n 0, 1) := by decide +kernel
theorem dX4_put_58 : decode cX4_put 58 = .ok (.getfield 46, 3) := by decide +kernel
theorem dX4_put_61 : decode cX4_put 61 = .ok (.iload_n 1, 1) := by decide +kernel
theorem dX4_put_62 : decode cX4_put 62 = .ok (.iaload, 1) := by decide +kernel
theorem dX4_put_63 : decode cX4_put 63 = .ok (.iconst 1, 1) := by decide +kernel
theorem dX4_put_64 : decode cX4_put 64 = .ok (.if_icmp .ne 8, 3) := by decide +kernel
theorem dX4_put_67 : decode cX4_put 67 = .ok (.iload_n 3, 1) := by decide +kernel
theorem dX4_put_68 : decode cX4_put 68 = .ok (.i2s, 1) := by decide +kernel
theorem dX4_put_69 : decode cX4_put 69 = .ok (.goto 4, 3) := by decide +kernel
theorem dX4_put_72 : decode cX4_put 72 = .ok (.iload_n 3, 1) := by decide +kernel
theorem dX4_put_73 : decode cX4_put 73 = .ok (.iastore, 1) := by decide +kernel
theorem dX4_put_74 : decode cX4_put 74 = .ok (.aload_n 0, 1) := by decide +kernel
theorem dX4_put_75 : decode cX4_put 75 = .ok (.iconst 1, 1) := by decide +kernel
theorem dX4_put_76 : decode cX4_put 76 = .ok (.invokevirtual 115, 3) := by decide +kernel
theorem dX4_put_79 : decode cX4_put 79 = .ok (.ireturn, 1) := by decide +kernel
set_option maxRecDepth 20000 in
theorem ggX4_cell_X4_noSheet : GoodIn wsX4_cell wsX4_noSheet := goodIn_r _ [9, 10, 11, 12, 8, 13] (by decide +kernel) (by decide +kernel)
set_option maxRecDepth 20000 in
theorem gX4_cell_X4_noSheet : GoodIn wsX4_cell (va_wsS RX4 111 yX4_noSheet wsX4_noSheet) := goodIn_app (goodIn_of _ (by decide +kernel)) ggX4_cell_X4_noSheet
set_option maxRecDepth 20000 in
theorem ggX4_cell_X4_in : GoodIn wsX4_cell wsX4_in := goodIn_r _ [13] (by decide +kernel) (by decide +kernel)
set_option maxRecDepth 20000 in
theorem gX4_cell_X4_in : GoodIn wsX4_cell (va_wsS RX4 68 yX4_in wsX4_in) := goodIn_app (goodIn_of _ (by decide +kernel)) ggX4_cell_X4_in
set_option maxRecDepth 20000 in
theorem ggX4_cell_X4_lost : GoodIn wsX4_cell wsX4_lost := goodIn_r _ [16, 17] (by decide +kernel) (by decide +kernel)
set_option maxRecDepth 20000 in
theorem gX4_cell_X4_lost : GoodIn wsX4_cell (va_wsS RX4 61 yX4_lost wsX4_lost) := goodIn_app (goodIn_of _ (by decide +kernel)) ggX4_cell_X4_lost
set_option maxRecDepth 20000 in
theorem ggX4_cell_X4_failedLong : GoodIn wsX4_cell wsX4_failedLong := goodIn_r _ [21, 1, 14, 15, 8, 16, 17, 26, 27, 28, 29, 30, 31, 32, 33, 34, 35, 36, 37, 38, 39, 40, 41, 42, 43, 44, 45, 46, 47, 48, 49, 50, 51, 52] (by decide +kernel) (by decide +kernel)
set_option maxRecDepth 20000 in
theorem gX4_cell_X4_failedLong : GoodIn wsX4_cell (wsV RX4 214 RX4 yX4_failedLong wsX4_failedLong) := goodIn_app (goodIn_of _ (by decide +kernel)) ggX4_cell_X4_failedLong
set_option maxRecDepth 20000 in
theorem ggX4_cell_X4_noCell : GoodIn wsX4_cell wsX4_noCell := goodIn_r _ [25, 3, 11, 12, 8, 13, 26, 27, 28, 29, 30, 31, 32, 33, 34, 35, 36, 37, 38, 39, 40, 41, 42, 43, 44, 45, 46, 47, 48, 49, 50, 51, 52] (by decide +kernel) (by decide +kernel)
set_option maxRecDepth 20000 in
theorem gX4_cell_X4_noCell : GoodIn wsX4_cell (wsV RX4 211 RX4 yX4_noCell wsX4_noCell) := goodIn_app (goodIn_of _ (by decide +kernel)) ggX4_cell_X4_noCell
theorem dX4_cell_0 : decode cX4_cell 0 = .ok (.aload_n 0, 1) := by decide +kernel
theorem dX4_cell_1 : decode cX4_cell 1 = .ok (.iconst 0, 1) := by decide +kernel
theorem dX4_cell_2 : decode cX4_cell 2 = .ok (.putfield 57, 3) := by decide +kernel
theorem dX4_cell_5 : decode cX4_cell 5 = .ok (.iload_n 1, 1) := by decide +kernel
theorem dX4_cell_6 : decode cX4_cell 6 = .ok (.invokestatic 111, 3) := by decide +kernel
theorem dX4_cell_9 : decode cX4_cell 9 = .ok (.ifCond .ne 15, 3) := by decide +kernel
theorem dX4_cell_12 : decode cX4_cell 12 = .ok (.iload_n 3, 1) := by decide +kernel
theorem dX4_cell_13 : decode cX4_cell 13 = .ok (.i2l, 1) := by decide +kernel
theorem dX4_cell_14 : decode cX4_cell 14 = .ok (.lconst 0, 1) := by decide +kernel
theorem dX4_cell_15 : decode cX4_cell 15 = .ok (.ldc2_w 118, 3) := by decide +kernel
theorem dX4_cell_18 : decode cX4_cell 18 = .ok (.invokestatic 68, 3) := by decide +kernel
theorem dX4_cell_21 : decode cX4_cell 21 = .ok (.ifCond .ne 7, 3) := by decide +kernel
theorem dX4_cell_24 : decode cX4_cell 24 = .ok (.invokestatic 61, 3) := by decide +kernel
theorem dX4_cell_27 : decode cX4_cell 27 = .ok (.lreturn, 1) := by decide +kernel
theorem dX4_cell_28 : decode cX4_cell 28 = .ok (.aload_n 0, 1) := by decide +kernel
theorem dX4_cell_29 : decode cX4_cell 29 = .ok (.getfield 43, 3) := by decide +kernel
theorem dX4_cell_32 : decode cX4_cell 32 = .ok (.iload_n 1, 1) := by decide +kernel
theorem dX4_cell_33 : decode cX4_cell 33 = .ok (.iaload, 1) := by decide +kernel
theorem dX4_cell_34 : decode cX4_cell 34 = .ok (.ifCond .lt 19, 3) := by decide +kernel
theorem dX4_cell_37 : decode cX4_cell 37 = .ok (.aload_n 0, 1) := by decide +kernel
theorem dX4_cell_38 : decode cX4_cell 38 = .ok (.getfield 46, 3) := by decide +kernel
theorem dX4_cell_41 : decode cX4_cell 41 = .ok (.iload_n 1, 1) := by decide +kernel
theorem dX4_cell_42 : decode cX4_cell 42 = .ok (.iaload, 1) := by decide +kernel
theorem dX4_cell_43 : decode cX4_cell 43 = .ok (.iload_n 3, 1) := by decide +kernel
theorem dX4_cell_44 : decode cX4_cell 44 = .ok (.if_icmp .eq 9, 3) := by decide +kernel
theorem dX4_cell_47 : decode cX4_cell 47 = .ok (.aload_n 0, 1) := by decide +kernel
theorem dX4_cell_48 : decode cX4_cell 48 = .ok (.iconst 2, 1) := by decide +kernel
theorem dX4_cell_49 : decode cX4_cell 49 = .ok (.invokevirtual 214, 3) := by decide +kernel
theorem dX4_cell_52 : decode cX4_cell 52 = .ok (.lreturn, 1) := by decide +kernel
theorem dX4_cell_53 : decode cX4_cell 53 = .ok (.aload_n 0, 1) := by decide +kernel
theorem dX4_cell_54 : decode cX4_cell 54 = .ok (.iload_n 1, 1) := by decide +kernel
theorem dX4_cell_55 : decode cX4_cell 55 = .ok (.iload_n 2, 1) := by decide +kernel
theorem dX4_cell_56 : decode cX4_cell 56 = .ok (.invokevirtual 211, 3) := by decide +kernel
theorem dX4_cell_59 : decode cX4_cell 59 = .ok (.ifCond .le 16, 3) := by decide +kernel
theorem dX4_cell_62 : decode cX4_cell 62 = .ok (.aload_n 0, 1) := by decide +kernel
theorem dX4_cell_63 : decode cX4_cell 63 = .ok (.aload_n 0, 1) := by decide +kernel
theorem dX4_cell_64 : decode cX4_cell 64 = .ok (.iload_n 1, 1) := by decide +kernel
theorem dX4_cell_65 : decode cX4_cell 65 = .ok (.iload_n 2, 1) := by decide +kernel
theorem dX4_cell_66 : decode cX4_cell 66 = .ok (.invokevirtual 211, 3) := by decide +kernel
theorem dX4_cell_69 : decode cX4_cell 69 = .ok (.invokevirtual 214, 3) := by decide +kernel
theorem dX4_cell_72 : decode cX4_cell 72 = .ok (.goto 15, 3) := by decide +kernel
theorem dX4_cell_75 : decode cX4_cell 75 = .ok (.aload_n 0, 1) := by decide +kernel
theorem dX4_cell_76 : decode cX4_cell 76 = .ok (.getfield 49, 3) := by decide +kernel
theorem dX4_cell_79 : decode cX4_cell 79 = .ok (.bipush 60, 2) := by decide +kernel
theorem dX4_cell_81 : decode cX4_cell 81 = .ok (.iload_n 1, 1) := by decide +kernel
theorem dX4_cell_82 : decode cX4_cell 82 = .ok (.imul, 1) := by decide +kernel
theorem dX4_cell_83 : decode cX4_cell 83 = .ok (.iload_n 2, 1) := by decide +kernel
theorem dX4_cell_84 : decode cX4_cell 84 = .ok (.iadd, 1) := by decide +kernel
theorem dX4_cell_85 : decode cX4_cell 85 = .ok (.iaload, 1) := by decide +kernel
theorem dX4_cell_86 : decode cX4_cell 86 = .ok (.i2l, 1) := by decide +kernel
theorem dX4_cell_87 : decode cX4_cell 87 = .ok (.lreturn, 1) := by decide +kernel
theorem dX4_isBeyond_0 : decode cX4_isBeyond 0 = .ok (.iload_n 0, 1) := by decide +kernel
theorem dX4_isBeyond_1 : decode cX4_isBeyond 1 = .ok (.ifCond .lt 19, 3) := by decide +kernel
theorem dX4_isBeyond_4 : decode cX4_isBeyond 4 = .ok (.lload_n 1, 1) := by decide +kernel
theorem dX4_isBeyond_5 : decode cX4_isBeyond 5 = .ok (.lconst 0, 1) := by decide +kernel
theorem dX4_isBeyond_6 : decode cX4_isBeyond 6 = .ok (.lcmp, 1) := by decide +kernel
theorem dX4_isBeyond_7 : decode cX4_isBeyond 7 = .ok (.ifCond .lt 13, 3) := by decide +kernel
theorem dX4_isBeyond_10 : decode cX4_isBeyond 10 = .ok (.iload_n 0, 1) := by decide +kernel
theorem dX4_isBeyond_11 : decode cX4_isBeyond 11 = .ok (.i2l, 1) := by decide +kernel
theorem dX4_isBeyond_12 : decode cX4_isBeyond 12 = .ok (.lload_n 1, 1) := by decide +kernel
theorem dX4_isBeyond_13 : decode cX4_isBeyond 13 = .ok (.ladd, 1) := by decide +kernel
theorem dX4_isBeyond_14 : decode cX4_isBeyond 14 = .ok (.iload_n 3, 1) := by decide +kernel
theorem dX4_isBeyond_15 : decode cX4_isBeyond 15 = .ok (.i2l, 1) := by decide +kernel
theorem dX4_isBeyond_16 : decode cX4_isBeyond 16 = .ok (.lcmp, 1) := by decide +kernel
theorem dX4_isBeyond_17 : decode cX4_isBeyond 17 = .ok (.ifCond .le 7, 3) := by decide +kernel
theorem dX4_isBeyond_20 : decode cX4_isBeyond 20 = .ok (.iconst 1, 1) := by decide +kernel
theorem dX4_isBeyond_21 : decode cX4_isBeyond 21 = .ok (.goto 4, 3) := by decide +kernel
theorem dX4_isBeyond_24 : decode cX4_isBeyond 24 = .ok (.iconst 0, 1) := by decide +kernel
theorem dX4_isBeyond_25 : decode cX4_isBeyond 25 = .ok (.ireturn, 1) := by decide +kernel
set_option maxRecDepth 20000 in
theorem ggX4_copy_X4_noSheet : GoodIn wsX4_copy wsX4_noSheet := goodIn_r _ [8, 9, 10, 11, 7, 12] (by decide +kernel) (by decide +kernel)
set_option maxRecDepth 20000 in
theorem gX4_copy_X4_noSheet : GoodIn wsX4_copy (va_wsS RX4 111 yX4_noSheet wsX4_noSheet) := goodIn_app (goodIn_of _ (by decide +kernel)) ggX4_copy_X4_noSheet
set_option maxRecDepth 20000 in
theorem ggX4_copy_X4_refused : GoodIn wsX4_copy wsX4_refused := goodIn_r _ [16, 17, 25, 26, 27, 28, 29, 30, 31, 32, 33, 34, 35, 36, 37, 38, 39, 40, 41, 42, 43, 44, 45, 46, 47, 48, 49, 50, 51] (by decide +kernel) (by decide +kernel)
set_option maxRecDepth 20000 in
theorem gX4_copy_X4_refused : GoodIn wsX4_copy (wsV RX4 115 RX4 yX4_refused wsX4_refused) := goodIn_app (goodIn_of _ (by decide +kernel)) ggX4_copy_X4_refused
set_option maxRecDepth 20000 in
theorem ggX4_copy_X4_failed : GoodIn wsX4_copy wsX4_failed := goodIn_r _ [21, 17, 25, 26, 27, 28, 29, 30, 31, 32, 33, 34, 35, 36, 37, 38, 39, 40, 41, 42, 43, 44, 45, 46, 47, 48, 49, 50, 51] (by decide +kernel) (by decide +kernel)
set_option maxRecDepth 20000 in
theorem gX4_copy_X4_failed : GoodIn wsX4_copy (wsV RX4 103 RX4 yX4_failed wsX4_failed) := goodIn_app (goodIn_of _ (by decide +kernel)) ggX4_copy_X4_failed
set_option maxRecDepth 20000 in
theorem ggX4_copy_X4_isBeyond : GoodIn wsX4_copy wsX4_isBeyond := goodIn_r _ [24] (by decide +kernel) (by decide +kernel)
set_option maxRecDepth 20000 in
theorem gX4_copy_X4_isBeyond : GoodIn wsX4_copy (va_wsS RX4 107 yX4_isBeyond wsX4_isBeyond) := goodIn_app (goodIn_of _ (by decide +kernel)) ggX4_copy_X4_isBeyond
theorem dX4_copy_0 : decode cX4_copy 0 = .ok (.iload_n 1, 1) := by decide +kernel
theorem dX4_copy_1 : decode cX4_copy 1 = .ok (.invokestatic 111, 3) := by decide +kernel
theorem dX4_copy_4 : decode cX4_copy 4 = .ok (.ifCond .ne 10, 3) := by decide +kernel
theorem dX4_copy_7 : decode cX4_copy 7 = .ok (.iload_n 3, 1) := by decide +kernel
theorem dX4_copy_8 : decode cX4_copy 8 = .ok (.invokestatic 111, 3) := by decide +kernel
theorem dX4_copy_11 : decode cX4_copy 11 = .ok (.ifCond .eq 9, 3) := by decide +kernel
theorem dX4_copy_14 : decode cX4_copy 14 = .ok (.aload_n 0, 1) := by decide +kernel
theorem dX4_copy_15 : decode cX4_copy 15 = .ok (.iconst (-1), 1) := by decide +kernel
theorem dX4_copy_16 : decode cX4_copy 16 = .ok (.invokevirtual 115, 3) := by decide +kernel
theorem dX4_copy_19 : decode cX4_copy 19 = .ok (.ireturn, 1) := by decide +kernel
theorem dX4_copy_20 : decode cX4_copy 20 = .ok (.aload_n 0, 1) := by decide +kernel
theorem dX4_copy_21 : decode cX4_copy 21 = .ok (.getfield 43, 3) := by decide +kernel
theorem dX4_copy_24 : decode cX4_copy 24 = .ok (.iload_n 1, 1) := by decide +kernel
theorem dX4_copy_25 : decode cX4_copy 25 = .ok (.iaload, 1) := by decide +kernel
theorem dX4_copy_26 : decode cX4_copy 26 = .ok (.ifCond .lt 12, 3) := by decide +kernel
theorem dX4_copy_29 : decode cX4_copy 29 = .ok (.aload_n 0, 1) := by decide +kernel
theorem dX4_copy_30 : decode cX4_copy 30 = .ok (.getfield 43, 3) := by decide +kernel
theorem dX4_copy_33 : decode cX4_copy 33 = .ok (.iload_n 3, 1) := by decide +kernel
theorem dX4_copy_34 : decode cX4_copy 34 = .ok (.iaload, 1) := by decide +kernel
theorem dX4_copy_35 : decode cX4_copy 35 = .ok (.ifCond .ge 9, 3) := by decide +kernel
theorem dX4_copy_38 : decode cX4_copy 38 = .ok (.aload_n 0, 1) := by decide +kernel
theorem dX4_copy_39 : decode cX4_copy 39 = .ok (.iconst 1, 1) := by decide +kernel
theorem dX4_copy_40 : decode cX4_copy 40 = .ok (.invokevirtual 103, 3) := by decide +kernel
theorem dX4_copy_43 : decode cX4_copy 43 = .ok (.ireturn, 1) := by decide +kernel
theorem dX4_copy_44 : decode cX4_copy 44 = .ok (.aload_n 0, 1) := by decide +kernel
theorem dX4_copy_45 : decode cX4_copy 45 = .ok (.getfield 46, 3) := by decide +kernel
theorem dX4_copy_48 : decode cX4_copy 48 = .ok (.iload_n 1, 1) := by decide +kernel
theorem dX4_copy_49 : decode cX4_copy 49 = .ok (.iaload, 1) := by decide +kernel
theorem dX4_copy_50 : decode cX4_copy 50 = .ok (.aload_n 0, 1) := by decide +kernel
theorem dX4_copy_51 : decode cX4_copy 51 = .ok (.getfield 46, 3) := by decide +kernel
theorem dX4_copy_54 : decode cX4_copy 54 = .ok (.iload_n 3, 1) := by decide +kernel
theorem dX4_copy_55 : decode cX4_copy 55 = .ok (.iaload, 1) := by decide +kernel
theorem dX4_copy_56 : decode cX4_copy 56 = .ok (.if_icmp .eq 9, 3) := by decide +kernel
theorem dX4_copy_59 : decode cX4_copy 59 = .ok (.aload_n 0, 1) := by decide +kernel
theorem dX4_copy_60 : decode cX4_copy 60 = .ok (.iconst 2, 1) := by decide +kernel
theorem dX4_copy_61 : decode cX4_copy 61 = .ok (.invokevirtual 103, 3) := by decide +kernel
theorem dX4_copy_64 : decode cX4_copy 64 = .ok (.ireturn, 1) := by decide +kernel
theorem dX4_copy_65 : decode cX4_copy 65 = .ok (.iload_n 2, 1) := by decide +kernel
theorem dX4_copy_66 : decode cX4_copy 66 = .ok (.iload 5, 2) := by decide +kernel
theorem dX4_copy_68 : decode cX4_copy 68 = .ok (.i2l, 1) := by decide +kernel
theorem dX4_copy_69 : decode cX4_copy 69 = .ok (.aload_n 0, 1) := by decide +kernel
theorem dX4_copy_70 : decode cX4_copy 70 = .ok (.getfield 43, 3) := by decide +kernel
theorem dX4_copy_73 : decode cX4_copy 73 = .ok (.iload_n 1, 1) := by decide +kernel
theorem dX4_copy_74 : decode cX4_copy 74 = .ok (.iaload, 1) := by decide +kernel
theorem dX4_copy_75 : decode cX4_copy 75 = .ok (.invokestatic 107, 3) := by decide +kernel
theorem dX4_copy_78 : decode cX4_copy 78 = .ok (.ifCond .ne 20, 3) := by decide +kernel
theorem dX4_copy_81 : decode cX4_copy 81 = .ok (.iload 4, 2) := by decide +kernel
theorem dX4_copy_83 : decode cX4_copy 83 = .ok (.iload 5, 2) := by decide +kernel
theorem dX4_copy_85 : decode cX4_copy 85 = .ok (.i2l, 1) := by decide +kernel
theorem dX4_copy_86 : decode cX4_copy 86 = .ok (.aload_n 0, 1) := by decide +kernel
theorem dX4_copy_87 : decode cX4_copy 87 = .ok (.getfield 43, 3) := by decide +kernel
theorem dX4_copy_90 : decode cX4_copy 90 = .ok (.iload_n 3, 1) := by decide +kernel
theorem dX4_copy_91 : decode cX4_copy 91 = .ok (.iaload, 1) := by decide +kernel
theorem dX4_copy_92 : decode cX4_copy 92 = .ok (.invokestatic 107, 3) := by decide +kernel
theorem dX4_copy_95 : decode cX4_copy 95 = .ok (.ifCond .eq 9, 3) := by decide +kernel
theorem dX4_copy_98 : decode cX4_copy 98 = .ok (.aload_n 0, 1) := by decide +kernel
theorem dX4_copy_99 : decode cX4_copy 99 = .ok (.iconst 3, 1) := by decide +kernel
theorem dX4_copy_100 : decode cX4_copy 100 = .ok (.invokevirtual 103, 3) := by decide +kernel
theorem dX4_copy_103 : decode cX4_copy 103 = .ok (.ireturn, 1) := by decide +kernel
theorem dX4_copy_104 : decode cX4_copy 104 = .ok (.iconst 0, 1) := by decide +kernel
theorem dX4_copy_105 : decode cX4_copy 105 = .ok (.istore 6, 2) := by decide +kernel
theorem dX4_copy_107 : decode cX4_copy 107 = .ok (.iload 6, 2) := by decide +kernel
theorem dX4_copy_109 : decode cX4_copy 109 = .ok (.iload 5, 2) := by decide +kernel
theorem dX4_copy_111 : decode cX4_copy 111 = .ok (.if_icmp .ge 30, 3) := by decide +kernel
theorem dX4_copy_114 : decode cX4_copy 114 = .ok (.aload_n 0, 1) := by decide +kernel
theorem dX4_copy_115 : decode cX4_copy 115 = .ok (.getfield 52, 3) := by decide +kernel
theorem dX4_copy_118 : decode cX4_copy 118 = .ok (.iload 6, 2) := by decide +kernel
theorem dX4_copy_120 : decode cX4_copy 120 = .ok (.aload_n 0, 1) := by decide +kernel
theorem dX4_copy_121 : decode cX4_copy 121 = .ok (.getfield 49, 3) := by decide +kernel
theorem dX4_copy_124 : decode cX4_copy 124 = .ok (.bipush 60, 2) := by decide +kernel
theorem dX4_copy_126 : decode cX4_copy 126 = .ok (.iload_n 1, 1) := by decide +kernel
theorem dX4_copy_127 : decode cX4_copy 127 = .ok (.imul, 1) := by decide +kernel
theorem dX4_copy_128 : decode cX4_copy 128 = .ok (.iload_n 2, 1) := by decide +kernel
theorem dX4_copy_129 : decode cX4_copy 129 = .ok (.iadd, 1) := by decide +kernel
theorem dX4_copy_130 : decode cX4_copy 130 = .ok (.iload 6, 2) := by decide +kernel
theorem dX4_copy_132 : decode cX4_copy 132 = .ok (.iadd, 1) := by decide +kernel
theorem dX4_copy_133 : decode cX4_copy 133 = .ok (.iaload, 1) := by decide +kernel
theorem dX4_copy_134 : decode cX4_copy 134 = .ok (.iastore, 1) := by decide +kernel
theorem dX4_copy_135 : decode cX4_copy 135 = .ok (.iinc 6 1, 3) := by decide +kernel
theorem dX4_copy_138 : decode cX4_copy 138 = .ok (.goto (-31), 3) := by decide +kernel
theorem dX4_copy_141 : decode cX4_copy 141 = .ok (.iconst 0, 1) := by decide +kernel
theorem dX4_copy_142 : decode cX4_copy 142 = .ok (.istore 6, 2) := by decide +kernel
theorem dX4_copy_144 : decode cX4_copy 144 = .ok (.iload 6, 2) := by decide +kernel
theorem dX4_copy_146 : decode cX4_copy 146 = .ok (.iload 5, 2) := by decide +kernel
theorem dX4_copy_148 : decode cX4_copy 148 = .ok (.if_icmp .ge 31, 3) := by decide +kernel
theorem dX4_copy_151 : decode cX4_copy 151 = .ok (.aload_n 0, 1) := by decide +kernel
theorem dX4_copy_152 : decode cX4_copy 152 = .ok (.getfield 49, 3) := by decide +kernel
theorem dX4_copy_155 : decode cX4_copy 155 = .ok (.bipush 60, 2) := by decide +kernel
theorem dX4_copy_157 : decode cX4_copy 157 = .ok (.iload_n 3, 1) := by decide +kernel
theorem dX4_copy_158 : decode cX4_copy 158 = .ok (.imul, 1) := by decide +kernel
theorem dX4_copy_159 : decode cX4_copy 159 = .ok (.iload 4, 2) := by decide +kernel
theorem dX4_copy_161 : decode cX4_copy 161 = .ok (.iadd, 1) := by decide +kernel
theorem dX4_copy_162 : decode cX4_copy 162 = .ok (.iload 6, 2) := by decide +kernel
theorem dX4_copy_164 : decode cX4_copy 164 = .ok (.iadd, 1) := by decide +kernel
theorem dX4_copy_165 : decode cX4_copy 165 = .ok (.aload_n 0, 1) := by decide +kernel
theorem dX4_copy_166 : decode cX4_copy 166 = .ok (.getfield 52, 3) := by decide +kernel
theorem dX4_copy_169 : decode cX4_copy 169 = .ok (.iload 6, 2) := by decide +kernel
theorem dX4_copy_171 : decode cX4_copy 171 = .ok (.iaload, 1) := by decide +kernel
theorem dX4_copy_172 : decode cX4_copy 172 = .ok (.iastore, 1) := by decide +kernel
theorem dX4_copy_173 : decode cX4_copy 173 = .ok (.iinc 6 1, 3) := by decide +kernel
theorem dX4_copy_176 : decode cX4_copy 176 = .ok (.goto (-32), 3) := by decide +kernel
theorem dX4_copy_179 : decode cX4_copy 179 = .ok (.aload_n 0, 1) := by decide +kernel
theorem dX4_copy_180 : decode cX4_copy 180 = .ok (.iload 5, 2) := by decide +kernel
theorem dX4_copy_182 : decode cX4_copy 182 = .ok (.invokevirtual 115, 3) := by decide +kernel
theorem dX4_copy_185 : decode cX4_copy 185 = .ok (.ireturn, 1) := by decide +kernel
theorem dX4_traced_0 : decode cX4_traced 0 = .ok (.aload_n 0, 1) := by decide +kernel
theorem dX4_traced_1 : decode cX4_traced 1 = .ok (.bipush 31, 2) := by decide +kernel
theorem dX4_traced_3 : decode cX4_traced 3 = .ok (.aload_n 0, 1) := by decide +kernel
theorem dX4_traced_4 : decode cX4_traced 4 = .ok (.getfield 217, 3) := by decide +kernel
theorem dX4_traced_7 : decode cX4_traced 7 = .ok (.imul, 1) := by decide +kernel
theorem dX4_traced_8 : decode cX4_traced 8 = .ok (.iload_n 1, 1) := by decide +kernel
theorem dX4_traced_9 : decode cX4_traced 9 = .ok (.iadd, 1) := by decide +kernel
theorem dX4_traced_10 : decode cX4_traced 10 = .ok (.putfield 217, 3) := by decide +kernel
theorem dX4_traced_13 : decode cX4_traced 13 = .ok (.return_, 1) := by decide +kernel
set_option maxRecDepth 20000 in
theorem ggX4_tell_X4_noProphet : GoodIn wsX4_tell wsX4_noProphet := goodIn_r _ [7, 8, 9, 10, 6, 11, 17, 18, 19, 20, 21, 22, 23, 24, 25, 26, 27, 28, 29, 30, 31, 32, 33, 34, 35, 36, 37, 38, 39, 40, 41, 42, 43] (by decide +kernel) (by decide +kernel)
set_option maxRecDepth 20000 in
theorem gX4_tell_X4_noProphet : GoodIn wsX4_tell (wsV RX4 135 RX4 yX4_noProphet wsX4_noProphet) := goodIn_app (goodIn_of _ (by decide +kernel)) ggX4_tell_X4_noProphet
set_option maxRecDepth 20000 in
theorem ggX4_tell_X4_traced : GoodIn wsX4_tell wsX4_traced := goodIn_r _ [15, 16, 17, 18, 19, 20, 21, 22, 23, 24, 25, 26, 27, 28, 29, 30, 31, 32, 33, 34, 35, 36, 37, 38, 39, 40, 41, 42, 43] (by decide +kernel) (by decide +kernel)
set_option maxRecDepth 20000 in
theorem gX4_tell_X4_traced : GoodIn wsX4_tell (wsV RX4 220 RX4 yX4_traced wsX4_traced) := goodIn_app (goodIn_of _ (by decide +kernel)) ggX4_tell_X4_traced
theorem dX4_tell_0 : decode cX4_tell 0 = .ok (.aload_n 0, 1) := by decide +kernel
theorem dX4_tell_1 : decode cX4_tell 1 = .ok (.iload_n 1, 1) := by decide +kernel
theorem dX4_tell_2 : decode cX4_tell 2 = .ok (.invokevirtual 135, 3) := by decide +kernel
theorem dX4_tell_5 : decode cX4_tell 5 = .ok (.ifCond .eq 5, 3) := by decide +kernel
theorem dX4_tell_8 : decode cX4_tell 8 = .ok (.iconst (-1), 1) := by decide +kernel
theorem dX4_tell_9 : decode cX4_tell 9 = .ok (.ireturn, 1) := by decide +kernel
theorem dX4_tell_10 : decode cX4_tell 10 = .ok (.aload_n 0, 1) := by decide +kernel
theorem dX4_tell_11 : decode cX4_tell 11 = .ok (.getfield 13, 3) := by decide +kernel
theorem dX4_tell_14 : decode cX4_tell 14 = .ok (.iload_n 1, 1) := by decide +kernel
theorem dX4_tell_15 : decode cX4_tell 15 = .ok (.iaload, 1) := by decide +kernel
theorem dX4_tell_16 : decode cX4_tell 16 = .ok (.istore_n 2, 1) := by decide +kernel
theorem dX4_tell_17 : decode cX4_tell 17 = .ok (.iload_n 2, 1) := by decide +kernel
theorem dX4_tell_18 : decode cX4_tell 18 = .ok (.iconst 2, 1) := by decide +kernel
theorem dX4_tell_19 : decode cX4_tell 19 = .ok (.if_icmp .ne 8, 3) := by decide +kernel
theorem dX4_tell_22 : decode cX4_tell 22 = .ok (.aload_n 0, 1) := by decide +kernel
theorem dX4_tell_23 : decode cX4_tell 23 = .ok (.iconst 3, 1) := by decide +kernel
theorem dX4_tell_24 : decode cX4_tell 24 = .ok (.invokevirtual 220, 3) := by decide +kernel
theorem dX4_tell_27 : decode cX4_tell 27 = .ok (.iload_n 2, 1) := by decide +kernel
theorem dX4_tell_28 : decode cX4_tell 28 = .ok (.ifCond .le 8, 3) := by decide +kernel
theorem dX4_tell_31 : decode cX4_tell 31 = .ok (.aload_n 0, 1) := by decide +kernel
theorem dX4_tell_32 : decode cX4_tell 32 = .ok (.iconst 2, 1) := by decide +kernel
theorem dX4_tell_33 : decode cX4_tell 33 = .ok (.invokevirtual 220, 3) := by decide +kernel
theorem dX4_tell_36 : decode cX4_tell 36 = .ok (.aload_n 0, 1) := by decide +kernel
theorem dX4_tell_37 : decode cX4_tell 37 = .ok (.iconst 1, 1) := by decide +kernel
theorem dX4_tell_38 : decode cX4_tell 38 = .ok (.invokevirtual 220, 3) := by decide +kernel
theorem dX4_tell_41 : decode cX4_tell 41 = .ok (.iload_n 2, 1) := by decide +kernel
theorem dX4_tell_42 : decode cX4_tell 42 = .ok (.iconst 2, 1) := by decide +kernel
theorem dX4_tell_43 : decode cX4_tell 43 = .ok (.if_icmp .ne 8, 3) := by decide +kernel
theorem dX4_tell_46 : decode cX4_tell 46 = .ok (.aload_n 0, 1) := by decide +kernel
theorem dX4_tell_47 : decode cX4_tell 47 = .ok (.iconst 1, 1) := by decide +kernel
theorem dX4_tell_48 : decode cX4_tell 48 = .ok (.invokevirtual 220, 3) := by decide +kernel
theorem dX4_tell_51 : decode cX4_tell 51 = .ok (.aload_n 0, 1) := by decide +kernel
theorem dX4_tell_52 : decode cX4_tell 52 = .ok (.getfield 16, 3) := by decide +kernel
theorem dX4_tell_55 : decode cX4_tell 55 = .ok (.iload_n 1, 1) := by decide +kernel
theorem dX4_tell_56 : decode cX4_tell 56 = .ok (.iaload, 1) := by decide +kernel
theorem dX4_tell_57 : decode cX4_tell 57 = .ok (.istore_n 3, 1) := by decide +kernel
theorem dX4_tell_58 : decode cX4_tell 58 = .ok (.iload_n 2, 1) := by decide +kernel
theorem dX4_tell_59 : decode cX4_tell 59 = .ok (.ifCond .ne 7, 3) := by decide +kernel
theorem dX4_tell_62 : decode cX4_tell 62 = .ok (.iload_n 3, 1) := by decide +kernel
theorem dX4_tell_63 : decode cX4_tell 63 = .ok (.goto 21, 3) := by decide +kernel
theorem dX4_tell_66 : decode cX4_tell 66 = .ok (.iload_n 2, 1) := by decide +kernel
theorem dX4_tell_67 : decode cX4_tell 67 = .ok (.iconst 1, 1) := by decide +kernel
theorem dX4_tell_68 : decode cX4_tell 68 = .ok (.if_icmp .ne 10, 3) := by decide +kernel
theorem dX4_tell_71 : decode cX4_tell 71 = .ok (.iload_n 3, 1) := by decide +kernel
theorem dX4_tell_72 : decode cX4_tell 72 = .ok (.bipush 100, 2) := by decide +kernel
theorem dX4_tell_74 : decode cX4_tell 74 = .ok (.iadd, 1) := by decide +kernel
theorem dX4_tell_75 : decode cX4_tell 75 = .ok (.goto 9, 3) := by decide +kernel
theorem dX4_tell_78 : decode cX4_tell 78 = .ok (.iconst 2, 1) := by decide +kernel
theorem dX4_tell_79 : decode cX4_tell 79 = .ok (.iload_n 3, 1) := by decide +kernel
theorem dX4_tell_80 : decode cX4_tell 80 = .ok (.imul, 1) := by decide +kernel
theorem dX4_tell_81 : decode cX4_tell 81 = .ok (.bipush 100, 2) := by decide +kernel
theorem dX4_tell_83 : decode cX4_tell 83 = .ok (.iadd, 1) := by decide +kernel
theorem dX4_tell_84 : decode cX4_tell 84 = .ok (.ireturn, 1) := by decide +kernel
set_option maxRecDepth 20000 in
theorem ggX4_hear_X4_noProphet : GoodIn wsX4_hear wsX4_noProphet := goodIn_r _ [6, 7, 8, 9, 5, 10, 16, 17, 18, 19, 20, 21, 22, 23, 24, 25, 26, 27, 28, 29, 30, 31, 32, 33, 34, 35, 36, 37, 38, 39, 40, 41, 42] (by decide +kernel) (by decide +kernel)
set_option maxRecDepth 20000 in
theorem gX4_hear_X4_noProphet : GoodIn wsX4_hear (wsV RX4 135 RX4 yX4_noProphet wsX4_noProphet) := goodIn_app (goodIn_of _ (by decide +kernel)) ggX4_hear_X4_noProphet
set_option maxRecDepth 20000 in
theorem ggX4_hear_X4_traced : GoodIn wsX4_hear wsX4_traced := goodIn_r _ [14, 15, 16, 17, 18, 19, 20, 21, 22, 23, 24, 25, 26, 27, 28, 29, 30, 31, 32, 33, 34, 35, 36, 37, 38, 39, 40, 41, 42] (by decide +kernel) (by decide +kernel)
set_option maxRecDepth 20000 in
theorem gX4_hear_X4_traced : GoodIn wsX4_hear (wsV RX4 220 RX4 yX4_traced wsX4_traced) := goodIn_app (goodIn_of _ (by decide +kernel)) ggX4_hear_X4_traced
theorem dX4_hear_0 : decode cX4_hear 0 = .ok (.aload_n 0, 1) := by decide +kernel
theorem dX4_hear_1 : decode cX4_hear 1 = .ok (.iload_n 1, 1) := by decide +kernel
theorem dX4_hear_2 : decode cX4_hear 2 = .ok (.invokevirtual 135, 3) := by decide +kernel
theorem dX4_hear_5 : decode cX4_hear 5 = .ok (.ifCond .eq 5, 3) := by decide +kernel
theorem dX4_hear_8 : decode cX4_hear 8 = .ok (.iconst (-1), 1) := by decide +kernel
theorem dX4_hear_9 : decode cX4_hear 9 = .ok (.ireturn, 1) := by decide +kernel
theorem dX4_hear_10 : decode cX4_hear 10 = .ok (.aload_n 0, 1) := by decide +kernel
theorem dX4_hear_11 : decode cX4_hear 11 = .ok (.aload_n 0, 1) := by decide +kernel
theorem dX4_hear_12 : decode cX4_hear 12 = .ok (.getfield 13, 3) := by decide +kernel
theorem dX4_hear_15 : decode cX4_hear 15 = .ok (.iload_n 1, 1) := by decide +kernel
theorem dX4_hear_16 : decode cX4_hear 16 = .ok (.iaload, 1) := by decide +kernel
theorem dX4_hear_17 : decode cX4_hear 17 = .ok (.iconst 2, 1) := by decide +kernel
theorem dX4_hear_18 : decode cX4_hear 18 = .ok (.if_icmp .ne 7, 3) := by decide +kernel
theorem dX4_hear_21 : decode cX4_hear 21 = .ok (.iconst 5, 1) := by decide +kernel
theorem dX4_hear_22 : decode cX4_hear 22 = .ok (.goto 4, 3) := by decide +kernel
theorem dX4_hear_25 : decode cX4_hear 25 = .ok (.iconst 4, 1) := by decide +kernel
theorem dX4_hear_26 : decode cX4_hear 26 = .ok (.invokevirtual 220, 3) := by decide +kernel
theorem dX4_hear_29 : decode cX4_hear 29 = .ok (.aload_n 0, 1) := by decide +kernel
theorem dX4_hear_30 : decode cX4_hear 30 = .ok (.getfield 13, 3) := by decide +kernel
theorem dX4_hear_33 : decode cX4_hear 33 = .ok (.iload_n 1, 1) := by decide +kernel
theorem dX4_hear_34 : decode cX4_hear 34 = .ok (.iaload, 1) := by decide +kernel
theorem dX4_hear_35 : decode cX4_hear 35 = .ok (.iconst 2, 1) := by decide +kernel
theorem dX4_hear_36 : decode cX4_hear 36 = .ok (.if_icmp .ne 8, 3) := by decide +kernel
theorem dX4_hear_39 : decode cX4_hear 39 = .ok (.bipush 20, 2) := by decide +kernel
theorem dX4_hear_41 : decode cX4_hear 41 = .ok (.goto 4, 3) := by decide +kernel
theorem dX4_hear_44 : decode cX4_hear 44 = .ok (.iload_n 1, 1) := by decide +kernel
theorem dX4_hear_45 : decode cX4_hear 45 = .ok (.ireturn, 1) := by decide +kernel
set_option maxRecDepth 20000 in
theorem ggX4_as_X4_noProphet : GoodIn wsX4_as wsX4_noProphet := goodIn_r _ [7, 8, 9, 10, 6, 11, 21, 22, 23, 24, 25, 26, 27, 28, 29, 30, 31, 32, 33, 34, 35, 36, 37, 38, 39, 40, 41, 42, 43, 44, 45, 46, 47] (by decide +kernel) (by decide +kernel)
set_option maxRecDepth 20000 in
theorem gX4_as_X4_noProphet : GoodIn wsX4_as (wsV RX4 135 RX4 yX4_noProphet wsX4_noProphet) := goodIn_app (goodIn_of _ (by decide +kernel)) ggX4_as_X4_noProphet
set_option maxRecDepth 20000 in
theorem ggX4_as_X4_refused : GoodIn wsX4_as wsX4_refused := goodIn_r _ [15, 16, 21, 22, 23, 24, 25, 26, 27, 28, 29, 30, 31, 32, 33, 34, 35, 36, 37, 38, 39, 40, 41, 42, 43, 44, 45, 46, 47] (by decide +kernel) (by decide +kernel)
set_option maxRecDepth 20000 in
theorem gX4_as_X4_refused : GoodIn wsX4_as (wsV RX4 115 RX4 yX4_refused wsX4_refused) := goodIn_app (goodIn_of _ (by decide +kernel)) ggX4_as_X4_refused
set_option maxRecDepth 20000 in
theorem ggX4_as_X4_in : GoodIn wsX4_as wsX4_in := goodIn_r _ [11] (by decide +kernel) (by decide +kernel)
set_option maxRecDepth 20000 in
theorem gX4_as_X4_in : GoodIn wsX4_as (va_wsS RX4 68 yX4_in wsX4_in) := goodIn_app (goodIn_of _ (by decide +kernel)) ggX4_as_X4_in
set_option maxRecDepth 20000 in
theorem ggX4_as_X4_failed : GoodIn wsX4_as wsX4_failed := goodIn_r _ [20, 16, 21, 22, 23, 24, 25, 26, 27, 28, 29, 30, 31, 32, 33, 34, 35, 36, 37, 38, 39, 40, 41, 42, 43, 44, 45, 46, 47] (by decide +kernel) (by decide +kernel)
set_option maxRecDepth 20000 in
theorem gX4_as_X4_failed : GoodIn wsX4_as (wsV RX4 103 RX4 yX4_failed wsX4_failed) := goodIn_app (goodIn_of _ (by decide +kernel)) ggX4_as_X4_failed
theorem dX4_as_0 : decode cX4_as 0 = .ok (.aload_n 0, 1) := by decide +kernel
theorem dX4_as_1 : decode cX4_as 1 = .ok (.iload_n 1, 1) := by decide +kernel
theorem dX4_as_2 : decode cX4_as 2 = .ok (.invokevirtual 135, 3) := by decide +kernel
theorem dX4_as_5 : decode cX4_as 5 = .ok (.ifCond .eq 9, 3) := by decide +kernel
theorem dX4_as_8 : decode cX4_as 8 = .ok (.aload_n 0, 1) := by decide +kernel
theorem dX4_as_9 : decode cX4_as 9 = .ok (.iconst (-1), 1) := by decide +kernel
theorem dX4_as_10 : decode cX4_as 10 = .ok (.invokevirtual 115, 3) := by decide +kernel
theorem dX4_as_13 : decode cX4_as 13 = .ok (.ireturn, 1) := by decide +kernel
theorem dX4_as_14 : decode cX4_as 14 = .ok (.iload_n 2, 1) := by decide +kernel
theorem dX4_as_15 : decode cX4_as 15 = .ok (.i2l, 1) := by decide +kernel
theorem dX4_as_16 : decode cX4_as 16 = .ok (.lconst 0, 1) := by decide +kernel
theorem dX4_as_17 : decode cX4_as 17 = .ok (.ldc2_w 118, 3) := by decide +kernel
theorem dX4_as_20 : decode cX4_as 20 = .ok (.invokestatic 68, 3) := by decide +kernel
theorem dX4_as_23 : decode cX4_as 23 = .ok (.ifCond .ne 10, 3) := by decide +kernel
theorem dX4_as_26 : decode cX4_as 26 = .ok (.aload_n 0, 1) := by decide +kernel
theorem dX4_as_27 : decode cX4_as 27 = .ok (.bipush (-2), 2) := by decide +kernel
theorem dX4_as_29 : decode cX4_as 29 = .ok (.invokevirtual 115, 3) := by decide +kernel
theorem dX4_as_32 : decode cX4_as 32 = .ok (.ireturn, 1) := by decide +kernel
theorem dX4_as_33 : decode cX4_as 33 = .ok (.aload_n 0, 1) := by decide +kernel
theorem dX4_as_34 : decode cX4_as 34 = .ok (.getfield 13, 3) := by decide +kernel
theorem dX4_as_37 : decode cX4_as 37 = .ok (.iload_n 1, 1) := by decide +kernel
theorem dX4_as_38 : decode cX4_as 38 = .ok (.iaload, 1) := by decide +kernel
theorem dX4_as_39 : decode cX4_as 39 = .ok (.iload_n 2, 1) := by decide +kernel
theorem dX4_as_40 : decode cX4_as 40 = .ok (.if_icmp .lt 11, 3) := by decide +kernel
theorem dX4_as_43 : decode cX4_as 43 = .ok (.aload_n 0, 1) := by decide +kernel
theorem dX4_as_44 : decode cX4_as 44 = .ok (.iconst 1, 1) := by decide +kernel
theorem dX4_as_45 : decode cX4_as 45 = .ok (.invokevirtual 115, 3) := by decide +kernel
theorem dX4_as_48 : decode cX4_as 48 = .ok (.goto 8, 3) := by decide +kernel
theorem dX4_as_51 : decode cX4_as 51 = .ok (.aload_n 0, 1) := by decide +kernel
theorem dX4_as_52 : decode cX4_as 52 = .ok (.iconst 2, 1) := by decide +kernel
theorem dX4_as_53 : decode cX4_as 53 = .ok (.invokevirtual 103, 3) := by decide +kernel
theorem dX4_as_56 : decode cX4_as 56 = .ok (.ireturn, 1) := by decide +kernel
theorem dX4_trace_0 : decode cX4_trace 0 = .ok (.aload_n 0, 1) := by decide +kernel
theorem dX4_trace_1 : decode cX4_trace 1 = .ok (.getfield 217, 3) := by decide +kernel
theorem dX4_trace_4 : decode cX4_trace 4 = .ok (.ireturn, 1) := by decide +kernel
theorem dX4_fault_0 : decode cX4_fault 0 = .ok (.aload_n 0, 1) := by decide +kernel
theorem dX4_fault_1 : decode cX4_fault 1 = .ok (.getfield 57, 3) := by decide +kernel
theorem dX4_fault_4 : decode cX4_fault 4 = .ok (.ireturn, 1) := by decide +kernel
set_option maxRecDepth 20000 in
theorem ggX4_fraudsNow_X4_isFraud : GoodIn wsX4_fraudsNow wsX4_isFraud := goodIn_r _ [6, 7, 8, 9, 10, 5, 11, 12, 13, 14, 15, 16, 17, 18, 19, 20, 21, 22, 23, 24, 25, 26, 27, 28, 29, 30, 31, 32, 33, 34, 35, 36, 37, 38, 39] (by decide +kernel) (by decide +kernel)
set_option maxRecDepth 20000 in
theorem gX4_fraudsNow_X4_isFraud : GoodIn wsX4_fraudsNow (wsV RX4 141 RX4 yX4_isFraud wsX4_isFraud) := goodIn_app (goodIn_of _ (by decide +kernel)) ggX4_fraudsNow_X4_isFraud
theorem dX4_fraudsNow_0 : decode cX4_fraudsNow 0 = .ok (.iconst 0, 1) := by decide +kernel
theorem dX4_fraudsNow_1 : decode cX4_fraudsNow 1 = .ok (.istore_n 1, 1) := by decide +kernel
theorem dX4_fraudsNow_2 : decode cX4_fraudsNow 2 = .ok (.iconst 0, 1) := by decide +kernel
theorem dX4_fraudsNow_3 : decode cX4_fraudsNow 3 = .ok (.istore_n 2, 1) := by decide +kernel
theorem dX4_fraudsNow_4 : decode cX4_fraudsNow 4 = .ok (.iload_n 2, 1) := by decide +kernel
theorem dX4_fraudsNow_5 : decode cX4_fraudsNow 5 = .ok (.aload_n 0, 1) := by decide +kernel
theorem dX4_fraudsNow_6 : decode cX4_fraudsNow 6 = .ok (.getfield 72, 3) := by decide +kernel
theorem dX4_fraudsNow_9 : decode cX4_fraudsNow 9 = .ok (.if_icmp .ge 25, 3) := by decide +kernel
theorem dX4_fraudsNow_12 : decode cX4_fraudsNow 12 = .ok (.iload_n 1, 1) := by decide +kernel
theorem dX4_fraudsNow_13 : decode cX4_fraudsNow 13 = .ok (.aload_n 0, 1) := by decide +kernel
theorem dX4_fraudsNow_14 : decode cX4_fraudsNow 14 = .ok (.iload_n 2, 1) := by decide +kernel
theorem dX4_fraudsNow_15 : decode cX4_fraudsNow 15 = .ok (.invokevirtual 141, 3) := by decide +kernel
theorem dX4_fraudsNow_18 : decode cX4_fraudsNow 18 = .ok (.ifCond .eq 7, 3) := by decide +kernel
theorem dX4_fraudsNow_21 : decode cX4_fraudsNow 21 = .ok (.iconst 1, 1) := by decide +kernel
theorem dX4_fraudsNow_22 : decode cX4_fraudsNow 22 = .ok (.goto 4, 3) := by decide +kernel
theorem dX4_fraudsNow_25 : decode cX4_fraudsNow 25 = .ok (.iconst 0, 1) := by decide +kernel
theorem dX4_fraudsNow_26 : decode cX4_fraudsNow 26 = .ok (.iadd, 1) := by decide +kernel
theorem dX4_fraudsNow_27 : decode cX4_fraudsNow 27 = .ok (.istore_n 1, 1) := by decide +kernel
theorem dX4_fraudsNow_28 : decode cX4_fraudsNow 28 = .ok (.iinc 2 1, 3) := by decide +kernel
theorem dX4_fraudsNow_31 : decode cX4_fraudsNow 31 = .ok (.goto (-27), 3) := by decide +kernel
theorem dX4_fraudsNow_34 : decode cX4_fraudsNow 34 = .ok (.iload_n 1, 1) := by decide +kernel
theorem dX4_fraudsNow_35 : decode cX4_fraudsNow 35 = .ok (.ireturn, 1) := by decide +kernel
set_option maxRecDepth 20000 in
theorem ggX4_many_X4_fraudsNow : GoodIn wsX4_many wsX4_fraudsNow := goodIn_r _ [8, 1, 9, 10, 11, 7, 12, 13, 14, 15, 16, 17, 2, 18, 19, 20, 21, 22, 23, 24, 25, 26, 27, 28, 29, 30, 31, 32, 33, 34, 35, 36, 37, 38, 39, 40, 41, 42, 43, 44] (by decide +kernel) (by decide +kernel)
set_option maxRecDepth 20000 in
theorem gX4_many_X4_fraudsNow : GoodIn wsX4_many (wsV RX4 224 RX4 yX4_fraudsNow wsX4_fraudsNow) := goodIn_app (goodIn_of _ (by decide +kernel)) ggX4_many_X4_fraudsNow
end
section
theorem dX4_many_0 : decode cX4_many 0 = .ok (.iload_n 1, 1) := by decide +kernel
theorem dX4_many_1 : decode cX4_many 1 = .ok (.tableswitch 51 0 3 #[31, 36, 41, 46], 31) := by decide +kernel
theorem dX4_many_32 : decode cX4_many 32 = .ok (.aload_n 0, 1) := by decide +kernel
theorem dX4_many_33 : decode cX4_many 33 = .ok (.getfield 72, 3) := by decide +kernel
theorem dX4_many_36 : decode cX4_many 36 = .ok (.ireturn, 1) := by decide +kernel
theorem dX4_many_37 : decode cX4_many 37 = .ok (.aload_n 0, 1) := by decide +kernel
theorem dX4_many_38 : decode cX4_many 38 = .ok (.getfield 65, 3) := by decide +kernel
theorem dX4_many_41 : decode cX4_many 41 = .ok (.ireturn, 1) := by decide +kernel
theorem dX4_many_42 : decode cX4_many 42 = .ok (.aload_n 0, 1) := by decide +kernel
theorem dX4_many_43 : decode cX4_many 43 = .ok (.invokevirtual 224, 3) := by decide +kernel
theorem dX4_many_46 : decode cX4_many 46 = .ok (.ireturn, 1) := by decide +kernel
theorem dX4_many_47 : decode cX4_many 47 = .ok (.aload_n 0, 1) := by decide +kernel
theorem dX4_many_48 : decode cX4_many 48 = .ok (.getfield 127, 3) := by decide +kernel
theorem dX4_many_51 : decode cX4_many 51 = .ok (.ireturn, 1) := by decide +kernel
theorem dX4_many_52 : decode cX4_many 52 = .ok (.bipush (-2), 2) := by decide +kernel
theorem dX4_many_54 : decode cX4_many 54 = .ok (.ireturn, 1) := by decide +kernel
theorem dJ6_bitCount_0f7a4_0 : decode cJ6_bitCount_0f7a4 0 = .ok (.iload_n 0, 1) := by decide +kernel
theorem dJ6_bitCount_0f7a4_1 : decode cJ6_bitCount_0f7a4 1 = .ok (.iload_n 0, 1) := by decide +kernel
theorem dJ6_bitCount_0f7a4_2 : decode cJ6_bitCount_0f7a4 2 = .ok (.iconst 1, 1) := by decide +kernel
theorem dJ6_bitCount_0f7a4_3 : decode cJ6_bitCount_0f7a4 3 = .ok (.iushr, 1) := by decide +kernel
theorem dJ6_bitCount_0f7a4_4 : decode cJ6_bitCount_0f7a4 4 = .ok (.ldc_w 265, 3) := by decide +kernel
theorem dJ6_bitCount_0f7a4_7 : decode cJ6_bitCount_0f7a4 7 = .ok (.iand, 1) := by decide +kernel
theorem dJ6_bitCount_0f7a4_8 : decode cJ6_bitCount_0f7a4 8 = .ok (.isub, 1) := by decide +kernel
theorem dJ6_bitCount_0f7a4_9 : decode cJ6_bitCount_0f7a4 9 = .ok (.istore_n 0, 1) := by decide +kernel
theorem dJ6_bitCount_0f7a4_10 : decode cJ6_bitCount_0f7a4 10 = .ok (.iload_n 0, 1) := by decide +kernel
theorem dJ6_bitCount_0f7a4_11 : decode cJ6_bitCount_0f7a4 11 = .ok (.ldc_w 266, 3) := by decide +kernel
theorem dJ6_bitCount_0f7a4_14 : decode cJ6_bitCount_0f7a4 14 = .ok (.iand, 1) := by decide +kernel
theorem dJ6_bitCount_0f7a4_15 : decode cJ6_bitCount_0f7a4 15 = .ok (.iload_n 0, 1) := by decide +kernel
theorem dJ6_bitCount_0f7a4_16 : decode cJ6_bitCount_0f7a4 16 = .ok (.iconst 2, 1) := by decide +kernel
theorem dJ6_bitCount_0f7a4_17 : decode cJ6_bitCount_0f7a4 17 = .ok (.iushr, 1) := by decide +kernel
theorem dJ6_bitCount_0f7a4_18 : decode cJ6_bitCount_0f7a4 18 = .ok (.ldc_w 266, 3) := by decide +kernel
theorem dJ6_bitCount_0f7a4_21 : decode cJ6_bitCount_0f7a4 21 = .ok (.iand, 1) := by decide +kernel
theorem dJ6_bitCount_0f7a4_22 : decode cJ6_bitCount_0f7a4 22 = .ok (.iadd, 1) := by decide +kernel
theorem dJ6_bitCount_0f7a4_23 : decode cJ6_bitCount_0f7a4 23 = .ok (.istore_n 0, 1) := by decide +kernel
theorem dJ6_bitCount_0f7a4_24 : decode cJ6_bitCount_0f7a4 24 = .ok (.iload_n 0, 1) := by decide +kernel
theorem dJ6_bitCount_0f7a4_25 : decode cJ6_bitCount_0f7a4 25 = .ok (.iload_n 0, 1) := by decide +kernel
theorem dJ6_bitCount_0f7a4_26 : decode cJ6_bitCount_0f7a4 26 = .ok (.iconst 4, 1) := by decide +kernel
theorem dJ6_bitCount_0f7a4_27 : decode cJ6_bitCount_0f7a4 27 = .ok (.iushr, 1) := by decide +kernel
theorem dJ6_bitCount_0f7a4_28 : decode cJ6_bitCount_0f7a4 28 = .ok (.iadd, 1) := by decide +kernel
theorem dJ6_bitCount_0f7a4_29 : decode cJ6_bitCount_0f7a4 29 = .ok (.ldc_w 267, 3) := by decide +kernel
theorem dJ6_bitCount_0f7a4_32 : decode cJ6_bitCount_0f7a4 32 = .ok (.iand, 1) := by decide +kernel
theorem dJ6_bitCount_0f7a4_33 : decode cJ6_bitCount_0f7a4 33 = .ok (.istore_n 0, 1) := by decide +kernel
theorem dJ6_bitCount_0f7a4_34 : decode cJ6_bitCount_0f7a4 34 = .ok (.iload_n 0, 1) := by decide +kernel
theorem dJ6_bitCount_0f7a4_35 : decode cJ6_bitCount_0f7a4 35 = .ok (.iload_n 0, 1) := by decide +kernel
theorem dJ6_bitCount_0f7a4_36 : decode cJ6_bitCount_0f7a4 36 = .ok (.bipush 8, 2) := by decide +kernel
theorem dJ6_bitCount_0f7a4_38 : decode cJ6_bitCount_0f7a4 38 = .ok (.iushr, 1) := by decide +kernel
theorem dJ6_bitCount_0f7a4_39 : decode cJ6_bitCount_0f7a4 39 = .ok (.iadd, 1) := by decide +kernel
theorem dJ6_bitCount_0f7a4_40 : decode cJ6_bitCount_0f7a4 40 = .ok (.istore_n 0, 1) := by decide +kernel
theorem dJ6_bitCount_0f7a4_41 : decode cJ6_bitCount_0f7a4 41 = .ok (.iload_n 0, 1) := by decide +kernel
theorem dJ6_bitCount_0f7a4_42 : decode cJ6_bitCount_0f7a4 42 = .ok (.iload_n 0, 1) := by decide +kernel
theorem dJ6_bitCount_0f7a4_43 : decode cJ6_bitCount_0f7a4 43 = .ok (.bipush 16, 2) := by decide +kernel
theorem dJ6_bitCount_0f7a4_45 : decode cJ6_bitCount_0f7a4 45 = .ok (.iushr, 1) := by decide +kernel
theorem dJ6_bitCount_0f7a4_46 : decode cJ6_bitCount_0f7a4 46 = .ok (.iadd, 1) := by decide +kernel
theorem dJ6_bitCount_0f7a4_47 : decode cJ6_bitCount_0f7a4 47 = .ok (.istore_n 0, 1) := by decide +kernel
theorem dJ6_bitCount_0f7a4_48 : decode cJ6_bitCount_0f7a4 48 = .ok (.iload_n 0, 1) := by decide +kernel
theorem dJ6_bitCount_0f7a4_49 : decode cJ6_bitCount_0f7a4 49 = .ok (.bipush 63, 2) := by decide +kernel
theorem dJ6_bitCount_0f7a4_51 : decode cJ6_bitCount_0f7a4 51 = .ok (.iand, 1) := by decide +kernel
theorem dJ6_bitCount_0f7a4_52 : decode cJ6_bitCount_0f7a4 52 = .ok (.ireturn, 1) := by decide +kernel
theorem dJ9_max_7cf53_0 : decode cJ9_max_7cf53 0 = .ok (.iload_n 0, 1) := by decide +kernel
theorem dJ9_max_7cf53_1 : decode cJ9_max_7cf53 1 = .ok (.iload_n 1, 1) := by decide +kernel
theorem dJ9_max_7cf53_2 : decode cJ9_max_7cf53 2 = .ok (.if_icmp .lt 7, 3) := by decide +kernel
theorem dJ9_max_7cf53_5 : decode cJ9_max_7cf53 5 = .ok (.iload_n 0, 1) := by decide +kernel
theorem dJ9_max_7cf53_6 : decode cJ9_max_7cf53 6 = .ok (.goto 4, 3) := by decide +kernel
theorem dJ9_max_7cf53_9 : decode cJ9_max_7cf53 9 = .ok (.iload_n 1, 1) := by decide +kernel
theorem dJ9_max_7cf53_10 : decode cJ9_max_7cf53 10 = .ok (.ireturn, 1) := by decide +kernel
set_option maxRecDepth 20000 in
theorem ggL_law_X3_init : GoodIn wsL_law wsX3_init := goodIn_r _ [8, 9, 10, 11, 12, 13, 14, 15, 16, 17, 18, 19, 20, 21, 22, 23, 24, 25, 26, 27, 28, 29, 30, 31, 32, 33, 34, 35, 36, 37, 38, 39, 40, 41, 42, 43, 44, 45, 46, 47, 48, 656, 657, 658, 659, 660, 661, 662, 663, 664, 692, 693, 694, 695, 696, 697, 698, 699, 700] (by decide +kernel) (by decide +kernel)
set_option maxRecDepth 20000 in
theorem gL_law_X3_init : GoodIn wsL_law (wsX3_init) := ggL_law_X3_init
set_option maxRecDepth 20000 in
theorem ggL_law_X4_init : GoodIn wsL_law wsX4_init := goodIn_r _ [51, 52, 10, 11, 14, 53, 54, 55, 56, 57, 58, 59, 60, 61, 62, 63, 64, 65, 66, 67, 665, 666, 667, 668, 669, 670, 671, 672, 673, 674, 675, 676, 677, 678, 679, 680, 681, 682, 683, 684, 685, 686, 687, 688, 689, 690, 691] (by decide +kernel) (by decide +kernel)
set_option maxRecDepth 20000 in
theorem gL_law_X4_init : GoodIn wsL_law (wsX4_init) := ggL_law_X4_init
set_option maxRecDepth 20000 in
theorem ggL_law_X3_office : GoodIn wsL_law wsX3_office := goodIn_r _ [71, 24, 13, 72, 21, 73, 74, 2, 75, 76, 77, 78, 79, 80, 81, 26, 82, 35, 83, 84, 85, 86, 36, 87, 88, 89, 90, 91, 92, 93, 94, 95, 96, 97, 98, 99, 100, 101, 102, 103, 104, 105, 106, 107, 108, 109, 110, 22, 20, 15, 17, 111, 112, 113, 114, 115, 116, 656, 657, 658, 659, 660, 661, 662, 663, 664, 692, 693, 694, 695, 696, 697] (by decide +kernel) (by decide +kernel)
set_option maxRecDepth 20000 in
theorem gL_law_X3_office : GoodIn wsL_law (wsV RL 13 RX3 yX3_office wsX3_office) := goodIn_app (goodIn_of _ (by decide +kernel)) ggL_law_X3_office
set_option maxRecDepth 20000 in
theorem ggL_law_X4_office : GoodIn wsL_law wsX4_office := goodIn_r _ [120, 121, 122, 123, 124, 125, 126, 53, 57, 54, 58, 55, 59, 56, 60, 127, 128, 129, 5, 130, 131, 132, 133, 134, 135, 136, 137, 138, 139, 140, 141, 142, 143, 64, 65, 144, 145, 146, 147, 148, 149, 150, 151, 152, 153, 154, 155, 156, 157, 158, 66, 159, 160, 161, 162, 163, 164, 165, 166, 167, 168, 169, 170, 665, 666, 667, 668, 669, 670, 671, 672, 673, 674, 675, 676, 677, 678, 679, 680, 681, 682, 683, 684, 685, 686, 687, 688, 689, 690, 691] (by decide +kernel) (by decide +kernel)
set_option maxRecDepth 20000 in
theorem gL_law_X4_office : GoodIn wsL_law (wsV RL 17 RX4 yX4_office wsX4_office) := goodIn_app (goodIn_of _ (by decide +kernel)) ggL_law_X4_office
set_option maxRecDepth 20000 in
theorem ggL_law_X3_chance : GoodIn wsL_law wsX3_chance := goodIn_r _ [174, 15, 175, 176, 177, 2, 178, 20, 656, 657, 658, 659, 660, 661, 662, 663, 664] (by decide +kernel) (by decide +kernel)
set_option maxRecDepth 20000 in
theorem gL_law_X3_chance : GoodIn wsL_law (wsV RL 18 RX3 yX3_chance wsX3_chance) := goodIn_app (goodIn_of _ (by decide +kernel)) ggL_law_X3_chance
set_option maxRecDepth 20000 in
theorem ggL_law_X4_chance : GoodIn wsL_law wsX4_chance := goodIn_r _ [182, 53, 183, 184, 185, 5, 186, 124, 132, 133, 134, 665, 666, 667, 668, 669, 670, 671, 672, 673, 674, 675, 676, 677, 678, 679, 680, 681, 682, 683, 684, 685, 686, 687, 688, 689, 690, 691] (by decide +kernel) (by decide +kernel)
set_option maxRecDepth 20000 in
theorem gL_law_X4_chance : GoodIn wsL_law (wsV RL 22 RX4 yX4_chance wsX4_chance) := goodIn_app (goodIn_of _ (by decide +kernel)) ggL_law_X4_chance
set_option maxRecDepth 20000 in
theorem ggL_law_X3_fate : GoodIn wsL_law wsX3_fate := goodIn_r _ [190, 15, 175, 176, 177, 2, 178, 20, 191, 192, 193, 656, 657, 658, 659, 660, 661, 662, 663, 664] (by decide +kernel) (by decide +kernel)
set_option maxRecDepth 20000 in
theorem gL_law_X3_fate : GoodIn wsL_law (wsV RL 23 RX3 yX3_fate wsX3_fate) := goodIn_app (goodIn_of _ (by decide +kernel)) ggL_law_X3_fate
set_option maxRecDepth 20000 in
theorem ggL_law_X4_fate : GoodIn wsL_law wsX4_fate := goodIn_r _ [197, 198, 53, 183, 184, 185, 5, 186, 124, 132, 133, 134, 665, 666, 667, 668, 669, 670, 671, 672, 673, 674, 675, 676, 677, 678, 679, 680, 681, 682, 683, 684, 685, 686, 687, 688, 689, 690, 691] (by decide +kernel) (by decide +kernel)
set_option maxRecDepth 20000 in
theorem gL_law_X4_fate : GoodIn wsL_law (wsV RL 27 RX4 yX4_fate wsX4_fate) := goodIn_app (goodIn_of _ (by decide +kernel)) ggL_law_X4_fate
set_option maxRecDepth 20000 in
theorem ggL_law_X3_ofProphet : GoodIn wsL_law wsX3_ofProphet := goodIn_r _ [202, 17, 111, 112, 113, 203, 204, 205, 2, 206, 21, 207, 208, 209, 210, 211, 212, 213, 214, 215, 216, 217, 20, 656, 657, 658, 659, 660, 661, 662, 663, 664, 695, 696, 697] (by decide +kernel) (by decide +kernel)
set_option maxRecDepth 20000 in
theorem gL_law_X3_ofProphet : GoodIn wsL_law (wsV RL 28 RX3 yX3_ofProphet wsX3_ofProphet) := goodIn_app (goodIn_of _ (by decide +kernel)) ggL_law_X3_ofProphet
set_option maxRecDepth 20000 in
theorem ggL_law_X4_ofProphet : GoodIn wsL_law wsX4_ofProphet := goodIn_r _ [221, 54, 55, 56, 222, 223, 224, 5, 225, 126, 132, 133, 134, 226, 227, 228, 229, 230, 231, 232, 233, 234, 235, 236, 237, 124, 665, 666, 667, 668, 669, 670, 671, 672, 673, 674, 675, 676, 677, 678, 679, 680, 681, 682, 683, 684, 685, 686, 687, 688, 689, 690, 691] (by decide +kernel) (by decide +kernel)
set_option maxRecDepth 20000 in
theorem gL_law_X4_ofProphet : GoodIn wsL_law (wsV RL 31 RX4 yX4_ofProphet wsX4_ofProphet) := goodIn_app (goodIn_of _ (by decide +kernel)) ggL_law_X4_ofProphet
set_option maxRecDepth 20000 in
theorem ggL_law_X3_say : GoodIn wsL_law wsX3_say := goodIn_r _ [241, 17, 113, 203, 204, 205, 2, 206, 21, 191, 192, 193, 656, 657, 658, 659, 660, 661, 662, 663, 664, 695, 696, 697] (by decide +kernel) (by decide +kernel)
set_option maxRecDepth 20000 in
theorem gL_law_X3_say : GoodIn wsL_law (wsV RL 32 RX3 yX3_say wsX3_say) := goodIn_app (goodIn_of _ (by decide +kernel)) ggL_law_X3_say
set_option maxRecDepth 20000 in
theorem ggL_law_X4_say : GoodIn wsL_law wsX4_say := goodIn_r _ [245, 246, 56, 222, 223, 224, 5, 225, 126, 132, 133, 134, 665, 666, 667, 668, 669, 670, 671, 672, 673, 674, 675, 676, 677, 678, 679, 680, 681, 682, 683, 684, 685, 686, 687, 688, 689, 690, 691] (by decide +kernel) (by decide +kernel)
set_option maxRecDepth 20000 in
theorem gL_law_X4_say : GoodIn wsL_law (wsV RL 35 RX4 yX4_say wsX4_say) := goodIn_app (goodIn_of _ (by decide +kernel)) ggL_law_X4_say
set_option maxRecDepth 20000 in
theorem ggL_law_X3_paid : GoodIn wsL_law wsX3_paid := goodIn_r _ [250, 203, 204, 205, 2, 206, 21, 251, 252, 253, 254, 214, 215, 216, 217, 20, 191, 192, 193, 255, 256, 257, 258, 17, 111, 112, 113, 259, 260, 261, 262, 210, 211, 212, 213, 207, 208, 209, 263, 264, 265, 266, 267, 268, 269, 656, 657, 658, 659, 660, 661, 662, 663, 664, 695, 696, 697] (by decide +kernel) (by decide +kernel)
set_option maxRecDepth 20000 in
theorem gL_law_X3_paid : GoodIn wsL_law (wsV RL 36 RX3 yX3_paid wsX3_paid) := goodIn_app (goodIn_of _ (by decide +kernel)) ggL_law_X3_paid
set_option maxRecDepth 20000 in
theorem ggL_law_X4_paid : GoodIn wsL_law wsX4_paid := goodIn_r _ [273, 222, 223, 224, 5, 225, 126, 132, 133, 134, 274, 275, 276, 277, 234, 235, 236, 237, 124, 278, 279, 280, 281, 56, 230, 231, 232, 233, 226, 227, 228, 229, 55, 54, 282, 283, 284, 665, 666, 667, 668, 669, 670, 671, 672, 673, 674, 675, 676, 677, 678, 679, 680, 681, 682, 683, 684, 685, 686, 687, 688, 689, 690, 691] (by decide +kernel) (by decide +kernel)
set_option maxRecDepth 20000 in
theorem gL_law_X4_paid : GoodIn wsL_law (wsV RL 39 RX4 yX4_paid wsX4_paid) := goodIn_app (goodIn_of _ (by decide +kernel)) ggL_law_X4_paid
set_option maxRecDepth 20000 in
theorem ggL_law_X3_total : GoodIn wsL_law wsX3_total := goodIn_r _ [288, 289, 290, 291, 2, 292, 21, 251, 252, 253, 254, 214, 215, 216, 217, 20, 191, 192, 193, 293, 294, 295, 296, 255, 256, 257, 258, 17, 111, 112, 113, 259, 260, 261, 262, 210, 211, 212, 213, 207, 208, 209, 263, 264, 265, 266, 267, 268, 269, 656, 657, 658, 659, 660, 661, 662, 663, 664, 695, 696, 697] (by decide +kernel) (by decide +kernel)
set_option maxRecDepth 20000 in
theorem gL_law_X3_total : GoodIn wsL_law (wsV RL 40 RX3 yX3_total wsX3_total) := goodIn_app (goodIn_of _ (by decide +kernel)) ggL_law_X3_total
set_option maxRecDepth 20000 in
theorem ggL_law_X4_total : GoodIn wsL_law wsX4_total := goodIn_r _ [300, 126, 274, 275, 276, 5, 277, 234, 235, 236, 237, 124, 132, 133, 134, 301, 302, 303, 304, 278, 279, 280, 281, 56, 230, 231, 232, 233, 226, 227, 228, 229, 55, 54, 282, 283, 284, 665, 666, 667, 668, 669, 670, 671, 672, 673, 674, 675, 676, 677, 678, 679, 680, 681, 682, 683, 684, 685, 686, 687, 688, 689, 690, 691] (by decide +kernel) (by decide +kernel)
set_option maxRecDepth 20000 in
theorem gL_law_X4_total : GoodIn wsL_law (wsV RL 43 RX4 yX4_total wsX4_total) := goodIn_app (goodIn_of _ (by decide +kernel)) ggL_law_X4_total
set_option maxRecDepth 20000 in
theorem ggL_law_X3_years : GoodIn wsL_law wsX3_years := goodIn_r _ [308, 24, 13, 72, 73, 74, 2, 75, 191, 192, 193, 76, 77, 78, 309, 310, 311, 289, 290, 291, 292, 21, 79, 80, 81, 26, 82, 35, 83, 84, 85, 86, 36, 87, 88, 89, 90, 91, 92, 93, 94, 312, 313, 314, 315, 251, 252, 253, 254, 214, 215, 216, 217, 20, 316, 317, 318, 319, 203, 204, 205, 206, 255, 256, 257, 258, 17, 111, 112, 113, 259, 260, 261, 262, 210, 211, 212, 213, 207, 208, 209, 263, 264, 265, 266, 267, 268, 269, 320, 321, 322, 323, 324, 325, 326, 327, 328, 329, 330, 331, 293, 294, 295, 296, 656, 657, 658, 659, 660, 661, 662, 663, 664, 692, 693, 694, 695, 696, 697] (by decide +kernel) (by decide +kernel)
set_option maxRecDepth 20000 in
theorem gL_law_X3_years : GoodIn wsL_law (wsV RL 44 RX3 yX3_years wsX3_years) := goodIn_app (goodIn_of _ (by decide +kernel)) ggL_law_X3_years
set_option maxRecDepth 20000 in
theorem ggL_law_X4_years : GoodIn wsL_law wsX4_years := goodIn_r _ [335, 131, 336, 337, 198, 121, 338, 126, 66, 339, 340, 341, 342, 128, 129, 5, 130, 132, 133, 134, 135, 136, 137, 138, 139, 140, 141, 142, 143, 64, 65, 144, 145, 146, 147, 148, 149, 150, 274, 275, 276, 277, 234, 235, 236, 237, 124, 343, 344, 345, 346, 301, 302, 303, 304, 278, 279, 280, 281, 56, 230, 231, 232, 233, 226, 227, 228, 229, 55, 54, 282, 283, 284, 347, 348, 349, 350, 222, 223, 224, 225, 351, 352, 353, 354, 665, 666, 667, 668, 669, 670, 671, 672, 673, 674, 675, 676, 677, 678, 679, 680, 681, 682, 683, 684, 685, 686, 687, 688, 689, 690, 691] (by decide +kernel) (by decide +kernel)
set_option maxRecDepth 20000 in
theorem gL_law_X4_years : GoodIn wsL_law (wsV RL 48 RX4 yX4_years wsX4_years) := goodIn_app (goodIn_of _ (by decide +kernel)) ggL_law_X4_years
set_option maxRecDepth 20000 in
theorem ggL_law_X3_fair : GoodIn wsL_law wsX3_fair := goodIn_r _ [358, 359, 17, 20, 15, 111, 112, 113, 203, 204, 205, 2, 206, 21, 191, 192, 193, 259, 260, 261, 262, 210, 211, 212, 213, 214, 215, 216, 217, 207, 208, 209, 263, 264, 265, 266, 267, 268, 269, 360, 361, 362, 363, 364, 365, 324, 325, 326, 327, 656, 657, 658, 659, 660, 661, 662, 663, 664, 695, 696, 697] (by decide +kernel) (by decide +kernel)
set_option maxRecDepth 20000 in
theorem gL_law_X3_fair : GoodIn wsL_law (wsV RL 49 RX3 yX3_fair wsX3_fair) := goodIn_app (goodIn_of _ (by decide +kernel)) ggL_law_X3_fair
set_option maxRecDepth 20000 in
theorem ggL_law_X4_fair : GoodIn wsL_law wsX4_fair := goodIn_r _ [369, 124, 56, 53, 336, 222, 223, 224, 5, 225, 126, 132, 133, 134, 370, 371, 372, 373, 374, 375, 376, 230, 231, 232, 233, 234, 235, 236, 237, 226, 227, 228, 229, 55, 54, 377, 378, 379, 665, 666, 667, 668, 669, 670, 671, 672, 673, 674, 675, 676, 677, 678, 679, 680, 681, 682, 683, 684, 685, 686, 687, 688, 689, 690, 691] (by decide +kernel) (by decide +kernel)
set_option maxRecDepth 20000 in
theorem gL_law_X4_fair : GoodIn wsL_law (wsV RL 53 RX4 yX4_fair wsX4_fair) := goodIn_app (goodIn_of _ (by decide +kernel)) ggL_law_X4_fair
set_option maxRecDepth 20000 in
theorem ggL_law_X3_safe : GoodIn wsL_law wsX3_safe := goodIn_r _ [383, 203, 204, 205, 2, 206, 21, 214, 215, 216, 217, 20, 255, 256, 257, 258, 17, 111, 112, 113, 259, 260, 261, 262, 210, 211, 212, 213, 207, 208, 209, 263, 264, 265, 266, 267, 268, 269, 656, 657, 658, 659, 660, 661, 662, 663, 664, 695, 696, 697] (by decide +kernel) (by decide +kernel)
set_option maxRecDepth 20000 in
theorem gL_law_X3_safe : GoodIn wsL_law (wsV RL 54 RX3 yX3_safe wsX3_safe) := goodIn_app (goodIn_of _ (by decide +kernel)) ggL_law_X3_safe
set_option maxRecDepth 20000 in
theorem ggL_law_X4_safe : GoodIn wsL_law wsX4_safe := goodIn_r _ [387, 222, 223, 224, 5, 225, 126, 132, 133, 134, 234, 235, 236, 237, 124, 278, 279, 280, 281, 56, 230, 231, 232, 233, 226, 227, 228, 229, 55, 54, 282, 283, 284, 665, 666, 667, 668, 669, 670, 671, 672, 673, 674, 675, 676, 677, 678, 679, 680, 681, 682, 683, 684, 685, 686, 687, 688, 689, 690, 691] (by decide +kernel) (by decide +kernel)
set_option maxRecDepth 20000 in
theorem gL_law_X4_safe : GoodIn wsL_law (wsV RL 57 RX4 yX4_safe wsX4_safe) := goodIn_app (goodIn_of _ (by decide +kernel)) ggL_law_X4_safe
set_option maxRecDepth 20000 in
theorem ggL_law_X3_hold : GoodIn wsL_law wsX3_hold := goodIn_r _ [391, 191, 192, 2, 193, 289, 290, 291, 292, 21, 392, 393, 394, 395, 20, 214, 215, 216, 217, 293, 294, 295, 296, 255, 256, 257, 258, 17, 111, 112, 113, 259, 260, 261, 262, 210, 211, 212, 213, 207, 208, 209, 263, 264, 265, 266, 267, 268, 269, 396, 397, 398, 399, 400, 401, 402, 403, 15, 404, 405, 406, 656, 657, 658, 659, 660, 661, 662, 663, 664, 695, 696, 697] (by decide +kernel) (by decide +kernel)
set_option maxRecDepth 20000 in
theorem gL_law_X3_hold : GoodIn wsL_law (wsV RL 58 RX3 yX3_hold wsX3_hold) := goodIn_app (goodIn_of _ (by decide +kernel)) ggL_law_X3_hold
set_option maxRecDepth 20000 in
theorem ggL_law_X4_hold : GoodIn wsL_law wsX4_hold := goodIn_r _ [410, 336, 126, 132, 133, 5, 134, 411, 412, 413, 414, 124, 415, 416, 417, 418, 234, 235, 236, 237, 301, 302, 303, 304, 278, 279, 280, 281, 56, 230, 231, 232, 233, 226, 227, 228, 229, 55, 54, 282, 283, 284, 419, 420, 421, 422, 53, 374, 375, 376, 665, 666, 667, 668, 669, 670, 671, 672, 673, 674, 675, 676, 677, 678, 679, 680, 681, 682, 683, 684, 685, 686, 687, 688, 689, 690, 691] (by decide +kernel) (by decide +kernel)
set_option maxRecDepth 20000 in
theorem gL_law_X4_hold : GoodIn wsL_law (wsV RL 61 RX4 yX4_hold wsX4_hold) := goodIn_app (goodIn_of _ (by decide +kernel)) ggL_law_X4_hold
set_option maxRecDepth 20000 in
theorem ggL_law_X3_best : GoodIn wsL_law wsX3_best := goodIn_r _ [426, 17, 111, 112, 203, 204, 205, 2, 206, 21, 191, 192, 193, 207, 208, 209, 214, 215, 216, 217, 20, 427, 428, 429, 430, 15, 404, 405, 406, 656, 657, 658, 659, 660, 661, 662, 663, 664, 695, 696, 697] (by decide +kernel) (by decide +kernel)
set_option maxRecDepth 20000 in
theorem gL_law_X3_best : GoodIn wsL_law (wsV RL 62 RX3 yX3_best wsX3_best) := goodIn_app (goodIn_of _ (by decide +kernel)) ggL_law_X3_best
set_option maxRecDepth 20000 in
theorem ggL_law_X4_best : GoodIn wsL_law wsX4_best := goodIn_r _ [434, 198, 124, 53, 222, 223, 224, 5, 225, 126, 132, 133, 134, 234, 235, 236, 237, 374, 375, 376, 226, 227, 228, 229, 55, 54, 665, 666, 667, 668, 669, 670, 671, 672, 673, 674, 675, 676, 677, 678, 679, 680, 681, 682, 683, 684, 685, 686, 687, 688, 689, 690, 691] (by decide +kernel) (by decide +kernel)
set_option maxRecDepth 20000 in
theorem gL_law_X4_best : GoodIn wsL_law (wsV RL 65 RX4 yX4_best wsX4_best) := goodIn_app (goodIn_of _ (by decide +kernel)) ggL_law_X4_best
set_option maxRecDepth 20000 in
theorem ggL_law_X3_came : GoodIn wsL_law wsX3_came := goodIn_r _ [438, 191, 192, 2, 193, 289, 290, 291, 292, 21, 214, 215, 216, 217, 20, 293, 294, 295, 296, 255, 256, 257, 258, 17, 111, 112, 113, 259, 260, 261, 262, 210, 211, 212, 213, 207, 208, 209, 263, 264, 265, 266, 267, 268, 269, 656, 657, 658, 659, 660, 661, 662, 663, 664, 695, 696, 697] (by decide +kernel) (by decide +kernel)
set_option maxRecDepth 20000 in
theorem gL_law_X3_came : GoodIn wsL_law (wsV RL 66 RX3 yX3_came wsX3_came) := goodIn_app (goodIn_of _ (by decide +kernel)) ggL_law_X3_came
set_option maxRecDepth 20000 in
theorem ggL_law_X4_came : GoodIn wsL_law wsX4_came := goodIn_r _ [442, 443, 126, 132, 133, 5, 134, 234, 235, 236, 237, 124, 301, 302, 303, 304, 278, 279, 280, 281, 56, 230, 231, 232, 233, 226, 227, 228, 229, 55, 54, 282, 283, 284, 665, 666, 667, 668, 669, 670, 671, 672, 673, 674, 675, 676, 677, 678, 679, 680, 681, 682, 683, 684, 685, 686, 687, 688, 689, 690, 691] (by decide +kernel) (by decide +kernel)
set_option maxRecDepth 20000 in
theorem gL_law_X4_came : GoodIn wsL_law (wsV RL 69 RX4 yX4_came wsX4_came) := goodIn_app (goodIn_of _ (by decide +kernel)) ggL_law_X4_came
set_option maxRecDepth 20000 in
theorem ggL_law_X3_reading : GoodIn wsL_law wsX3_reading := goodIn_r _ [447, 22, 19, 448, 449, 450, 203, 204, 205, 2, 206, 21, 251, 252, 253, 254, 214, 215, 216, 217, 20, 191, 192, 193, 656, 657, 658, 659, 660, 661, 662, 663, 664, 698, 699, 700] (by decide +kernel) (by decide +kernel)
set_option maxRecDepth 20000 in
theorem gL_law_X3_reading : GoodIn wsL_law (wsV RL 70 RX3 yX3_reading wsX3_reading) := goodIn_app (goodIn_of _ (by decide +kernel)) ggL_law_X3_reading
set_option maxRecDepth 20000 in
theorem ggL_law_X4_reading : GoodIn wsL_law wsX4_reading := goodIn_r _ [454, 443, 127, 61, 62, 63, 222, 223, 224, 5, 225, 126, 132, 133, 134, 274, 275, 276, 277, 234, 235, 236, 237, 124, 665, 666, 667, 668, 669, 670, 671, 672, 673, 674, 675, 676, 677, 678, 679, 680, 681, 682, 683, 684, 685, 686, 687, 688, 689, 690, 691] (by decide +kernel) (by decide +kernel)
set_option maxRecDepth 20000 in
theorem gL_law_X4_reading : GoodIn wsL_law (wsV RL 74 RX4 yX4_reading wsX4_reading) := goodIn_app (goodIn_of _ (by decide +kernel)) ggL_law_X4_reading
set_option maxRecDepth 20000 in
theorem ggL_law_X3_back : GoodIn wsL_law wsX3_back := goodIn_r _ [458, 22, 191, 192, 2, 193, 656, 657, 658, 659, 660, 661, 662, 663, 664] (by decide +kernel) (by decide +kernel)
set_option maxRecDepth 20000 in
theorem gL_law_X3_back : GoodIn wsL_law (wsV RL 75 RX3 yX3_back wsX3_back) := goodIn_app (goodIn_of _ (by decide +kernel)) ggL_law_X3_back
set_option maxRecDepth 20000 in
theorem ggL_law_X4_back : GoodIn wsL_law wsX4_back := goodIn_r _ [462, 127, 132, 133, 5, 134, 665, 666, 667, 668, 669, 670, 671, 672, 673, 674, 675, 676, 677, 678, 679, 680, 681, 682, 683, 684, 685, 686, 687, 688, 689, 690, 691] (by decide +kernel) (by decide +kernel)
set_option maxRecDepth 20000 in
theorem gL_law_X4_back : GoodIn wsL_law (wsV RL 78 RX4 yX4_back wsX4_back) := goodIn_app (goodIn_of _ (by decide +kernel)) ggL_law_X4_back
set_option maxRecDepth 20000 in
theorem ggL_law_X3_covers : GoodIn wsL_law wsX3_covers := goodIn_r _ [466, 17, 111, 113, 203, 204, 205, 2, 206, 21, 467, 468, 469, 470, 22, 19, 448, 449, 450, 259, 260, 261, 262, 210, 211, 212, 213, 214, 215, 216, 217, 20, 207, 208, 209, 263, 264, 265, 266, 267, 268, 269, 255, 256, 257, 258, 112, 656, 657, 658, 659, 660, 661, 662, 663, 664, 695, 696, 697, 698, 699, 700] (by decide +kernel) (by decide +kernel)
set_option maxRecDepth 20000 in
theorem gL_law_X3_covers : GoodIn wsL_law (wsV RL 79 RX3 yX3_covers wsX3_covers) := goodIn_app (goodIn_of _ (by decide +kernel)) ggL_law_X3_covers
set_option maxRecDepth 20000 in
theorem ggL_law_X4_covers : GoodIn wsL_law wsX4_covers := goodIn_r _ [474, 55, 222, 223, 224, 5, 225, 126, 132, 133, 134, 475, 476, 477, 478, 127, 61, 62, 63, 278, 279, 280, 281, 56, 230, 231, 232, 233, 234, 235, 236, 237, 124, 226, 227, 228, 229, 54, 282, 283, 284, 665, 666, 667, 668, 669, 670, 671, 672, 673, 674, 675, 676, 677, 678, 679, 680, 681, 682, 683, 684, 685, 686, 687, 688, 689, 690, 691] (by decide +kernel) (by decide +kernel)
set_option maxRecDepth 20000 in
theorem gL_law_X4_covers : GoodIn wsL_law (wsV RL 82 RX4 yX4_covers wsX4_covers) := goodIn_app (goodIn_of _ (by decide +kernel)) ggL_law_X4_covers
set_option maxRecDepth 20000 in
theorem ggL_law_X3_kinds : GoodIn wsL_law wsX3_kinds := goodIn_r _ [482, 17, 112, 113, 203, 204, 205, 2, 206, 21, 467, 468, 469, 470, 22, 19, 448, 449, 450, 259, 260, 261, 262, 210, 211, 212, 213, 214, 215, 216, 217, 20, 207, 208, 209, 263, 264, 265, 266, 267, 268, 269, 255, 256, 257, 258, 111, 656, 657, 658, 659, 660, 661, 662, 663, 664, 695, 696, 697, 698, 699, 700] (by decide +kernel) (by decide +kernel)
set_option maxRecDepth 20000 in
theorem gL_law_X3_kinds : GoodIn wsL_law (wsV RL 83 RX3 yX3_kinds wsX3_kinds) := goodIn_app (goodIn_of _ (by decide +kernel)) ggL_law_X3_kinds
set_option maxRecDepth 20000 in
theorem ggL_law_X4_kinds : GoodIn wsL_law wsX4_kinds := goodIn_r _ [486, 54, 222, 223, 224, 5, 225, 126, 132, 133, 134, 475, 476, 477, 478, 127, 61, 62, 63, 278, 279, 280, 281, 56, 230, 231, 232, 233, 234, 235, 236, 237, 124, 226, 227, 228, 229, 55, 282, 283, 284, 665, 666, 667, 668, 669, 670, 671, 672, 673, 674, 675, 676, 677, 678, 679, 680, 681, 682, 683, 684, 685, 686, 687, 688, 689, 690, 691] (by decide +kernel) (by decide +kernel)
set_option maxRecDepth 20000 in
theorem gL_law_X4_kinds : GoodIn wsL_law (wsV RL 86 RX4 yX4_kinds wsX4_kinds) := goodIn_app (goodIn_of _ (by decide +kernel)) ggL_law_X4_kinds
set_option maxRecDepth 20000 in
theorem ggL_law_X3_sayings : GoodIn wsL_law wsX3_sayings := goodIn_r _ [490, 17, 111, 112, 113, 203, 204, 205, 2, 206, 21, 175, 176, 177, 178, 20, 467, 468, 469, 470, 22, 19, 448, 449, 450, 259, 260, 261, 262, 210, 211, 212, 213, 214, 215, 216, 217, 207, 208, 209, 263, 264, 265, 266, 267, 268, 269, 255, 256, 257, 258, 656, 657, 658, 659, 660, 661, 662, 663, 664, 695, 696, 697, 698, 699, 700] (by decide +kernel) (by decide +kernel)
set_option maxRecDepth 20000 in
theorem gL_law_X3_sayings : GoodIn wsL_law (wsV RL 87 RX3 yX3_sayings wsX3_sayings) := goodIn_app (goodIn_of _ (by decide +kernel)) ggL_law_X3_sayings
set_option maxRecDepth 20000 in
theorem ggL_law_X4_sayings : GoodIn wsL_law wsX4_sayings := goodIn_r _ [494, 56, 222, 223, 224, 5, 225, 126, 132, 133, 134, 183, 184, 185, 186, 124, 475, 476, 477, 478, 127, 61, 62, 63, 278, 279, 280, 281, 230, 231, 232, 233, 234, 235, 236, 237, 226, 227, 228, 229, 55, 54, 282, 283, 284, 665, 666, 667, 668, 669, 670, 671, 672, 673, 674, 675, 676, 677, 678, 679, 680, 681, 682, 683, 684, 685, 686, 687, 688, 689, 690, 691] (by decide +kernel) (by decide +kernel)
set_option maxRecDepth 20000 in
theorem gL_law_X4_sayings : GoodIn wsL_law (wsV RL 90 RX4 yX4_sayings wsX4_sayings) := goodIn_app (goodIn_of _ (by decide +kernel)) ggL_law_X4_sayings
set_option maxRecDepth 20000 in
theorem ggL_law_X3_odds : GoodIn wsL_law wsX3_odds := goodIn_r _ [498, 359, 289, 290, 291, 2, 292, 21, 191, 192, 193, 396, 397, 398, 399, 214, 215, 216, 217, 20, 293, 294, 295, 296, 255, 256, 257, 258, 17, 111, 112, 113, 259, 260, 261, 262, 210, 211, 212, 213, 207, 208, 209, 263, 264, 265, 266, 267, 268, 269, 400, 401, 402, 403, 15, 404, 405, 406, 392, 393, 394, 395, 360, 361, 362, 363, 364, 365, 324, 325, 326, 327, 656, 657, 658, 659, 660, 661, 662, 663, 664, 695, 696, 697] (by decide +kernel) (by decide +kernel)
set_option maxRecDepth 20000 in
theorem gL_law_X3_odds : GoodIn wsL_law (wsV RL 91 RX3 yX3_odds wsX3_odds) := goodIn_app (goodIn_of _ (by decide +kernel)) ggL_law_X3_odds
set_option maxRecDepth 20000 in
theorem ggL_law_X4_odds : GoodIn wsL_law wsX4_odds := goodIn_r _ [502, 126, 443, 132, 133, 5, 134, 370, 371, 372, 373, 415, 416, 417, 418, 234, 235, 236, 237, 124, 301, 302, 303, 304, 278, 279, 280, 281, 56, 230, 231, 232, 233, 226, 227, 228, 229, 55, 54, 282, 283, 284, 419, 420, 421, 422, 53, 374, 375, 376, 411, 412, 413, 414, 336, 377, 378, 379, 665, 666, 667, 668, 669, 670, 671, 672, 673, 674, 675, 676, 677, 678, 679, 680, 681, 682, 683, 684, 685, 686, 687, 688, 689, 690, 691] (by decide +kernel) (by decide +kernel)
set_option maxRecDepth 20000 in
theorem gL_law_X4_odds : GoodIn wsL_law (wsV RL 94 RX4 yX4_odds wsX4_odds) := goodIn_app (goodIn_of _ (by decide +kernel)) ggL_law_X4_odds
set_option maxRecDepth 20000 in
theorem ggL_law_X3_sheet : GoodIn wsL_law wsX3_sheet := goodIn_r _ [506, 24, 13, 73, 74, 2, 75, 76, 77, 78, 91, 92, 93, 94, 507, 508, 509, 26, 510, 34, 35, 36, 656, 657, 658, 659, 660, 661, 662, 663, 664, 692, 693, 694] (by decide +kernel) (by decide +kernel)
set_option maxRecDepth 20000 in
theorem gL_law_X3_sheet : GoodIn wsL_law (wsV RL 95 RX3 yX3_sheet wsX3_sheet) := goodIn_app (goodIn_of _ (by decide +kernel)) ggL_law_X3_sheet
set_option maxRecDepth 20000 in
theorem ggL_law_X4_sheet : GoodIn wsL_law wsX4_sheet := goodIn_r _ [514, 121, 64, 65, 66, 128, 129, 5, 130, 131, 132, 133, 134, 135, 136, 137, 138, 139, 144, 145, 146, 147, 665, 666, 667, 668, 669, 670, 671, 672, 673, 674, 675, 676, 677, 678, 679, 680, 681, 682, 683, 684, 685, 686, 687, 688, 689, 690, 691] (by decide +kernel) (by decide +kernel)
set_option maxRecDepth 20000 in
theorem gL_law_X4_sheet : GoodIn wsL_law (wsV RL 98 RX4 yX4_sheet wsX4_sheet) := goodIn_app (goodIn_of _ (by decide +kernel)) ggL_law_X4_sheet
set_option maxRecDepth 20000 in
theorem ggL_law_X3_lose : GoodIn wsL_law wsX3_lose := goodIn_r _ [518, 13, 519, 73, 74, 2, 75, 520, 84, 85, 26, 86, 36, 656, 657, 658, 659, 660, 661, 662, 663, 664, 692, 693, 694] (by decide +kernel) (by decide +kernel)
set_option maxRecDepth 20000 in
theorem gL_law_X3_lose : GoodIn wsL_law (wsV RL 99 RX3 yX3_lose wsX3_lose) := goodIn_app (goodIn_of _ (by decide +kernel)) ggL_law_X3_lose
set_option maxRecDepth 20000 in
theorem ggL_law_X4_lose : GoodIn wsL_law wsX4_lose := goodIn_r _ [524, 64, 128, 129, 5, 130, 131, 132, 133, 134, 665, 666, 667, 668, 669, 670, 671, 672, 673, 674, 675, 676, 677, 678, 679, 680, 681, 682, 683, 684, 685, 686, 687, 688, 689, 690, 691] (by decide +kernel) (by decide +kernel)
set_option maxRecDepth 20000 in
theorem gL_law_X4_lose : GoodIn wsL_law (wsV RL 102 RX4 yX4_lose wsX4_lose) := goodIn_app (goodIn_of _ (by decide +kernel)) ggL_law_X4_lose
set_option maxRecDepth 20000 in
theorem ggL_law_X3_put : GoodIn wsL_law wsX3_put := goodIn_r _ [528, 24, 13, 529, 73, 74, 2, 75, 79, 80, 81, 26, 82, 35, 83, 84, 85, 86, 36, 87, 88, 89, 90, 91, 92, 93, 94, 530, 531, 532, 533, 34, 534, 535, 536, 537, 656, 657, 658, 659, 660, 661, 662, 663, 664, 692, 693, 694] (by decide +kernel) (by decide +kernel)
set_option maxRecDepth 20000 in
theorem gL_law_X3_put : GoodIn wsL_law (wsV RL 103 RX3 yX3_put wsX3_put) := goodIn_app (goodIn_of _ (by decide +kernel)) ggL_law_X3_put
set_option maxRecDepth 20000 in
theorem ggL_law_X4_put : GoodIn wsL_law wsX4_put := goodIn_r _ [541, 66, 65, 128, 129, 5, 130, 131, 132, 133, 134, 135, 136, 137, 138, 139, 542, 543, 544, 545, 64, 144, 145, 146, 147, 665, 666, 667, 668, 669, 670, 671, 672, 673, 674, 675, 676, 677, 678, 679, 680, 681, 682, 683, 684, 685, 686, 687, 688, 689, 690, 691] (by decide +kernel) (by decide +kernel)
set_option maxRecDepth 20000 in
theorem gL_law_X4_put : GoodIn wsL_law (wsV RL 106 RX4 yX4_put wsX4_put) := goodIn_app (goodIn_of _ (by decide +kernel)) ggL_law_X4_put
set_option maxRecDepth 20000 in
theorem ggL_law_X3_cell : GoodIn wsL_law wsX3_cell := goodIn_r _ [549, 24, 359, 13, 72, 73, 74, 2, 75, 76, 77, 78, 79, 80, 81, 26, 82, 35, 83, 84, 85, 86, 36, 87, 88, 89, 90, 656, 657, 658, 659, 660, 661, 662, 663, 664, 692, 693, 694] (by decide +kernel) (by decide +kernel)
set_option maxRecDepth 20000 in
theorem gL_law_X3_cell : GoodIn wsL_law (wsV RL 107 RX3 yX3_cell wsX3_cell) := goodIn_app (goodIn_of _ (by decide +kernel)) ggL_law_X3_cell
set_option maxRecDepth 20000 in
theorem ggL_law_X4_cell : GoodIn wsL_law wsX4_cell := goodIn_r _ [553, 139, 121, 64, 65, 66, 128, 129, 5, 130, 131, 132, 133, 134, 370, 371, 372, 373, 554, 555, 556, 557, 542, 543, 544, 545, 665, 666, 667, 668, 669, 670, 671, 672, 673, 674, 675, 676, 677, 678, 679, 680, 681, 682, 683, 684, 685, 686, 687, 688, 689, 690, 691] (by decide +kernel) (by decide +kernel)
set_option maxRecDepth 20000 in
theorem gL_law_X4_cell : GoodIn wsL_law (wsV RL 111 RX4 yX4_cell wsX4_cell) := goodIn_app (goodIn_of _ (by decide +kernel)) ggL_law_X4_cell
set_option maxRecDepth 20000 in
theorem ggL_law_X3_copy : GoodIn wsL_law wsX3_copy := goodIn_r _ [561, 24, 13, 529, 72, 562, 563, 564, 565, 73, 74, 2, 75, 520, 84, 85, 26, 86, 36, 91, 92, 93, 94, 566, 88, 89, 90, 656, 657, 658, 659, 660, 661, 662, 663, 664, 692, 693, 694] (by decide +kernel) (by decide +kernel)
set_option maxRecDepth 20000 in
theorem gL_law_X3_copy : GoodIn wsL_law (wsV RL 112 RX3 yX3_copy wsX3_copy) := goodIn_app (goodIn_of _ (by decide +kernel)) ggL_law_X3_copy
set_option maxRecDepth 20000 in
theorem ggL_law_X4_copy : GoodIn wsL_law wsX4_copy := goodIn_r _ [570, 64, 65, 67, 66, 128, 129, 5, 130, 131, 132, 133, 134, 135, 136, 137, 138, 139, 144, 145, 146, 147, 148, 149, 150, 665, 666, 667, 668, 669, 670, 671, 672, 673, 674, 675, 676, 677, 678, 679, 680, 681, 682, 683, 684, 685, 686, 687, 688, 689, 690, 691] (by decide +kernel) (by decide +kernel)
set_option maxRecDepth 20000 in
theorem gL_law_X4_copy : GoodIn wsL_law (wsV RL 116 RX4 yX4_copy wsX4_copy) := goodIn_app (goodIn_of _ (by decide +kernel)) ggL_law_X4_copy
set_option maxRecDepth 20000 in
theorem ggL_law_X3_tell : GoodIn wsL_law wsX3_tell := goodIn_r _ [574, 17, 112, 111, 203, 204, 205, 2, 206, 21, 575, 576, 577, 578, 579, 580, 581, 582, 23, 583, 584, 585, 586, 587, 588, 589, 590, 656, 657, 658, 659, 660, 661, 662, 663, 664, 695, 696, 697] (by decide +kernel) (by decide +kernel)
set_option maxRecDepth 20000 in
theorem gL_law_X3_tell : GoodIn wsL_law (wsV RL 117 RX3 yX3_tell wsX3_tell) := goodIn_app (goodIn_of _ (by decide +kernel)) ggL_law_X3_tell
set_option maxRecDepth 20000 in
theorem ggL_law_X4_tell : GoodIn wsL_law wsX4_tell := goodIn_r _ [594, 54, 55, 222, 223, 224, 5, 225, 126, 132, 133, 134, 595, 596, 597, 598, 599, 665, 666, 667, 668, 669, 670, 671, 672, 673, 674, 675, 676, 677, 678, 679, 680, 681, 682, 683, 684, 685, 686, 687, 688, 689, 690, 691] (by decide +kernel) (by decide +kernel)
set_option maxRecDepth 20000 in
theorem gL_law_X4_tell : GoodIn wsL_law (wsV RL 120 RX4 yX4_tell wsX4_tell) := goodIn_app (goodIn_of _ (by decide +kernel)) ggL_law_X4_tell
set_option maxRecDepth 20000 in
theorem ggL_law_X3_hear : GoodIn wsL_law wsX3_hear := goodIn_r _ [603, 17, 111, 203, 204, 205, 2, 206, 21, 604, 605, 606, 607, 579, 580, 581, 582, 23, 608, 609, 610, 611, 656, 657, 658, 659, 660, 661, 662, 663, 664, 695, 696, 697] (by decide +kernel) (by decide +kernel)
set_option maxRecDepth 20000 in
theorem gL_law_X3_hear : GoodIn wsL_law (wsV RL 121 RX3 yX3_hear wsX3_hear) := goodIn_app (goodIn_of _ (by decide +kernel)) ggL_law_X3_hear
set_option maxRecDepth 20000 in
theorem ggL_law_X4_hear : GoodIn wsL_law wsX4_hear := goodIn_r _ [615, 54, 222, 223, 224, 5, 225, 126, 132, 133, 134, 595, 596, 597, 598, 599, 665, 666, 667, 668, 669, 670, 671, 672, 673, 674, 675, 676, 677, 678, 679, 680, 681, 682, 683, 684, 685, 686, 687, 688, 689, 690, 691] (by decide +kernel) (by decide +kernel)
set_option maxRecDepth 20000 in
theorem gL_law_X4_hear : GoodIn wsL_law (wsV RL 124 RX4 yX4_hear wsX4_hear) := goodIn_app (goodIn_of _ (by decide +kernel)) ggL_law_X4_hear
set_option maxRecDepth 20000 in
theorem ggL_law_X3_as : GoodIn wsL_law wsX3_as := goodIn_r _ [619, 24, 17, 111, 203, 204, 205, 2, 206, 21, 191, 192, 193, 91, 92, 93, 94, 656, 657, 658, 659, 660, 661, 662, 663, 664, 695, 696, 697] (by decide +kernel) (by decide +kernel)
set_option maxRecDepth 20000 in
theorem gL_law_X3_as : GoodIn wsL_law (wsV RL 125 RX3 yX3_as wsX3_as) := goodIn_app (goodIn_of _ (by decide +kernel)) ggL_law_X3_as
set_option maxRecDepth 20000 in
theorem ggL_law_X4_as : GoodIn wsL_law wsX4_as := goodIn_r _ [623, 121, 54, 222, 223, 224, 5, 225, 126, 132, 133, 134, 135, 136, 137, 138, 139, 144, 145, 146, 147, 665, 666, 667, 668, 669, 670, 671, 672, 673, 674, 675, 676, 677, 678, 679, 680, 681, 682, 683, 684, 685, 686, 687, 688, 689, 690, 691] (by decide +kernel) (by decide +kernel)
set_option maxRecDepth 20000 in
theorem gL_law_X4_as : GoodIn wsL_law (wsV RL 128 RX4 yX4_as wsX4_as) := goodIn_app (goodIn_of _ (by decide +kernel)) ggL_law_X4_as
set_option maxRecDepth 20000 in
theorem ggL_law_X3_trace : GoodIn wsL_law wsX3_trace := goodIn_r _ [627, 23, 656, 657, 658, 659, 660, 661, 662, 663, 664] (by decide +kernel) (by decide +kernel)
set_option maxRecDepth 20000 in
theorem gL_law_X3_trace : GoodIn wsL_law (wsV RL 129 RX3 yX3_trace wsX3_trace) := goodIn_app (goodIn_of _ (by decide +kernel)) ggL_law_X3_trace
set_option maxRecDepth 20000 in
theorem ggL_law_X4_trace : GoodIn wsL_law wsX4_trace := goodIn_r _ [631, 599, 665, 666, 667, 668, 669, 670, 671, 672, 673, 674, 675, 676, 677, 678, 679, 680, 681, 682, 683, 684, 685, 686, 687, 688, 689, 690, 691] (by decide +kernel) (by decide +kernel)
set_option maxRecDepth 20000 in
theorem gL_law_X4_trace : GoodIn wsL_law (wsV RL 133 RX4 yX4_trace wsX4_trace) := goodIn_app (goodIn_of _ (by decide +kernel)) ggL_law_X4_trace
set_option maxRecDepth 20000 in
theorem ggL_law_X3_fault : GoodIn wsL_law wsX3_fault := goodIn_r _ [635, 24, 656, 657, 658, 659, 660, 661, 662, 663, 664] (by decide +kernel) (by decide +kernel)
set_option maxRecDepth 20000 in
theorem gL_law_X3_fault : GoodIn wsL_law (wsV RL 134 RX3 yX3_fault wsX3_fault) := goodIn_app (goodIn_of _ (by decide +kernel)) ggL_law_X3_fault
set_option maxRecDepth 20000 in
theorem ggL_law_X4_fault : GoodIn wsL_law wsX4_fault := goodIn_r _ [639, 139, 665, 666, 667, 668, 669, 670, 671, 672, 673, 674, 675, 676, 677, 678, 679, 680, 681, 682, 683, 684, 685, 686, 687, 688, 689, 690, 691] (by decide +kernel) (by decide +kernel)
set_option maxRecDepth 20000 in
theorem gL_law_X4_fault : GoodIn wsL_law (wsV RL 137 RX4 yX4_fault wsX4_fault) := goodIn_app (goodIn_of _ (by decide +kernel)) ggL_law_X4_fault
set_option maxRecDepth 20000 in
theorem ggL_law_X3_many : GoodIn wsL_law wsX3_many := goodIn_r _ [643, 21, 20, 22, 644, 645, 646, 2, 647, 17, 113, 210, 211, 212, 213, 214, 215, 216, 217, 656, 657, 658, 659, 660, 661, 662, 663, 664, 695, 696, 697] (by decide +kernel) (by decide +kernel)
set_option maxRecDepth 20000 in
theorem gL_law_X3_many : GoodIn wsL_law (wsV RL 138 RX3 yX3_many wsX3_many) := goodIn_app (goodIn_of _ (by decide +kernel)) ggL_law_X3_many
set_option maxRecDepth 20000 in
theorem ggL_law_X4_many : GoodIn wsL_law wsX4_many := goodIn_r _ [651, 126, 124, 127, 652, 653, 654, 5, 655, 230, 231, 232, 233, 56, 234, 235, 236, 237, 665, 666, 667, 668, 669, 670, 671, 672, 673, 674, 675, 676, 677, 678, 679, 680, 681, 682, 683, 684, 685, 686, 687, 688, 689, 690, 691] (by decide +kernel) (by decide +kernel)
set_option maxRecDepth 20000 in
theorem gL_law_X4_many : GoodIn wsL_law (wsV RL 141 RX4 yX4_many wsX4_many) := goodIn_app (goodIn_of _ (by decide +kernel)) ggL_law_X4_many
theorem dL_law_0 : decode cL_law 0 = .ok (.new 7, 3) := by decide +kernel
theorem dL_law_3 : decode cL_law 3 = .ok (.dup, 1) := by decide +kernel
theorem dL_law_4 : decode cL_law 4 = .ok (.invokespecial 9, 3) := by decide +kernel
theorem dL_law_7 : decode cL_law 7 = .ok (.astore_n 1, 1) := by decide +kernel
theorem dL_law_8 : decode cL_law 8 = .ok (.new 10, 3) := by decide +kernel
theorem dL_law_11 : decode cL_law 11 = .ok (.dup, 1) := by decide +kernel
theorem dL_law_12 : decode cL_law 12 = .ok (.invokespecial 12, 3) := by decide +kernel
theorem dL_law_15 : decode cL_law 15 = .ok (.astore_n 2, 1) := by decide +kernel
theorem dL_law_16 : decode cL_law 16 = .ok (.iconst 0, 1) := by decide +kernel
theorem dL_law_17 : decode cL_law 17 = .ok (.istore_n 3, 1) := by decide +kernel
theorem dL_law_18 : decode cL_law 18 = .ok (.iload_n 3, 1) := by decide +kernel
theorem dL_law_19 : decode cL_law 19 = .ok (.aload_n 0, 1) := by decide +kernel
theorem dL_law_20 : decode cL_law 20 = .ok (.arraylength, 1) := by decide +kernel
theorem dL_law_21 : decode cL_law 21 = .ok (.bipush 7, 2) := by decide +kernel
theorem dL_law_23 : decode cL_law 23 = .ok (.isub, 1) := by decide +kernel
theorem dL_law_24 : decode cL_law 24 = .ok (.if_icmp .gt 1125, 3) := by decide +kernel
theorem dL_law_27 : decode cL_law 27 = .ok (.aload_n 0, 1) := by decide +kernel
theorem dL_law_28 : decode cL_law 28 = .ok (.iload_n 3, 1) := by decide +kernel
theorem dL_law_29 : decode cL_law 29 = .ok (.iaload, 1) := by decide +kernel
theorem dL_law_30 : decode cL_law 30 = .ok (.bipush 31, 2) := by decide +kernel
theorem dL_law_32 : decode cL_law 32 = .ok (.iand, 1) := by decide +kernel
theorem dL_law_33 : decode cL_law 33 = .ok (.tableswitch 1110 0 29 #[135, 188, 211, 244, 277, 310, 343, 366, 441, 475, 498, 521, 554, 587, 630, 653, 676, 699, 732, 766, 809, 832, 875, 919, 982, 1005, 1028, 1061, 1074, 1087], 135) := by decide +kernel
theorem dL_law_168 : decode cL_law 168 = .ok (.aload_n 1, 1) := by decide +kernel
theorem dL_law_169 : decode cL_law 169 = .ok (.aload_n 0, 1) := by decide +kernel
theorem dL_law_170 : decode cL_law 170 = .ok (.iload_n 3, 1) := by decide +kernel
theorem dL_law_171 : decode cL_law 171 = .ok (.iconst 1, 1) := by decide +kernel
theorem dL_law_172 : decode cL_law 172 = .ok (.iadd, 1) := by decide +kernel
theorem dL_law_173 : decode cL_law 173 = .ok (.iaload, 1) := by decide +kernel
theorem dL_law_174 : decode cL_law 174 = .ok (.aload_n 0, 1) := by decide +kernel
theorem dL_law_175 : decode cL_law 175 = .ok (.iload_n 3, 1) := by decide +kernel
theorem dL_law_176 : decode cL_law 176 = .ok (.iconst 2, 1) := by decide +kernel
theorem dL_law_177 : decode cL_law 177 = .ok (.iadd, 1) := by decide +kernel
theorem dL_law_178 : decode cL_law 178 = .ok (.iaload, 1) := by decide +kernel
theorem dL_law_179 : decode cL_law 179 = .ok (.aload_n 0, 1) := by decide +kernel
theorem dL_law_180 : decode cL_law 180 = .ok (.iload_n 3, 1) := by decide +kernel
theorem dL_law_181 : decode cL_law 181 = .ok (.iconst 3, 1) := by decide +kernel
theorem dL_law_182 : decode cL_law 182 = .ok (.iadd, 1) := by decide +kernel
theorem dL_law_183 : decode cL_law 183 = .ok (.iaload, 1) := by decide +kernel
theorem dL_law_184 : decode cL_law 184 = .ok (.aload_n 0, 1) := by decide +kernel
theorem dL_law_185 : decode cL_law 185 = .ok (.iload_n 3, 1) := by decide +kernel
theorem dL_law_186 : decode cL_law 186 = .ok (.iconst 4, 1) := by decide +kernel
theorem dL_law_187 : decode cL_law 187 = .ok (.iadd, 1) := by decide +kernel
theorem dL_law_188 : decode cL_law 188 = .ok (.iaload, 1) := by decide +kernel
theorem dL_law_189 : decode cL_law 189 = .ok (.invokevirtual 13, 3) := by decide +kernel
theorem dL_law_192 : decode cL_law 192 = .ok (.aload_n 2, 1) := by decide +kernel
theorem dL_law_193 : decode cL_law 193 = .ok (.aload_n 0, 1) := by decide +kernel
theorem dL_law_194 : decode cL_law 194 = .ok (.iload_n 3, 1) := by decide +kernel
theorem dL_law_195 : decode cL_law 195 = .ok (.iconst 1, 1) := by decide +kernel
theorem dL_law_196 : decode cL_law 196 = .ok (.iadd, 1) := by decide +kernel
theorem dL_law_197 : decode cL_law 197 = .ok (.iaload, 1) := by decide +kernel
theorem dL_law_198 : decode cL_law 198 = .ok (.aload_n 0, 1) := by decide +kernel
theorem dL_law_199 : decode cL_law 199 = .ok (.iload_n 3, 1) := by decide +kernel
theorem dL_law_200 : decode cL_law 200 = .ok (.iconst 2, 1) := by decide +kernel
theorem dL_law_201 : decode cL_law 201 = .ok (.iadd, 1) := by decide +kernel
theorem dL_law_202 : decode cL_law 202 = .ok (.iaload, 1) := by decide +kernel
theorem dL_law_203 : decode cL_law 203 = .ok (.aload_n 0, 1) := by decide +kernel
theorem dL_law_204 : decode cL_law 204 = .ok (.iload_n 3, 1) := by decide +kernel
theorem dL_law_205 : decode cL_law 205 = .ok (.iconst 3, 1) := by decide +kernel
theorem dL_law_206 : decode cL_law 206 = .ok (.iadd, 1) := by decide +kernel
theorem dL_law_207 : decode cL_law 207 = .ok (.iaload, 1) := by decide +kernel
theorem dL_law_208 : decode cL_law 208 = .ok (.aload_n 0, 1) := by decide +kernel
theorem dL_law_209 : decode cL_law 209 = .ok (.iload_n 3, 1) := by decide +kernel
theorem dL_law_210 : decode cL_law 210 = .ok (.iconst 4, 1) := by decide +kernel
theorem dL_law_211 : decode cL_law 211 = .ok (.iadd, 1) := by decide +kernel
theorem dL_law_212 : decode cL_law 212 = .ok (.iaload, 1) := by decide +kernel
theorem dL_law_213 : decode cL_law 213 = .ok (.invokevirtual 17, 3) := by decide +kernel
theorem dL_law_216 : decode cL_law 216 = .ok (.if_icmp .eq 927, 3) := by decide +kernel
theorem dL_law_219 : decode cL_law 219 = .ok (.iconst 0, 1) := by decide +kernel
theorem dL_law_220 : decode cL_law 220 = .ok (.ireturn, 1) := by decide +kernel
theorem dL_law_221 : decode cL_law 221 = .ok (.aload_n 1, 1) := by decide +kernel
theorem dL_law_222 : decode cL_law 222 = .ok (.aload_n 0, 1) := by decide +kernel
theorem dL_law_223 : decode cL_law 223 = .ok (.iload_n 3, 1) := by decide +kernel
theorem dL_law_224 : decode cL_law 224 = .ok (.iconst 1, 1) := by decide +kernel
theorem dL_law_225 : decode cL_law 225 = .ok (.iadd, 1) := by decide +kernel
theorem dL_law_226 : decode cL_law 226 = .ok (.iaload, 1) := by decide +kernel
theorem dL_law_227 : decode cL_law 227 = .ok (.invokevirtual 18, 3) := by decide +kernel
theorem dL_law_230 : decode cL_law 230 = .ok (.aload_n 2, 1) := by decide +kernel
theorem dL_law_231 : decode cL_law 231 = .ok (.aload_n 0, 1) := by decide +kernel
theorem dL_law_232 : decode cL_law 232 = .ok (.iload_n 3, 1) := by decide +kernel
theorem dL_law_233 : decode cL_law 233 = .ok (.iconst 1, 1) := by decide +kernel
theorem dL_law_234 : decode cL_law 234 = .ok (.iadd, 1) := by decide +kernel
theorem dL_law_235 : decode cL_law 235 = .ok (.iaload, 1) := by decide +kernel
theorem dL_law_236 : decode cL_law 236 = .ok (.invokevirtual 22, 3) := by decide +kernel
theorem dL_law_239 : decode cL_law 239 = .ok (.if_icmp .eq 904, 3) := by decide +kernel
theorem dL_law_242 : decode cL_law 242 = .ok (.iconst 0, 1) := by decide +kernel
theorem dL_law_243 : decode cL_law 243 = .ok (.ireturn, 1) := by decide +kernel
theorem dL_law_244 : decode cL_law 244 = .ok (.aload_n 1, 1) := by decide +kernel
theorem dL_law_245 : decode cL_law 245 = .ok (.aload_n 0, 1) := by decide +kernel
theorem dL_law_246 : decode cL_law 246 = .ok (.iload_n 3, 1) := by decide +kernel
theorem dL_law_247 : decode cL_law 247 = .ok (.iconst 1, 1) := by decide +kernel
theorem dL_law_248 : decode cL_law 248 = .ok (.iadd, 1) := by decide +kernel
theorem dL_law_249 : decode cL_law 249 = .ok (.iaload, 1) := by decide +kernel
theorem dL_law_250 : decode cL_law 250 = .ok (.aload_n 0, 1) := by decide +kernel
theorem dL_law_251 : decode cL_law 251 = .ok (.iload_n 3, 1) := by decide +kernel
theorem dL_law_252 : decode cL_law 252 = .ok (.iconst 2, 1) := by decide +kernel
theorem dL_law_253 : decode cL_law 253 = .ok (.iadd, 1) := by decide +kernel
theorem dL_law_254 : decode cL_law 254 = .ok (.iaload, 1) := by decide +kernel
theorem dL_law_255 : decode cL_law 255 = .ok (.invokevirtual 23, 3) := by decide +kernel
theorem dL_law_258 : decode cL_law 258 = .ok (.aload_n 2, 1) := by decide +kernel
theorem dL_law_259 : decode cL_law 259 = .ok (.aload_n 0, 1) := by decide +kernel
theorem dL_law_260 : decode cL_law 260 = .ok (.iload_n 3, 1) := by decide +kernel
theorem dL_law_261 : decode cL_law 261 = .ok (.iconst 1, 1) := by decide +kernel
theorem dL_law_262 : decode cL_law 262 = .ok (.iadd, 1) := by decide +kernel
theorem dL_law_263 : decode cL_law 263 = .ok (.iaload, 1) := by decide +kernel
theorem dL_law_264 : decode cL_law 264 = .ok (.aload_n 0, 1) := by decide +kernel
theorem dL_law_265 : decode cL_law 265 = .ok (.iload_n 3, 1) := by decide +kernel
theorem dL_law_266 : decode cL_law 266 = .ok (.iconst 2, 1) := by decide +kernel
theorem dL_law_267 : decode cL_law 267 = .ok (.iadd, 1) := by decide +kernel
theorem dL_law_268 : decode cL_law 268 = .ok (.iaload, 1) := by decide +kernel
theorem dL_law_269 : decode cL_law 269 = .ok (.invokevirtual 27, 3) := by decide +kernel
theorem dL_law_272 : decode cL_law 272 = .ok (.if_icmp .eq 871, 3) := by decide +kernel
theorem dL_law_275 : decode cL_law 275 = .ok (.iconst 0, 1) := by decide +kernel
theorem dL_law_276 : decode cL_law 276 = .ok (.ireturn, 1) := by decide +kernel
theorem dL_law_277 : decode cL_law 277 = .ok (.aload_n 1, 1) := by decide +kernel
theorem dL_law_278 : decode cL_law 278 = .ok (.aload_n 0, 1) := by decide +kernel
theorem dL_law_279 : decode cL_law 279 = .ok (.iload_n 3, 1) := by decide +kernel
theorem dL_law_280 : decode cL_law 280 = .ok (.iconst 1, 1) := by decide +kernel
theorem dL_law_281 : decode cL_law 281 = .ok (.iadd, 1) := by decide +kernel
theorem dL_law_282 : decode cL_law 282 = .ok (.iaload, 1) := by decide +kernel
theorem dL_law_283 : decode cL_law 283 = .ok (.aload_n 0, 1) := by decide +kernel
theorem dL_law_284 : decode cL_law 284 = .ok (.iload_n 3, 1) := by decide +kernel
theorem dL_law_285 : decode cL_law 285 = .ok (.iconst 2, 1) := by decide +kernel
theorem dL_law_286 : decode cL_law 286 = .ok (.iadd, 1) := by decide +kernel
theorem dL_law_287 : decode cL_law 287 = .ok (.iaload, 1) := by decide +kernel
theorem dL_law_288 : decode cL_law 288 = .ok (.invokevirtual 28, 3) := by decide +kernel
theorem dL_law_291 : decode cL_law 291 = .ok (.aload_n 2, 1) := by decide +kernel
theorem dL_law_292 : decode cL_law 292 = .ok (.aload_n 0, 1) := by decide +kernel
theorem dL_law_293 : decode cL_law 293 = .ok (.iload_n 3, 1) := by decide +kernel
theorem dL_law_294 : decode cL_law 294 = .ok (.iconst 1, 1) := by decide +kernel
theorem dL_law_295 : decode cL_law 295 = .ok (.iadd, 1) := by decide +kernel
theorem dL_law_296 : decode cL_law 296 = .ok (.iaload, 1) := by decide +kernel
theorem dL_law_297 : decode cL_law 297 = .ok (.aload_n 0, 1) := by decide +kernel
theorem dL_law_298 : decode cL_law 298 = .ok (.iload_n 3, 1) := by decide +kernel
theorem dL_law_299 : decode cL_law 299 = .ok (.iconst 2, 1) := by decide +kernel
theorem dL_law_300 : decode cL_law 300 = .ok (.iadd, 1) := by decide +kernel
theorem dL_law_301 : decode cL_law 301 = .ok (.iaload, 1) := by decide +kernel
theorem dL_law_302 : decode cL_law 302 = .ok (.invokevirtual 31, 3) := by decide +kernel
theorem dL_law_305 : decode cL_law 305 = .ok (.if_icmp .eq 838, 3) := by decide +kernel
theorem dL_law_308 : decode cL_law 308 = .ok (.iconst 0, 1) := by decide +kernel
theorem dL_law_309 : decode cL_law 309 = .ok (.ireturn, 1) := by decide +kernel
theorem dL_law_310 : decode cL_law 310 = .ok (.aload_n 1, 1) := by decide +kernel
theorem dL_law_311 : decode cL_law 311 = .ok (.aload_n 0, 1) := by decide +kernel
theorem dL_law_312 : decode cL_law 312 = .ok (.iload_n 3, 1) := by decide +kernel
theorem dL_law_313 : decode cL_law 313 = .ok (.iconst 1, 1) := by decide +kernel
theorem dL_law_314 : decode cL_law 314 = .ok (.iadd, 1) := by decide +kernel
theorem dL_law_315 : decode cL_law 315 = .ok (.iaload, 1) := by decide +kernel
theorem dL_law_316 : decode cL_law 316 = .ok (.aload_n 0, 1) := by decide +kernel
theorem dL_law_317 : decode cL_law 317 = .ok (.iload_n 3, 1) := by decide +kernel
theorem dL_law_318 : decode cL_law 318 = .ok (.iconst 2, 1) := by decide +kernel
theorem dL_law_319 : decode cL_law 319 = .ok (.iadd, 1) := by decide +kernel
theorem dL_law_320 : decode cL_law 320 = .ok (.iaload, 1) := by decide +kernel
theorem dL_law_321 : decode cL_law 321 = .ok (.invokevirtual 32, 3) := by decide +kernel
theorem dL_law_324 : decode cL_law 324 = .ok (.aload_n 2, 1) := by decide +kernel
theorem dL_law_325 : decode cL_law 325 = .ok (.aload_n 0, 1) := by decide +kernel
theorem dL_law_326 : decode cL_law 326 = .ok (.iload_n 3, 1) := by decide +kernel
theorem dL_law_327 : decode cL_law 327 = .ok (.iconst 1, 1) := by decide +kernel
theorem dL_law_328 : decode cL_law 328 = .ok (.iadd, 1) := by decide +kernel
theorem dL_law_329 : decode cL_law 329 = .ok (.iaload, 1) := by decide +kernel
theorem dL_law_330 : decode cL_law 330 = .ok (.aload_n 0, 1) := by decide +kernel
theorem dL_law_331 : decode cL_law 331 = .ok (.iload_n 3, 1) := by decide +kernel
theorem dL_law_332 : decode cL_law 332 = .ok (.iconst 2, 1) := by decide +kernel
theorem dL_law_333 : decode cL_law 333 = .ok (.iadd, 1) := by decide +kernel
theorem dL_law_334 : decode cL_law 334 = .ok (.iaload, 1) := by decide +kernel
theorem dL_law_335 : decode cL_law 335 = .ok (.invokevirtual 35, 3) := by decide +kernel
theorem dL_law_338 : decode cL_law 338 = .ok (.if_icmp .eq 805, 3) := by decide +kernel
theorem dL_law_341 : decode cL_law 341 = .ok (.iconst 0, 1) := by decide +kernel
theorem dL_law_342 : decode cL_law 342 = .ok (.ireturn, 1) := by decide +kernel
theorem dL_law_343 : decode cL_law 343 = .ok (.aload_n 1, 1) := by decide +kernel
theorem dL_law_344 : decode cL_law 344 = .ok (.aload_n 0, 1) := by decide +kernel
theorem dL_law_345 : decode cL_law 345 = .ok (.iload_n 3, 1) := by decide +kernel
theorem dL_law_346 : decode cL_law 346 = .ok (.iconst 1, 1) := by decide +kernel
theorem dL_law_347 : decode cL_law 347 = .ok (.iadd, 1) := by decide +kernel
theorem dL_law_348 : decode cL_law 348 = .ok (.iaload, 1) := by decide +kernel
theorem dL_law_349 : decode cL_law 349 = .ok (.aload_n 0, 1) := by decide +kernel
theorem dL_law_350 : decode cL_law 350 = .ok (.iload_n 3, 1) := by decide +kernel
theorem dL_law_351 : decode cL_law 351 = .ok (.iconst 2, 1) := by decide +kernel
theorem dL_law_352 : decode cL_law 352 = .ok (.iadd, 1) := by decide +kernel
theorem dL_law_353 : decode cL_law 353 = .ok (.iaload, 1) := by decide +kernel
theorem dL_law_354 : decode cL_law 354 = .ok (.invokevirtual 36, 3) := by decide +kernel
theorem dL_law_357 : decode cL_law 357 = .ok (.aload_n 2, 1) := by decide +kernel
theorem dL_law_358 : decode cL_law 358 = .ok (.aload_n 0, 1) := by decide +kernel
theorem dL_law_359 : decode cL_law 359 = .ok (.iload_n 3, 1) := by decide +kernel
theorem dL_law_360 : decode cL_law 360 = .ok (.iconst 1, 1) := by decide +kernel
theorem dL_law_361 : decode cL_law 361 = .ok (.iadd, 1) := by decide +kernel
theorem dL_law_362 : decode cL_law 362 = .ok (.iaload, 1) := by decide +kernel
theorem dL_law_363 : decode cL_law 363 = .ok (.aload_n 0, 1) := by decide +kernel
theorem dL_law_364 : decode cL_law 364 = .ok (.iload_n 3, 1) := by decide +kernel
theorem dL_law_365 : decode cL_law 365 = .ok (.iconst 2, 1) := by decide +kernel
theorem dL_law_366 : decode cL_law 366 = .ok (.iadd, 1) := by decide +kernel
theorem dL_law_367 : decode cL_law 367 = .ok (.iaload, 1) := by decide +kernel
theorem dL_law_368 : decode cL_law 368 = .ok (.invokevirtual 39, 3) := by decide +kernel
theorem dL_law_371 : decode cL_law 371 = .ok (.if_icmp .eq 772, 3) := by decide +kernel
theorem dL_law_374 : decode cL_law 374 = .ok (.iconst 0, 1) := by decide +kernel
theorem dL_law_375 : decode cL_law 375 = .ok (.ireturn, 1) := by decide +kernel
theorem dL_law_376 : decode cL_law 376 = .ok (.aload_n 1, 1) := by decide +kernel
theorem dL_law_377 : decode cL_law 377 = .ok (.aload_n 0, 1) := by decide +kernel
theorem dL_law_378 : decode cL_law 378 = .ok (.iload_n 3, 1) := by decide +kernel
theorem dL_law_379 : decode cL_law 379 = .ok (.iconst 1, 1) := by decide +kernel
theorem dL_law_380 : decode cL_law 380 = .ok (.iadd, 1) := by decide +kernel
theorem dL_law_381 : decode cL_law 381 = .ok (.iaload, 1) := by decide +kernel
theorem dL_law_382 : decode cL_law 382 = .ok (.invokevirtual 40, 3) := by decide +kernel
theorem dL_law_385 : decode cL_law 385 = .ok (.aload_n 2, 1) := by decide +kernel
theorem dL_law_386 : decode cL_law 386 = .ok (.aload_n 0, 1) := by decide +kernel
theorem dL_law_387 : decode cL_law 387 = .ok (.iload_n 3, 1) := by decide +kernel
theorem dL_law_388 : decode cL_law 388 = .ok (.iconst 1, 1) := by decide +kernel
theorem dL_law_389 : decode cL_law 389 = .ok (.iadd, 1) := by decide +kernel
theorem dL_law_390 : decode cL_law 390 = .ok (.iaload, 1) := by decide +kernel
theorem dL_law_391 : decode cL_law 391 = .ok (.invokevirtual 43, 3) := by decide +kernel
theorem dL_law_394 : decode cL_law 394 = .ok (.if_icmp .eq 749, 3) := by decide +kernel
theorem dL_law_397 : decode cL_law 397 = .ok (.iconst 0, 1) := by decide +kernel
theorem dL_law_398 : decode cL_law 398 = .ok (.ireturn, 1) := by decide +kernel
theorem dL_law_399 : decode cL_law 399 = .ok (.aload_n 1, 1) := by decide +kernel
theorem dL_law_400 : decode cL_law 400 = .ok (.aload_n 0, 1) := by decide +kernel
theorem dL_law_401 : decode cL_law 401 = .ok (.iload_n 3, 1) := by decide +kernel
theorem dL_law_402 : decode cL_law 402 = .ok (.iconst 1, 1) := by decide +kernel
theorem dL_law_403 : decode cL_law 403 = .ok (.iadd, 1) := by decide +kernel
theorem dL_law_404 : decode cL_law 404 = .ok (.iaload, 1) := by decide +kernel
theorem dL_law_405 : decode cL_law 405 = .ok (.aload_n 0, 1) := by decide +kernel
theorem dL_law_406 : decode cL_law 406 = .ok (.iload_n 3, 1) := by decide +kernel
theorem dL_law_407 : decode cL_law 407 = .ok (.iconst 2, 1) := by decide +kernel
theorem dL_law_408 : decode cL_law 408 = .ok (.iadd, 1) := by decide +kernel
theorem dL_law_409 : decode cL_law 409 = .ok (.iaload, 1) := by decide +kernel
theorem dL_law_410 : decode cL_law 410 = .ok (.aload_n 0, 1) := by decide +kernel
theorem dL_law_411 : decode cL_law 411 = .ok (.iload_n 3, 1) := by decide +kernel
theorem dL_law_412 : decode cL_law 412 = .ok (.iconst 3, 1) := by decide +kernel
theorem dL_law_413 : decode cL_law 413 = .ok (.iadd, 1) := by decide +kernel
theorem dL_law_414 : decode cL_law 414 = .ok (.iaload, 1) := by decide +kernel
theorem dL_law_415 : decode cL_law 415 = .ok (.aload_n 0, 1) := by decide +kernel
theorem dL_law_416 : decode cL_law 416 = .ok (.iload_n 3, 1) := by decide +kernel
theorem dL_law_417 : decode cL_law 417 = .ok (.iconst 4, 1) := by decide +kernel
theorem dL_law_418 : decode cL_law 418 = .ok (.iadd, 1) := by decide +kernel
theorem dL_law_419 : decode cL_law 419 = .ok (.iaload, 1) := by decide +kernel
theorem dL_law_420 : decode cL_law 420 = .ok (.aload_n 0, 1) := by decide +kernel
theorem dL_law_421 : decode cL_law 421 = .ok (.iload_n 3, 1) := by decide +kernel
theorem dL_law_422 : decode cL_law 422 = .ok (.iconst 5, 1) := by decide +kernel
theorem dL_law_423 : decode cL_law 423 = .ok (.iadd, 1) := by decide +kernel
theorem dL_law_424 : decode cL_law 424 = .ok (.iaload, 1) := by decide +kernel
theorem dL_law_425 : decode cL_law 425 = .ok (.aload_n 0, 1) := by decide +kernel
theorem dL_law_426 : decode cL_law 426 = .ok (.iload_n 3, 1) := by decide +kernel
theorem dL_law_427 : decode cL_law 427 = .ok (.bipush 6, 2) := by decide +kernel
theorem dL_law_429 : decode cL_law 429 = .ok (.iadd, 1) := by decide +kernel
theorem dL_law_430 : decode cL_law 430 = .ok (.iaload, 1) := by decide +kernel
theorem dL_law_431 : decode cL_law 431 = .ok (.invokevirtual 44, 3) := by decide +kernel
theorem dL_law_434 : decode cL_law 434 = .ok (.aload_n 2, 1) := by decide +kernel
theorem dL_law_435 : decode cL_law 435 = .ok (.aload_n 0, 1) := by decide +kernel
theorem dL_law_436 : decode cL_law 436 = .ok (.iload_n 3, 1) := by decide +kernel
theorem dL_law_437 : decode cL_law 437 = .ok (.iconst 1, 1) := by decide +kernel
theorem dL_law_438 : decode cL_law 438 = .ok (.iadd, 1) := by decide +kernel
theorem dL_law_439 : decode cL_law 439 = .ok (.iaload, 1) := by decide +kernel
theorem dL_law_440 : decode cL_law 440 = .ok (.aload_n 0, 1) := by decide +kernel
theorem dL_law_441 : decode cL_law 441 = .ok (.iload_n 3, 1) := by decide +kernel
theorem dL_law_442 : decode cL_law 442 = .ok (.iconst 2, 1) := by decide +kernel
theorem dL_law_443 : decode cL_law 443 = .ok (.iadd, 1) := by decide +kernel
theorem dL_law_444 : decode cL_law 444 = .ok (.iaload, 1) := by decide +kernel
theorem dL_law_445 : decode cL_law 445 = .ok (.aload_n 0, 1) := by decide +kernel
theorem dL_law_446 : decode cL_law 446 = .ok (.iload_n 3, 1) := by decide +kernel
theorem dL_law_447 : decode cL_law 447 = .ok (.iconst 3, 1) := by decide +kernel
theorem dL_law_448 : decode cL_law 448 = .ok (.iadd, 1) := by decide +kernel
theorem dL_law_449 : decode cL_law 449 = .ok (.iaload, 1) := by decide +kernel
theorem dL_law_450 : decode cL_law 450 = .ok (.aload_n 0, 1) := by decide +kernel
theorem dL_law_451 : decode cL_law 451 = .ok (.iload_n 3, 1) := by decide +kernel
theorem dL_law_452 : decode cL_law 452 = .ok (.iconst 4, 1) := by decide +kernel
theorem dL_law_453 : decode cL_law 453 = .ok (.iadd, 1) := by decide +kernel
theorem dL_law_454 : decode cL_law 454 = .ok (.iaload, 1) := by decide +kernel
theorem dL_law_455 : decode cL_law 455 = .ok (.aload_n 0, 1) := by decide +kernel
theorem dL_law_456 : decode cL_law 456 = .ok (.iload_n 3, 1) := by decide +kernel
theorem dL_law_457 : decode cL_law 457 = .ok (.iconst 5, 1) := by decide +kernel
theorem dL_law_458 : decode cL_law 458 = .ok (.iadd, 1) := by decide +kernel
theorem dL_law_459 : decode cL_law 459 = .ok (.iaload, 1) := by decide +kernel
theorem dL_law_460 : decode cL_law 460 = .ok (.aload_n 0, 1) := by decide +kernel
theorem dL_law_461 : decode cL_law 461 = .ok (.iload_n 3, 1) := by decide +kernel
theorem dL_law_462 : decode cL_law 462 = .ok (.bipush 6, 2) := by decide +kernel
theorem dL_law_464 : decode cL_law 464 = .ok (.iadd, 1) := by decide +kernel
theorem dL_law_465 : decode cL_law 465 = .ok (.iaload, 1) := by decide +kernel
theorem dL_law_466 : decode cL_law 466 = .ok (.invokevirtual 48, 3) := by decide +kernel
theorem dL_law_469 : decode cL_law 469 = .ok (.if_icmp .eq 674, 3) := by decide +kernel
theorem dL_law_472 : decode cL_law 472 = .ok (.iconst 0, 1) := by decide +kernel
theorem dL_law_473 : decode cL_law 473 = .ok (.ireturn, 1) := by decide +kernel
theorem dL_law_474 : decode cL_law 474 = .ok (.aload_n 1, 1) := by decide +kernel
theorem dL_law_475 : decode cL_law 475 = .ok (.aload_n 0, 1) := by decide +kernel
theorem dL_law_476 : decode cL_law 476 = .ok (.iload_n 3, 1) := by decide +kernel
theorem dL_law_477 : decode cL_law 477 = .ok (.iconst 1, 1) := by decide +kernel
theorem dL_law_478 : decode cL_law 478 = .ok (.iadd, 1) := by decide +kernel
theorem dL_law_479 : decode cL_law 479 = .ok (.iaload, 1) := by decide +kernel
theorem dL_law_480 : decode cL_law 480 = .ok (.aload_n 0, 1) := by decide +kernel
theorem dL_law_481 : decode cL_law 481 = .ok (.iload_n 3, 1) := by decide +kernel
theorem dL_law_482 : decode cL_law 482 = .ok (.iconst 2, 1) := by decide +kernel
theorem dL_law_483 : decode cL_law 483 = .ok (.iadd, 1) := by decide +kernel
theorem dL_law_484 : decode cL_law 484 = .ok (.iaload, 1) := by decide +kernel
theorem dL_law_485 : decode cL_law 485 = .ok (.invokevirtual 49, 3) := by decide +kernel
theorem dL_law_488 : decode cL_law 488 = .ok (.aload_n 2, 1) := by decide +kernel
theorem dL_law_489 : decode cL_law 489 = .ok (.aload_n 0, 1) := by decide +kernel
theorem dL_law_490 : decode cL_law 490 = .ok (.iload_n 3, 1) := by decide +kernel
theorem dL_law_491 : decode cL_law 491 = .ok (.iconst 1, 1) := by decide +kernel
theorem dL_law_492 : decode cL_law 492 = .ok (.iadd, 1) := by decide +kernel
theorem dL_law_493 : decode cL_law 493 = .ok (.iaload, 1) := by decide +kernel
theorem dL_law_494 : decode cL_law 494 = .ok (.aload_n 0, 1) := by decide +kernel
theorem dL_law_495 : decode cL_law 495 = .ok (.iload_n 3, 1) := by decide +kernel
theorem dL_law_496 : decode cL_law 496 = .ok (.iconst 2, 1) := by decide +kernel
theorem dL_law_497 : decode cL_law 497 = .ok (.iadd, 1) := by decide +kernel
theorem dL_law_498 : decode cL_law 498 = .ok (.iaload, 1) := by decide +kernel
theorem dL_law_499 : decode cL_law 499 = .ok (.invokevirtual 53, 3) := by decide +kernel
theorem dL_law_502 : decode cL_law 502 = .ok (.lcmp, 1) := by decide +kernel
theorem dL_law_503 : decode cL_law 503 = .ok (.ifCond .eq 640, 3) := by decide +kernel
theorem dL_law_506 : decode cL_law 506 = .ok (.iconst 0, 1) := by decide +kernel
theorem dL_law_507 : decode cL_law 507 = .ok (.ireturn, 1) := by decide +kernel
theorem dL_law_508 : decode cL_law 508 = .ok (.aload_n 1, 1) := by decide +kernel
theorem dL_law_509 : decode cL_law 509 = .ok (.aload_n 0, 1) := by decide +kernel
theorem dL_law_510 : decode cL_law 510 = .ok (.iload_n 3, 1) := by decide +kernel
theorem dL_law_511 : decode cL_law 511 = .ok (.iconst 1, 1) := by decide +kernel
theorem dL_law_512 : decode cL_law 512 = .ok (.iadd, 1) := by decide +kernel
theorem dL_law_513 : decode cL_law 513 = .ok (.iaload, 1) := by decide +kernel
theorem dL_law_514 : decode cL_law 514 = .ok (.invokevirtual 54, 3) := by decide +kernel
theorem dL_law_517 : decode cL_law 517 = .ok (.aload_n 2, 1) := by decide +kernel
theorem dL_law_518 : decode cL_law 518 = .ok (.aload_n 0, 1) := by decide +kernel
theorem dL_law_519 : decode cL_law 519 = .ok (.iload_n 3, 1) := by decide +kernel
theorem dL_law_520 : decode cL_law 520 = .ok (.iconst 1, 1) := by decide +kernel
theorem dL_law_521 : decode cL_law 521 = .ok (.iadd, 1) := by decide +kernel
theorem dL_law_522 : decode cL_law 522 = .ok (.iaload, 1) := by decide +kernel
theorem dL_law_523 : decode cL_law 523 = .ok (.invokevirtual 57, 3) := by decide +kernel
theorem dL_law_526 : decode cL_law 526 = .ok (.if_icmp .eq 617, 3) := by decide +kernel
theorem dL_law_529 : decode cL_law 529 = .ok (.iconst 0, 1) := by decide +kernel
theorem dL_law_530 : decode cL_law 530 = .ok (.ireturn, 1) := by decide +kernel
theorem dL_law_531 : decode cL_law 531 = .ok (.aload_n 1, 1) := by decide +kernel
theorem dL_law_532 : decode cL_law 532 = .ok (.aload_n 0, 1) := by decide +kernel
theorem dL_law_533 : decode cL_law 533 = .ok (.iload_n 3, 1) := by decide +kernel
theorem dL_law_534 : decode cL_law 534 = .ok (.iconst 1, 1) := by decide +kernel
theorem dL_law_535 : decode cL_law 535 = .ok (.iadd, 1) := by decide +kernel
theorem dL_law_536 : decode cL_law 536 = .ok (.iaload, 1) := by decide +kernel
theorem dL_law_537 : decode cL_law 537 = .ok (.invokevirtual 58, 3) := by decide +kernel
theorem dL_law_540 : decode cL_law 540 = .ok (.aload_n 2, 1) := by decide +kernel
theorem dL_law_541 : decode cL_law 541 = .ok (.aload_n 0, 1) := by decide +kernel
theorem dL_law_542 : decode cL_law 542 = .ok (.iload_n 3, 1) := by decide +kernel
theorem dL_law_543 : decode cL_law 543 = .ok (.iconst 1, 1) := by decide +kernel
theorem dL_law_544 : decode cL_law 544 = .ok (.iadd, 1) := by decide +kernel
theorem dL_law_545 : decode cL_law 545 = .ok (.iaload, 1) := by decide +kernel
theorem dL_law_546 : decode cL_law 546 = .ok (.invokevirtual 61, 3) := by decide +kernel
theorem dL_law_549 : decode cL_law 549 = .ok (.if_icmp .eq 594, 3) := by decide +kernel
theorem dL_law_552 : decode cL_law 552 = .ok (.iconst 0, 1) := by decide +kernel
theorem dL_law_553 : decode cL_law 553 = .ok (.ireturn, 1) := by decide +kernel
theorem dL_law_554 : decode cL_law 554 = .ok (.aload_n 1, 1) := by decide +kernel
theorem dL_law_555 : decode cL_law 555 = .ok (.aload_n 0, 1) := by decide +kernel
theorem dL_law_556 : decode cL_law 556 = .ok (.iload_n 3, 1) := by decide +kernel
theorem dL_law_557 : decode cL_law 557 = .ok (.iconst 1, 1) := by decide +kernel
theorem dL_law_558 : decode cL_law 558 = .ok (.iadd, 1) := by decide +kernel
theorem dL_law_559 : decode cL_law 559 = .ok (.iaload, 1) := by decide +kernel
theorem dL_law_560 : decode cL_law 560 = .ok (.aload_n 0, 1) := by decide +kernel
theorem dL_law_561 : decode cL_law 561 = .ok (.iload_n 3, 1) := by decide +kernel
theorem dL_law_562 : decode cL_law 562 = .ok (.iconst 2, 1) := by decide +kernel
theorem dL_law_563 : decode cL_law 563 = .ok (.iadd, 1) := by decide +kernel
theorem dL_law_564 : decode cL_law 564 = .ok (.iaload, 1) := by decide +kernel
theorem dL_law_565 : decode cL_law 565 = .ok (.invokevirtual 62, 3) := by decide +kernel
theorem dL_law_568 : decode cL_law 568 = .ok (.aload_n 2, 1) := by decide +kernel
theorem dL_law_569 : decode cL_law 569 = .ok (.aload_n 0, 1) := by decide +kernel
theorem dL_law_570 : decode cL_law 570 = .ok (.iload_n 3, 1) := by decide +kernel
theorem dL_law_571 : decode cL_law 571 = .ok (.iconst 1, 1) := by decide +kernel
theorem dL_law_572 : decode cL_law 572 = .ok (.iadd, 1) := by decide +kernel
theorem dL_law_573 : decode cL_law 573 = .ok (.iaload, 1) := by decide +kernel
theorem dL_law_574 : decode cL_law 574 = .ok (.aload_n 0, 1) := by decide +kernel
theorem dL_law_575 : decode cL_law 575 = .ok (.iload_n 3, 1) := by decide +kernel
theorem dL_law_576 : decode cL_law 576 = .ok (.iconst 2, 1) := by decide +kernel
theorem dL_law_577 : decode cL_law 577 = .ok (.iadd, 1) := by decide +kernel
theorem dL_law_578 : decode cL_law 578 = .ok (.iaload, 1) := by decide +kernel
theorem dL_law_579 : decode cL_law 579 = .ok (.invokevirtual 65, 3) := by decide +kernel
theorem dL_law_582 : decode cL_law 582 = .ok (.if_icmp .eq 561, 3) := by decide +kernel
theorem dL_law_585 : decode cL_law 585 = .ok (.iconst 0, 1) := by decide +kernel
theorem dL_law_586 : decode cL_law 586 = .ok (.ireturn, 1) := by decide +kernel
theorem dL_law_587 : decode cL_law 587 = .ok (.aload_n 1, 1) := by decide +kernel
theorem dL_law_588 : decode cL_law 588 = .ok (.aload_n 0, 1) := by decide +kernel
theorem dL_law_589 : decode cL_law 589 = .ok (.iload_n 3, 1) := by decide +kernel
theorem dL_law_590 : decode cL_law 590 = .ok (.iconst 1, 1) := by decide +kernel
theorem dL_law_591 : decode cL_law 591 = .ok (.iadd, 1) := by decide +kernel
theorem dL_law_592 : decode cL_law 592 = .ok (.iaload, 1) := by decide +kernel
theorem dL_law_593 : decode cL_law 593 = .ok (.aload_n 0, 1) := by decide +kernel
theorem dL_law_594 : decode cL_law 594 = .ok (.iload_n 3, 1) := by decide +kernel
theorem dL_law_595 : decode cL_law 595 = .ok (.iconst 2, 1) := by decide +kernel
theorem dL_law_596 : decode cL_law 596 = .ok (.iadd, 1) := by decide +kernel
theorem dL_law_597 : decode cL_law 597 = .ok (.iaload, 1) := by decide +kernel
theorem dL_law_598 : decode cL_law 598 = .ok (.invokevirtual 66, 3) := by decide +kernel
theorem dL_law_601 : decode cL_law 601 = .ok (.aload_n 2, 1) := by decide +kernel
theorem dL_law_602 : decode cL_law 602 = .ok (.aload_n 0, 1) := by decide +kernel
theorem dL_law_603 : decode cL_law 603 = .ok (.iload_n 3, 1) := by decide +kernel
theorem dL_law_604 : decode cL_law 604 = .ok (.iconst 1, 1) := by decide +kernel
theorem dL_law_605 : decode cL_law 605 = .ok (.iadd, 1) := by decide +kernel
theorem dL_law_606 : decode cL_law 606 = .ok (.iaload, 1) := by decide +kernel
theorem dL_law_607 : decode cL_law 607 = .ok (.aload_n 0, 1) := by decide +kernel
theorem dL_law_608 : decode cL_law 608 = .ok (.iload_n 3, 1) := by decide +kernel
theorem dL_law_609 : decode cL_law 609 = .ok (.iconst 2, 1) := by decide +kernel
theorem dL_law_610 : decode cL_law 610 = .ok (.iadd, 1) := by decide +kernel
theorem dL_law_611 : decode cL_law 611 = .ok (.iaload, 1) := by decide +kernel
theorem dL_law_612 : decode cL_law 612 = .ok (.invokevirtual 69, 3) := by decide +kernel
theorem dL_law_615 : decode cL_law 615 = .ok (.if_icmp .eq 528, 3) := by decide +kernel
theorem dL_law_618 : decode cL_law 618 = .ok (.iconst 0, 1) := by decide +kernel
theorem dL_law_619 : decode cL_law 619 = .ok (.ireturn, 1) := by decide +kernel
theorem dL_law_620 : decode cL_law 620 = .ok (.aload_n 1, 1) := by decide +kernel
theorem dL_law_621 : decode cL_law 621 = .ok (.aload_n 0, 1) := by decide +kernel
theorem dL_law_622 : decode cL_law 622 = .ok (.iload_n 3, 1) := by decide +kernel
theorem dL_law_623 : decode cL_law 623 = .ok (.iconst 1, 1) := by decide +kernel
theorem dL_law_624 : decode cL_law 624 = .ok (.iadd, 1) := by decide +kernel
theorem dL_law_625 : decode cL_law 625 = .ok (.iaload, 1) := by decide +kernel
theorem dL_law_626 : decode cL_law 626 = .ok (.aload_n 0, 1) := by decide +kernel
theorem dL_law_627 : decode cL_law 627 = .ok (.iload_n 3, 1) := by decide +kernel
theorem dL_law_628 : decode cL_law 628 = .ok (.iconst 2, 1) := by decide +kernel
theorem dL_law_629 : decode cL_law 629 = .ok (.iadd, 1) := by decide +kernel
theorem dL_law_630 : decode cL_law 630 = .ok (.iaload, 1) := by decide +kernel
theorem dL_law_631 : decode cL_law 631 = .ok (.aload_n 0, 1) := by decide +kernel
theorem dL_law_632 : decode cL_law 632 = .ok (.iload_n 3, 1) := by decide +kernel
theorem dL_law_633 : decode cL_law 633 = .ok (.iconst 3, 1) := by decide +kernel
theorem dL_law_634 : decode cL_law 634 = .ok (.iadd, 1) := by decide +kernel
theorem dL_law_635 : decode cL_law 635 = .ok (.iaload, 1) := by decide +kernel
theorem dL_law_636 : decode cL_law 636 = .ok (.invokevirtual 70, 3) := by decide +kernel
theorem dL_law_639 : decode cL_law 639 = .ok (.aload_n 2, 1) := by decide +kernel
theorem dL_law_640 : decode cL_law 640 = .ok (.aload_n 0, 1) := by decide +kernel
theorem dL_law_641 : decode cL_law 641 = .ok (.iload_n 3, 1) := by decide +kernel
theorem dL_law_642 : decode cL_law 642 = .ok (.iconst 1, 1) := by decide +kernel
theorem dL_law_643 : decode cL_law 643 = .ok (.iadd, 1) := by decide +kernel
theorem dL_law_644 : decode cL_law 644 = .ok (.iaload, 1) := by decide +kernel
theorem dL_law_645 : decode cL_law 645 = .ok (.aload_n 0, 1) := by decide +kernel
theorem dL_law_646 : decode cL_law 646 = .ok (.iload_n 3, 1) := by decide +kernel
theorem dL_law_647 : decode cL_law 647 = .ok (.iconst 2, 1) := by decide +kernel
theorem dL_law_648 : decode cL_law 648 = .ok (.iadd, 1) := by decide +kernel
theorem dL_law_649 : decode cL_law 649 = .ok (.iaload, 1) := by decide +kernel
theorem dL_law_650 : decode cL_law 650 = .ok (.aload_n 0, 1) := by decide +kernel
theorem dL_law_651 : decode cL_law 651 = .ok (.iload_n 3, 1) := by decide +kernel
theorem dL_law_652 : decode cL_law 652 = .ok (.iconst 3, 1) := by decide +kernel
theorem dL_law_653 : decode cL_law 653 = .ok (.iadd, 1) := by decide +kernel
theorem dL_law_654 : decode cL_law 654 = .ok (.iaload, 1) := by decide +kernel
theorem dL_law_655 : decode cL_law 655 = .ok (.invokevirtual 74, 3) := by decide +kernel
theorem dL_law_658 : decode cL_law 658 = .ok (.if_icmp .eq 485, 3) := by decide +kernel
theorem dL_law_661 : decode cL_law 661 = .ok (.iconst 0, 1) := by decide +kernel
theorem dL_law_662 : decode cL_law 662 = .ok (.ireturn, 1) := by decide +kernel
theorem dL_law_663 : decode cL_law 663 = .ok (.aload_n 1, 1) := by decide +kernel
theorem dL_law_664 : decode cL_law 664 = .ok (.aload_n 0, 1) := by decide +kernel
theorem dL_law_665 : decode cL_law 665 = .ok (.iload_n 3, 1) := by decide +kernel
theorem dL_law_666 : decode cL_law 666 = .ok (.iconst 1, 1) := by decide +kernel
theorem dL_law_667 : decode cL_law 667 = .ok (.iadd, 1) := by decide +kernel
theorem dL_law_668 : decode cL_law 668 = .ok (.iaload, 1) := by decide +kernel
theorem dL_law_669 : decode cL_law 669 = .ok (.invokevirtual 75, 3) := by decide +kernel
theorem dL_law_672 : decode cL_law 672 = .ok (.aload_n 2, 1) := by decide +kernel
theorem dL_law_673 : decode cL_law 673 = .ok (.aload_n 0, 1) := by decide +kernel
theorem dL_law_674 : decode cL_law 674 = .ok (.iload_n 3, 1) := by decide +kernel
theorem dL_law_675 : decode cL_law 675 = .ok (.iconst 1, 1) := by decide +kernel
theorem dL_law_676 : decode cL_law 676 = .ok (.iadd, 1) := by decide +kernel
theorem dL_law_677 : decode cL_law 677 = .ok (.iaload, 1) := by decide +kernel
theorem dL_law_678 : decode cL_law 678 = .ok (.invokevirtual 78, 3) := by decide +kernel
theorem dL_law_681 : decode cL_law 681 = .ok (.if_icmp .eq 462, 3) := by decide +kernel
theorem dL_law_684 : decode cL_law 684 = .ok (.iconst 0, 1) := by decide +kernel
theorem dL_law_685 : decode cL_law 685 = .ok (.ireturn, 1) := by decide +kernel
theorem dL_law_686 : decode cL_law 686 = .ok (.aload_n 1, 1) := by decide +kernel
theorem dL_law_687 : decode cL_law 687 = .ok (.aload_n 0, 1) := by decide +kernel
theorem dL_law_688 : decode cL_law 688 = .ok (.iload_n 3, 1) := by decide +kernel
theorem dL_law_689 : decode cL_law 689 = .ok (.iconst 1, 1) := by decide +kernel
theorem dL_law_690 : decode cL_law 690 = .ok (.iadd, 1) := by decide +kernel
theorem dL_law_691 : decode cL_law 691 = .ok (.iaload, 1) := by decide +kernel
theorem dL_law_692 : decode cL_law 692 = .ok (.invokevirtual 79, 3) := by decide +kernel
theorem dL_law_695 : decode cL_law 695 = .ok (.aload_n 2, 1) := by decide +kernel
theorem dL_law_696 : decode cL_law 696 = .ok (.aload_n 0, 1) := by decide +kernel
theorem dL_law_697 : decode cL_law 697 = .ok (.iload_n 3, 1) := by decide +kernel
theorem dL_law_698 : decode cL_law 698 = .ok (.iconst 1, 1) := by decide +kernel
theorem dL_law_699 : decode cL_law 699 = .ok (.iadd, 1) := by decide +kernel
theorem dL_law_700 : decode cL_law 700 = .ok (.iaload, 1) := by decide +kernel
theorem dL_law_701 : decode cL_law 701 = .ok (.invokevirtual 82, 3) := by decide +kernel
theorem dL_law_704 : decode cL_law 704 = .ok (.if_icmp .eq 439, 3) := by decide +kernel
theorem dL_law_707 : decode cL_law 707 = .ok (.iconst 0, 1) := by decide +kernel
theorem dL_law_708 : decode cL_law 708 = .ok (.ireturn, 1) := by decide +kernel
theorem dL_law_709 : decode cL_law 709 = .ok (.aload_n 1, 1) := by decide +kernel
theorem dL_law_710 : decode cL_law 710 = .ok (.aload_n 0, 1) := by decide +kernel
theorem dL_law_711 : decode cL_law 711 = .ok (.iload_n 3, 1) := by decide +kernel
theorem dL_law_712 : decode cL_law 712 = .ok (.iconst 1, 1) := by decide +kernel
theorem dL_law_713 : decode cL_law 713 = .ok (.iadd, 1) := by decide +kernel
theorem dL_law_714 : decode cL_law 714 = .ok (.iaload, 1) := by decide +kernel
theorem dL_law_715 : decode cL_law 715 = .ok (.invokevirtual 83, 3) := by decide +kernel
theorem dL_law_718 : decode cL_law 718 = .ok (.aload_n 2, 1) := by decide +kernel
theorem dL_law_719 : decode cL_law 719 = .ok (.aload_n 0, 1) := by decide +kernel
theorem dL_law_720 : decode cL_law 720 = .ok (.iload_n 3, 1) := by decide +kernel
theorem dL_law_721 : decode cL_law 721 = .ok (.iconst 1, 1) := by decide +kernel
theorem dL_law_722 : decode cL_law 722 = .ok (.iadd, 1) := by decide +kernel
theorem dL_law_723 : decode cL_law 723 = .ok (.iaload, 1) := by decide +kernel
theorem dL_law_724 : decode cL_law 724 = .ok (.invokevirtual 86, 3) := by decide +kernel
theorem dL_law_727 : decode cL_law 727 = .ok (.if_icmp .eq 416, 3) := by decide +kernel
theorem dL_law_730 : decode cL_law 730 = .ok (.iconst 0, 1) := by decide +kernel
theorem dL_law_731 : decode cL_law 731 = .ok (.ireturn, 1) := by decide +kernel
theorem dL_law_732 : decode cL_law 732 = .ok (.aload_n 1, 1) := by decide +kernel
theorem dL_law_733 : decode cL_law 733 = .ok (.aload_n 0, 1) := by decide +kernel
theorem dL_law_734 : decode cL_law 734 = .ok (.iload_n 3, 1) := by decide +kernel
theorem dL_law_735 : decode cL_law 735 = .ok (.iconst 1, 1) := by decide +kernel
theorem dL_law_736 : decode cL_law 736 = .ok (.iadd, 1) := by decide +kernel
theorem dL_law_737 : decode cL_law 737 = .ok (.iaload, 1) := by decide +kernel
theorem dL_law_738 : decode cL_law 738 = .ok (.aload_n 0, 1) := by decide +kernel
theorem dL_law_739 : decode cL_law 739 = .ok (.iload_n 3, 1) := by decide +kernel
theorem dL_law_740 : decode cL_law 740 = .ok (.iconst 2, 1) := by decide +kernel
theorem dL_law_741 : decode cL_law 741 = .ok (.iadd, 1) := by decide +kernel
theorem dL_law_742 : decode cL_law 742 = .ok (.iaload, 1) := by decide +kernel
theorem dL_law_743 : decode cL_law 743 = .ok (.invokevirtual 87, 3) := by decide +kernel
theorem dL_law_746 : decode cL_law 746 = .ok (.aload_n 2, 1) := by decide +kernel
theorem dL_law_747 : decode cL_law 747 = .ok (.aload_n 0, 1) := by decide +kernel
theorem dL_law_748 : decode cL_law 748 = .ok (.iload_n 3, 1) := by decide +kernel
theorem dL_law_749 : decode cL_law 749 = .ok (.iconst 1, 1) := by decide +kernel
theorem dL_law_750 : decode cL_law 750 = .ok (.iadd, 1) := by decide +kernel
theorem dL_law_751 : decode cL_law 751 = .ok (.iaload, 1) := by decide +kernel
theorem dL_law_752 : decode cL_law 752 = .ok (.aload_n 0, 1) := by decide +kernel
theorem dL_law_753 : decode cL_law 753 = .ok (.iload_n 3, 1) := by decide +kernel
theorem dL_law_754 : decode cL_law 754 = .ok (.iconst 2, 1) := by decide +kernel
theorem dL_law_755 : decode cL_law 755 = .ok (.iadd, 1) := by decide +kernel
theorem dL_law_756 : decode cL_law 756 = .ok (.iaload, 1) := by decide +kernel
theorem dL_law_757 : decode cL_law 757 = .ok (.invokevirtual 90, 3) := by decide +kernel
theorem dL_law_760 : decode cL_law 760 = .ok (.if_icmp .eq 383, 3) := by decide +kernel
theorem dL_law_763 : decode cL_law 763 = .ok (.iconst 0, 1) := by decide +kernel
theorem dL_law_764 : decode cL_law 764 = .ok (.ireturn, 1) := by decide +kernel
theorem dL_law_765 : decode cL_law 765 = .ok (.aload_n 1, 1) := by decide +kernel
theorem dL_law_766 : decode cL_law 766 = .ok (.aload_n 0, 1) := by decide +kernel
theorem dL_law_767 : decode cL_law 767 = .ok (.iload_n 3, 1) := by decide +kernel
theorem dL_law_768 : decode cL_law 768 = .ok (.iconst 1, 1) := by decide +kernel
theorem dL_law_769 : decode cL_law 769 = .ok (.iadd, 1) := by decide +kernel
theorem dL_law_770 : decode cL_law 770 = .ok (.iaload, 1) := by decide +kernel
theorem dL_law_771 : decode cL_law 771 = .ok (.aload_n 0, 1) := by decide +kernel
theorem dL_law_772 : decode cL_law 772 = .ok (.iload_n 3, 1) := by decide +kernel
theorem dL_law_773 : decode cL_law 773 = .ok (.iconst 2, 1) := by decide +kernel
theorem dL_law_774 : decode cL_law 774 = .ok (.iadd, 1) := by decide +kernel
theorem dL_law_775 : decode cL_law 775 = .ok (.iaload, 1) := by decide +kernel
theorem dL_law_776 : decode cL_law 776 = .ok (.invokevirtual 91, 3) := by decide +kernel
theorem dL_law_779 : decode cL_law 779 = .ok (.aload_n 2, 1) := by decide +kernel
theorem dL_law_780 : decode cL_law 780 = .ok (.aload_n 0, 1) := by decide +kernel
theorem dL_law_781 : decode cL_law 781 = .ok (.iload_n 3, 1) := by decide +kernel
theorem dL_law_782 : decode cL_law 782 = .ok (.iconst 1, 1) := by decide +kernel
theorem dL_law_783 : decode cL_law 783 = .ok (.iadd, 1) := by decide +kernel
theorem dL_law_784 : decode cL_law 784 = .ok (.iaload, 1) := by decide +kernel
theorem dL_law_785 : decode cL_law 785 = .ok (.aload_n 0, 1) := by decide +kernel
theorem dL_law_786 : decode cL_law 786 = .ok (.iload_n 3, 1) := by decide +kernel
theorem dL_law_787 : decode cL_law 787 = .ok (.iconst 2, 1) := by decide +kernel
theorem dL_law_788 : decode cL_law 788 = .ok (.iadd, 1) := by decide +kernel
theorem dL_law_789 : decode cL_law 789 = .ok (.iaload, 1) := by decide +kernel
theorem dL_law_790 : decode cL_law 790 = .ok (.invokevirtual 94, 3) := by decide +kernel
theorem dL_law_793 : decode cL_law 793 = .ok (.lcmp, 1) := by decide +kernel
theorem dL_law_794 : decode cL_law 794 = .ok (.ifCond .eq 349, 3) := by decide +kernel
theorem dL_law_797 : decode cL_law 797 = .ok (.iconst 0, 1) := by decide +kernel
theorem dL_law_798 : decode cL_law 798 = .ok (.ireturn, 1) := by decide +kernel
theorem dL_law_799 : decode cL_law 799 = .ok (.aload_n 1, 1) := by decide +kernel
theorem dL_law_800 : decode cL_law 800 = .ok (.aload_n 0, 1) := by decide +kernel
theorem dL_law_801 : decode cL_law 801 = .ok (.iload_n 3, 1) := by decide +kernel
theorem dL_law_802 : decode cL_law 802 = .ok (.iconst 1, 1) := by decide +kernel
theorem dL_law_803 : decode cL_law 803 = .ok (.iadd, 1) := by decide +kernel
theorem dL_law_804 : decode cL_law 804 = .ok (.iaload, 1) := by decide +kernel
theorem dL_law_805 : decode cL_law 805 = .ok (.aload_n 0, 1) := by decide +kernel
theorem dL_law_806 : decode cL_law 806 = .ok (.iload_n 3, 1) := by decide +kernel
theorem dL_law_807 : decode cL_law 807 = .ok (.iconst 2, 1) := by decide +kernel
theorem dL_law_808 : decode cL_law 808 = .ok (.iadd, 1) := by decide +kernel
theorem dL_law_809 : decode cL_law 809 = .ok (.iaload, 1) := by decide +kernel
theorem dL_law_810 : decode cL_law 810 = .ok (.aload_n 0, 1) := by decide +kernel
theorem dL_law_811 : decode cL_law 811 = .ok (.iload_n 3, 1) := by decide +kernel
theorem dL_law_812 : decode cL_law 812 = .ok (.iconst 3, 1) := by decide +kernel
theorem dL_law_813 : decode cL_law 813 = .ok (.iadd, 1) := by decide +kernel
theorem dL_law_814 : decode cL_law 814 = .ok (.iaload, 1) := by decide +kernel
theorem dL_law_815 : decode cL_law 815 = .ok (.invokevirtual 95, 3) := by decide +kernel
theorem dL_law_818 : decode cL_law 818 = .ok (.aload_n 2, 1) := by decide +kernel
theorem dL_law_819 : decode cL_law 819 = .ok (.aload_n 0, 1) := by decide +kernel
theorem dL_law_820 : decode cL_law 820 = .ok (.iload_n 3, 1) := by decide +kernel
theorem dL_law_821 : decode cL_law 821 = .ok (.iconst 1, 1) := by decide +kernel
theorem dL_law_822 : decode cL_law 822 = .ok (.iadd, 1) := by decide +kernel
theorem dL_law_823 : decode cL_law 823 = .ok (.iaload, 1) := by decide +kernel
theorem dL_law_824 : decode cL_law 824 = .ok (.aload_n 0, 1) := by decide +kernel
theorem dL_law_825 : decode cL_law 825 = .ok (.iload_n 3, 1) := by decide +kernel
theorem dL_law_826 : decode cL_law 826 = .ok (.iconst 2, 1) := by decide +kernel
theorem dL_law_827 : decode cL_law 827 = .ok (.iadd, 1) := by decide +kernel
theorem dL_law_828 : decode cL_law 828 = .ok (.iaload, 1) := by decide +kernel
theorem dL_law_829 : decode cL_law 829 = .ok (.aload_n 0, 1) := by decide +kernel
theorem dL_law_830 : decode cL_law 830 = .ok (.iload_n 3, 1) := by decide +kernel
theorem dL_law_831 : decode cL_law 831 = .ok (.iconst 3, 1) := by decide +kernel
theorem dL_law_832 : decode cL_law 832 = .ok (.iadd, 1) := by decide +kernel
theorem dL_law_833 : decode cL_law 833 = .ok (.iaload, 1) := by decide +kernel
theorem dL_law_834 : decode cL_law 834 = .ok (.invokevirtual 98, 3) := by decide +kernel
theorem dL_law_837 : decode cL_law 837 = .ok (.if_icmp .eq 306, 3) := by decide +kernel
theorem dL_law_840 : decode cL_law 840 = .ok (.iconst 0, 1) := by decide +kernel
theorem dL_law_841 : decode cL_law 841 = .ok (.ireturn, 1) := by decide +kernel
theorem dL_law_842 : decode cL_law 842 = .ok (.aload_n 1, 1) := by decide +kernel
theorem dL_law_843 : decode cL_law 843 = .ok (.aload_n 0, 1) := by decide +kernel
theorem dL_law_844 : decode cL_law 844 = .ok (.iload_n 3, 1) := by decide +kernel
theorem dL_law_845 : decode cL_law 845 = .ok (.iconst 1, 1) := by decide +kernel
theorem dL_law_846 : decode cL_law 846 = .ok (.iadd, 1) := by decide +kernel
theorem dL_law_847 : decode cL_law 847 = .ok (.iaload, 1) := by decide +kernel
theorem dL_law_848 : decode cL_law 848 = .ok (.invokevirtual 99, 3) := by decide +kernel
theorem dL_law_851 : decode cL_law 851 = .ok (.aload_n 2, 1) := by decide +kernel
theorem dL_law_852 : decode cL_law 852 = .ok (.aload_n 0, 1) := by decide +kernel
theorem dL_law_853 : decode cL_law 853 = .ok (.iload_n 3, 1) := by decide +kernel
theorem dL_law_854 : decode cL_law 854 = .ok (.iconst 1, 1) := by decide +kernel
theorem dL_law_855 : decode cL_law 855 = .ok (.iadd, 1) := by decide +kernel
theorem dL_law_856 : decode cL_law 856 = .ok (.iaload, 1) := by decide +kernel
theorem dL_law_857 : decode cL_law 857 = .ok (.invokevirtual 102, 3) := by decide +kernel
theorem dL_law_860 : decode cL_law 860 = .ok (.if_icmp .eq 283, 3) := by decide +kernel
theorem dL_law_863 : decode cL_law 863 = .ok (.iconst 0, 1) := by decide +kernel
theorem dL_law_864 : decode cL_law 864 = .ok (.ireturn, 1) := by decide +kernel
theorem dL_law_865 : decode cL_law 865 = .ok (.aload_n 1, 1) := by decide +kernel
theorem dL_law_866 : decode cL_law 866 = .ok (.aload_n 0, 1) := by decide +kernel
theorem dL_law_867 : decode cL_law 867 = .ok (.iload_n 3, 1) := by decide +kernel
theorem dL_law_868 : decode cL_law 868 = .ok (.iconst 1, 1) := by decide +kernel
theorem dL_law_869 : decode cL_law 869 = .ok (.iadd, 1) := by decide +kernel
theorem dL_law_870 : decode cL_law 870 = .ok (.iaload, 1) := by decide +kernel
theorem dL_law_871 : decode cL_law 871 = .ok (.aload_n 0, 1) := by decide +kernel
theorem dL_law_872 : decode cL_law 872 = .ok (.iload_n 3, 1) := by decide +kernel
theorem dL_law_873 : decode cL_law 873 = .ok (.iconst 2, 1) := by decide +kernel
theorem dL_law_874 : decode cL_law 874 = .ok (.iadd, 1) := by decide +kernel
theorem dL_law_875 : decode cL_law 875 = .ok (.iaload, 1) := by decide +kernel
theorem dL_law_876 : decode cL_law 876 = .ok (.aload_n 0, 1) := by decide +kernel
theorem dL_law_877 : decode cL_law 877 = .ok (.iload_n 3, 1) := by decide +kernel
theorem dL_law_878 : decode cL_law 878 = .ok (.iconst 3, 1) := by decide +kernel
theorem dL_law_879 : decode cL_law 879 = .ok (.iadd, 1) := by decide +kernel
theorem dL_law_880 : decode cL_law 880 = .ok (.iaload, 1) := by decide +kernel
theorem dL_law_881 : decode cL_law 881 = .ok (.invokevirtual 103, 3) := by decide +kernel
theorem dL_law_884 : decode cL_law 884 = .ok (.aload_n 2, 1) := by decide +kernel
theorem dL_law_885 : decode cL_law 885 = .ok (.aload_n 0, 1) := by decide +kernel
theorem dL_law_886 : decode cL_law 886 = .ok (.iload_n 3, 1) := by decide +kernel
theorem dL_law_887 : decode cL_law 887 = .ok (.iconst 1, 1) := by decide +kernel
theorem dL_law_888 : decode cL_law 888 = .ok (.iadd, 1) := by decide +kernel
theorem dL_law_889 : decode cL_law 889 = .ok (.iaload, 1) := by decide +kernel
theorem dL_law_890 : decode cL_law 890 = .ok (.aload_n 0, 1) := by decide +kernel
theorem dL_law_891 : decode cL_law 891 = .ok (.iload_n 3, 1) := by decide +kernel
theorem dL_law_892 : decode cL_law 892 = .ok (.iconst 2, 1) := by decide +kernel
theorem dL_law_893 : decode cL_law 893 = .ok (.iadd, 1) := by decide +kernel
theorem dL_law_894 : decode cL_law 894 = .ok (.iaload, 1) := by decide +kernel
theorem dL_law_895 : decode cL_law 895 = .ok (.aload_n 0, 1) := by decide +kernel
theorem dL_law_896 : decode cL_law 896 = .ok (.iload_n 3, 1) := by decide +kernel
theorem dL_law_897 : decode cL_law 897 = .ok (.iconst 3, 1) := by decide +kernel
theorem dL_law_898 : decode cL_law 898 = .ok (.iadd, 1) := by decide +kernel
theorem dL_law_899 : decode cL_law 899 = .ok (.iaload, 1) := by decide +kernel
theorem dL_law_900 : decode cL_law 900 = .ok (.invokevirtual 106, 3) := by decide +kernel
theorem dL_law_903 : decode cL_law 903 = .ok (.if_icmp .eq 240, 3) := by decide +kernel
theorem dL_law_906 : decode cL_law 906 = .ok (.iconst 0, 1) := by decide +kernel
theorem dL_law_907 : decode cL_law 907 = .ok (.ireturn, 1) := by decide +kernel
theorem dL_law_908 : decode cL_law 908 = .ok (.aload_n 1, 1) := by decide +kernel
theorem dL_law_909 : decode cL_law 909 = .ok (.aload_n 0, 1) := by decide +kernel
theorem dL_law_910 : decode cL_law 910 = .ok (.iload_n 3, 1) := by decide +kernel
theorem dL_law_911 : decode cL_law 911 = .ok (.iconst 1, 1) := by decide +kernel
theorem dL_law_912 : decode cL_law 912 = .ok (.iadd, 1) := by decide +kernel
theorem dL_law_913 : decode cL_law 913 = .ok (.iaload, 1) := by decide +kernel
theorem dL_law_914 : decode cL_law 914 = .ok (.aload_n 0, 1) := by decide +kernel
theorem dL_law_915 : decode cL_law 915 = .ok (.iload_n 3, 1) := by decide +kernel
theorem dL_law_916 : decode cL_law 916 = .ok (.iconst 2, 1) := by decide +kernel
theorem dL_law_917 : decode cL_law 917 = .ok (.iadd, 1) := by decide +kernel
theorem dL_law_918 : decode cL_law 918 = .ok (.iaload, 1) := by decide +kernel
theorem dL_law_919 : decode cL_law 919 = .ok (.aload_n 0, 1) := by decide +kernel
theorem dL_law_920 : decode cL_law 920 = .ok (.iload_n 3, 1) := by decide +kernel
theorem dL_law_921 : decode cL_law 921 = .ok (.iconst 3, 1) := by decide +kernel
theorem dL_law_922 : decode cL_law 922 = .ok (.iadd, 1) := by decide +kernel
theorem dL_law_923 : decode cL_law 923 = .ok (.iaload, 1) := by decide +kernel
theorem dL_law_924 : decode cL_law 924 = .ok (.invokevirtual 107, 3) := by decide +kernel
theorem dL_law_927 : decode cL_law 927 = .ok (.aload_n 2, 1) := by decide +kernel
theorem dL_law_928 : decode cL_law 928 = .ok (.aload_n 0, 1) := by decide +kernel
theorem dL_law_929 : decode cL_law 929 = .ok (.iload_n 3, 1) := by decide +kernel
theorem dL_law_930 : decode cL_law 930 = .ok (.iconst 1, 1) := by decide +kernel
theorem dL_law_931 : decode cL_law 931 = .ok (.iadd, 1) := by decide +kernel
theorem dL_law_932 : decode cL_law 932 = .ok (.iaload, 1) := by decide +kernel
theorem dL_law_933 : decode cL_law 933 = .ok (.aload_n 0, 1) := by decide +kernel
theorem dL_law_934 : decode cL_law 934 = .ok (.iload_n 3, 1) := by decide +kernel
theorem dL_law_935 : decode cL_law 935 = .ok (.iconst 2, 1) := by decide +kernel
theorem dL_law_936 : decode cL_law 936 = .ok (.iadd, 1) := by decide +kernel
theorem dL_law_937 : decode cL_law 937 = .ok (.iaload, 1) := by decide +kernel
theorem dL_law_938 : decode cL_law 938 = .ok (.aload_n 0, 1) := by decide +kernel
theorem dL_law_939 : decode cL_law 939 = .ok (.iload_n 3, 1) := by decide +kernel
theorem dL_law_940 : decode cL_law 940 = .ok (.iconst 3, 1) := by decide +kernel
theorem dL_law_941 : decode cL_law 941 = .ok (.iadd, 1) := by decide +kernel
theorem dL_law_942 : decode cL_law 942 = .ok (.iaload, 1) := by decide +kernel
theorem dL_law_943 : decode cL_law 943 = .ok (.invokevirtual 111, 3) := by decide +kernel
theorem dL_law_946 : decode cL_law 946 = .ok (.lcmp, 1) := by decide +kernel
theorem dL_law_947 : decode cL_law 947 = .ok (.ifCond .eq 196, 3) := by decide +kernel
theorem dL_law_950 : decode cL_law 950 = .ok (.iconst 0, 1) := by decide +kernel
theorem dL_law_951 : decode cL_law 951 = .ok (.ireturn, 1) := by decide +kernel
theorem dL_law_952 : decode cL_law 952 = .ok (.aload_n 1, 1) := by decide +kernel
theorem dL_law_953 : decode cL_law 953 = .ok (.aload_n 0, 1) := by decide +kernel
theorem dL_law_954 : decode cL_law 954 = .ok (.iload_n 3, 1) := by decide +kernel
theorem dL_law_955 : decode cL_law 955 = .ok (.iconst 1, 1) := by decide +kernel
theorem dL_law_956 : decode cL_law 956 = .ok (.iadd, 1) := by decide +kernel
theorem dL_law_957 : decode cL_law 957 = .ok (.iaload, 1) := by decide +kernel
theorem dL_law_958 : decode cL_law 958 = .ok (.aload_n 0, 1) := by decide +kernel
theorem dL_law_959 : decode cL_law 959 = .ok (.iload_n 3, 1) := by decide +kernel
theorem dL_law_960 : decode cL_law 960 = .ok (.iconst 2, 1) := by decide +kernel
theorem dL_law_961 : decode cL_law 961 = .ok (.iadd, 1) := by decide +kernel
theorem dL_law_962 : decode cL_law 962 = .ok (.iaload, 1) := by decide +kernel
theorem dL_law_963 : decode cL_law 963 = .ok (.aload_n 0, 1) := by decide +kernel
theorem dL_law_964 : decode cL_law 964 = .ok (.iload_n 3, 1) := by decide +kernel
theorem dL_law_965 : decode cL_law 965 = .ok (.iconst 3, 1) := by decide +kernel
theorem dL_law_966 : decode cL_law 966 = .ok (.iadd, 1) := by decide +kernel
theorem dL_law_967 : decode cL_law 967 = .ok (.iaload, 1) := by decide +kernel
theorem dL_law_968 : decode cL_law 968 = .ok (.aload_n 0, 1) := by decide +kernel
theorem dL_law_969 : decode cL_law 969 = .ok (.iload_n 3, 1) := by decide +kernel
theorem dL_law_970 : decode cL_law 970 = .ok (.iconst 4, 1) := by decide +kernel
theorem dL_law_971 : decode cL_law 971 = .ok (.iadd, 1) := by decide +kernel
theorem dL_law_972 : decode cL_law 972 = .ok (.iaload, 1) := by decide +kernel
theorem dL_law_973 : decode cL_law 973 = .ok (.aload_n 0, 1) := by decide +kernel
theorem dL_law_974 : decode cL_law 974 = .ok (.iload_n 3, 1) := by decide +kernel
theorem dL_law_975 : decode cL_law 975 = .ok (.iconst 5, 1) := by decide +kernel
theorem dL_law_976 : decode cL_law 976 = .ok (.iadd, 1) := by decide +kernel
theorem dL_law_977 : decode cL_law 977 = .ok (.iaload, 1) := by decide +kernel
theorem dL_law_978 : decode cL_law 978 = .ok (.invokevirtual 112, 3) := by decide +kernel
theorem dL_law_981 : decode cL_law 981 = .ok (.aload_n 2, 1) := by decide +kernel
theorem dL_law_982 : decode cL_law 982 = .ok (.aload_n 0, 1) := by decide +kernel
theorem dL_law_983 : decode cL_law 983 = .ok (.iload_n 3, 1) := by decide +kernel
theorem dL_law_984 : decode cL_law 984 = .ok (.iconst 1, 1) := by decide +kernel
theorem dL_law_985 : decode cL_law 985 = .ok (.iadd, 1) := by decide +kernel
theorem dL_law_986 : decode cL_law 986 = .ok (.iaload, 1) := by decide +kernel
theorem dL_law_987 : decode cL_law 987 = .ok (.aload_n 0, 1) := by decide +kernel
theorem dL_law_988 : decode cL_law 988 = .ok (.iload_n 3, 1) := by decide +kernel
theorem dL_law_989 : decode cL_law 989 = .ok (.iconst 2, 1) := by decide +kernel
theorem dL_law_990 : decode cL_law 990 = .ok (.iadd, 1) := by decide +kernel
theorem dL_law_991 : decode cL_law 991 = .ok (.iaload, 1) := by decide +kernel
theorem dL_law_992 : decode cL_law 992 = .ok (.aload_n 0, 1) := by decide +kernel
theorem dL_law_993 : decode cL_law 993 = .ok (.iload_n 3, 1) := by decide +kernel
theorem dL_law_994 : decode cL_law 994 = .ok (.iconst 3, 1) := by decide +kernel
theorem dL_law_995 : decode cL_law 995 = .ok (.iadd, 1) := by decide +kernel
theorem dL_law_996 : decode cL_law 996 = .ok (.iaload, 1) := by decide +kernel
theorem dL_law_997 : decode cL_law 997 = .ok (.aload_n 0, 1) := by decide +kernel
theorem dL_law_998 : decode cL_law 998 = .ok (.iload_n 3, 1) := by decide +kernel
theorem dL_law_999 : decode cL_law 999 = .ok (.iconst 4, 1) := by decide +kernel
theorem dL_law_1000 : decode cL_law 1000 = .ok (.iadd, 1) := by decide +kernel
theorem dL_law_1001 : decode cL_law 1001 = .ok (.iaload, 1) := by decide +kernel
theorem dL_law_1002 : decode cL_law 1002 = .ok (.aload_n 0, 1) := by decide +kernel
theorem dL_law_1003 : decode cL_law 1003 = .ok (.iload_n 3, 1) := by decide +kernel
theorem dL_law_1004 : decode cL_law 1004 = .ok (.iconst 5, 1) := by decide +kernel
theorem dL_law_1005 : decode cL_law 1005 = .ok (.iadd, 1) := by decide +kernel
theorem dL_law_1006 : decode cL_law 1006 = .ok (.iaload, 1) := by decide +kernel
theorem dL_law_1007 : decode cL_law 1007 = .ok (.invokevirtual 116, 3) := by decide +kernel
theorem dL_law_1010 : decode cL_law 1010 = .ok (.if_icmp .eq 133, 3) := by decide +kernel
theorem dL_law_1013 : decode cL_law 1013 = .ok (.iconst 0, 1) := by decide +kernel
theorem dL_law_1014 : decode cL_law 1014 = .ok (.ireturn, 1) := by decide +kernel
theorem dL_law_1015 : decode cL_law 1015 = .ok (.aload_n 1, 1) := by decide +kernel
theorem dL_law_1016 : decode cL_law 1016 = .ok (.aload_n 0, 1) := by decide +kernel
theorem dL_law_1017 : decode cL_law 1017 = .ok (.iload_n 3, 1) := by decide +kernel
theorem dL_law_1018 : decode cL_law 1018 = .ok (.iconst 1, 1) := by decide +kernel
theorem dL_law_1019 : decode cL_law 1019 = .ok (.iadd, 1) := by decide +kernel
theorem dL_law_1020 : decode cL_law 1020 = .ok (.iaload, 1) := by decide +kernel
theorem dL_law_1021 : decode cL_law 1021 = .ok (.invokevirtual 117, 3) := by decide +kernel
theorem dL_law_1024 : decode cL_law 1024 = .ok (.aload_n 2, 1) := by decide +kernel
theorem dL_law_1025 : decode cL_law 1025 = .ok (.aload_n 0, 1) := by decide +kernel
theorem dL_law_1026 : decode cL_law 1026 = .ok (.iload_n 3, 1) := by decide +kernel
theorem dL_law_1027 : decode cL_law 1027 = .ok (.iconst 1, 1) := by decide +kernel
theorem dL_law_1028 : decode cL_law 1028 = .ok (.iadd, 1) := by decide +kernel
theorem dL_law_1029 : decode cL_law 1029 = .ok (.iaload, 1) := by decide +kernel
theorem dL_law_1030 : decode cL_law 1030 = .ok (.invokevirtual 120, 3) := by decide +kernel
theorem dL_law_1033 : decode cL_law 1033 = .ok (.if_icmp .eq 110, 3) := by decide +kernel
theorem dL_law_1036 : decode cL_law 1036 = .ok (.iconst 0, 1) := by decide +kernel
theorem dL_law_1037 : decode cL_law 1037 = .ok (.ireturn, 1) := by decide +kernel
theorem dL_law_1038 : decode cL_law 1038 = .ok (.aload_n 1, 1) := by decide +kernel
theorem dL_law_1039 : decode cL_law 1039 = .ok (.aload_n 0, 1) := by decide +kernel
theorem dL_law_1040 : decode cL_law 1040 = .ok (.iload_n 3, 1) := by decide +kernel
theorem dL_law_1041 : decode cL_law 1041 = .ok (.iconst 1, 1) := by decide +kernel
theorem dL_law_1042 : decode cL_law 1042 = .ok (.iadd, 1) := by decide +kernel
theorem dL_law_1043 : decode cL_law 1043 = .ok (.iaload, 1) := by decide +kernel
theorem dL_law_1044 : decode cL_law 1044 = .ok (.invokevirtual 121, 3) := by decide +kernel
theorem dL_law_1047 : decode cL_law 1047 = .ok (.aload_n 2, 1) := by decide +kernel
theorem dL_law_1048 : decode cL_law 1048 = .ok (.aload_n 0, 1) := by decide +kernel
theorem dL_law_1049 : decode cL_law 1049 = .ok (.iload_n 3, 1) := by decide +kernel
theorem dL_law_1050 : decode cL_law 1050 = .ok (.iconst 1, 1) := by decide +kernel
theorem dL_law_1051 : decode cL_law 1051 = .ok (.iadd, 1) := by decide +kernel
theorem dL_law_1052 : decode cL_law 1052 = .ok (.iaload, 1) := by decide +kernel
theorem dL_law_1053 : decode cL_law 1053 = .ok (.invokevirtual 124, 3) := by decide +kernel
theorem dL_law_1056 : decode cL_law 1056 = .ok (.if_icmp .eq 87, 3) := by decide +kernel
theorem dL_law_1059 : decode cL_law 1059 = .ok (.iconst 0, 1) := by decide +kernel
theorem dL_law_1060 : decode cL_law 1060 = .ok (.ireturn, 1) := by decide +kernel
theorem dL_law_1061 : decode cL_law 1061 = .ok (.aload_n 1, 1) := by decide +kernel
theorem dL_law_1062 : decode cL_law 1062 = .ok (.aload_n 0, 1) := by decide +kernel
theorem dL_law_1063 : decode cL_law 1063 = .ok (.iload_n 3, 1) := by decide +kernel
theorem dL_law_1064 : decode cL_law 1064 = .ok (.iconst 1, 1) := by decide +kernel
theorem dL_law_1065 : decode cL_law 1065 = .ok (.iadd, 1) := by decide +kernel
theorem dL_law_1066 : decode cL_law 1066 = .ok (.iaload, 1) := by decide +kernel
theorem dL_law_1067 : decode cL_law 1067 = .ok (.aload_n 0, 1) := by decide +kernel
theorem dL_law_1068 : decode cL_law 1068 = .ok (.iload_n 3, 1) := by decide +kernel
theorem dL_law_1069 : decode cL_law 1069 = .ok (.iconst 2, 1) := by decide +kernel
theorem dL_law_1070 : decode cL_law 1070 = .ok (.iadd, 1) := by decide +kernel
theorem dL_law_1071 : decode cL_law 1071 = .ok (.iaload, 1) := by decide +kernel
theorem dL_law_1072 : decode cL_law 1072 = .ok (.invokevirtual 125, 3) := by decide +kernel
theorem dL_law_1075 : decode cL_law 1075 = .ok (.aload_n 2, 1) := by decide +kernel
theorem dL_law_1076 : decode cL_law 1076 = .ok (.aload_n 0, 1) := by decide +kernel
theorem dL_law_1077 : decode cL_law 1077 = .ok (.iload_n 3, 1) := by decide +kernel
theorem dL_law_1078 : decode cL_law 1078 = .ok (.iconst 1, 1) := by decide +kernel
theorem dL_law_1079 : decode cL_law 1079 = .ok (.iadd, 1) := by decide +kernel
theorem dL_law_1080 : decode cL_law 1080 = .ok (.iaload, 1) := by decide +kernel
theorem dL_law_1081 : decode cL_law 1081 = .ok (.aload_n 0, 1) := by decide +kernel
theorem dL_law_1082 : decode cL_law 1082 = .ok (.iload_n 3, 1) := by decide +kernel
theorem dL_law_1083 : decode cL_law 1083 = .ok (.iconst 2, 1) := by decide +kernel
theorem dL_law_1084 : decode cL_law 1084 = .ok (.iadd, 1) := by decide +kernel
theorem dL_law_1085 : decode cL_law 1085 = .ok (.iaload, 1) := by decide +kernel
theorem dL_law_1086 : decode cL_law 1086 = .ok (.invokevirtual 128, 3) := by decide +kernel
theorem dL_law_1089 : decode cL_law 1089 = .ok (.if_icmp .eq 54, 3) := by decide +kernel
theorem dL_law_1092 : decode cL_law 1092 = .ok (.iconst 0, 1) := by decide +kernel
theorem dL_law_1093 : decode cL_law 1093 = .ok (.ireturn, 1) := by decide +kernel
theorem dL_law_1094 : decode cL_law 1094 = .ok (.aload_n 1, 1) := by decide +kernel
theorem dL_law_1095 : decode cL_law 1095 = .ok (.invokevirtual 129, 3) := by decide +kernel
theorem dL_law_1098 : decode cL_law 1098 = .ok (.aload_n 2, 1) := by decide +kernel
theorem dL_law_1099 : decode cL_law 1099 = .ok (.invokevirtual 133, 3) := by decide +kernel
theorem dL_law_1102 : decode cL_law 1102 = .ok (.if_icmp .eq 41, 3) := by decide +kernel
theorem dL_law_1105 : decode cL_law 1105 = .ok (.iconst 0, 1) := by decide +kernel
theorem dL_law_1106 : decode cL_law 1106 = .ok (.ireturn, 1) := by decide +kernel
theorem dL_law_1107 : decode cL_law 1107 = .ok (.aload_n 1, 1) := by decide +kernel
theorem dL_law_1108 : decode cL_law 1108 = .ok (.invokevirtual 134, 3) := by decide +kernel
theorem dL_law_1111 : decode cL_law 1111 = .ok (.aload_n 2, 1) := by decide +kernel
theorem dL_law_1112 : decode cL_law 1112 = .ok (.invokevirtual 137, 3) := by decide +kernel
theorem dL_law_1115 : decode cL_law 1115 = .ok (.if_icmp .eq 28, 3) := by decide +kernel
theorem dL_law_1118 : decode cL_law 1118 = .ok (.iconst 0, 1) := by decide +kernel
theorem dL_law_1119 : decode cL_law 1119 = .ok (.ireturn, 1) := by decide +kernel
theorem dL_law_1120 : decode cL_law 1120 = .ok (.aload_n 1, 1) := by decide +kernel
theorem dL_law_1121 : decode cL_law 1121 = .ok (.aload_n 0, 1) := by decide +kernel
theorem dL_law_1122 : decode cL_law 1122 = .ok (.iload_n 3, 1) := by decide +kernel
theorem dL_law_1123 : decode cL_law 1123 = .ok (.iconst 1, 1) := by decide +kernel
theorem dL_law_1124 : decode cL_law 1124 = .ok (.iadd, 1) := by decide +kernel
theorem dL_law_1125 : decode cL_law 1125 = .ok (.iaload, 1) := by decide +kernel
theorem dL_law_1126 : decode cL_law 1126 = .ok (.invokevirtual 138, 3) := by decide +kernel
theorem dL_law_1129 : decode cL_law 1129 = .ok (.aload_n 2, 1) := by decide +kernel
theorem dL_law_1130 : decode cL_law 1130 = .ok (.aload_n 0, 1) := by decide +kernel
theorem dL_law_1131 : decode cL_law 1131 = .ok (.iload_n 3, 1) := by decide +kernel
theorem dL_law_1132 : decode cL_law 1132 = .ok (.iconst 1, 1) := by decide +kernel
theorem dL_law_1133 : decode cL_law 1133 = .ok (.iadd, 1) := by decide +kernel
theorem dL_law_1134 : decode cL_law 1134 = .ok (.iaload, 1) := by decide +kernel
theorem dL_law_1135 : decode cL_law 1135 = .ok (.invokevirtual 141, 3) := by decide +kernel
theorem dL_law_1138 : decode cL_law 1138 = .ok (.if_icmp .eq 5, 3) := by decide +kernel
theorem dL_law_1141 : decode cL_law 1141 = .ok (.iconst 0, 1) := by decide +kernel
theorem dL_law_1142 : decode cL_law 1142 = .ok (.ireturn, 1) := by decide +kernel
theorem dL_law_1143 : decode cL_law 1143 = .ok (.iinc 3 7, 3) := by decide +kernel
theorem dL_law_1146 : decode cL_law 1146 = .ok (.goto (-1128), 3) := by decide +kernel
theorem dL_law_1149 : decode cL_law 1149 = .ok (.iconst 1, 1) := by decide +kernel
theorem dL_law_1150 : decode cL_law 1150 = .ok (.ireturn, 1) := by decide +kernel
end
section
abbrev Mem : Type := Nat → Nat → Int32
/-- one number of a state is put anew -/
def mset (u : Mem) (j i : Nat) (x : Int32) : Mem := fun a b => if a = j ∧ b = i then x else u a b
/-- a whole row of a state is put anew -/
def mrow (u : Mem) (j : Nat) (f : Nat → Int32) : Mem := fun a => if a = j then f else u a
theorem mset_upd (u : Mem) (j i : Nat) (x : Int32) : mset u j i x j = upd (u j) i x := by
  funext b
  simp [mset, upd]
theorem mset_ne {u : Mem} {j i : Nat} {x : Int32} {a : Nat} (h : a ≠ j) : mset u j i x a = u a := by
  funext b
  simp [mset, h]
theorem mset_nei {u : Mem} {j i : Nat} {x : Int32} {a b : Nat} (h : b ≠ i) : mset u j i x a b = u a b := by
  simp [mset, h]
theorem mset_at {u : Mem} {j i : Nat} {x : Int32} : mset u j i x j i = x := by simp [mset]
theorem mrow_at {u : Mem} {j : Nat} {f : Nat → Int32} : mrow u j f j = f := by simp [mrow]
theorem mrow_ne {u : Mem} {j : Nat} {f : Nat → Int32} {a : Nat} (h : a ≠ j) : mrow u j f a = u a := by simp [mrow, h]
/-- ends: an answer, nothing written; an answer, what is then there, nothing else written -/
def qR (v : Option Value) : Array Value → State → Outcome → State → Prop := fun _ st o t => o = .returned v ∧ t.heap = st.heap
def qW (B : State → Prop) (A : Nat → Prop) (v : Option Value) : Array Value → State → Outcome → State → Prop := fun _ st o t => o = .returned v ∧ B t ∧ va_F A st t
abbrev noF : Addr → Prop := fun _ => False
/-- the class's cells, by place -/
def eX (cy : Nat → ClassId) (ad : Nat → Nat) (u : Mem) (i : Nat) : va_E :=
  if i = 0 then .inr (3, [.ref (ad 1), .ref (ad 2), .ref (ad 3), .ref (ad 4), .int (u 0 4), .int (u 0 5), .int (u 0 6), .int (u 0 7), .int (u 0 8)])
  else if i = 1 then .inl (cy 1, 4, .inr (.inr (.inr (.inr (fun j => some (ad (5 + j)))))))
  else if i = 2 then .inl (cy 0, 5, .inl (u 1))
  else if i = 3 then .inl (cy 2, 4, .inr (.inr (.inr (.inr (fun j => some (ad (13 + j)))))))
  else if i = 4 then .inl (cy 3, 8, .inr (.inr (.inr (.inr (fun j => some (ad (17 + j)))))))
  else if i < 9 then .inr (2, [.ref (ad (i + 4)), .int (u 8 (i - 5)), .int (u 9 (i - 5))])
  else if i < 13 then .inl (cy 0, 60, .inl (u (i + 1)))
  else if i < 17 then .inr (0, [.int (u 2 (i - 13)), .int (u 3 (i - 13)), .int (u 4 (i - 13))])
  else .inr (1, [.int (u 5 (i - 17)), .int (u 6 (i - 17)), .int (u 7 (i - 17))])
def wX (cy : Nat → ClassId) (ad : Nat → Nat) (u : Mem) : va_W := (List.range 25).map (fun i => (ad i, eX cy ad u i))
def tyX (cy : Nat → ClassId) : List (ClassId × FieldType) := [(cy 0, .int), (cy 1, .object RX2), (cy 2, .object RX0), (cy 3, .object RX1)]
def XB (D : va_G) (cy : Nat → ClassId) (ad : Nat → Nat) (u : Mem) : State → Prop := fun U => va_P D vwCl (wX cy ad u) U.heap ∧ va_K D vwCl (tyX cy) U
def AX (ad : Nat → Nat) : Nat → Prop := fun q => ∃ i, i < 25 ∧ q = ad i
def XI (ad : Nat → Nat) : Prop := ∀ i j, i < 25 → j < 25 → ad i = ad j → i = j
/-- the reference's cells, by place -/
def lenM (i : Nat) : Nat := if i = 1 then 5 else if i = 5 then 5 else if i = 9 then 8 else if i = 10 then 8 else if i = 11 then 8 else if i = 14 then 240 else if i = 15 then 60 else 4
def eM (cz : ClassId) (bd : Nat → Nat) (v : Mem) (i : Nat) : va_E :=
  if i = 0 then .inr (4, [.int (v 0 0), .int (v 0 1), .ref (bd 1), .int (v 0 3), .ref (bd 2), .ref (bd 3), .ref (bd 4), .int (v 0 7), .int (v 0 8), .int (v 0 9), .ref (bd 5), .ref (bd 6), .ref (bd 7), .ref (bd 8), .int (v 0 14), .int (v 0 15), .int (v 0 16), .int (v 0 17), .int (v 0 18), .ref (bd 9), .ref (bd 10), .ref (bd 11), .ref (bd 12), .ref (bd 13), .ref (bd 14), .ref (bd 15), .int (v 0 26)])
  else .inl (cz, lenM i, .inl (v i))
def wM (cz : ClassId) (bd : Nat → Nat) (v : Mem) : va_W := (List.range 16).map (fun i => (bd i, eM cz bd v i))
def tyM (cz : ClassId) : List (ClassId × FieldType) := [(cz, .int)]
def MB (D : va_G) (cz : ClassId) (bd : Nat → Nat) (v : Mem) : State → Prop := fun U => va_P D vwCl (wM cz bd v) U.heap ∧ va_K D vwCl (tyM cz) U
def AM (bd : Nat → Nat) : Nat → Prop := fun q => ∃ i, i < 16 ∧ q = bd i
def MI (bd : Nat → Nat) : Prop := ∀ i j, i < 16 → j < 16 → bd i = bd j → i = j
theorem w_at {n : Nat} {f : Nat → Nat × va_E} {i : Nat} (h : i < n) : ((List.range n).map f)[i]? = some (f i) := by
  simp [h]
theorem w_set {n : Nat} {f g : Nat → Nat × va_E} {i : Nat} (h : i < n) {x : Nat × va_E} (hx : g i = x) (ho : ∀ j, j < n → j ≠ i → g j = f j) : ((List.range n).map f).set i x = (List.range n).map g := by
  apply List.ext_getElem?
  intro k
  by_cases hk : k < n
  · by_cases hki : k = i
    · subst hki
      rw [List.getElem?_set_self (by simp [hk]), w_at hk, hx]
    · rw [List.getElem?_set_ne (Ne.symm hki), w_at hk, w_at hk, ho k hk hki]
  · rw [List.getElem?_eq_none (by simp; omega), List.getElem?_eq_none (by simp; omega)]
theorem w_D {n : Nat} {ad : Nat → Nat} {f : Nat → va_E} (h : ∀ i j, i < n → j < n → ad i = ad j → i = j) : va_D (fun q => ∃ i, i < n ∧ q = ad i) ((List.range n).map (fun i => (ad i, f i))) := by
  have key : ∀ (i : Nat) (p : Nat × va_E), ((List.range n).map (fun i => (ad i, f i)))[i]? = some p → i < n ∧ p = (ad i, f i) := by
    intro i p hp
    by_cases hi : i < n
    · rw [w_at hi] at hp
      exact ⟨hi, (Option.some.inj hp).symm⟩
    · rw [List.getElem?_eq_none (by simp; omega)] at hp
      cases hp
  refine ⟨fun i j p q hp hq hpq => ?_, fun k q hq => ?_⟩
  · obtain ⟨hi, rfl⟩ := key i p hp
    obtain ⟨hj, rfl⟩ := key j q hq
    exact h i j hi hj hpq
  · obtain ⟨hk, rfl⟩ := key k q hq
    exact ⟨k, hk, rfl⟩
theorem xD {cy : Nat → ClassId} {ad : Nat → Nat} {u : Mem} (h : XI ad) : va_D (AX ad) (wX cy ad u) := w_D h
theorem mD {cz : ClassId} {bd : Nat → Nat} {v : Mem} (h : MI bd) : va_D (AM bd) (wM cz bd v) := w_D h
theorem wX_at {cy : Nat → ClassId} {ad : Nat → Nat} {u : Mem} {i : Nat} (h : i < 25) : (wX cy ad u)[i]? = some (ad i, eX cy ad u i) := w_at h
theorem wM_at {cz : ClassId} {bd : Nat → Nat} {v : Mem} {i : Nat} (h : i < 16) : (wM cz bd v)[i]? = some (bd i, eM cz bd v i) := w_at h
theorem wX_e {cy : Nat → ClassId} {ad : Nat → Nat} {u : Mem} {i : Nat} {x : va_E} (h : i < 25) (e : eX cy ad u i = x) : (wX cy ad u)[i]? = some (ad i, x) := by rw [wX_at h, e]
theorem wM_e {cz : ClassId} {bd : Nat → Nat} {v : Mem} {i : Nat} {x : va_E} (h : i < 16) (e : eM cz bd v i = x) : (wM cz bd v)[i]? = some (bd i, x) := by rw [wM_at h, e]
theorem wX_set {cy : Nat → ClassId} {ad : Nat → Nat} {u u' : Mem} {i : Nat} {x : va_E} (h : i < 25) (hx : eX cy ad u' i = x) (ho : ∀ j, j < 25 → j ≠ i → eX cy ad u' j = eX cy ad u j) : (wX cy ad u).set i (ad i, x) = wX cy ad u' :=
  w_set h (by rw [hx]) (fun j hj hne => by rw [ho j hj hne])
theorem wM_set {cz : ClassId} {bd : Nat → Nat} {v v' : Mem} {i : Nat} {x : va_E} (h : i < 16) (hx : eM cz bd v' i = x) (ho : ∀ j, j < 16 → j ≠ i → eM cz bd v' j = eM cz bd v j) : (wM cz bd v).set i (bd i, x) = wM cz bd v' :=
  w_set h (by rw [hx]) (fun j hj hne => by rw [ho j hj hne])
theorem eX_sh {cy : Nat → ClassId} {ad : Nat → Nat} {u : Mem} {k : Nat} (h : k < 4) : eX cy ad u (5 + k) = .inr (2, [.ref (ad (9 + k)), .int (u 8 k), .int (u 9 k)]) := by
  unfold eX
  rw [if_neg (by omega), if_neg (by omega), if_neg (by omega), if_neg (by omega), if_neg (by omega), if_pos (by omega), show 5 + k + 4 = 9 + k by omega, show 5 + k - 5 = k by omega]
theorem eX_ce {cy : Nat → ClassId} {ad : Nat → Nat} {u : Mem} {k : Nat} (h : k < 4) : eX cy ad u (9 + k) = .inl (cy 0, 60, .inl (u (10 + k))) := by
  unfold eX
  rw [if_neg (by omega), if_neg (by omega), if_neg (by omega), if_neg (by omega), if_neg (by omega), if_neg (by omega), if_pos (by omega), show 9 + k + 1 = 10 + k by omega]
theorem eX_pr {cy : Nat → ClassId} {ad : Nat → Nat} {u : Mem} {k : Nat} (h : k < 4) : eX cy ad u (13 + k) = .inr (0, [.int (u 2 k), .int (u 3 k), .int (u 4 k)]) := by
  unfold eX
  rw [if_neg (by omega), if_neg (by omega), if_neg (by omega), if_neg (by omega), if_neg (by omega), if_neg (by omega), if_neg (by omega), if_pos (by omega), show 13 + k - 13 = k by omega]
theorem eX_rd {cy : Nat → ClassId} {ad : Nat → Nat} {u : Mem} {k : Nat} (h : k < 8) : eX cy ad u (17 + k) = .inr (1, [.int (u 5 k), .int (u 6 k), .int (u 7 k)]) := by
  unfold eX
  rw [if_neg (by omega), if_neg (by omega), if_neg (by omega), if_neg (by omega), if_neg (by omega), if_neg (by omega), if_neg (by omega), if_neg (by omega), show 17 + k - 17 = k by omega]
theorem eM_ar {cz : ClassId} {bd : Nat → Nat} {v : Mem} {i n : Nat} (h : i ≠ 0) (hn : lenM i = n) : eM cz bd v i = .inl (cz, n, .inl (v i)) := by
  subst hn
  unfold eM
  rw [if_neg h]
/-- two states that agree on what a place shows -/
theorem eX_congr {cy : Nat → ClassId} {ad : Nat → Nat} {u u' : Mem} {i : Nat} (hi : i < 25) (h0 : i = 0 → ∀ k, u' 0 k = u 0 k) (h1 : i = 2 → u' 1 = u 1) (h2 : ∀ k, k < 4 → i = 5 + k → u' 8 k = u 8 k ∧ u' 9 k = u 9 k) (h3 : ∀ k, k < 4 → i = 9 + k → u' (10 + k) = u (10 + k)) (h4 : ∀ k, k < 4 → i = 13 + k → u' 2 k = u 2 k ∧ u' 3 k = u 3 k ∧ u' 4 k = u 4 k) (h5 : ∀ k, k < 8 → i = 17 + k → u' 5 k = u 5 k ∧ u' 6 k = u 6 k ∧ u' 7 k = u 7 k) : eX cy ad u' i = eX cy ad u i := by
  rcases (show i = 0 ∨ i = 1 ∨ i = 2 ∨ i = 3 ∨ i = 4 ∨ (∃ k, k < 4 ∧ i = 5 + k) ∨ (∃ k, k < 4 ∧ i = 9 + k) ∨ (∃ k, k < 4 ∧ i = 13 + k) ∨ (∃ k, k < 8 ∧ i = 17 + k) by
    rcases Nat.lt_or_ge i 5 with q | q
    · omega
    rcases Nat.lt_or_ge i 9 with q2 | q2
    · exact Or.inr (Or.inr (Or.inr (Or.inr (Or.inr (Or.inl ⟨i - 5, by omega, by omega⟩)))))
    rcases Nat.lt_or_ge i 13 with q3 | q3
    · exact Or.inr (Or.inr (Or.inr (Or.inr (Or.inr (Or.inr (Or.inl ⟨i - 9, by omega, by omega⟩))))))
    rcases Nat.lt_or_ge i 17 with q4 | q4
    · exact Or.inr (Or.inr (Or.inr (Or.inr (Or.inr (Or.inr (Or.inr (Or.inl ⟨i - 13, by omega, by omega⟩)))))))
    · exact Or.inr (Or.inr (Or.inr (Or.inr (Or.inr (Or.inr (Or.inr (Or.inr ⟨i - 17, by omega, by omega⟩)))))))) with rfl | rfl | rfl | rfl | rfl | ⟨k, hk, rfl⟩ | ⟨k, hk, rfl⟩ | ⟨k, hk, rfl⟩ | ⟨k, hk, rfl⟩
  · have h := h0 rfl
    simp [eX, h]
  · rfl
  · have h := h1 rfl
    simp [eX, h]
  · rfl
  · rfl
  · rw [eX_sh hk, eX_sh hk, (h2 k hk rfl).1, (h2 k hk rfl).2]
  · rw [eX_ce hk, eX_ce hk, h3 k hk rfl]
  · rw [eX_pr hk, eX_pr hk, (h4 k hk rfl).1, (h4 k hk rfl).2.1, (h4 k hk rfl).2.2]
  · rw [eX_rd hk, eX_rd hk, (h5 k hk rfl).1, (h5 k hk rfl).2.1, (h5 k hk rfl).2.2]
theorem eM_congr {cz : ClassId} {bd : Nat → Nat} {v v' : Mem} {i : Nat} (h0 : i = 0 → ∀ k, v' 0 k = v 0 k) (h1 : i ≠ 0 → v' i = v i) : eM cz bd v' i = eM cz bd v i := by
  by_cases hi : i = 0
  · subst hi
    have h := h0 rfl
    simp [eM, h]
  · unfold eM
    rw [if_neg hi, if_neg hi, h1 hi]
theorem us_S4 {cy : Nat → ClassId} {ad : Nat → Nat} {u : Mem} {x : Int32} : (wX cy ad u).set 0 (ad 0, .inr (3, [.ref (ad 1), .ref (ad 2), .ref (ad 3), .ref (ad 4), .int x, .int (u 0 5), .int (u 0 6), .int (u 0 7), .int (u 0 8)])) = wX cy ad (mset u 0 4 x) := by
  refine wX_set (by decide) (by simp [eX, mset]) (fun q hq hne => eX_congr hq ?_ ?_ ?_ ?_ ?_ ?_)
  · intro h; exact absurd h hne
  all_goals (intros; simp [mset_ne])
theorem us_S5 {cy : Nat → ClassId} {ad : Nat → Nat} {u : Mem} {x : Int32} : (wX cy ad u).set 0 (ad 0, .inr (3, [.ref (ad 1), .ref (ad 2), .ref (ad 3), .ref (ad 4), .int (u 0 4), .int x, .int (u 0 6), .int (u 0 7), .int (u 0 8)])) = wX cy ad (mset u 0 5 x) := by
  refine wX_set (by decide) (by simp [eX, mset]) (fun q hq hne => eX_congr hq ?_ ?_ ?_ ?_ ?_ ?_)
  · intro h; exact absurd h hne
  all_goals (intros; simp [mset_ne])
theorem us_S6 {cy : Nat → ClassId} {ad : Nat → Nat} {u : Mem} {x : Int32} : (wX cy ad u).set 0 (ad 0, .inr (3, [.ref (ad 1), .ref (ad 2), .ref (ad 3), .ref (ad 4), .int (u 0 4), .int (u 0 5), .int x, .int (u 0 7), .int (u 0 8)])) = wX cy ad (mset u 0 6 x) := by
  refine wX_set (by decide) (by simp [eX, mset]) (fun q hq hne => eX_congr hq ?_ ?_ ?_ ?_ ?_ ?_)
  · intro h; exact absurd h hne
  all_goals (intros; simp [mset_ne])
theorem us_S7 {cy : Nat → ClassId} {ad : Nat → Nat} {u : Mem} {x : Int32} : (wX cy ad u).set 0 (ad 0, .inr (3, [.ref (ad 1), .ref (ad 2), .ref (ad 3), .ref (ad 4), .int (u 0 4), .int (u 0 5), .int (u 0 6), .int x, .int (u 0 8)])) = wX cy ad (mset u 0 7 x) := by
  refine wX_set (by decide) (by simp [eX, mset]) (fun q hq hne => eX_congr hq ?_ ?_ ?_ ?_ ?_ ?_)
  · intro h; exact absurd h hne
  all_goals (intros; simp [mset_ne])
theorem us_S8 {cy : Nat → ClassId} {ad : Nat → Nat} {u : Mem} {x : Int32} : (wX cy ad u).set 0 (ad 0, .inr (3, [.ref (ad 1), .ref (ad 2), .ref (ad 3), .ref (ad 4), .int (u 0 4), .int (u 0 5), .int (u 0 6), .int (u 0 7), .int x])) = wX cy ad (mset u 0 8 x) := by
  refine wX_set (by decide) (by simp [eX, mset]) (fun q hq hne => eX_congr hq ?_ ?_ ?_ ?_ ?_ ?_)
  · intro h; exact absurd h hne
  all_goals (intros; simp [mset_ne])
theorem us_ch {cy : Nat → ClassId} {ad : Nat → Nat} {u : Mem} {i : Nat} {x : Int32} : (wX cy ad u).set 2 (ad 2, .inl (cy 0, 5, .inl (upd (u 1) i x))) = wX cy ad (mset u 1 i x) := by
  refine wX_set (by decide) (by simp [eX, mset_upd]) (fun q hq hne => eX_congr hq ?_ ?_ ?_ ?_ ?_ ?_)
  · intros; simp [mset_ne]
  · intro h; exact absurd h hne
  all_goals (intros; first | (rw [mset_ne (by omega)]; done) | (simp [mset_ne]; done) | (rw [mset_ne (by omega), mset_ne (by omega)]; exact ⟨rfl, rfl⟩) | (rw [mset_ne (by omega), mset_ne (by omega), mset_ne (by omega)]; exact ⟨rfl, rfl, rfl⟩))
theorem us_ce {cy : Nat → ClassId} {ad : Nat → Nat} {u : Mem} {k i : Nat} (hk : k < 4) {x : Int32} : (wX cy ad u).set (9 + k) (ad (9 + k), .inl (cy 0, 60, .inl (upd (u (10 + k)) i x))) = wX cy ad (mset u (10 + k) i x) := by
  refine wX_set (by omega) (by rw [eX_ce hk, mset_upd]) (fun q hq hne => eX_congr hq ?_ ?_ ?_ ?_ ?_ ?_)
  · intros; rw [mset_ne (by omega)]
  · intros; rw [mset_ne (by omega)]
  · intros; rw [mset_ne (by omega), mset_ne (by omega)]; exact ⟨rfl, rfl⟩
  · intro z hz h; rw [mset_ne (by omega)]
  · intros; rw [mset_ne (by omega), mset_ne (by omega), mset_ne (by omega)]; exact ⟨rfl, rfl, rfl⟩
  · intros; rw [mset_ne (by omega), mset_ne (by omega), mset_ne (by omega)]; exact ⟨rfl, rfl, rfl⟩
theorem us_row {cy : Nat → ClassId} {ad : Nat → Nat} {u : Mem} {k : Nat} (hk : k < 4) {f : Nat → Int32} : (wX cy ad u).set (9 + k) (ad (9 + k), .inl (cy 0, 60, .inl f)) = wX cy ad (mrow u (10 + k) f) := by
  refine wX_set (by omega) (by rw [eX_ce hk, mrow_at]) (fun q hq hne => eX_congr hq ?_ ?_ ?_ ?_ ?_ ?_)
  · intros; rw [mrow_ne (by omega)]
  · intros; rw [mrow_ne (by omega)]
  · intros; rw [mrow_ne (by omega), mrow_ne (by omega)]; exact ⟨rfl, rfl⟩
  · intro z hz h; rw [mrow_ne (by omega)]
  · intros; rw [mrow_ne (by omega), mrow_ne (by omega), mrow_ne (by omega)]; exact ⟨rfl, rfl, rfl⟩
  · intros; rw [mrow_ne (by omega), mrow_ne (by omega), mrow_ne (by omega)]; exact ⟨rfl, rfl, rfl⟩
theorem us_P0 {cy : Nat → ClassId} {ad : Nat → Nat} {u : Mem} {k : Nat} (hk : k < 4) {x : Int32} : (wX cy ad u).set (13 + k) (ad (13 + k), .inr (0, [.int x, .int (u 3 k), .int (u 4 k)])) = wX cy ad (mset u 2 k x) := by
  refine wX_set (by omega) (by rw [eX_pr hk]; simp [mset]) (fun q hq hne => eX_congr hq ?_ ?_ ?_ ?_ ?_ ?_)
  · intros; rw [mset_ne (by omega)]
  · intros; rw [mset_ne (by omega)]
  · intro z hz h; (try rw [mset_nei (by omega), mset_nei (by omega)]); (try rw [mset_ne (by omega), mset_ne (by omega)]); exact ⟨rfl, rfl⟩
  · intros; rw [mset_ne (by omega)]
  · intro z hz h; (first | rw [mset_nei (by omega), mset_nei (by omega), mset_nei (by omega)] | rw [mset_ne (by omega), mset_ne (by omega), mset_ne (by omega)]); exact ⟨rfl, rfl, rfl⟩
  · intro z hz h; (first | rw [mset_nei (by omega), mset_nei (by omega), mset_nei (by omega)] | rw [mset_ne (by omega), mset_ne (by omega), mset_ne (by omega)]); exact ⟨rfl, rfl, rfl⟩
theorem us_P1 {cy : Nat → ClassId} {ad : Nat → Nat} {u : Mem} {k : Nat} (hk : k < 4) {x : Int32} : (wX cy ad u).set (13 + k) (ad (13 + k), .inr (0, [.int (u 2 k), .int x, .int (u 4 k)])) = wX cy ad (mset u 3 k x) := by
  refine wX_set (by omega) (by rw [eX_pr hk]; simp [mset]) (fun q hq hne => eX_congr hq ?_ ?_ ?_ ?_ ?_ ?_)
  · intros; rw [mset_ne (by omega)]
  · intros; rw [mset_ne (by omega)]
  · intro z hz h; (try rw [mset_nei (by omega), mset_nei (by omega)]); (try rw [mset_ne (by omega), mset_ne (by omega)]); exact ⟨rfl, rfl⟩
  · intros; rw [mset_ne (by omega)]
  · intro z hz h; (first | rw [mset_nei (by omega), mset_nei (by omega), mset_nei (by omega)] | rw [mset_ne (by omega), mset_ne (by omega), mset_ne (by omega)]); exact ⟨rfl, rfl, rfl⟩
  · intro z hz h; (first | rw [mset_nei (by omega), mset_nei (by omega), mset_nei (by omega)] | rw [mset_ne (by omega), mset_ne (by omega), mset_ne (by omega)]); exact ⟨rfl, rfl, rfl⟩
theorem us_P2 {cy : Nat → ClassId} {ad : Nat → Nat} {u : Mem} {k : Nat} (hk : k < 4) {x : Int32} : (wX cy ad u).set (13 + k) (ad (13 + k), .inr (0, [.int (u 2 k), .int (u 3 k), .int x])) = wX cy ad (mset u 4 k x) := by
  refine wX_set (by omega) (by rw [eX_pr hk]; simp [mset]) (fun q hq hne => eX_congr hq ?_ ?_ ?_ ?_ ?_ ?_)
  · intros; rw [mset_ne (by omega)]
  · intros; rw [mset_ne (by omega)]
  · intro z hz h; (try rw [mset_nei (by omega), mset_nei (by omega)]); (try rw [mset_ne (by omega), mset_ne (by omega)]); exact ⟨rfl, rfl⟩
  · intros; rw [mset_ne (by omega)]
  · intro z hz h; (first | rw [mset_nei (by omega), mset_nei (by omega), mset_nei (by omega)] | rw [mset_ne (by omega), mset_ne (by omega), mset_ne (by omega)]); exact ⟨rfl, rfl, rfl⟩
  · intro z hz h; (first | rw [mset_nei (by omega), mset_nei (by omega), mset_nei (by omega)] | rw [mset_ne (by omega), mset_ne (by omega), mset_ne (by omega)]); exact ⟨rfl, rfl, rfl⟩
theorem us_G0 {cy : Nat → ClassId} {ad : Nat → Nat} {u : Mem} {k : Nat} (hk : k < 8) {x : Int32} : (wX cy ad u).set (17 + k) (ad (17 + k), .inr (1, [.int x, .int (u 6 k), .int (u 7 k)])) = wX cy ad (mset u 5 k x) := by
  refine wX_set (by omega) (by rw [eX_rd hk]; simp [mset]) (fun q hq hne => eX_congr hq ?_ ?_ ?_ ?_ ?_ ?_)
  · intros; rw [mset_ne (by omega)]
  · intros; rw [mset_ne (by omega)]
  · intro z hz h; (try rw [mset_nei (by omega), mset_nei (by omega)]); (try rw [mset_ne (by omega), mset_ne (by omega)]); exact ⟨rfl, rfl⟩
  · intros; rw [mset_ne (by omega)]
  · intro z hz h; (first | rw [mset_nei (by omega), mset_nei (by omega), mset_nei (by omega)] | rw [mset_ne (by omega), mset_ne (by omega), mset_ne (by omega)]); exact ⟨rfl, rfl, rfl⟩
  · intro z hz h; (first | rw [mset_nei (by omega), mset_nei (by omega), mset_nei (by omega)] | rw [mset_ne (by omega), mset_ne (by omega), mset_ne (by omega)]); exact ⟨rfl, rfl, rfl⟩
theorem us_G1 {cy : Nat → ClassId} {ad : Nat → Nat} {u : Mem} {k : Nat} (hk : k < 8) {x : Int32} : (wX cy ad u).set (17 + k) (ad (17 + k), .inr (1, [.int (u 5 k), .int x, .int (u 7 k)])) = wX cy ad (mset u 6 k x) := by
  refine wX_set (by omega) (by rw [eX_rd hk]; simp [mset]) (fun q hq hne => eX_congr hq ?_ ?_ ?_ ?_ ?_ ?_)
  · intros; rw [mset_ne (by omega)]
  · intros; rw [mset_ne (by omega)]
  · intro z hz h; (try rw [mset_nei (by omega), mset_nei (by omega)]); (try rw [mset_ne (by omega), mset_ne (by omega)]); exact ⟨rfl, rfl⟩
  · intros; rw [mset_ne (by omega)]
  · intro z hz h; (first | rw [mset_nei (by omega), mset_nei (by omega), mset_nei (by omega)] | rw [mset_ne (by omega), mset_ne (by omega), mset_ne (by omega)]); exact ⟨rfl, rfl, rfl⟩
  · intro z hz h; (first | rw [mset_nei (by omega), mset_nei (by omega), mset_nei (by omega)] | rw [mset_ne (by omega), mset_ne (by omega), mset_ne (by omega)]); exact ⟨rfl, rfl, rfl⟩
theorem us_G2 {cy : Nat → ClassId} {ad : Nat → Nat} {u : Mem} {k : Nat} (hk : k < 8) {x : Int32} : (wX cy ad u).set (17 + k) (ad (17 + k), .inr (1, [.int (u 5 k), .int (u 6 k), .int x])) = wX cy ad (mset u 7 k x) := by
  refine wX_set (by omega) (by rw [eX_rd hk]; simp [mset]) (fun q hq hne => eX_congr hq ?_ ?_ ?_ ?_ ?_ ?_)
  · intros; rw [mset_ne (by omega)]
  · intros; rw [mset_ne (by omega)]
  · intro z hz h; (try rw [mset_nei (by omega), mset_nei (by omega)]); (try rw [mset_ne (by omega), mset_ne (by omega)]); exact ⟨rfl, rfl⟩
  · intros; rw [mset_ne (by omega)]
  · intro z hz h; (first | rw [mset_nei (by omega), mset_nei (by omega), mset_nei (by omega)] | rw [mset_ne (by omega), mset_ne (by omega), mset_ne (by omega)]); exact ⟨rfl, rfl, rfl⟩
  · intro z hz h; (first | rw [mset_nei (by omega), mset_nei (by omega), mset_nei (by omega)] | rw [mset_ne (by omega), mset_ne (by omega), mset_ne (by omega)]); exact ⟨rfl, rfl, rfl⟩
theorem us_H0 {cy : Nat → ClassId} {ad : Nat → Nat} {u : Mem} {k : Nat} (hk : k < 4) {x : Int32} : (wX cy ad u).set (5 + k) (ad (5 + k), .inr (2, [.ref (ad (9 + k)), .int x, .int (u 9 k)])) = wX cy ad (mset u 8 k x) := by
  refine wX_set (by omega) (by rw [eX_sh hk]; simp [mset]) (fun q hq hne => eX_congr hq ?_ ?_ ?_ ?_ ?_ ?_)
  · intros; rw [mset_ne (by omega)]
  · intros; rw [mset_ne (by omega)]
  · intro z hz h; (try rw [mset_nei (by omega), mset_nei (by omega)]); (try rw [mset_ne (by omega), mset_ne (by omega)]); exact ⟨rfl, rfl⟩
  · intros; rw [mset_ne (by omega)]
  · intro z hz h; (first | rw [mset_nei (by omega), mset_nei (by omega), mset_nei (by omega)] | rw [mset_ne (by omega), mset_ne (by omega), mset_ne (by omega)]); exact ⟨rfl, rfl, rfl⟩
  · intro z hz h; (first | rw [mset_nei (by omega), mset_nei (by omega), mset_nei (by omega)] | rw [mset_ne (by omega), mset_ne (by omega), mset_ne (by omega)]); exact ⟨rfl, rfl, rfl⟩
theorem us_H1 {cy : Nat → ClassId} {ad : Nat → Nat} {u : Mem} {k : Nat} (hk : k < 4) {x : Int32} : (wX cy ad u).set (5 + k) (ad (5 + k), .inr (2, [.ref (ad (9 + k)), .int (u 8 k), .int x])) = wX cy ad (mset u 9 k x) := by
  refine wX_set (by omega) (by rw [eX_sh hk]; simp [mset]) (fun q hq hne => eX_congr hq ?_ ?_ ?_ ?_ ?_ ?_)
  · intros; rw [mset_ne (by omega)]
  · intros; rw [mset_ne (by omega)]
  · intro z hz h; (try rw [mset_nei (by omega), mset_nei (by omega)]); (try rw [mset_ne (by omega), mset_ne (by omega)]); exact ⟨rfl, rfl⟩
  · intros; rw [mset_ne (by omega)]
  · intro z hz h; (first | rw [mset_nei (by omega), mset_nei (by omega), mset_nei (by omega)] | rw [mset_ne (by omega), mset_ne (by omega), mset_ne (by omega)]); exact ⟨rfl, rfl, rfl⟩
  · intro z hz h; (first | rw [mset_nei (by omega), mset_nei (by omega), mset_nei (by omega)] | rw [mset_ne (by omega), mset_ne (by omega), mset_ne (by omega)]); exact ⟨rfl, rfl, rfl⟩
theorem um_S0 {cz : ClassId} {bd : Nat → Nat} {v : Mem} {x : Int32} : (wM cz bd v).set 0 (bd 0, .inr (4, [.int x, .int (v 0 1), .ref (bd 1), .int (v 0 3), .ref (bd 2), .ref (bd 3), .ref (bd 4), .int (v 0 7), .int (v 0 8), .int (v 0 9), .ref (bd 5), .ref (bd 6), .ref (bd 7), .ref (bd 8), .int (v 0 14), .int (v 0 15), .int (v 0 16), .int (v 0 17), .int (v 0 18), .ref (bd 9), .ref (bd 10), .ref (bd 11), .ref (bd 12), .ref (bd 13), .ref (bd 14), .ref (bd 15), .int (v 0 26)])) = wM cz bd (mset v 0 0 x) := by
  refine wM_set (by decide) (by simp [eM, mset]) (fun q hq hne => eM_congr ?_ ?_)
  · intro h; exact absurd h hne
  · intro h; rw [mset_ne h]
theorem um_S1 {cz : ClassId} {bd : Nat → Nat} {v : Mem} {x : Int32} : (wM cz bd v).set 0 (bd 0, .inr (4, [.int (v 0 0), .int x, .ref (bd 1), .int (v 0 3), .ref (bd 2), .ref (bd 3), .ref (bd 4), .int (v 0 7), .int (v 0 8), .int (v 0 9), .ref (bd 5), .ref (bd 6), .ref (bd 7), .ref (bd 8), .int (v 0 14), .int (v 0 15), .int (v 0 16), .int (v 0 17), .int (v 0 18), .ref (bd 9), .ref (bd 10), .ref (bd 11), .ref (bd 12), .ref (bd 13), .ref (bd 14), .ref (bd 15), .int (v 0 26)])) = wM cz bd (mset v 0 1 x) := by
  refine wM_set (by decide) (by simp [eM, mset]) (fun q hq hne => eM_congr ?_ ?_)
  · intro h; exact absurd h hne
  · intro h; rw [mset_ne h]
theorem um_S3 {cz : ClassId} {bd : Nat → Nat} {v : Mem} {x : Int32} : (wM cz bd v).set 0 (bd 0, .inr (4, [.int (v 0 0), .int (v 0 1), .ref (bd 1), .int x, .ref (bd 2), .ref (bd 3), .ref (bd 4), .int (v 0 7), .int (v 0 8), .int (v 0 9), .ref (bd 5), .ref (bd 6), .ref (bd 7), .ref (bd 8), .int (v 0 14), .int (v 0 15), .int (v 0 16), .int (v 0 17), .int (v 0 18), .ref (bd 9), .ref (bd 10), .ref (bd 11), .ref (bd 12), .ref (bd 13), .ref (bd 14), .ref (bd 15), .int (v 0 26)])) = wM cz bd (mset v 0 3 x) := by
  refine wM_set (by decide) (by simp [eM, mset]) (fun q hq hne => eM_congr ?_ ?_)
  · intro h; exact absurd h hne
  · intro h; rw [mset_ne h]
theorem um_S7 {cz : ClassId} {bd : Nat → Nat} {v : Mem} {x : Int32} : (wM cz bd v).set 0 (bd 0, .inr (4, [.int (v 0 0), .int (v 0 1), .ref (bd 1), .int (v 0 3), .ref (bd 2), .ref (bd 3), .ref (bd 4), .int x, .int (v 0 8), .int (v 0 9), .ref (bd 5), .ref (bd 6), .ref (bd 7), .ref (bd 8), .int (v 0 14), .int (v 0 15), .int (v 0 16), .int (v 0 17), .int (v 0 18), .ref (bd 9), .ref (bd 10), .ref (bd 11), .ref (bd 12), .ref (bd 13), .ref (bd 14), .ref (bd 15), .int (v 0 26)])) = wM cz bd (mset v 0 7 x) := by
  refine wM_set (by decide) (by simp [eM, mset]) (fun q hq hne => eM_congr ?_ ?_)
  · intro h; exact absurd h hne
  · intro h; rw [mset_ne h]
theorem um_S8 {cz : ClassId} {bd : Nat → Nat} {v : Mem} {x : Int32} : (wM cz bd v).set 0 (bd 0, .inr (4, [.int (v 0 0), .int (v 0 1), .ref (bd 1), .int (v 0 3), .ref (bd 2), .ref (bd 3), .ref (bd 4), .int (v 0 7), .int x, .int (v 0 9), .ref (bd 5), .ref (bd 6), .ref (bd 7), .ref (bd 8), .int (v 0 14), .int (v 0 15), .int (v 0 16), .int (v 0 17), .int (v 0 18), .ref (bd 9), .ref (bd 10), .ref (bd 11), .ref (bd 12), .ref (bd 13), .ref (bd 14), .ref (bd 15), .int (v 0 26)])) = wM cz bd (mset v 0 8 x) := by
  refine wM_set (by decide) (by simp [eM, mset]) (fun q hq hne => eM_congr ?_ ?_)
  · intro h; exact absurd h hne
  · intro h; rw [mset_ne h]
theorem um_S9 {cz : ClassId} {bd : Nat → Nat} {v : Mem} {x : Int32} : (wM cz bd v).set 0 (bd 0, .inr (4, [.int (v 0 0), .int (v 0 1), .ref (bd 1), .int (v 0 3), .ref (bd 2), .ref (bd 3), .ref (bd 4), .int (v 0 7), .int (v 0 8), .int x, .ref (bd 5), .ref (bd 6), .ref (bd 7), .ref (bd 8), .int (v 0 14), .int (v 0 15), .int (v 0 16), .int (v 0 17), .int (v 0 18), .ref (bd 9), .ref (bd 10), .ref (bd 11), .ref (bd 12), .ref (bd 13), .ref (bd 14), .ref (bd 15), .int (v 0 26)])) = wM cz bd (mset v 0 9 x) := by
  refine wM_set (by decide) (by simp [eM, mset]) (fun q hq hne => eM_congr ?_ ?_)
  · intro h; exact absurd h hne
  · intro h; rw [mset_ne h]
theorem um_S14 {cz : ClassId} {bd : Nat → Nat} {v : Mem} {x : Int32} : (wM cz bd v).set 0 (bd 0, .inr (4, [.int (v 0 0), .int (v 0 1), .ref (bd 1), .int (v 0 3), .ref (bd 2), .ref (bd 3), .ref (bd 4), .int (v 0 7), .int (v 0 8), .int (v 0 9), .ref (bd 5), .ref (bd 6), .ref (bd 7), .ref (bd 8), .int x, .int (v 0 15), .int (v 0 16), .int (v 0 17), .int (v 0 18), .ref (bd 9), .ref (bd 10), .ref (bd 11), .ref (bd 12), .ref (bd 13), .ref (bd 14), .ref (bd 15), .int (v 0 26)])) = wM cz bd (mset v 0 14 x) := by
  refine wM_set (by decide) (by simp [eM, mset]) (fun q hq hne => eM_congr ?_ ?_)
  · intro h; exact absurd h hne
  · intro h; rw [mset_ne h]
theorem um_S15 {cz : ClassId} {bd : Nat → Nat} {v : Mem} {x : Int32} : (wM cz bd v).set 0 (bd 0, .inr (4, [.int (v 0 0), .int (v 0 1), .ref (bd 1), .int (v 0 3), .ref (bd 2), .ref (bd 3), .ref (bd 4), .int (v 0 7), .int (v 0 8), .int (v 0 9), .ref (bd 5), .ref (bd 6), .ref (bd 7), .ref (bd 8), .int (v 0 14), .int x, .int (v 0 16), .int (v 0 17), .int (v 0 18), .ref (bd 9), .ref (bd 10), .ref (bd 11), .ref (bd 12), .ref (bd 13), .ref (bd 14), .ref (bd 15), .int (v 0 26)])) = wM cz bd (mset v 0 15 x) := by
  refine wM_set (by decide) (by simp [eM, mset]) (fun q hq hne => eM_congr ?_ ?_)
  · intro h; exact absurd h hne
  · intro h; rw [mset_ne h]
theorem um_S16 {cz : ClassId} {bd : Nat → Nat} {v : Mem} {x : Int32} : (wM cz bd v).set 0 (bd 0, .inr (4, [.int (v 0 0), .int (v 0 1), .ref (bd 1), .int (v 0 3), .ref (bd 2), .ref (bd 3), .ref (bd 4), .int (v 0 7), .int (v 0 8), .int (v 0 9), .ref (bd 5), .ref (bd 6), .ref (bd 7), .ref (bd 8), .int (v 0 14), .int (v 0 15), .int x, .int (v 0 17), .int (v 0 18), .ref (bd 9), .ref (bd 10), .ref (bd 11), .ref (bd 12), .ref (bd 13), .ref (bd 14), .ref (bd 15), .int (v 0 26)])) = wM cz bd (mset v 0 16 x) := by
  refine wM_set (by decide) (by simp [eM, mset]) (fun q hq hne => eM_congr ?_ ?_)
  · intro h; exact absurd h hne
  · intro h; rw [mset_ne h]
theorem um_S17 {cz : ClassId} {bd : Nat → Nat} {v : Mem} {x : Int32} : (wM cz bd v).set 0 (bd 0, .inr (4, [.int (v 0 0), .int (v 0 1), .ref (bd 1), .int (v 0 3), .ref (bd 2), .ref (bd 3), .ref (bd 4), .int (v 0 7), .int (v 0 8), .int (v 0 9), .ref (bd 5), .ref (bd 6), .ref (bd 7), .ref (bd 8), .int (v 0 14), .int (v 0 15), .int (v 0 16), .int x, .int (v 0 18), .ref (bd 9), .ref (bd 10), .ref (bd 11), .ref (bd 12), .ref (bd 13), .ref (bd 14), .ref (bd 15), .int (v 0 26)])) = wM cz bd (mset v 0 17 x) := by
  refine wM_set (by decide) (by simp [eM, mset]) (fun q hq hne => eM_congr ?_ ?_)
  · intro h; exact absurd h hne
  · intro h; rw [mset_ne h]
theorem um_S18 {cz : ClassId} {bd : Nat → Nat} {v : Mem} {x : Int32} : (wM cz bd v).set 0 (bd 0, .inr (4, [.int (v 0 0), .int (v 0 1), .ref (bd 1), .int (v 0 3), .ref (bd 2), .ref (bd 3), .ref (bd 4), .int (v 0 7), .int (v 0 8), .int (v 0 9), .ref (bd 5), .ref (bd 6), .ref (bd 7), .ref (bd 8), .int (v 0 14), .int (v 0 15), .int (v 0 16), .int (v 0 17), .int x, .ref (bd 9), .ref (bd 10), .ref (bd 11), .ref (bd 12), .ref (bd 13), .ref (bd 14), .ref (bd 15), .int (v 0 26)])) = wM cz bd (mset v 0 18 x) := by
  refine wM_set (by decide) (by simp [eM, mset]) (fun q hq hne => eM_congr ?_ ?_)
  · intro h; exact absurd h hne
  · intro h; rw [mset_ne h]
theorem um_S26 {cz : ClassId} {bd : Nat → Nat} {v : Mem} {x : Int32} : (wM cz bd v).set 0 (bd 0, .inr (4, [.int (v 0 0), .int (v 0 1), .ref (bd 1), .int (v 0 3), .ref (bd 2), .ref (bd 3), .ref (bd 4), .int (v 0 7), .int (v 0 8), .int (v 0 9), .ref (bd 5), .ref (bd 6), .ref (bd 7), .ref (bd 8), .int (v 0 14), .int (v 0 15), .int (v 0 16), .int (v 0 17), .int (v 0 18), .ref (bd 9), .ref (bd 10), .ref (bd 11), .ref (bd 12), .ref (bd 13), .ref (bd 14), .ref (bd 15), .int x])) = wM cz bd (mset v 0 26 x) := by
  refine wM_set (by decide) (by simp [eM, mset]) (fun q hq hne => eM_congr ?_ ?_)
  · intro h; exact absurd h hne
  · intro h; rw [mset_ne h]
theorem um_ar {cz : ClassId} {bd : Nat → Nat} {v : Mem} {a n i : Nat} {x : Int32} (h : a < 16) (h0 : a ≠ 0) (hn : lenM a = n) : (wM cz bd v).set a (bd a, .inl (cz, n, .inl (upd (v a) i x))) = wM cz bd (mset v a i x) := by
  refine wM_set h (by rw [eM_ar h0 hn, mset_upd]) (fun q hq hne => eM_congr ?_ ?_)
  · intros; rw [mset_ne (by omega)]
  · intros; rw [mset_ne hne]
theorem m_start {l : Launch} {y : MethodName} {ws ws' : List Cond} {rm : Room} {av : List Value} {B : State → Prop} {Qc : Array Value → State → Outcome → State → Prop} {mc ms : Nat} {free : Addr → Prop} {cc : ByteArray} {maxL : Nat} {ret : Option FieldType} (hy : plainName y.cls = true) (hw : ws = Cond.code y cc maxL ret :: ws') (hle : (lg_sl av).length ≤ maxL)
    (body : ∀ (p : Program) (e : Env) (s : State) (m : MethodId) (below : List Frame) (meth : Method) (c : Code), p.tables.exec = Jvm.exec → c.code = cc → meth.sig.returnType = ret → (∀ w ∈ ws, w.before av.toArray s = true) → s.vm.findClass y.cls = some m.cls → c.maxLocals = maxL → meth.locks = false → meth.name = y.name → B s → ∀ ls : Array Slot, lv_has ls maxL (lv_args 0 av) → W p l e rm s m av.toArray below meth c s.heap [] 0 0 (MQ below Qc av.toArray s mc ms free) (F0 m 0 ls [])) : Met l y ws rm (va_Pc av B) Qc mc ms free := by
  refine Met.ofW (cc := cc) (maxL := maxL) (ret := ret) hy hw ?_
  intro p e s m args below meth c s₁ B0 hml hv
  obtain ⟨rfl, hB⟩ := hv
  have hl := lv_entry av hle
  rw [lg_entry_eq]
  exact body p e s m below meth c B0.exec B0.bytes B0.returns (atoms_spec (ws := ws) B0.pre) (findClass_of_methodNamed B0.named) hml B0.notSynchronized (name_of_methodNamed B0.named B0.method).1 hB _ hl
section BASE
variable {p : Program} {l : Launch} {e : Env} {R : Room} {s : State} {m : MethodId} {args : Array Value} {below : List Frame} {meth : Method} {c : Code} {H : Heap} {locs : List Loc} {cells slots : Nat} {Q : State → Prop}
variable {cc : ByteArray} {pc nL index : Nat} {ls : Array Slot} {rest st : List Value} {D : va_G} {cy : Nat → ClassId} {cz : ClassId} {ad bd : Nat → Nat} {u v : Mem} {H0 : Heap} {Ts : List Cond} {own : String}
variable {y : MethodName} {bytes : ByteArray} {maxL n b : Nat} {ret : Option FieldType} {ws ws' : List Cond} {rm : Room} {As : List Value} {C : String} {B : State → Prop} {rv : Option Value} {w : Value}
/-- a call of a method that writes nothing -/
theorem kV (S : CallFix p m c cc nL s args Ts own) (hM : Met l y ws rm (va_Pc (.ref b :: As) B) (qR (some w)) 0 0 noF) (hT : GoodIn Ts (wsV own index C y ws)) (hw : ws = Cond.code y bytes maxL ret :: ws') (hrc : rm.cells = 0) (hrs : rm.slots = 0)
    (hd : y.cls = C ∧ y.cls ≠ "java/lang/invoke/MethodHandle" ∧ y.cls ≠ "java/lang/invoke/VarHandle" ∧ (parseMethodDescriptor y.desc).map (fun d => d.parameters.length) = some n) (hR : rm.frames + 1 ≤ R.frames ∧ 8 + (maxL + 11) + rm.locals ≤ R.locals)
    (hr : ∃ cellB : Cell, H[b]? = some cellB ∧ cellB.vm.isStatics = false ∧ s.vm.findClass C = some cellB.cls) (hB : ∀ U : State, U.heap = H → s.WarmedH U.vm → B U) (hbl : ∀ (U : State) (g : JFrame) (mk : MethodId) (a : Array Value), B U → B (U.calling g mk a))
    (hn : As.length = n) (hsize : ls.size = nL) (hst : st = As.reverse ++ .ref b :: rest) (hcat : (rest.map fun v => v.category).sum ≤ 8) (hdg : decode cc pc = .ok (.invokevirtual index, 3)) (hf : cells ≤ R.cells ∧ slots ≤ R.slots)
    (kk : W p l e R s m args below meth c H locs cells slots Q (F0 m (pc + 3) ls (w :: rest))) : W p l e R s m args below meth c H locs cells slots Q (F0 m pc ls st) := by
  have hrun := W.runV (H := H) (locs := locs) (cells := cells) (slots := slots) (below := below) (meth := meth) (e := e) (As := As) (rest := rest) (g := F0 m pc ls st) S hM (cwV n S.2.2.2.2 hT hw hrc hrs hd hR) ⟨fun a U g mk q => ⟨q.1, hbl U g mk a q.2⟩, hr, fun U hU hW => ⟨rfl, hB U hU hW⟩⟩ rfl hn hsize hst (lv_room hcat) hdg ⟨hf.1, hf.2⟩
  intro T hT X
  obtain ⟨v', st₀, t, T', L, h0, X', hL, e1, ⟨hv, hh⟩, stp⟩ := hrun T hT X
  cases hv
  obtain ⟨t2, a1, b1⟩ := kk T' (by rw [e1, hh, h0]) (Stand.forget X' (fun q h => (hL q h).elim))
  exact ⟨t2, stp t2 a1, b1⟩
theorem kS (S : CallFix p m c cc nL s args Ts own) (hM : Met l y ws rm (va_Pc As B) (qR (some w)) 0 0 noF) (hT : GoodIn Ts (va_wsS own index y ws)) (hw : ws = Cond.code y bytes maxL ret :: ws') (hrc : rm.cells = 0) (hrs : rm.slots = 0)
    (hd : y.cls ≠ "java/lang/invoke/MethodHandle" ∧ y.cls ≠ "java/lang/invoke/VarHandle" ∧ (parseMethodDescriptor y.desc).map (fun d => d.parameters.length) = some n) (hR : rm.frames + 1 ≤ R.frames ∧ 8 + (maxL + 11) + rm.locals ≤ R.locals)
    (hB : ∀ U : State, U.heap = H → s.WarmedH U.vm → B U) (hbl : ∀ (U : State) (g : JFrame) (mk : MethodId) (a : Array Value), B U → B (U.calling g mk a))
    (hn : As.length = n) (hsize : ls.size = nL) (hst : st = As.reverse ++ rest) (hcat : (rest.map fun v => v.category).sum ≤ 8) (hdg : decode cc pc = .ok (.invokestatic index, 3)) (hf : cells ≤ R.cells ∧ slots ≤ R.slots)
    (kk : W p l e R s m args below meth c H locs cells slots Q (F0 m (pc + 3) ls (w :: rest))) : W p l e R s m args below meth c H locs cells slots Q (F0 m pc ls st) := by
  have hrun := W.runS (H := H) (locs := locs) (cells := cells) (slots := slots) (below := below) (meth := meth) (e := e) (As := As) (rest := rest) (g := F0 m pc ls st) S hM (va_cwS n S.2.2.2.2 hT hw hrc hrs hd hR) ⟨fun a U g mk q => ⟨q.1, hbl U g mk a q.2⟩, fun U hU hW => ⟨rfl, hB U hU hW⟩⟩ rfl hn hsize hst (lv_room hcat) hdg ⟨hf.1, hf.2⟩
  intro T hT X
  obtain ⟨v', st₀, t, T', L, h0, X', hL, e1, ⟨hv, hh⟩, stp⟩ := hrun T hT X
  cases hv
  obtain ⟨t2, a1, b1⟩ := kk T' (by rw [e1, hh, h0]) (Stand.forget X' (fun q h => (hL q h).elim))
  exact ⟨t2, stp t2 a1, b1⟩
/-- a call of a method that writes -/
theorem kW {A A0 : Nat → Prop} {B' : State → Prop} (S : CallFix p m c cc nL s args Ts own) (hM : Met l y ws rm (va_Pc (.ref b :: As) B) (qW B' A rv) 0 0 A) (hT : GoodIn Ts (wsV own index C y ws)) (hw : ws = Cond.code y bytes maxL ret :: ws') (hrc : rm.cells = 0) (hrs : rm.slots = 0)
    (hd : y.cls = C ∧ y.cls ≠ "java/lang/invoke/MethodHandle" ∧ y.cls ≠ "java/lang/invoke/VarHandle" ∧ (parseMethodDescriptor y.desc).map (fun d => d.parameters.length) = some n) (hR : rm.frames + 1 ≤ R.frames ∧ 8 + (maxL + 11) + rm.locals ≤ R.locals)
    (hr : ∃ cellB : Cell, H[b]? = some cellB ∧ cellB.vm.isStatics = false ∧ s.vm.findClass C = some cellB.cls) (hB : ∀ U : State, U.heap = H → s.WarmedH U.vm → B U) (hbl : ∀ (U : State) (g : JFrame) (mk : MethodId) (a : Array Value), B U → B (U.calling g mk a))
    (hA : ∀ q, A q → A0 q) (hS : va_S A0 H0 H locs)
    (hn : As.length = n) (hsize : ls.size = nL) (hst : st = As.reverse ++ .ref b :: rest) (hcat : (rest.map fun v => v.category).sum ≤ 8) (hdg : decode cc pc = .ok (.invokevirtual index, 3)) (hf : cells ≤ R.cells ∧ slots ≤ R.slots)
    (kk : ∀ (t : State) (H1 : Heap) (locs1 : List Loc), t.heap = H1 → B' t → H.size ≤ H1.size → (∀ q : Nat, q < H.size → ¬ A q → H1[q]? = H[q]?) → va_S A0 H0 H1 locs1 → W p l e R s m args below meth c H1 locs1 cells slots Q (F0 m (pc + 3) ls (rv.toList ++ rest))) : W p l e R s m args below meth c H locs cells slots Q (F0 m pc ls st) := by
  have hrun := va_runV (H := H) (locs := locs) (cells := cells) (slots := slots) (below := below) (meth := meth) (e := e) (As := As) (rest := rest) (g := F0 m pc ls st) S hM (cwV n S.2.2.2.2 hT hw hrc hrs hd hR) ⟨fun a U g mk q => ⟨q.1, hbl U g mk a q.2⟩, hr, fun U hU hW => ⟨rfl, hB U hU hW⟩⟩ rfl hn hsize hst (lv_room hcat) hdg ⟨hf.1, hf.2⟩
  intro T hT X
  obtain ⟨v', st₀, t, T', L, h0, X', hL, e1, e2, ⟨hv, hb, hz, hk⟩, stp⟩ := hrun T hT X
  cases hv
  rw [h0] at hz hk
  obtain ⟨t2, a1, b1⟩ := kk t T'.heap (locs ++ L) e1.symm hb (by rw [e1]; exact hz) (fun q h1 h2 => by rw [e1]; exact hk q h1 h2)
    ⟨Nat.le_trans hS.1 (by rw [e1]; exact hz), fun q h1 h2 => by rw [e1, hk q (Nat.lt_of_lt_of_le h1 hS.1) (fun z => h2 (hA q z))]; exact hS.2.1 q h1 h2, fun q hq => by
      rcases List.mem_append.mp hq with h | h
      · exact hS.2.2 q h
      · exact hA _ (hL q h)⟩ T' rfl X'
  exact ⟨t2, stp t2 a1, b1⟩
theorem XB_bl (U : State) (g : JFrame) (mk : MethodId) (a : Array Value) (h : XB D cy ad u U) : XB D cy ad u (U.calling g mk a) := ⟨h.1, va_K.moved (u := U) (U := U.calling g mk a) (Vm.Alike.refl U.vm) h.2⟩
theorem MB_bl (U : State) (g : JFrame) (mk : MethodId) (a : Array Value) (h : MB D cz bd v U) : MB D cz bd v (U.calling g mk a) := ⟨h.1, va_K.moved (u := U) (U := U.calling g mk a) (Vm.Alike.refl U.vm) h.2⟩
theorem XB_of (hP : va_P D vwCl (wX cy ad u) H) (hK : va_K D vwCl (tyX cy) s) (U : State) (hU : U.heap = H) (hW : s.WarmedH U.vm) : XB D cy ad u U := ⟨by rw [hU]; exact hP, va_K.moved hW.alike hK⟩
theorem MB_of (hP : va_P D vwCl (wM cz bd v) H) (hK : va_K D vwCl (tyM cz) s) (U : State) (hU : U.heap = H) (hW : s.WarmedH U.vm) : MB D cz bd v U := ⟨by rw [hU]; exact hP, va_K.moved hW.alike hK⟩
theorem recvX (hP : va_P D vwCl (wX cy ad u) H) (hK : va_K D vwCl (tyX cy) s) : ∃ cellB : Cell, H[ad 0]? = some cellB ∧ cellB.vm.isStatics = false ∧ s.vm.findClass RX3 = some cellB.cls := va_recv hK hP (ci := 3) (q := (RX3, TX3, 9)) (q0 := 0) rfl (wX_e (by decide) rfl)
theorem recvXs (hP : va_P D vwCl (wX cy ad u) H) (hK : va_K D vwCl (tyX cy) s) {k : Nat} (hk : k < 4) : ∃ cellB : Cell, H[ad (5 + k)]? = some cellB ∧ cellB.vm.isStatics = false ∧ s.vm.findClass RX2 = some cellB.cls := va_recv hK hP (ci := 2) (q := (RX2, TX2, 3)) (q0 := 5 + k) rfl (wX_e (by omega) (eX_sh hk))
theorem recvM (hP : va_P D vwCl (wM cz bd v) H) (hK : va_K D vwCl (tyM cz) s) : ∃ cellB : Cell, H[bd 0]? = some cellB ∧ cellB.vm.isStatics = false ∧ s.vm.findClass RX4 = some cellB.cls := va_recv hK hP (ci := 4) (q := (RX4, TX4, 27)) (q0 := 0) rfl (wM_e (by decide) rfl)
theorem kWX {u' : Mem} (S : CallFix p m c cc nL s args Ts own) (hM : Met l y ws rm (va_Pc (.ref b :: As) (XB D cy ad u)) (qW (XB D cy ad u') (AX ad) (some w)) 0 0 (AX ad)) (hT : GoodIn Ts (wsV own index C y ws)) (hw : ws = Cond.code y bytes maxL ret :: ws') (hrc : rm.cells = 0) (hrs : rm.slots = 0)
    (hd : y.cls = C ∧ y.cls ≠ "java/lang/invoke/MethodHandle" ∧ y.cls ≠ "java/lang/invoke/VarHandle" ∧ (parseMethodDescriptor y.desc).map (fun d => d.parameters.length) = some n) (hR : rm.frames + 1 ≤ R.frames ∧ 8 + (maxL + 11) + rm.locals ≤ R.locals)
    (hr : ∃ cellB : Cell, H[b]? = some cellB ∧ cellB.vm.isStatics = false ∧ s.vm.findClass C = some cellB.cls) (hP : va_P D vwCl (wX cy ad u) H) (hK : va_K D vwCl (tyX cy) s) (hS : va_S (AX ad) H0 H locs)
    (hn : As.length = n) (hsize : ls.size = nL) (hst : st = As.reverse ++ .ref b :: rest) (hcat : (rest.map fun v => v.category).sum ≤ 8) (hdg : decode cc pc = .ok (.invokevirtual index, 3)) (hf : cells ≤ R.cells ∧ slots ≤ R.slots)
    (kk : ∀ (H1 : Heap) (locs1 : List Loc), va_P D vwCl (wX cy ad u') H1 → va_S (AX ad) H0 H1 locs1 → W p l e R s m args below meth c H1 locs1 cells slots Q (F0 m (pc + 3) ls (w :: rest))) : W p l e R s m args below meth c H locs cells slots Q (F0 m pc ls st) :=
  kW S hM hT hw hrc hrs hd hR hr (XB_of hP hK) XB_bl (fun _ h => h) hS hn hsize hst hcat hdg hf (fun t H1 locs1 ht hB _ _ hS1 => kk H1 locs1 (by have h := hB.1; rw [ht] at h; exact h) hS1)
theorem kWXv {u' : Mem} (S : CallFix p m c cc nL s args Ts own) (hM : Met l y ws rm (va_Pc (.ref b :: As) (XB D cy ad u)) (qW (XB D cy ad u') (AX ad) none) 0 0 (AX ad)) (hT : GoodIn Ts (wsV own index C y ws)) (hw : ws = Cond.code y bytes maxL ret :: ws') (hrc : rm.cells = 0) (hrs : rm.slots = 0)
    (hd : y.cls = C ∧ y.cls ≠ "java/lang/invoke/MethodHandle" ∧ y.cls ≠ "java/lang/invoke/VarHandle" ∧ (parseMethodDescriptor y.desc).map (fun d => d.parameters.length) = some n) (hR : rm.frames + 1 ≤ R.frames ∧ 8 + (maxL + 11) + rm.locals ≤ R.locals)
    (hr : ∃ cellB : Cell, H[b]? = some cellB ∧ cellB.vm.isStatics = false ∧ s.vm.findClass C = some cellB.cls) (hP : va_P D vwCl (wX cy ad u) H) (hK : va_K D vwCl (tyX cy) s) (hS : va_S (AX ad) H0 H locs)
    (hn : As.length = n) (hsize : ls.size = nL) (hst : st = As.reverse ++ .ref b :: rest) (hcat : (rest.map fun v => v.category).sum ≤ 8) (hdg : decode cc pc = .ok (.invokevirtual index, 3)) (hf : cells ≤ R.cells ∧ slots ≤ R.slots)
    (kk : ∀ (H1 : Heap) (locs1 : List Loc), va_P D vwCl (wX cy ad u') H1 → va_S (AX ad) H0 H1 locs1 → W p l e R s m args below meth c H1 locs1 cells slots Q (F0 m (pc + 3) ls rest)) : W p l e R s m args below meth c H locs cells slots Q (F0 m pc ls st) :=
  kW S hM hT hw hrc hrs hd hR hr (XB_of hP hK) XB_bl (fun _ h => h) hS hn hsize hst hcat hdg hf (fun t H1 locs1 ht hB _ _ hS1 => kk H1 locs1 (by have h := hB.1; rw [ht] at h; exact h) hS1)
theorem kWM {v' : Mem} (S : CallFix p m c cc nL s args Ts own) (hM : Met l y ws rm (va_Pc (.ref b :: As) (MB D cz bd v)) (qW (MB D cz bd v') (AM bd) (some w)) 0 0 (AM bd)) (hT : GoodIn Ts (wsV own index C y ws)) (hw : ws = Cond.code y bytes maxL ret :: ws') (hrc : rm.cells = 0) (hrs : rm.slots = 0)
    (hd : y.cls = C ∧ y.cls ≠ "java/lang/invoke/MethodHandle" ∧ y.cls ≠ "java/lang/invoke/VarHandle" ∧ (parseMethodDescriptor y.desc).map (fun d => d.parameters.length) = some n) (hR : rm.frames + 1 ≤ R.frames ∧ 8 + (maxL + 11) + rm.locals ≤ R.locals)
    (hr : ∃ cellB : Cell, H[b]? = some cellB ∧ cellB.vm.isStatics = false ∧ s.vm.findClass C = some cellB.cls) (hP : va_P D vwCl (wM cz bd v) H) (hK : va_K D vwCl (tyM cz) s) (hS : va_S (AM bd) H0 H locs)
    (hn : As.length = n) (hsize : ls.size = nL) (hst : st = As.reverse ++ .ref b :: rest) (hcat : (rest.map fun v => v.category).sum ≤ 8) (hdg : decode cc pc = .ok (.invokevirtual index, 3)) (hf : cells ≤ R.cells ∧ slots ≤ R.slots)
    (kk : ∀ (H1 : Heap) (locs1 : List Loc), va_P D vwCl (wM cz bd v') H1 → va_S (AM bd) H0 H1 locs1 → W p l e R s m args below meth c H1 locs1 cells slots Q (F0 m (pc + 3) ls (w :: rest))) : W p l e R s m args below meth c H locs cells slots Q (F0 m pc ls st) :=
  kW S hM hT hw hrc hrs hd hR hr (MB_of hP hK) MB_bl (fun _ h => h) hS hn hsize hst hcat hdg hf (fun t H1 locs1 ht hB _ _ hS1 => kk H1 locs1 (by have h := hB.1; rw [ht] at h; exact h) hS1)
theorem kWMv {v' : Mem} (S : CallFix p m c cc nL s args Ts own) (hM : Met l y ws rm (va_Pc (.ref b :: As) (MB D cz bd v)) (qW (MB D cz bd v') (AM bd) none) 0 0 (AM bd)) (hT : GoodIn Ts (wsV own index C y ws)) (hw : ws = Cond.code y bytes maxL ret :: ws') (hrc : rm.cells = 0) (hrs : rm.slots = 0)
    (hd : y.cls = C ∧ y.cls ≠ "java/lang/invoke/MethodHandle" ∧ y.cls ≠ "java/lang/invoke/VarHandle" ∧ (parseMethodDescriptor y.desc).map (fun d => d.parameters.length) = some n) (hR : rm.frames + 1 ≤ R.frames ∧ 8 + (maxL + 11) + rm.locals ≤ R.locals)
    (hr : ∃ cellB : Cell, H[b]? = some cellB ∧ cellB.vm.isStatics = false ∧ s.vm.findClass C = some cellB.cls) (hP : va_P D vwCl (wM cz bd v) H) (hK : va_K D vwCl (tyM cz) s) (hS : va_S (AM bd) H0 H locs)
    (hn : As.length = n) (hsize : ls.size = nL) (hst : st = As.reverse ++ .ref b :: rest) (hcat : (rest.map fun v => v.category).sum ≤ 8) (hdg : decode cc pc = .ok (.invokevirtual index, 3)) (hf : cells ≤ R.cells ∧ slots ≤ R.slots)
    (kk : ∀ (H1 : Heap) (locs1 : List Loc), va_P D vwCl (wM cz bd v') H1 → va_S (AM bd) H0 H1 locs1 → W p l e R s m args below meth c H1 locs1 cells slots Q (F0 m (pc + 3) ls rest)) : W p l e R s m args below meth c H locs cells slots Q (F0 m pc ls st) :=
  kW S hM hT hw hrc hrs hd hR hr (MB_of hP hK) MB_bl (fun _ h => h) hS hn hsize hst hcat hdg hf (fun t H1 locs1 ht hB _ _ hS1 => kk H1 locs1 (by have h := hB.1; rw [ht] at h; exact h) hS1)
/-- ends -/
theorem rI {r x : Int32} (hx : p.tables.exec = Jvm.exec) (hb : c.code = cc) (hr : meth.sig.returnType = some .int) (hlk : meth.locks = false) (hdg : decode cc pc = .ok (.ireturn, 1)) (h : r = x) : W p l e R s m args below meth c s.heap [] cells slots (MQ below (qR (some (.int r))) args s cells slots noF) (F0 m pc ls [.int x]) := by
  subst h
  exact W.iret hx hb hr (fun t ht hW => ⟨rfl, ht⟩) (fun _ h => by cases h) hdg hlk
theorem rZ {r x : Int32} (hx : p.tables.exec = Jvm.exec) (hb : c.code = cc) (hr : meth.sig.returnType = some .boolean) (hlk : meth.locks = false) (hn : narrow .boolean (.int x) = .int x) (hdg : decode cc pc = .ok (.ireturn, 1)) (h : r = x) : W p l e R s m args below meth c s.heap [] cells slots (MQ below (qR (some (.int r))) args s cells slots noF) (F0 m pc ls [.int x]) := by
  subst h
  exact W.zret hx hb hr hn (fun t ht hW => ⟨rfl, ht⟩) (fun _ h => by cases h) hdg hlk
theorem rL {r x : Int64} (hx : p.tables.exec = Jvm.exec) (hb : c.code = cc) (hr : meth.sig.returnType = some .long) (hlk : meth.locks = false) (hdg : decode cc pc = .ok (.lreturn, 1)) (h : r = x) : W p l e R s m args below meth c s.heap [] cells slots (MQ below (qR (some (.long r))) args s cells slots noF) (F0 m pc ls [.long x]) := by
  subst h
  exact W.lret hx hb hr (fun t ht hW => ⟨rfl, ht⟩) (fun _ h => by cases h) hdg hlk
theorem XWend {rv : Option Value} {r : Mem} (hK : va_K D vwCl (tyX cy) s) (hP : va_P D vwCl (wX cy ad u) H) (hS : va_S (AX ad) s.heap H locs) (h : r = u) : ∀ t : State, t.heap = H → s.WarmedH t.vm → qW (XB D cy ad r) (AX ad) rv args s (.returned rv) t := by
  subst h
  exact fun t ht hW => ⟨rfl, ⟨by rw [ht]; exact hP, va_K.moved hW.alike hK⟩, hS.F ht⟩
theorem MWend {rv : Option Value} {r : Mem} (hK : va_K D vwCl (tyM cz) s) (hP : va_P D vwCl (wM cz bd v) H) (hS : va_S (AM bd) s.heap H locs) (h : r = v) : ∀ t : State, t.heap = H → s.WarmedH t.vm → qW (MB D cz bd r) (AM bd) rv args s (.returned rv) t := by
  subst h
  exact fun t ht hW => ⟨rfl, ⟨by rw [ht]; exact hP, va_K.moved hW.alike hK⟩, hS.F ht⟩
theorem rXI {r : Int32 × Mem} {x : Int32} (hx : p.tables.exec = Jvm.exec) (hb : c.code = cc) (hr : meth.sig.returnType = some .int) (hlk : meth.locks = false) (hK : va_K D vwCl (tyX cy) s) (hP : va_P D vwCl (wX cy ad u) H) (hS : va_S (AX ad) s.heap H locs) (hdg : decode cc pc = .ok (.ireturn, 1)) (h : r = (x, u)) : W p l e R s m args below meth c H locs cells slots (MQ below (qW (XB D cy ad r.2) (AX ad) (some (.int r.1))) args s cells slots (AX ad)) (F0 m pc ls [.int x]) := by
  subst h
  exact W.iret hx hb hr (XWend hK hP hS rfl) hS.2.2 hdg hlk
theorem rXL {r : Int64 × Mem} {x : Int64} (hx : p.tables.exec = Jvm.exec) (hb : c.code = cc) (hr : meth.sig.returnType = some .long) (hlk : meth.locks = false) (hK : va_K D vwCl (tyX cy) s) (hP : va_P D vwCl (wX cy ad u) H) (hS : va_S (AX ad) s.heap H locs) (hdg : decode cc pc = .ok (.lreturn, 1)) (h : r = (x, u)) : W p l e R s m args below meth c H locs cells slots (MQ below (qW (XB D cy ad r.2) (AX ad) (some (.long r.1))) args s cells slots (AX ad)) (F0 m pc ls [.long x]) := by
  subst h
  exact W.lret hx hb hr (XWend hK hP hS rfl) hS.2.2 hdg hlk
theorem rXV {r : Mem} (hx : p.tables.exec = Jvm.exec) (hb : c.code = cc) (hr : meth.sig.returnType = none) (hlk : meth.locks = false) (hK : va_K D vwCl (tyX cy) s) (hP : va_P D vwCl (wX cy ad u) H) (hS : va_S (AX ad) s.heap H locs) (hdg : decode cc pc = .ok (.return_, 1)) (h : r = u) : W p l e R s m args below meth c H locs cells slots (MQ below (qW (XB D cy ad r) (AX ad) none) args s cells slots (AX ad)) (F0 m pc ls []) :=
  W.vret hx hb hr (XWend hK hP hS h) hS.2.2 hdg hlk
theorem rMI {r : Int32 × Mem} {x : Int32} (hx : p.tables.exec = Jvm.exec) (hb : c.code = cc) (hr : meth.sig.returnType = some .int) (hlk : meth.locks = false) (hK : va_K D vwCl (tyM cz) s) (hP : va_P D vwCl (wM cz bd v) H) (hS : va_S (AM bd) s.heap H locs) (hdg : decode cc pc = .ok (.ireturn, 1)) (h : r = (x, v)) : W p l e R s m args below meth c H locs cells slots (MQ below (qW (MB D cz bd r.2) (AM bd) (some (.int r.1))) args s cells slots (AM bd)) (F0 m pc ls [.int x]) := by
  subst h
  exact W.iret hx hb hr (MWend hK hP hS rfl) hS.2.2 hdg hlk
theorem rMZ {r : Int32 × Mem} {x : Int32} (hx : p.tables.exec = Jvm.exec) (hb : c.code = cc) (hr : meth.sig.returnType = some .boolean) (hlk : meth.locks = false) (hK : va_K D vwCl (tyM cz) s) (hP : va_P D vwCl (wM cz bd v) H) (hS : va_S (AM bd) s.heap H locs) (hn : narrow .boolean (.int x) = .int x) (hdg : decode cc pc = .ok (.ireturn, 1)) (h : r = (x, v)) : W p l e R s m args below meth c H locs cells slots (MQ below (qW (MB D cz bd r.2) (AM bd) (some (.int r.1))) args s cells slots (AM bd)) (F0 m pc ls [.int x]) := by
  subst h
  exact W.zret hx hb hr hn (MWend hK hP hS rfl) hS.2.2 hdg hlk
theorem rML {r : Int64 × Mem} {x : Int64} (hx : p.tables.exec = Jvm.exec) (hb : c.code = cc) (hr : meth.sig.returnType = some .long) (hlk : meth.locks = false) (hK : va_K D vwCl (tyM cz) s) (hP : va_P D vwCl (wM cz bd v) H) (hS : va_S (AM bd) s.heap H locs) (hdg : decode cc pc = .ok (.lreturn, 1)) (h : r = (x, v)) : W p l e R s m args below meth c H locs cells slots (MQ below (qW (MB D cz bd r.2) (AM bd) (some (.long r.1))) args s cells slots (AM bd)) (F0 m pc ls [.long x]) := by
  subst h
  exact W.lret hx hb hr (MWend hK hP hS rfl) hS.2.2 hdg hlk
theorem rMV {r : Mem} (hx : p.tables.exec = Jvm.exec) (hb : c.code = cc) (hr : meth.sig.returnType = none) (hlk : meth.locks = false) (hK : va_K D vwCl (tyM cz) s) (hP : va_P D vwCl (wM cz bd v) H) (hS : va_S (AM bd) s.heap H locs) (hdg : decode cc pc = .ok (.return_, 1)) (h : r = v) : W p l e R s m args below meth c H locs cells slots (MQ below (qW (MB D cz bd r) (AM bd) none) args s cells slots (AM bd)) (F0 m pc ls []) :=
  W.vret hx hb hr (MWend hK hP hS h) hS.2.2 hdg hlk
theorem zg_X3_sheets  (hx : p.tables.exec = Jvm.exec) (hb : c.code = cc) (hts : ∀ w ∈ Ts, w.before args s = true) (hin : ∀ w ∈ wsX30, w ∈ Ts) (hown : s.vm.findClass own = some m.cls) (hK : va_K D vwCl (tyX cy) s) (hP : va_P D vwCl (wX cy ad u) H) (hlink : (Cond.fieldLink own index "ProphetCover" "sheets" "[LProphetCover$Sheet;").before args s = true) (hdg : decode cc pc = .ok (.getfield index, 3)) (kk : W p l e R s m args below meth c H locs cells slots Q (F0 m (pc + 3) ls (.ref (ad 1) :: rest))) : W p l e R s m args below meth c H locs cells slots Q (F0 m (pc) ls (.ref (ad 0) :: rest)) :=
  va_get (D := D) (ci := 3) (v := .ref (ad 1)) (C := RX3) (T := TX3) (N := 9) hx hb hts hin hown hK hP (0) (wX_e (by decide) rfl) rfl 0 (by decide) hlink (fun _ h9 => h9) rfl hdg kk
theorem zg_X3_chances  (hx : p.tables.exec = Jvm.exec) (hb : c.code = cc) (hts : ∀ w ∈ Ts, w.before args s = true) (hin : ∀ w ∈ wsX30, w ∈ Ts) (hown : s.vm.findClass own = some m.cls) (hK : va_K D vwCl (tyX cy) s) (hP : va_P D vwCl (wX cy ad u) H) (hlink : (Cond.fieldLink own index "ProphetCover" "chances" "[I").before args s = true) (hdg : decode cc pc = .ok (.getfield index, 3)) (kk : W p l e R s m args below meth c H locs cells slots Q (F0 m (pc + 3) ls (.ref (ad 2) :: rest))) : W p l e R s m args below meth c H locs cells slots Q (F0 m (pc) ls (.ref (ad 0) :: rest)) :=
  va_get (D := D) (ci := 3) (v := .ref (ad 2)) (C := RX3) (T := TX3) (N := 9) hx hb hts hin hown hK hP (0) (wX_e (by decide) rfl) rfl 1 (by decide) hlink (fun _ h9 => h9) rfl hdg kk
theorem zg_X3_prophets  (hx : p.tables.exec = Jvm.exec) (hb : c.code = cc) (hts : ∀ w ∈ Ts, w.before args s = true) (hin : ∀ w ∈ wsX30, w ∈ Ts) (hown : s.vm.findClass own = some m.cls) (hK : va_K D vwCl (tyX cy) s) (hP : va_P D vwCl (wX cy ad u) H) (hlink : (Cond.fieldLink own index "ProphetCover" "prophets" "[LProphetCover$Prophet;").before args s = true) (hdg : decode cc pc = .ok (.getfield index, 3)) (kk : W p l e R s m args below meth c H locs cells slots Q (F0 m (pc + 3) ls (.ref (ad 3) :: rest))) : W p l e R s m args below meth c H locs cells slots Q (F0 m (pc) ls (.ref (ad 0) :: rest)) :=
  va_get (D := D) (ci := 3) (v := .ref (ad 3)) (C := RX3) (T := TX3) (N := 9) hx hb hts hin hown hK hP (0) (wX_e (by decide) rfl) rfl 2 (by decide) hlink (fun _ h9 => h9) rfl hdg kk
theorem zg_X3_readings  (hx : p.tables.exec = Jvm.exec) (hb : c.code = cc) (hts : ∀ w ∈ Ts, w.before args s = true) (hin : ∀ w ∈ wsX30, w ∈ Ts) (hown : s.vm.findClass own = some m.cls) (hK : va_K D vwCl (tyX cy) s) (hP : va_P D vwCl (wX cy ad u) H) (hlink : (Cond.fieldLink own index "ProphetCover" "readings" "[LProphetCover$Reading;").before args s = true) (hdg : decode cc pc = .ok (.getfield index, 3)) (kk : W p l e R s m args below meth c H locs cells slots Q (F0 m (pc + 3) ls (.ref (ad 4) :: rest))) : W p l e R s m args below meth c H locs cells slots Q (F0 m (pc) ls (.ref (ad 0) :: rest)) :=
  va_get (D := D) (ci := 3) (v := .ref (ad 4)) (C := RX3) (T := TX3) (N := 9) hx hb hts hin hown hK hP (0) (wX_e (by decide) rfl) rfl 3 (by decide) hlink (fun _ h9 => h9) rfl hdg kk
theorem zg_X3_eventCount  (hx : p.tables.exec = Jvm.exec) (hb : c.code = cc) (hts : ∀ w ∈ Ts, w.before args s = true) (hin : ∀ w ∈ wsX30, w ∈ Ts) (hown : s.vm.findClass own = some m.cls) (hK : va_K D vwCl (tyX cy) s) (hP : va_P D vwCl (wX cy ad u) H) (hlink : (Cond.fieldLink own index "ProphetCover" "eventCount" "I").before args s = true) (hdg : decode cc pc = .ok (.getfield index, 3)) (kk : W p l e R s m args below meth c H locs cells slots Q (F0 m (pc + 3) ls (.int (u 0 4) :: rest))) : W p l e R s m args below meth c H locs cells slots Q (F0 m (pc) ls (.ref (ad 0) :: rest)) :=
  va_get (D := D) (ci := 3) (v := .int (u 0 4)) (C := RX3) (T := TX3) (N := 9) hx hb hts hin hown hK hP (0) (wX_e (by decide) rfl) rfl 4 (by decide) hlink (fun _ h9 => h9) rfl hdg kk
theorem zp_X3_eventCount  (hx : p.tables.exec = Jvm.exec) (hb : c.code = cc) (hts : ∀ w ∈ Ts, w.before args s = true) (hin : ∀ w ∈ wsX30, w ∈ Ts) (hown : s.vm.findClass own = some m.cls) (hK : va_K D vwCl (tyX cy) s) (hP : va_P D vwCl (wX cy ad u) H) (hI : XI ad) (hS : va_S (AX ad) H0 H locs) (hlink : (Cond.fieldLink own index "ProphetCover" "eventCount" "I").before args s = true) {x : Int32} (hdg : decode cc pc = .ok (.putfield index, 3)) (kk : ∀ (H1 : Heap) (locs1 : List Loc), va_P D vwCl (wX cy ad (mset u 0 4 x)) H1 → va_S (AX ad) H0 H1 locs1 → W p l e R s m args below meth c H1 locs1 cells slots Q (F0 m (pc + 3) ls (rest))) : W p l e R s m args below meth c H locs cells slots Q (F0 m (pc) ls (.int x :: .ref (ad 0) :: rest)) :=
  va_put (D := D) (ci := 3) (v := .int x) (ty := .int) (C := RX3) (T := TX3) (N := 9) hx hb hts hin tyX3 tyX3_ok nmX3 hown hK hP (xD hI) hS (0) (wX_e (by decide) rfl) rfl 4 (by decide) hlink (fun _ h9 => h9) rfl (by decide +kernel) rfl rfl (Nat.le_of_ble_eq_true rfl) hdg (fun H1 locs1 hP1 _ hS1 => kk H1 locs1 (us_S4 ▸ hP1) hS1)
theorem zg_X3_prophetCount  (hx : p.tables.exec = Jvm.exec) (hb : c.code = cc) (hts : ∀ w ∈ Ts, w.before args s = true) (hin : ∀ w ∈ wsX30, w ∈ Ts) (hown : s.vm.findClass own = some m.cls) (hK : va_K D vwCl (tyX cy) s) (hP : va_P D vwCl (wX cy ad u) H) (hlink : (Cond.fieldLink own index "ProphetCover" "prophetCount" "I").before args s = true) (hdg : decode cc pc = .ok (.getfield index, 3)) (kk : W p l e R s m args below meth c H locs cells slots Q (F0 m (pc + 3) ls (.int (u 0 5) :: rest))) : W p l e R s m args below meth c H locs cells slots Q (F0 m (pc) ls (.ref (ad 0) :: rest)) :=
  va_get (D := D) (ci := 3) (v := .int (u 0 5)) (C := RX3) (T := TX3) (N := 9) hx hb hts hin hown hK hP (0) (wX_e (by decide) rfl) rfl 5 (by decide) hlink (fun _ h9 => h9) rfl hdg kk
theorem zp_X3_prophetCount  (hx : p.tables.exec = Jvm.exec) (hb : c.code = cc) (hts : ∀ w ∈ Ts, w.before args s = true) (hin : ∀ w ∈ wsX30, w ∈ Ts) (hown : s.vm.findClass own = some m.cls) (hK : va_K D vwCl (tyX cy) s) (hP : va_P D vwCl (wX cy ad u) H) (hI : XI ad) (hS : va_S (AX ad) H0 H locs) (hlink : (Cond.fieldLink own index "ProphetCover" "prophetCount" "I").before args s = true) {x : Int32} (hdg : decode cc pc = .ok (.putfield index, 3)) (kk : ∀ (H1 : Heap) (locs1 : List Loc), va_P D vwCl (wX cy ad (mset u 0 5 x)) H1 → va_S (AX ad) H0 H1 locs1 → W p l e R s m args below meth c H1 locs1 cells slots Q (F0 m (pc + 3) ls (rest))) : W p l e R s m args below meth c H locs cells slots Q (F0 m (pc) ls (.int x :: .ref (ad 0) :: rest)) :=
  va_put (D := D) (ci := 3) (v := .int x) (ty := .int) (C := RX3) (T := TX3) (N := 9) hx hb hts hin tyX3 tyX3_ok nmX3 hown hK hP (xD hI) hS (0) (wX_e (by decide) rfl) rfl 5 (by decide) hlink (fun _ h9 => h9) rfl (by decide +kernel) rfl rfl (Nat.le_of_ble_eq_true rfl) hdg (fun H1 locs1 hP1 _ hS1 => kk H1 locs1 (us_S5 ▸ hP1) hS1)
theorem zg_X3_readingCount  (hx : p.tables.exec = Jvm.exec) (hb : c.code = cc) (hts : ∀ w ∈ Ts, w.before args s = true) (hin : ∀ w ∈ wsX30, w ∈ Ts) (hown : s.vm.findClass own = some m.cls) (hK : va_K D vwCl (tyX cy) s) (hP : va_P D vwCl (wX cy ad u) H) (hlink : (Cond.fieldLink own index "ProphetCover" "readingCount" "I").before args s = true) (hdg : decode cc pc = .ok (.getfield index, 3)) (kk : W p l e R s m args below meth c H locs cells slots Q (F0 m (pc + 3) ls (.int (u 0 6) :: rest))) : W p l e R s m args below meth c H locs cells slots Q (F0 m (pc) ls (.ref (ad 0) :: rest)) :=
  va_get (D := D) (ci := 3) (v := .int (u 0 6)) (C := RX3) (T := TX3) (N := 9) hx hb hts hin hown hK hP (0) (wX_e (by decide) rfl) rfl 6 (by decide) hlink (fun _ h9 => h9) rfl hdg kk
theorem zp_X3_readingCount  (hx : p.tables.exec = Jvm.exec) (hb : c.code = cc) (hts : ∀ w ∈ Ts, w.before args s = true) (hin : ∀ w ∈ wsX30, w ∈ Ts) (hown : s.vm.findClass own = some m.cls) (hK : va_K D vwCl (tyX cy) s) (hP : va_P D vwCl (wX cy ad u) H) (hI : XI ad) (hS : va_S (AX ad) H0 H locs) (hlink : (Cond.fieldLink own index "ProphetCover" "readingCount" "I").before args s = true) {x : Int32} (hdg : decode cc pc = .ok (.putfield index, 3)) (kk : ∀ (H1 : Heap) (locs1 : List Loc), va_P D vwCl (wX cy ad (mset u 0 6 x)) H1 → va_S (AX ad) H0 H1 locs1 → W p l e R s m args below meth c H1 locs1 cells slots Q (F0 m (pc + 3) ls (rest))) : W p l e R s m args below meth c H locs cells slots Q (F0 m (pc) ls (.int x :: .ref (ad 0) :: rest)) :=
  va_put (D := D) (ci := 3) (v := .int x) (ty := .int) (C := RX3) (T := TX3) (N := 9) hx hb hts hin tyX3 tyX3_ok nmX3 hown hK hP (xD hI) hS (0) (wX_e (by decide) rfl) rfl 6 (by decide) hlink (fun _ h9 => h9) rfl (by decide +kernel) rfl rfl (Nat.le_of_ble_eq_true rfl) hdg (fun H1 locs1 hP1 _ hS1 => kk H1 locs1 (us_S6 ▸ hP1) hS1)
theorem zg_X3_traceNow  (hx : p.tables.exec = Jvm.exec) (hb : c.code = cc) (hts : ∀ w ∈ Ts, w.before args s = true) (hin : ∀ w ∈ wsX30, w ∈ Ts) (hown : s.vm.findClass own = some m.cls) (hK : va_K D vwCl (tyX cy) s) (hP : va_P D vwCl (wX cy ad u) H) (hlink : (Cond.fieldLink own index "ProphetCover" "traceNow" "I").before args s = true) (hdg : decode cc pc = .ok (.getfield index, 3)) (kk : W p l e R s m args below meth c H locs cells slots Q (F0 m (pc + 3) ls (.int (u 0 7) :: rest))) : W p l e R s m args below meth c H locs cells slots Q (F0 m (pc) ls (.ref (ad 0) :: rest)) :=
  va_get (D := D) (ci := 3) (v := .int (u 0 7)) (C := RX3) (T := TX3) (N := 9) hx hb hts hin hown hK hP (0) (wX_e (by decide) rfl) rfl 7 (by decide) hlink (fun _ h9 => h9) rfl hdg kk
theorem zp_X3_traceNow  (hx : p.tables.exec = Jvm.exec) (hb : c.code = cc) (hts : ∀ w ∈ Ts, w.before args s = true) (hin : ∀ w ∈ wsX30, w ∈ Ts) (hown : s.vm.findClass own = some m.cls) (hK : va_K D vwCl (tyX cy) s) (hP : va_P D vwCl (wX cy ad u) H) (hI : XI ad) (hS : va_S (AX ad) H0 H locs) (hlink : (Cond.fieldLink own index "ProphetCover" "traceNow" "I").before args s = true) {x : Int32} (hdg : decode cc pc = .ok (.putfield index, 3)) (kk : ∀ (H1 : Heap) (locs1 : List Loc), va_P D vwCl (wX cy ad (mset u 0 7 x)) H1 → va_S (AX ad) H0 H1 locs1 → W p l e R s m args below meth c H1 locs1 cells slots Q (F0 m (pc + 3) ls (rest))) : W p l e R s m args below meth c H locs cells slots Q (F0 m (pc) ls (.int x :: .ref (ad 0) :: rest)) :=
  va_put (D := D) (ci := 3) (v := .int x) (ty := .int) (C := RX3) (T := TX3) (N := 9) hx hb hts hin tyX3 tyX3_ok nmX3 hown hK hP (xD hI) hS (0) (wX_e (by decide) rfl) rfl 7 (by decide) hlink (fun _ h9 => h9) rfl (by decide +kernel) rfl rfl (Nat.le_of_ble_eq_true rfl) hdg (fun H1 locs1 hP1 _ hS1 => kk H1 locs1 (us_S7 ▸ hP1) hS1)
theorem zg_X3_latestFault  (hx : p.tables.exec = Jvm.exec) (hb : c.code = cc) (hts : ∀ w ∈ Ts, w.before args s = true) (hin : ∀ w ∈ wsX30, w ∈ Ts) (hown : s.vm.findClass own = some m.cls) (hK : va_K D vwCl (tyX cy) s) (hP : va_P D vwCl (wX cy ad u) H) (hlink : (Cond.fieldLink own index "ProphetCover" "latestFault" "I").before args s = true) (hdg : decode cc pc = .ok (.getfield index, 3)) (kk : W p l e R s m args below meth c H locs cells slots Q (F0 m (pc + 3) ls (.int (u 0 8) :: rest))) : W p l e R s m args below meth c H locs cells slots Q (F0 m (pc) ls (.ref (ad 0) :: rest)) :=
  va_get (D := D) (ci := 3) (v := .int (u 0 8)) (C := RX3) (T := TX3) (N := 9) hx hb hts hin hown hK hP (0) (wX_e (by decide) rfl) rfl 8 (by decide) hlink (fun _ h9 => h9) rfl hdg kk
theorem zp_X3_latestFault  (hx : p.tables.exec = Jvm.exec) (hb : c.code = cc) (hts : ∀ w ∈ Ts, w.before args s = true) (hin : ∀ w ∈ wsX30, w ∈ Ts) (hown : s.vm.findClass own = some m.cls) (hK : va_K D vwCl (tyX cy) s) (hP : va_P D vwCl (wX cy ad u) H) (hI : XI ad) (hS : va_S (AX ad) H0 H locs) (hlink : (Cond.fieldLink own index "ProphetCover" "latestFault" "I").before args s = true) {x : Int32} (hdg : decode cc pc = .ok (.putfield index, 3)) (kk : ∀ (H1 : Heap) (locs1 : List Loc), va_P D vwCl (wX cy ad (mset u 0 8 x)) H1 → va_S (AX ad) H0 H1 locs1 → W p l e R s m args below meth c H1 locs1 cells slots Q (F0 m (pc + 3) ls (rest))) : W p l e R s m args below meth c H locs cells slots Q (F0 m (pc) ls (.int x :: .ref (ad 0) :: rest)) :=
  va_put (D := D) (ci := 3) (v := .int x) (ty := .int) (C := RX3) (T := TX3) (N := 9) hx hb hts hin tyX3 tyX3_ok nmX3 hown hK hP (xD hI) hS (0) (wX_e (by decide) rfl) rfl 8 (by decide) hlink (fun _ h9 => h9) rfl (by decide +kernel) rfl rfl (Nat.le_of_ble_eq_true rfl) hdg (fun H1 locs1 hP1 _ hS1 => kk H1 locs1 (us_S8 ▸ hP1) hS1)
theorem zg_X0_kind {k : Nat} (hk : k < 4) (hx : p.tables.exec = Jvm.exec) (hb : c.code = cc) (hts : ∀ w ∈ Ts, w.before args s = true) (hin : ∀ w ∈ wsX00, w ∈ Ts) (hown : s.vm.findClass own = some m.cls) (hK : va_K D vwCl (tyX cy) s) (hP : va_P D vwCl (wX cy ad u) H) (hlink : (Cond.fieldLink own index "ProphetCover$Prophet" "kind" "I").before args s = true) (hdg : decode cc pc = .ok (.getfield index, 3)) (kk : W p l e R s m args below meth c H locs cells slots Q (F0 m (pc + 3) ls (.int (u 2 k) :: rest))) : W p l e R s m args below meth c H locs cells slots Q (F0 m (pc) ls (.ref (ad (13 + k)) :: rest)) :=
  va_get (D := D) (ci := 0) (v := .int (u 2 k)) (C := RX0) (T := TX0) (N := 3) hx hb hts hin hown hK hP (13 + k) (wX_e (by omega) (eX_pr hk)) rfl 0 (by decide) hlink (fun _ h9 => h9) rfl hdg kk
theorem zp_X0_kind {k : Nat} (hk : k < 4) (hx : p.tables.exec = Jvm.exec) (hb : c.code = cc) (hts : ∀ w ∈ Ts, w.before args s = true) (hin : ∀ w ∈ wsX00, w ∈ Ts) (hown : s.vm.findClass own = some m.cls) (hK : va_K D vwCl (tyX cy) s) (hP : va_P D vwCl (wX cy ad u) H) (hI : XI ad) (hS : va_S (AX ad) H0 H locs) (hlink : (Cond.fieldLink own index "ProphetCover$Prophet" "kind" "I").before args s = true) {x : Int32} (hdg : decode cc pc = .ok (.putfield index, 3)) (kk : ∀ (H1 : Heap) (locs1 : List Loc), va_P D vwCl (wX cy ad (mset u 2 k x)) H1 → va_S (AX ad) H0 H1 locs1 → W p l e R s m args below meth c H1 locs1 cells slots Q (F0 m (pc + 3) ls (rest))) : W p l e R s m args below meth c H locs cells slots Q (F0 m (pc) ls (.int x :: .ref (ad (13 + k)) :: rest)) :=
  va_put (D := D) (ci := 0) (v := .int x) (ty := .int) (C := RX0) (T := TX0) (N := 3) hx hb hts hin tyX0 tyX0_ok nmX0 hown hK hP (xD hI) hS (13 + k) (wX_e (by omega) (eX_pr hk)) rfl 0 (by decide) hlink (fun _ h9 => h9) rfl (by decide +kernel) rfl rfl (Nat.le_of_ble_eq_true rfl) hdg (fun H1 locs1 hP1 _ hS1 => kk H1 locs1 (us_P0 hk ▸ hP1) hS1)
theorem zg_X0_cover {k : Nat} (hk : k < 4) (hx : p.tables.exec = Jvm.exec) (hb : c.code = cc) (hts : ∀ w ∈ Ts, w.before args s = true) (hin : ∀ w ∈ wsX00, w ∈ Ts) (hown : s.vm.findClass own = some m.cls) (hK : va_K D vwCl (tyX cy) s) (hP : va_P D vwCl (wX cy ad u) H) (hlink : (Cond.fieldLink own index "ProphetCover$Prophet" "cover" "I").before args s = true) (hdg : decode cc pc = .ok (.getfield index, 3)) (kk : W p l e R s m args below meth c H locs cells slots Q (F0 m (pc + 3) ls (.int (u 3 k) :: rest))) : W p l e R s m args below meth c H locs cells slots Q (F0 m (pc) ls (.ref (ad (13 + k)) :: rest)) :=
  va_get (D := D) (ci := 0) (v := .int (u 3 k)) (C := RX0) (T := TX0) (N := 3) hx hb hts hin hown hK hP (13 + k) (wX_e (by omega) (eX_pr hk)) rfl 1 (by decide) hlink (fun _ h9 => h9) rfl hdg kk
theorem zp_X0_cover {k : Nat} (hk : k < 4) (hx : p.tables.exec = Jvm.exec) (hb : c.code = cc) (hts : ∀ w ∈ Ts, w.before args s = true) (hin : ∀ w ∈ wsX00, w ∈ Ts) (hown : s.vm.findClass own = some m.cls) (hK : va_K D vwCl (tyX cy) s) (hP : va_P D vwCl (wX cy ad u) H) (hI : XI ad) (hS : va_S (AX ad) H0 H locs) (hlink : (Cond.fieldLink own index "ProphetCover$Prophet" "cover" "I").before args s = true) {x : Int32} (hdg : decode cc pc = .ok (.putfield index, 3)) (kk : ∀ (H1 : Heap) (locs1 : List Loc), va_P D vwCl (wX cy ad (mset u 3 k x)) H1 → va_S (AX ad) H0 H1 locs1 → W p l e R s m args below meth c H1 locs1 cells slots Q (F0 m (pc + 3) ls (rest))) : W p l e R s m args below meth c H locs cells slots Q (F0 m (pc) ls (.int x :: .ref (ad (13 + k)) :: rest)) :=
  va_put (D := D) (ci := 0) (v := .int x) (ty := .int) (C := RX0) (T := TX0) (N := 3) hx hb hts hin tyX0 tyX0_ok nmX0 hown hK hP (xD hI) hS (13 + k) (wX_e (by omega) (eX_pr hk)) rfl 1 (by decide) hlink (fun _ h9 => h9) rfl (by decide +kernel) rfl rfl (Nat.le_of_ble_eq_true rfl) hdg (fun H1 locs1 hP1 _ hS1 => kk H1 locs1 (us_P1 hk ▸ hP1) hS1)
theorem zg_X0_saidSet {k : Nat} (hk : k < 4) (hx : p.tables.exec = Jvm.exec) (hb : c.code = cc) (hts : ∀ w ∈ Ts, w.before args s = true) (hin : ∀ w ∈ wsX00, w ∈ Ts) (hown : s.vm.findClass own = some m.cls) (hK : va_K D vwCl (tyX cy) s) (hP : va_P D vwCl (wX cy ad u) H) (hlink : (Cond.fieldLink own index "ProphetCover$Prophet" "saidSet" "I").before args s = true) (hdg : decode cc pc = .ok (.getfield index, 3)) (kk : W p l e R s m args below meth c H locs cells slots Q (F0 m (pc + 3) ls (.int (u 4 k) :: rest))) : W p l e R s m args below meth c H locs cells slots Q (F0 m (pc) ls (.ref (ad (13 + k)) :: rest)) :=
  va_get (D := D) (ci := 0) (v := .int (u 4 k)) (C := RX0) (T := TX0) (N := 3) hx hb hts hin hown hK hP (13 + k) (wX_e (by omega) (eX_pr hk)) rfl 2 (by decide) hlink (fun _ h9 => h9) rfl hdg kk
theorem zp_X0_saidSet {k : Nat} (hk : k < 4) (hx : p.tables.exec = Jvm.exec) (hb : c.code = cc) (hts : ∀ w ∈ Ts, w.before args s = true) (hin : ∀ w ∈ wsX00, w ∈ Ts) (hown : s.vm.findClass own = some m.cls) (hK : va_K D vwCl (tyX cy) s) (hP : va_P D vwCl (wX cy ad u) H) (hI : XI ad) (hS : va_S (AX ad) H0 H locs) (hlink : (Cond.fieldLink own index "ProphetCover$Prophet" "saidSet" "I").before args s = true) {x : Int32} (hdg : decode cc pc = .ok (.putfield index, 3)) (kk : ∀ (H1 : Heap) (locs1 : List Loc), va_P D vwCl (wX cy ad (mset u 4 k x)) H1 → va_S (AX ad) H0 H1 locs1 → W p l e R s m args below meth c H1 locs1 cells slots Q (F0 m (pc + 3) ls (rest))) : W p l e R s m args below meth c H locs cells slots Q (F0 m (pc) ls (.int x :: .ref (ad (13 + k)) :: rest)) :=
  va_put (D := D) (ci := 0) (v := .int x) (ty := .int) (C := RX0) (T := TX0) (N := 3) hx hb hts hin tyX0 tyX0_ok nmX0 hown hK hP (xD hI) hS (13 + k) (wX_e (by omega) (eX_pr hk)) rfl 2 (by decide) hlink (fun _ h9 => h9) rfl (by decide +kernel) rfl rfl (Nat.le_of_ble_eq_true rfl) hdg (fun H1 locs1 hP1 _ hS1 => kk H1 locs1 (us_P2 hk ▸ hP1) hS1)
theorem zg_X1_prophet {k : Nat} (hk : k < 8) (hx : p.tables.exec = Jvm.exec) (hb : c.code = cc) (hts : ∀ w ∈ Ts, w.before args s = true) (hin : ∀ w ∈ wsX10, w ∈ Ts) (hown : s.vm.findClass own = some m.cls) (hK : va_K D vwCl (tyX cy) s) (hP : va_P D vwCl (wX cy ad u) H) (hlink : (Cond.fieldLink own index "ProphetCover$Reading" "prophet" "I").before args s = true) (hdg : decode cc pc = .ok (.getfield index, 3)) (kk : W p l e R s m args below meth c H locs cells slots Q (F0 m (pc + 3) ls (.int (u 5 k) :: rest))) : W p l e R s m args below meth c H locs cells slots Q (F0 m (pc) ls (.ref (ad (17 + k)) :: rest)) :=
  va_get (D := D) (ci := 1) (v := .int (u 5 k)) (C := RX1) (T := TX1) (N := 3) hx hb hts hin hown hK hP (17 + k) (wX_e (by omega) (eX_rd hk)) rfl 0 (by decide) hlink (fun _ h9 => h9) rfl hdg kk
theorem zp_X1_prophet {k : Nat} (hk : k < 8) (hx : p.tables.exec = Jvm.exec) (hb : c.code = cc) (hts : ∀ w ∈ Ts, w.before args s = true) (hin : ∀ w ∈ wsX10, w ∈ Ts) (hown : s.vm.findClass own = some m.cls) (hK : va_K D vwCl (tyX cy) s) (hP : va_P D vwCl (wX cy ad u) H) (hI : XI ad) (hS : va_S (AX ad) H0 H locs) (hlink : (Cond.fieldLink own index "ProphetCover$Reading" "prophet" "I").before args s = true) {x : Int32} (hdg : decode cc pc = .ok (.putfield index, 3)) (kk : ∀ (H1 : Heap) (locs1 : List Loc), va_P D vwCl (wX cy ad (mset u 5 k x)) H1 → va_S (AX ad) H0 H1 locs1 → W p l e R s m args below meth c H1 locs1 cells slots Q (F0 m (pc + 3) ls (rest))) : W p l e R s m args below meth c H locs cells slots Q (F0 m (pc) ls (.int x :: .ref (ad (17 + k)) :: rest)) :=
  va_put (D := D) (ci := 1) (v := .int x) (ty := .int) (C := RX1) (T := TX1) (N := 3) hx hb hts hin tyX1 tyX1_ok nmX1 hown hK hP (xD hI) hS (17 + k) (wX_e (by omega) (eX_rd hk)) rfl 0 (by decide) hlink (fun _ h9 => h9) rfl (by decide +kernel) rfl rfl (Nat.le_of_ble_eq_true rfl) hdg (fun H1 locs1 hP1 _ hS1 => kk H1 locs1 (us_G0 hk ▸ hP1) hS1)
theorem zg_X1_cameSet {k : Nat} (hk : k < 8) (hx : p.tables.exec = Jvm.exec) (hb : c.code = cc) (hts : ∀ w ∈ Ts, w.before args s = true) (hin : ∀ w ∈ wsX10, w ∈ Ts) (hown : s.vm.findClass own = some m.cls) (hK : va_K D vwCl (tyX cy) s) (hP : va_P D vwCl (wX cy ad u) H) (hlink : (Cond.fieldLink own index "ProphetCover$Reading" "cameSet" "I").before args s = true) (hdg : decode cc pc = .ok (.getfield index, 3)) (kk : W p l e R s m args below meth c H locs cells slots Q (F0 m (pc + 3) ls (.int (u 6 k) :: rest))) : W p l e R s m args below meth c H locs cells slots Q (F0 m (pc) ls (.ref (ad (17 + k)) :: rest)) :=
  va_get (D := D) (ci := 1) (v := .int (u 6 k)) (C := RX1) (T := TX1) (N := 3) hx hb hts hin hown hK hP (17 + k) (wX_e (by omega) (eX_rd hk)) rfl 1 (by decide) hlink (fun _ h9 => h9) rfl hdg kk
theorem zp_X1_cameSet {k : Nat} (hk : k < 8) (hx : p.tables.exec = Jvm.exec) (hb : c.code = cc) (hts : ∀ w ∈ Ts, w.before args s = true) (hin : ∀ w ∈ wsX10, w ∈ Ts) (hown : s.vm.findClass own = some m.cls) (hK : va_K D vwCl (tyX cy) s) (hP : va_P D vwCl (wX cy ad u) H) (hI : XI ad) (hS : va_S (AX ad) H0 H locs) (hlink : (Cond.fieldLink own index "ProphetCover$Reading" "cameSet" "I").before args s = true) {x : Int32} (hdg : decode cc pc = .ok (.putfield index, 3)) (kk : ∀ (H1 : Heap) (locs1 : List Loc), va_P D vwCl (wX cy ad (mset u 6 k x)) H1 → va_S (AX ad) H0 H1 locs1 → W p l e R s m args below meth c H1 locs1 cells slots Q (F0 m (pc + 3) ls (rest))) : W p l e R s m args below meth c H locs cells slots Q (F0 m (pc) ls (.int x :: .ref (ad (17 + k)) :: rest)) :=
  va_put (D := D) (ci := 1) (v := .int x) (ty := .int) (C := RX1) (T := TX1) (N := 3) hx hb hts hin tyX1 tyX1_ok nmX1 hown hK hP (xD hI) hS (17 + k) (wX_e (by omega) (eX_rd hk)) rfl 1 (by decide) hlink (fun _ h9 => h9) rfl (by decide +kernel) rfl rfl (Nat.le_of_ble_eq_true rfl) hdg (fun H1 locs1 hP1 _ hS1 => kk H1 locs1 (us_G1 hk ▸ hP1) hS1)
theorem zg_X1_amount {k : Nat} (hk : k < 8) (hx : p.tables.exec = Jvm.exec) (hb : c.code = cc) (hts : ∀ w ∈ Ts, w.before args s = true) (hin : ∀ w ∈ wsX10, w ∈ Ts) (hown : s.vm.findClass own = some m.cls) (hK : va_K D vwCl (tyX cy) s) (hP : va_P D vwCl (wX cy ad u) H) (hlink : (Cond.fieldLink own index "ProphetCover$Reading" "amount" "I").before args s = true) (hdg : decode cc pc = .ok (.getfield index, 3)) (kk : W p l e R s m args below meth c H locs cells slots Q (F0 m (pc + 3) ls (.int (u 7 k) :: rest))) : W p l e R s m args below meth c H locs cells slots Q (F0 m (pc) ls (.ref (ad (17 + k)) :: rest)) :=
  va_get (D := D) (ci := 1) (v := .int (u 7 k)) (C := RX1) (T := TX1) (N := 3) hx hb hts hin hown hK hP (17 + k) (wX_e (by omega) (eX_rd hk)) rfl 2 (by decide) hlink (fun _ h9 => h9) rfl hdg kk
theorem zp_X1_amount {k : Nat} (hk : k < 8) (hx : p.tables.exec = Jvm.exec) (hb : c.code = cc) (hts : ∀ w ∈ Ts, w.before args s = true) (hin : ∀ w ∈ wsX10, w ∈ Ts) (hown : s.vm.findClass own = some m.cls) (hK : va_K D vwCl (tyX cy) s) (hP : va_P D vwCl (wX cy ad u) H) (hI : XI ad) (hS : va_S (AX ad) H0 H locs) (hlink : (Cond.fieldLink own index "ProphetCover$Reading" "amount" "I").before args s = true) {x : Int32} (hdg : decode cc pc = .ok (.putfield index, 3)) (kk : ∀ (H1 : Heap) (locs1 : List Loc), va_P D vwCl (wX cy ad (mset u 7 k x)) H1 → va_S (AX ad) H0 H1 locs1 → W p l e R s m args below meth c H1 locs1 cells slots Q (F0 m (pc + 3) ls (rest))) : W p l e R s m args below meth c H locs cells slots Q (F0 m (pc) ls (.int x :: .ref (ad (17 + k)) :: rest)) :=
  va_put (D := D) (ci := 1) (v := .int x) (ty := .int) (C := RX1) (T := TX1) (N := 3) hx hb hts hin tyX1 tyX1_ok nmX1 hown hK hP (xD hI) hS (17 + k) (wX_e (by omega) (eX_rd hk)) rfl 2 (by decide) hlink (fun _ h9 => h9) rfl (by decide +kernel) rfl rfl (Nat.le_of_ble_eq_true rfl) hdg (fun H1 locs1 hP1 _ hS1 => kk H1 locs1 (us_G2 hk ▸ hP1) hS1)
theorem zg_X2_cells {k : Nat} (hk : k < 4) (hx : p.tables.exec = Jvm.exec) (hb : c.code = cc) (hts : ∀ w ∈ Ts, w.before args s = true) (hin : ∀ w ∈ wsX20, w ∈ Ts) (hown : s.vm.findClass own = some m.cls) (hK : va_K D vwCl (tyX cy) s) (hP : va_P D vwCl (wX cy ad u) H) (hlink : (Cond.fieldLink own index "ProphetCover$Sheet" "cells" "[I").before args s = true) (hdg : decode cc pc = .ok (.getfield index, 3)) (kk : W p l e R s m args below meth c H locs cells slots Q (F0 m (pc + 3) ls (.ref (ad (9 + k)) :: rest))) : W p l e R s m args below meth c H locs cells slots Q (F0 m (pc) ls (.ref (ad (5 + k)) :: rest)) :=
  va_get (D := D) (ci := 2) (v := .ref (ad (9 + k))) (C := RX2) (T := TX2) (N := 3) hx hb hts hin hown hK hP (5 + k) (wX_e (by omega) (eX_sh hk)) rfl 0 (by decide) hlink (fun _ h9 => h9) rfl hdg kk
theorem zg_X2_lane {k : Nat} (hk : k < 4) (hx : p.tables.exec = Jvm.exec) (hb : c.code = cc) (hts : ∀ w ∈ Ts, w.before args s = true) (hin : ∀ w ∈ wsX20, w ∈ Ts) (hown : s.vm.findClass own = some m.cls) (hK : va_K D vwCl (tyX cy) s) (hP : va_P D vwCl (wX cy ad u) H) (hlink : (Cond.fieldLink own index "ProphetCover$Sheet" "lane" "I").before args s = true) (hdg : decode cc pc = .ok (.getfield index, 3)) (kk : W p l e R s m args below meth c H locs cells slots Q (F0 m (pc + 3) ls (.int (u 8 k) :: rest))) : W p l e R s m args below meth c H locs cells slots Q (F0 m (pc) ls (.ref (ad (5 + k)) :: rest)) :=
  va_get (D := D) (ci := 2) (v := .int (u 8 k)) (C := RX2) (T := TX2) (N := 3) hx hb hts hin hown hK hP (5 + k) (wX_e (by omega) (eX_sh hk)) rfl 1 (by decide) hlink (fun _ h9 => h9) rfl hdg kk
theorem zp_X2_lane {k : Nat} (hk : k < 4) (hx : p.tables.exec = Jvm.exec) (hb : c.code = cc) (hts : ∀ w ∈ Ts, w.before args s = true) (hin : ∀ w ∈ wsX20, w ∈ Ts) (hown : s.vm.findClass own = some m.cls) (hK : va_K D vwCl (tyX cy) s) (hP : va_P D vwCl (wX cy ad u) H) (hI : XI ad) (hS : va_S (AX ad) H0 H locs) (hlink : (Cond.fieldLink own index "ProphetCover$Sheet" "lane" "I").before args s = true) {x : Int32} (hdg : decode cc pc = .ok (.putfield index, 3)) (kk : ∀ (H1 : Heap) (locs1 : List Loc), va_P D vwCl (wX cy ad (mset u 8 k x)) H1 → va_S (AX ad) H0 H1 locs1 → W p l e R s m args below meth c H1 locs1 cells slots Q (F0 m (pc + 3) ls (rest))) : W p l e R s m args below meth c H locs cells slots Q (F0 m (pc) ls (.int x :: .ref (ad (5 + k)) :: rest)) :=
  va_put (D := D) (ci := 2) (v := .int x) (ty := .int) (C := RX2) (T := TX2) (N := 3) hx hb hts hin tyX2 tyX2_ok nmX2 hown hK hP (xD hI) hS (5 + k) (wX_e (by omega) (eX_sh hk)) rfl 1 (by decide) hlink (fun _ h9 => h9) rfl (by decide +kernel) rfl rfl (Nat.le_of_ble_eq_true rfl) hdg (fun H1 locs1 hP1 _ hS1 => kk H1 locs1 (us_H0 hk ▸ hP1) hS1)
theorem zg_X2_size {k : Nat} (hk : k < 4) (hx : p.tables.exec = Jvm.exec) (hb : c.code = cc) (hts : ∀ w ∈ Ts, w.before args s = true) (hin : ∀ w ∈ wsX20, w ∈ Ts) (hown : s.vm.findClass own = some m.cls) (hK : va_K D vwCl (tyX cy) s) (hP : va_P D vwCl (wX cy ad u) H) (hlink : (Cond.fieldLink own index "ProphetCover$Sheet" "size" "I").before args s = true) (hdg : decode cc pc = .ok (.getfield index, 3)) (kk : W p l e R s m args below meth c H locs cells slots Q (F0 m (pc + 3) ls (.int (u 9 k) :: rest))) : W p l e R s m args below meth c H locs cells slots Q (F0 m (pc) ls (.ref (ad (5 + k)) :: rest)) :=
  va_get (D := D) (ci := 2) (v := .int (u 9 k)) (C := RX2) (T := TX2) (N := 3) hx hb hts hin hown hK hP (5 + k) (wX_e (by omega) (eX_sh hk)) rfl 2 (by decide) hlink (fun _ h9 => h9) rfl hdg kk
theorem zp_X2_size {k : Nat} (hk : k < 4) (hx : p.tables.exec = Jvm.exec) (hb : c.code = cc) (hts : ∀ w ∈ Ts, w.before args s = true) (hin : ∀ w ∈ wsX20, w ∈ Ts) (hown : s.vm.findClass own = some m.cls) (hK : va_K D vwCl (tyX cy) s) (hP : va_P D vwCl (wX cy ad u) H) (hI : XI ad) (hS : va_S (AX ad) H0 H locs) (hlink : (Cond.fieldLink own index "ProphetCover$Sheet" "size" "I").before args s = true) {x : Int32} (hdg : decode cc pc = .ok (.putfield index, 3)) (kk : ∀ (H1 : Heap) (locs1 : List Loc), va_P D vwCl (wX cy ad (mset u 9 k x)) H1 → va_S (AX ad) H0 H1 locs1 → W p l e R s m args below meth c H1 locs1 cells slots Q (F0 m (pc + 3) ls (rest))) : W p l e R s m args below meth c H locs cells slots Q (F0 m (pc) ls (.int x :: .ref (ad (5 + k)) :: rest)) :=
  va_put (D := D) (ci := 2) (v := .int x) (ty := .int) (C := RX2) (T := TX2) (N := 3) hx hb hts hin tyX2 tyX2_ok nmX2 hown hK hP (xD hI) hS (5 + k) (wX_e (by omega) (eX_sh hk)) rfl 2 (by decide) hlink (fun _ h9 => h9) rfl (by decide +kernel) rfl rfl (Nat.le_of_ble_eq_true rfl) hdg (fun H1 locs1 hP1 _ hS1 => kk H1 locs1 (us_H1 hk ▸ hP1) hS1)
theorem zg_X4_fault  (hx : p.tables.exec = Jvm.exec) (hb : c.code = cc) (hts : ∀ w ∈ Ts, w.before args s = true) (hin : ∀ w ∈ wsX40, w ∈ Ts) (hown : s.vm.findClass own = some m.cls) (hK : va_K D vwCl (tyM cz) s) (hP : va_P D vwCl (wM cz bd v) H) (hlink : (Cond.fieldLink own index "ProphetCoverModel" "fault" "I").before args s = true) (hdg : decode cc pc = .ok (.getfield index, 3)) (kk : W p l e R s m args below meth c H locs cells slots Q (F0 m (pc + 3) ls (.int (v 0 0) :: rest))) : W p l e R s m args below meth c H locs cells slots Q (F0 m (pc) ls (.ref (bd 0) :: rest)) :=
  va_get (D := D) (ci := 4) (v := .int (v 0 0)) (C := RX4) (T := TX4) (N := 27) hx hb hts hin hown hK hP (0) (wM_e (by decide) rfl) rfl 0 (by decide) hlink (fun _ h9 => h9) rfl hdg kk
theorem zp_X4_fault  (hx : p.tables.exec = Jvm.exec) (hb : c.code = cc) (hts : ∀ w ∈ Ts, w.before args s = true) (hin : ∀ w ∈ wsX40, w ∈ Ts) (hown : s.vm.findClass own = some m.cls) (hK : va_K D vwCl (tyM cz) s) (hP : va_P D vwCl (wM cz bd v) H) (hI : MI bd) (hS : va_S (AM bd) H0 H locs) (hlink : (Cond.fieldLink own index "ProphetCoverModel" "fault" "I").before args s = true) {x : Int32} (hdg : decode cc pc = .ok (.putfield index, 3)) (kk : ∀ (H1 : Heap) (locs1 : List Loc), va_P D vwCl (wM cz bd (mset v 0 0 x)) H1 → va_S (AM bd) H0 H1 locs1 → W p l e R s m args below meth c H1 locs1 cells slots Q (F0 m (pc + 3) ls (rest))) : W p l e R s m args below meth c H locs cells slots Q (F0 m (pc) ls (.int x :: .ref (bd 0) :: rest)) :=
  va_put (D := D) (ci := 4) (v := .int x) (ty := .int) (C := RX4) (T := TX4) (N := 27) hx hb hts hin tyX4 tyX4_ok nmX4 hown hK hP (mD hI) hS (0) (wM_e (by decide) rfl) rfl 0 (by decide) hlink (fun _ h9 => h9) rfl (by decide +kernel) rfl rfl (Nat.le_of_ble_eq_true rfl) hdg (fun H1 locs1 hP1 _ hS1 => kk H1 locs1 (um_S0 ▸ hP1) hS1)
theorem zg_X4_events  (hx : p.tables.exec = Jvm.exec) (hb : c.code = cc) (hts : ∀ w ∈ Ts, w.before args s = true) (hin : ∀ w ∈ wsX40, w ∈ Ts) (hown : s.vm.findClass own = some m.cls) (hK : va_K D vwCl (tyM cz) s) (hP : va_P D vwCl (wM cz bd v) H) (hlink : (Cond.fieldLink own index "ProphetCoverModel" "events" "I").before args s = true) (hdg : decode cc pc = .ok (.getfield index, 3)) (kk : W p l e R s m args below meth c H locs cells slots Q (F0 m (pc + 3) ls (.int (v 0 1) :: rest))) : W p l e R s m args below meth c H locs cells slots Q (F0 m (pc) ls (.ref (bd 0) :: rest)) :=
  va_get (D := D) (ci := 4) (v := .int (v 0 1)) (C := RX4) (T := TX4) (N := 27) hx hb hts hin hown hK hP (0) (wM_e (by decide) rfl) rfl 1 (by decide) hlink (fun _ h9 => h9) rfl hdg kk
theorem zp_X4_events  (hx : p.tables.exec = Jvm.exec) (hb : c.code = cc) (hts : ∀ w ∈ Ts, w.before args s = true) (hin : ∀ w ∈ wsX40, w ∈ Ts) (hown : s.vm.findClass own = some m.cls) (hK : va_K D vwCl (tyM cz) s) (hP : va_P D vwCl (wM cz bd v) H) (hI : MI bd) (hS : va_S (AM bd) H0 H locs) (hlink : (Cond.fieldLink own index "ProphetCoverModel" "events" "I").before args s = true) {x : Int32} (hdg : decode cc pc = .ok (.putfield index, 3)) (kk : ∀ (H1 : Heap) (locs1 : List Loc), va_P D vwCl (wM cz bd (mset v 0 1 x)) H1 → va_S (AM bd) H0 H1 locs1 → W p l e R s m args below meth c H1 locs1 cells slots Q (F0 m (pc + 3) ls (rest))) : W p l e R s m args below meth c H locs cells slots Q (F0 m (pc) ls (.int x :: .ref (bd 0) :: rest)) :=
  va_put (D := D) (ci := 4) (v := .int x) (ty := .int) (C := RX4) (T := TX4) (N := 27) hx hb hts hin tyX4 tyX4_ok nmX4 hown hK hP (mD hI) hS (0) (wM_e (by decide) rfl) rfl 1 (by decide) hlink (fun _ h9 => h9) rfl (by decide +kernel) rfl rfl (Nat.le_of_ble_eq_true rfl) hdg (fun H1 locs1 hP1 _ hS1 => kk H1 locs1 (um_S1 ▸ hP1) hS1)
theorem zg_X4_chanceOf  (hx : p.tables.exec = Jvm.exec) (hb : c.code = cc) (hts : ∀ w ∈ Ts, w.before args s = true) (hin : ∀ w ∈ wsX40, w ∈ Ts) (hown : s.vm.findClass own = some m.cls) (hK : va_K D vwCl (tyM cz) s) (hP : va_P D vwCl (wM cz bd v) H) (hlink : (Cond.fieldLink own index "ProphetCoverModel" "chanceOf" "[I").before args s = true) (hdg : decode cc pc = .ok (.getfield index, 3)) (kk : W p l e R s m args below meth c H locs cells slots Q (F0 m (pc + 3) ls (.ref (bd 1) :: rest))) : W p l e R s m args below meth c H locs cells slots Q (F0 m (pc) ls (.ref (bd 0) :: rest)) :=
  va_get (D := D) (ci := 4) (v := .ref (bd 1)) (C := RX4) (T := TX4) (N := 27) hx hb hts hin hown hK hP (0) (wM_e (by decide) rfl) rfl 2 (by decide) hlink (fun _ h9 => h9) rfl hdg kk
theorem zg_X4_prophets  (hx : p.tables.exec = Jvm.exec) (hb : c.code = cc) (hts : ∀ w ∈ Ts, w.before args s = true) (hin : ∀ w ∈ wsX40, w ∈ Ts) (hown : s.vm.findClass own = some m.cls) (hK : va_K D vwCl (tyM cz) s) (hP : va_P D vwCl (wM cz bd v) H) (hlink : (Cond.fieldLink own index "ProphetCoverModel" "prophets" "I").before args s = true) (hdg : decode cc pc = .ok (.getfield index, 3)) (kk : W p l e R s m args below meth c H locs cells slots Q (F0 m (pc + 3) ls (.int (v 0 3) :: rest))) : W p l e R s m args below meth c H locs cells slots Q (F0 m (pc) ls (.ref (bd 0) :: rest)) :=
  va_get (D := D) (ci := 4) (v := .int (v 0 3)) (C := RX4) (T := TX4) (N := 27) hx hb hts hin hown hK hP (0) (wM_e (by decide) rfl) rfl 3 (by decide) hlink (fun _ h9 => h9) rfl hdg kk
theorem zp_X4_prophets  (hx : p.tables.exec = Jvm.exec) (hb : c.code = cc) (hts : ∀ w ∈ Ts, w.before args s = true) (hin : ∀ w ∈ wsX40, w ∈ Ts) (hown : s.vm.findClass own = some m.cls) (hK : va_K D vwCl (tyM cz) s) (hP : va_P D vwCl (wM cz bd v) H) (hI : MI bd) (hS : va_S (AM bd) H0 H locs) (hlink : (Cond.fieldLink own index "ProphetCoverModel" "prophets" "I").before args s = true) {x : Int32} (hdg : decode cc pc = .ok (.putfield index, 3)) (kk : ∀ (H1 : Heap) (locs1 : List Loc), va_P D vwCl (wM cz bd (mset v 0 3 x)) H1 → va_S (AM bd) H0 H1 locs1 → W p l e R s m args below meth c H1 locs1 cells slots Q (F0 m (pc + 3) ls (rest))) : W p l e R s m args below meth c H locs cells slots Q (F0 m (pc) ls (.int x :: .ref (bd 0) :: rest)) :=
  va_put (D := D) (ci := 4) (v := .int x) (ty := .int) (C := RX4) (T := TX4) (N := 27) hx hb hts hin tyX4 tyX4_ok nmX4 hown hK hP (mD hI) hS (0) (wM_e (by decide) rfl) rfl 3 (by decide) hlink (fun _ h9 => h9) rfl (by decide +kernel) rfl rfl (Nat.le_of_ble_eq_true rfl) hdg (fun H1 locs1 hP1 _ hS1 => kk H1 locs1 (um_S3 ▸ hP1) hS1)
theorem zg_X4_kindOf  (hx : p.tables.exec = Jvm.exec) (hb : c.code = cc) (hts : ∀ w ∈ Ts, w.before args s = true) (hin : ∀ w ∈ wsX40, w ∈ Ts) (hown : s.vm.findClass own = some m.cls) (hK : va_K D vwCl (tyM cz) s) (hP : va_P D vwCl (wM cz bd v) H) (hlink : (Cond.fieldLink own index "ProphetCoverModel" "kindOf" "[I").before args s = true) (hdg : decode cc pc = .ok (.getfield index, 3)) (kk : W p l e R s m args below meth c H locs cells slots Q (F0 m (pc + 3) ls (.ref (bd 2) :: rest))) : W p l e R s m args below meth c H locs cells slots Q (F0 m (pc) ls (.ref (bd 0) :: rest)) :=
  va_get (D := D) (ci := 4) (v := .ref (bd 2)) (C := RX4) (T := TX4) (N := 27) hx hb hts hin hown hK hP (0) (wM_e (by decide) rfl) rfl 4 (by decide) hlink (fun _ h9 => h9) rfl hdg kk
theorem zg_X4_coverOf  (hx : p.tables.exec = Jvm.exec) (hb : c.code = cc) (hts : ∀ w ∈ Ts, w.before args s = true) (hin : ∀ w ∈ wsX40, w ∈ Ts) (hown : s.vm.findClass own = some m.cls) (hK : va_K D vwCl (tyM cz) s) (hP : va_P D vwCl (wM cz bd v) H) (hlink : (Cond.fieldLink own index "ProphetCoverModel" "coverOf" "[I").before args s = true) (hdg : decode cc pc = .ok (.getfield index, 3)) (kk : W p l e R s m args below meth c H locs cells slots Q (F0 m (pc + 3) ls (.ref (bd 3) :: rest))) : W p l e R s m args below meth c H locs cells slots Q (F0 m (pc) ls (.ref (bd 0) :: rest)) :=
  va_get (D := D) (ci := 4) (v := .ref (bd 3)) (C := RX4) (T := TX4) (N := 27) hx hb hts hin hown hK hP (0) (wM_e (by decide) rfl) rfl 5 (by decide) hlink (fun _ h9 => h9) rfl hdg kk
theorem zg_X4_saidBy  (hx : p.tables.exec = Jvm.exec) (hb : c.code = cc) (hts : ∀ w ∈ Ts, w.before args s = true) (hin : ∀ w ∈ wsX40, w ∈ Ts) (hown : s.vm.findClass own = some m.cls) (hK : va_K D vwCl (tyM cz) s) (hP : va_P D vwCl (wM cz bd v) H) (hlink : (Cond.fieldLink own index "ProphetCoverModel" "saidBy" "[I").before args s = true) (hdg : decode cc pc = .ok (.getfield index, 3)) (kk : W p l e R s m args below meth c H locs cells slots Q (F0 m (pc + 3) ls (.ref (bd 4) :: rest))) : W p l e R s m args below meth c H locs cells slots Q (F0 m (pc) ls (.ref (bd 0) :: rest)) :=
  va_get (D := D) (ci := 4) (v := .ref (bd 4)) (C := RX4) (T := TX4) (N := 27) hx hb hts hin hown hK hP (0) (wM_e (by decide) rfl) rfl 6 (by decide) hlink (fun _ h9 => h9) rfl hdg kk
theorem zg_X4_readAt  (hx : p.tables.exec = Jvm.exec) (hb : c.code = cc) (hts : ∀ w ∈ Ts, w.before args s = true) (hin : ∀ w ∈ wsX40, w ∈ Ts) (hown : s.vm.findClass own = some m.cls) (hK : va_K D vwCl (tyM cz) s) (hP : va_P D vwCl (wM cz bd v) H) (hlink : (Cond.fieldLink own index "ProphetCoverModel" "readAt" "I").before args s = true) (hdg : decode cc pc = .ok (.getfield index, 3)) (kk : W p l e R s m args below meth c H locs cells slots Q (F0 m (pc + 3) ls (.int (v 0 7) :: rest))) : W p l e R s m args below meth c H locs cells slots Q (F0 m (pc) ls (.ref (bd 0) :: rest)) :=
  va_get (D := D) (ci := 4) (v := .int (v 0 7)) (C := RX4) (T := TX4) (N := 27) hx hb hts hin hown hK hP (0) (wM_e (by decide) rfl) rfl 7 (by decide) hlink (fun _ h9 => h9) rfl hdg kk
theorem zp_X4_readAt  (hx : p.tables.exec = Jvm.exec) (hb : c.code = cc) (hts : ∀ w ∈ Ts, w.before args s = true) (hin : ∀ w ∈ wsX40, w ∈ Ts) (hown : s.vm.findClass own = some m.cls) (hK : va_K D vwCl (tyM cz) s) (hP : va_P D vwCl (wM cz bd v) H) (hI : MI bd) (hS : va_S (AM bd) H0 H locs) (hlink : (Cond.fieldLink own index "ProphetCoverModel" "readAt" "I").before args s = true) {x : Int32} (hdg : decode cc pc = .ok (.putfield index, 3)) (kk : ∀ (H1 : Heap) (locs1 : List Loc), va_P D vwCl (wM cz bd (mset v 0 7 x)) H1 → va_S (AM bd) H0 H1 locs1 → W p l e R s m args below meth c H1 locs1 cells slots Q (F0 m (pc + 3) ls (rest))) : W p l e R s m args below meth c H locs cells slots Q (F0 m (pc) ls (.int x :: .ref (bd 0) :: rest)) :=
  va_put (D := D) (ci := 4) (v := .int x) (ty := .int) (C := RX4) (T := TX4) (N := 27) hx hb hts hin tyX4 tyX4_ok nmX4 hown hK hP (mD hI) hS (0) (wM_e (by decide) rfl) rfl 7 (by decide) hlink (fun _ h9 => h9) rfl (by decide +kernel) rfl rfl (Nat.le_of_ble_eq_true rfl) hdg (fun H1 locs1 hP1 _ hS1 => kk H1 locs1 (um_S7 ▸ hP1) hS1)
theorem zg_X4_readEvents  (hx : p.tables.exec = Jvm.exec) (hb : c.code = cc) (hts : ∀ w ∈ Ts, w.before args s = true) (hin : ∀ w ∈ wsX40, w ∈ Ts) (hown : s.vm.findClass own = some m.cls) (hK : va_K D vwCl (tyM cz) s) (hP : va_P D vwCl (wM cz bd v) H) (hlink : (Cond.fieldLink own index "ProphetCoverModel" "readEvents" "I").before args s = true) (hdg : decode cc pc = .ok (.getfield index, 3)) (kk : W p l e R s m args below meth c H locs cells slots Q (F0 m (pc + 3) ls (.int (v 0 8) :: rest))) : W p l e R s m args below meth c H locs cells slots Q (F0 m (pc) ls (.ref (bd 0) :: rest)) :=
  va_get (D := D) (ci := 4) (v := .int (v 0 8)) (C := RX4) (T := TX4) (N := 27) hx hb hts hin hown hK hP (0) (wM_e (by decide) rfl) rfl 8 (by decide) hlink (fun _ h9 => h9) rfl hdg kk
theorem zp_X4_readEvents  (hx : p.tables.exec = Jvm.exec) (hb : c.code = cc) (hts : ∀ w ∈ Ts, w.before args s = true) (hin : ∀ w ∈ wsX40, w ∈ Ts) (hown : s.vm.findClass own = some m.cls) (hK : va_K D vwCl (tyM cz) s) (hP : va_P D vwCl (wM cz bd v) H) (hI : MI bd) (hS : va_S (AM bd) H0 H locs) (hlink : (Cond.fieldLink own index "ProphetCoverModel" "readEvents" "I").before args s = true) {x : Int32} (hdg : decode cc pc = .ok (.putfield index, 3)) (kk : ∀ (H1 : Heap) (locs1 : List Loc), va_P D vwCl (wM cz bd (mset v 0 8 x)) H1 → va_S (AM bd) H0 H1 locs1 → W p l e R s m args below meth c H1 locs1 cells slots Q (F0 m (pc + 3) ls (rest))) : W p l e R s m args below meth c H locs cells slots Q (F0 m (pc) ls (.int x :: .ref (bd 0) :: rest)) :=
  va_put (D := D) (ci := 4) (v := .int x) (ty := .int) (C := RX4) (T := TX4) (N := 27) hx hb hts hin tyX4 tyX4_ok nmX4 hown hK hP (mD hI) hS (0) (wM_e (by decide) rfl) rfl 8 (by decide) hlink (fun _ h9 => h9) rfl (by decide +kernel) rfl rfl (Nat.le_of_ble_eq_true rfl) hdg (fun H1 locs1 hP1 _ hS1 => kk H1 locs1 (um_S8 ▸ hP1) hS1)
theorem zg_X4_readProphets  (hx : p.tables.exec = Jvm.exec) (hb : c.code = cc) (hts : ∀ w ∈ Ts, w.before args s = true) (hin : ∀ w ∈ wsX40, w ∈ Ts) (hown : s.vm.findClass own = some m.cls) (hK : va_K D vwCl (tyM cz) s) (hP : va_P D vwCl (wM cz bd v) H) (hlink : (Cond.fieldLink own index "ProphetCoverModel" "readProphets" "I").before args s = true) (hdg : decode cc pc = .ok (.getfield index, 3)) (kk : W p l e R s m args below meth c H locs cells slots Q (F0 m (pc + 3) ls (.int (v 0 9) :: rest))) : W p l e R s m args below meth c H locs cells slots Q (F0 m (pc) ls (.ref (bd 0) :: rest)) :=
  va_get (D := D) (ci := 4) (v := .int (v 0 9)) (C := RX4) (T := TX4) (N := 27) hx hb hts hin hown hK hP (0) (wM_e (by decide) rfl) rfl 9 (by decide) hlink (fun _ h9 => h9) rfl hdg kk
theorem zp_X4_readProphets  (hx : p.tables.exec = Jvm.exec) (hb : c.code = cc) (hts : ∀ w ∈ Ts, w.before args s = true) (hin : ∀ w ∈ wsX40, w ∈ Ts) (hown : s.vm.findClass own = some m.cls) (hK : va_K D vwCl (tyM cz) s) (hP : va_P D vwCl (wM cz bd v) H) (hI : MI bd) (hS : va_S (AM bd) H0 H locs) (hlink : (Cond.fieldLink own index "ProphetCoverModel" "readProphets" "I").before args s = true) {x : Int32} (hdg : decode cc pc = .ok (.putfield index, 3)) (kk : ∀ (H1 : Heap) (locs1 : List Loc), va_P D vwCl (wM cz bd (mset v 0 9 x)) H1 → va_S (AM bd) H0 H1 locs1 → W p l e R s m args below meth c H1 locs1 cells slots Q (F0 m (pc + 3) ls (rest))) : W p l e R s m args below meth c H locs cells slots Q (F0 m (pc) ls (.int x :: .ref (bd 0) :: rest)) :=
  va_put (D := D) (ci := 4) (v := .int x) (ty := .int) (C := RX4) (T := TX4) (N := 27) hx hb hts hin tyX4 tyX4_ok nmX4 hown hK hP (mD hI) hS (0) (wM_e (by decide) rfl) rfl 9 (by decide) hlink (fun _ h9 => h9) rfl (by decide +kernel) rfl rfl (Nat.le_of_ble_eq_true rfl) hdg (fun H1 locs1 hP1 _ hS1 => kk H1 locs1 (um_S9 ▸ hP1) hS1)
theorem zg_X4_readChance  (hx : p.tables.exec = Jvm.exec) (hb : c.code = cc) (hts : ∀ w ∈ Ts, w.before args s = true) (hin : ∀ w ∈ wsX40, w ∈ Ts) (hown : s.vm.findClass own = some m.cls) (hK : va_K D vwCl (tyM cz) s) (hP : va_P D vwCl (wM cz bd v) H) (hlink : (Cond.fieldLink own index "ProphetCoverModel" "readChance" "[I").before args s = true) (hdg : decode cc pc = .ok (.getfield index, 3)) (kk : W p l e R s m args below meth c H locs cells slots Q (F0 m (pc + 3) ls (.ref (bd 5) :: rest))) : W p l e R s m args below meth c H locs cells slots Q (F0 m (pc) ls (.ref (bd 0) :: rest)) :=
  va_get (D := D) (ci := 4) (v := .ref (bd 5)) (C := RX4) (T := TX4) (N := 27) hx hb hts hin hown hK hP (0) (wM_e (by decide) rfl) rfl 10 (by decide) hlink (fun _ h9 => h9) rfl hdg kk
theorem zg_X4_readKind  (hx : p.tables.exec = Jvm.exec) (hb : c.code = cc) (hts : ∀ w ∈ Ts, w.before args s = true) (hin : ∀ w ∈ wsX40, w ∈ Ts) (hown : s.vm.findClass own = some m.cls) (hK : va_K D vwCl (tyM cz) s) (hP : va_P D vwCl (wM cz bd v) H) (hlink : (Cond.fieldLink own index "ProphetCoverModel" "readKind" "[I").before args s = true) (hdg : decode cc pc = .ok (.getfield index, 3)) (kk : W p l e R s m args below meth c H locs cells slots Q (F0 m (pc + 3) ls (.ref (bd 6) :: rest))) : W p l e R s m args below meth c H locs cells slots Q (F0 m (pc) ls (.ref (bd 0) :: rest)) :=
  va_get (D := D) (ci := 4) (v := .ref (bd 6)) (C := RX4) (T := TX4) (N := 27) hx hb hts hin hown hK hP (0) (wM_e (by decide) rfl) rfl 11 (by decide) hlink (fun _ h9 => h9) rfl hdg kk
theorem zg_X4_readCover  (hx : p.tables.exec = Jvm.exec) (hb : c.code = cc) (hts : ∀ w ∈ Ts, w.before args s = true) (hin : ∀ w ∈ wsX40, w ∈ Ts) (hown : s.vm.findClass own = some m.cls) (hK : va_K D vwCl (tyM cz) s) (hP : va_P D vwCl (wM cz bd v) H) (hlink : (Cond.fieldLink own index "ProphetCoverModel" "readCover" "[I").before args s = true) (hdg : decode cc pc = .ok (.getfield index, 3)) (kk : W p l e R s m args below meth c H locs cells slots Q (F0 m (pc + 3) ls (.ref (bd 7) :: rest))) : W p l e R s m args below meth c H locs cells slots Q (F0 m (pc) ls (.ref (bd 0) :: rest)) :=
  va_get (D := D) (ci := 4) (v := .ref (bd 7)) (C := RX4) (T := TX4) (N := 27) hx hb hts hin hown hK hP (0) (wM_e (by decide) rfl) rfl 12 (by decide) hlink (fun _ h9 => h9) rfl hdg kk
theorem zg_X4_readSaid  (hx : p.tables.exec = Jvm.exec) (hb : c.code = cc) (hts : ∀ w ∈ Ts, w.before args s = true) (hin : ∀ w ∈ wsX40, w ∈ Ts) (hown : s.vm.findClass own = some m.cls) (hK : va_K D vwCl (tyM cz) s) (hP : va_P D vwCl (wM cz bd v) H) (hlink : (Cond.fieldLink own index "ProphetCoverModel" "readSaid" "[I").before args s = true) (hdg : decode cc pc = .ok (.getfield index, 3)) (kk : W p l e R s m args below meth c H locs cells slots Q (F0 m (pc + 3) ls (.ref (bd 8) :: rest))) : W p l e R s m args below meth c H locs cells slots Q (F0 m (pc) ls (.ref (bd 0) :: rest)) :=
  va_get (D := D) (ci := 4) (v := .ref (bd 8)) (C := RX4) (T := TX4) (N := 27) hx hb hts hin hown hK hP (0) (wM_e (by decide) rfl) rfl 13 (by decide) hlink (fun _ h9 => h9) rfl hdg kk
theorem zg_X4_stands  (hx : p.tables.exec = Jvm.exec) (hb : c.code = cc) (hts : ∀ w ∈ Ts, w.before args s = true) (hin : ∀ w ∈ wsX40, w ∈ Ts) (hown : s.vm.findClass own = some m.cls) (hK : va_K D vwCl (tyM cz) s) (hP : va_P D vwCl (wM cz bd v) H) (hlink : (Cond.fieldLink own index "ProphetCoverModel" "stands" "I").before args s = true) (hdg : decode cc pc = .ok (.getfield index, 3)) (kk : W p l e R s m args below meth c H locs cells slots Q (F0 m (pc + 3) ls (.int (v 0 14) :: rest))) : W p l e R s m args below meth c H locs cells slots Q (F0 m (pc) ls (.ref (bd 0) :: rest)) :=
  va_get (D := D) (ci := 4) (v := .int (v 0 14)) (C := RX4) (T := TX4) (N := 27) hx hb hts hin hown hK hP (0) (wM_e (by decide) rfl) rfl 14 (by decide) hlink (fun _ h9 => h9) rfl hdg kk
theorem zp_X4_stands  (hx : p.tables.exec = Jvm.exec) (hb : c.code = cc) (hts : ∀ w ∈ Ts, w.before args s = true) (hin : ∀ w ∈ wsX40, w ∈ Ts) (hown : s.vm.findClass own = some m.cls) (hK : va_K D vwCl (tyM cz) s) (hP : va_P D vwCl (wM cz bd v) H) (hI : MI bd) (hS : va_S (AM bd) H0 H locs) (hlink : (Cond.fieldLink own index "ProphetCoverModel" "stands" "I").before args s = true) {x : Int32} (hdg : decode cc pc = .ok (.putfield index, 3)) (kk : ∀ (H1 : Heap) (locs1 : List Loc), va_P D vwCl (wM cz bd (mset v 0 14 x)) H1 → va_S (AM bd) H0 H1 locs1 → W p l e R s m args below meth c H1 locs1 cells slots Q (F0 m (pc + 3) ls (rest))) : W p l e R s m args below meth c H locs cells slots Q (F0 m (pc) ls (.int x :: .ref (bd 0) :: rest)) :=
  va_put (D := D) (ci := 4) (v := .int x) (ty := .int) (C := RX4) (T := TX4) (N := 27) hx hb hts hin tyX4 tyX4_ok nmX4 hown hK hP (mD hI) hS (0) (wM_e (by decide) rfl) rfl 14 (by decide) hlink (fun _ h9 => h9) rfl (by decide +kernel) rfl rfl (Nat.le_of_ble_eq_true rfl) hdg (fun H1 locs1 hP1 _ hS1 => kk H1 locs1 (um_S14 ▸ hP1) hS1)
theorem zg_X4_brokenAt  (hx : p.tables.exec = Jvm.exec) (hb : c.code = cc) (hts : ∀ w ∈ Ts, w.before args s = true) (hin : ∀ w ∈ wsX40, w ∈ Ts) (hown : s.vm.findClass own = some m.cls) (hK : va_K D vwCl (tyM cz) s) (hP : va_P D vwCl (wM cz bd v) H) (hlink : (Cond.fieldLink own index "ProphetCoverModel" "brokenAt" "I").before args s = true) (hdg : decode cc pc = .ok (.getfield index, 3)) (kk : W p l e R s m args below meth c H locs cells slots Q (F0 m (pc + 3) ls (.int (v 0 15) :: rest))) : W p l e R s m args below meth c H locs cells slots Q (F0 m (pc) ls (.ref (bd 0) :: rest)) :=
  va_get (D := D) (ci := 4) (v := .int (v 0 15)) (C := RX4) (T := TX4) (N := 27) hx hb hts hin hown hK hP (0) (wM_e (by decide) rfl) rfl 15 (by decide) hlink (fun _ h9 => h9) rfl hdg kk
theorem zp_X4_brokenAt  (hx : p.tables.exec = Jvm.exec) (hb : c.code = cc) (hts : ∀ w ∈ Ts, w.before args s = true) (hin : ∀ w ∈ wsX40, w ∈ Ts) (hown : s.vm.findClass own = some m.cls) (hK : va_K D vwCl (tyM cz) s) (hP : va_P D vwCl (wM cz bd v) H) (hI : MI bd) (hS : va_S (AM bd) H0 H locs) (hlink : (Cond.fieldLink own index "ProphetCoverModel" "brokenAt" "I").before args s = true) {x : Int32} (hdg : decode cc pc = .ok (.putfield index, 3)) (kk : ∀ (H1 : Heap) (locs1 : List Loc), va_P D vwCl (wM cz bd (mset v 0 15 x)) H1 → va_S (AM bd) H0 H1 locs1 → W p l e R s m args below meth c H1 locs1 cells slots Q (F0 m (pc + 3) ls (rest))) : W p l e R s m args below meth c H locs cells slots Q (F0 m (pc) ls (.int x :: .ref (bd 0) :: rest)) :=
  va_put (D := D) (ci := 4) (v := .int x) (ty := .int) (C := RX4) (T := TX4) (N := 27) hx hb hts hin tyX4 tyX4_ok nmX4 hown hK hP (mD hI) hS (0) (wM_e (by decide) rfl) rfl 15 (by decide) hlink (fun _ h9 => h9) rfl (by decide +kernel) rfl rfl (Nat.le_of_ble_eq_true rfl) hdg (fun H1 locs1 hP1 _ hS1 => kk H1 locs1 (um_S15 ▸ hP1) hS1)
theorem zg_X4_paidNow  (hx : p.tables.exec = Jvm.exec) (hb : c.code = cc) (hts : ∀ w ∈ Ts, w.before args s = true) (hin : ∀ w ∈ wsX40, w ∈ Ts) (hown : s.vm.findClass own = some m.cls) (hK : va_K D vwCl (tyM cz) s) (hP : va_P D vwCl (wM cz bd v) H) (hlink : (Cond.fieldLink own index "ProphetCoverModel" "paidNow" "I").before args s = true) (hdg : decode cc pc = .ok (.getfield index, 3)) (kk : W p l e R s m args below meth c H locs cells slots Q (F0 m (pc + 3) ls (.int (v 0 16) :: rest))) : W p l e R s m args below meth c H locs cells slots Q (F0 m (pc) ls (.ref (bd 0) :: rest)) :=
  va_get (D := D) (ci := 4) (v := .int (v 0 16)) (C := RX4) (T := TX4) (N := 27) hx hb hts hin hown hK hP (0) (wM_e (by decide) rfl) rfl 16 (by decide) hlink (fun _ h9 => h9) rfl hdg kk
theorem zp_X4_paidNow  (hx : p.tables.exec = Jvm.exec) (hb : c.code = cc) (hts : ∀ w ∈ Ts, w.before args s = true) (hin : ∀ w ∈ wsX40, w ∈ Ts) (hown : s.vm.findClass own = some m.cls) (hK : va_K D vwCl (tyM cz) s) (hP : va_P D vwCl (wM cz bd v) H) (hI : MI bd) (hS : va_S (AM bd) H0 H locs) (hlink : (Cond.fieldLink own index "ProphetCoverModel" "paidNow" "I").before args s = true) {x : Int32} (hdg : decode cc pc = .ok (.putfield index, 3)) (kk : ∀ (H1 : Heap) (locs1 : List Loc), va_P D vwCl (wM cz bd (mset v 0 16 x)) H1 → va_S (AM bd) H0 H1 locs1 → W p l e R s m args below meth c H1 locs1 cells slots Q (F0 m (pc + 3) ls (rest))) : W p l e R s m args below meth c H locs cells slots Q (F0 m (pc) ls (.int x :: .ref (bd 0) :: rest)) :=
  va_put (D := D) (ci := 4) (v := .int x) (ty := .int) (C := RX4) (T := TX4) (N := 27) hx hb hts hin tyX4 tyX4_ok nmX4 hown hK hP (mD hI) hS (0) (wM_e (by decide) rfl) rfl 16 (by decide) hlink (fun _ h9 => h9) rfl (by decide +kernel) rfl rfl (Nat.le_of_ble_eq_true rfl) hdg (fun H1 locs1 hP1 _ hS1 => kk H1 locs1 (um_S16 ▸ hP1) hS1)
theorem zg_X4_mostPaid  (hx : p.tables.exec = Jvm.exec) (hb : c.code = cc) (hts : ∀ w ∈ Ts, w.before args s = true) (hin : ∀ w ∈ wsX40, w ∈ Ts) (hown : s.vm.findClass own = some m.cls) (hK : va_K D vwCl (tyM cz) s) (hP : va_P D vwCl (wM cz bd v) H) (hlink : (Cond.fieldLink own index "ProphetCoverModel" "mostPaid" "I").before args s = true) (hdg : decode cc pc = .ok (.getfield index, 3)) (kk : W p l e R s m args below meth c H locs cells slots Q (F0 m (pc + 3) ls (.int (v 0 17) :: rest))) : W p l e R s m args below meth c H locs cells slots Q (F0 m (pc) ls (.ref (bd 0) :: rest)) :=
  va_get (D := D) (ci := 4) (v := .int (v 0 17)) (C := RX4) (T := TX4) (N := 27) hx hb hts hin hown hK hP (0) (wM_e (by decide) rfl) rfl 17 (by decide) hlink (fun _ h9 => h9) rfl hdg kk
theorem zp_X4_mostPaid  (hx : p.tables.exec = Jvm.exec) (hb : c.code = cc) (hts : ∀ w ∈ Ts, w.before args s = true) (hin : ∀ w ∈ wsX40, w ∈ Ts) (hown : s.vm.findClass own = some m.cls) (hK : va_K D vwCl (tyM cz) s) (hP : va_P D vwCl (wM cz bd v) H) (hI : MI bd) (hS : va_S (AM bd) H0 H locs) (hlink : (Cond.fieldLink own index "ProphetCoverModel" "mostPaid" "I").before args s = true) {x : Int32} (hdg : decode cc pc = .ok (.putfield index, 3)) (kk : ∀ (H1 : Heap) (locs1 : List Loc), va_P D vwCl (wM cz bd (mset v 0 17 x)) H1 → va_S (AM bd) H0 H1 locs1 → W p l e R s m args below meth c H1 locs1 cells slots Q (F0 m (pc + 3) ls (rest))) : W p l e R s m args below meth c H locs cells slots Q (F0 m (pc) ls (.int x :: .ref (bd 0) :: rest)) :=
  va_put (D := D) (ci := 4) (v := .int x) (ty := .int) (C := RX4) (T := TX4) (N := 27) hx hb hts hin tyX4 tyX4_ok nmX4 hown hK hP (mD hI) hS (0) (wM_e (by decide) rfl) rfl 17 (by decide) hlink (fun _ h9 => h9) rfl (by decide +kernel) rfl rfl (Nat.le_of_ble_eq_true rfl) hdg (fun H1 locs1 hP1 _ hS1 => kk H1 locs1 (um_S17 ▸ hP1) hS1)
theorem zg_X4_readings  (hx : p.tables.exec = Jvm.exec) (hb : c.code = cc) (hts : ∀ w ∈ Ts, w.before args s = true) (hin : ∀ w ∈ wsX40, w ∈ Ts) (hown : s.vm.findClass own = some m.cls) (hK : va_K D vwCl (tyM cz) s) (hP : va_P D vwCl (wM cz bd v) H) (hlink : (Cond.fieldLink own index "ProphetCoverModel" "readings" "I").before args s = true) (hdg : decode cc pc = .ok (.getfield index, 3)) (kk : W p l e R s m args below meth c H locs cells slots Q (F0 m (pc + 3) ls (.int (v 0 18) :: rest))) : W p l e R s m args below meth c H locs cells slots Q (F0 m (pc) ls (.ref (bd 0) :: rest)) :=
  va_get (D := D) (ci := 4) (v := .int (v 0 18)) (C := RX4) (T := TX4) (N := 27) hx hb hts hin hown hK hP (0) (wM_e (by decide) rfl) rfl 18 (by decide) hlink (fun _ h9 => h9) rfl hdg kk
theorem zp_X4_readings  (hx : p.tables.exec = Jvm.exec) (hb : c.code = cc) (hts : ∀ w ∈ Ts, w.before args s = true) (hin : ∀ w ∈ wsX40, w ∈ Ts) (hown : s.vm.findClass own = some m.cls) (hK : va_K D vwCl (tyM cz) s) (hP : va_P D vwCl (wM cz bd v) H) (hI : MI bd) (hS : va_S (AM bd) H0 H locs) (hlink : (Cond.fieldLink own index "ProphetCoverModel" "readings" "I").before args s = true) {x : Int32} (hdg : decode cc pc = .ok (.putfield index, 3)) (kk : ∀ (H1 : Heap) (locs1 : List Loc), va_P D vwCl (wM cz bd (mset v 0 18 x)) H1 → va_S (AM bd) H0 H1 locs1 → W p l e R s m args below meth c H1 locs1 cells slots Q (F0 m (pc + 3) ls (rest))) : W p l e R s m args below meth c H locs cells slots Q (F0 m (pc) ls (.int x :: .ref (bd 0) :: rest)) :=
  va_put (D := D) (ci := 4) (v := .int x) (ty := .int) (C := RX4) (T := TX4) (N := 27) hx hb hts hin tyX4 tyX4_ok nmX4 hown hK hP (mD hI) hS (0) (wM_e (by decide) rfl) rfl 18 (by decide) hlink (fun _ h9 => h9) rfl (by decide +kernel) rfl rfl (Nat.le_of_ble_eq_true rfl) hdg (fun H1 locs1 hP1 _ hS1 => kk H1 locs1 (um_S18 ▸ hP1) hS1)
theorem zg_X4_readingOf  (hx : p.tables.exec = Jvm.exec) (hb : c.code = cc) (hts : ∀ w ∈ Ts, w.before args s = true) (hin : ∀ w ∈ wsX40, w ∈ Ts) (hown : s.vm.findClass own = some m.cls) (hK : va_K D vwCl (tyM cz) s) (hP : va_P D vwCl (wM cz bd v) H) (hlink : (Cond.fieldLink own index "ProphetCoverModel" "readingOf" "[I").before args s = true) (hdg : decode cc pc = .ok (.getfield index, 3)) (kk : W p l e R s m args below meth c H locs cells slots Q (F0 m (pc + 3) ls (.ref (bd 9) :: rest))) : W p l e R s m args below meth c H locs cells slots Q (F0 m (pc) ls (.ref (bd 0) :: rest)) :=
  va_get (D := D) (ci := 4) (v := .ref (bd 9)) (C := RX4) (T := TX4) (N := 27) hx hb hts hin hown hK hP (0) (wM_e (by decide) rfl) rfl 19 (by decide) hlink (fun _ h9 => h9) rfl hdg kk
theorem zg_X4_readingBy  (hx : p.tables.exec = Jvm.exec) (hb : c.code = cc) (hts : ∀ w ∈ Ts, w.before args s = true) (hin : ∀ w ∈ wsX40, w ∈ Ts) (hown : s.vm.findClass own = some m.cls) (hK : va_K D vwCl (tyM cz) s) (hP : va_P D vwCl (wM cz bd v) H) (hlink : (Cond.fieldLink own index "ProphetCoverModel" "readingBy" "[I").before args s = true) (hdg : decode cc pc = .ok (.getfield index, 3)) (kk : W p l e R s m args below meth c H locs cells slots Q (F0 m (pc + 3) ls (.ref (bd 10) :: rest))) : W p l e R s m args below meth c H locs cells slots Q (F0 m (pc) ls (.ref (bd 0) :: rest)) :=
  va_get (D := D) (ci := 4) (v := .ref (bd 10)) (C := RX4) (T := TX4) (N := 27) hx hb hts hin hown hK hP (0) (wM_e (by decide) rfl) rfl 20 (by decide) hlink (fun _ h9 => h9) rfl hdg kk
theorem zg_X4_readingWas  (hx : p.tables.exec = Jvm.exec) (hb : c.code = cc) (hts : ∀ w ∈ Ts, w.before args s = true) (hin : ∀ w ∈ wsX40, w ∈ Ts) (hown : s.vm.findClass own = some m.cls) (hK : va_K D vwCl (tyM cz) s) (hP : va_P D vwCl (wM cz bd v) H) (hlink : (Cond.fieldLink own index "ProphetCoverModel" "readingWas" "[I").before args s = true) (hdg : decode cc pc = .ok (.getfield index, 3)) (kk : W p l e R s m args below meth c H locs cells slots Q (F0 m (pc + 3) ls (.ref (bd 11) :: rest))) : W p l e R s m args below meth c H locs cells slots Q (F0 m (pc) ls (.ref (bd 0) :: rest)) :=
  va_get (D := D) (ci := 4) (v := .ref (bd 11)) (C := RX4) (T := TX4) (N := 27) hx hb hts hin hown hK hP (0) (wM_e (by decide) rfl) rfl 21 (by decide) hlink (fun _ h9 => h9) rfl hdg kk
theorem zg_X4_sheetSize  (hx : p.tables.exec = Jvm.exec) (hb : c.code = cc) (hts : ∀ w ∈ Ts, w.before args s = true) (hin : ∀ w ∈ wsX40, w ∈ Ts) (hown : s.vm.findClass own = some m.cls) (hK : va_K D vwCl (tyM cz) s) (hP : va_P D vwCl (wM cz bd v) H) (hlink : (Cond.fieldLink own index "ProphetCoverModel" "sheetSize" "[I").before args s = true) (hdg : decode cc pc = .ok (.getfield index, 3)) (kk : W p l e R s m args below meth c H locs cells slots Q (F0 m (pc + 3) ls (.ref (bd 12) :: rest))) : W p l e R s m args below meth c H locs cells slots Q (F0 m (pc) ls (.ref (bd 0) :: rest)) :=
  va_get (D := D) (ci := 4) (v := .ref (bd 12)) (C := RX4) (T := TX4) (N := 27) hx hb hts hin hown hK hP (0) (wM_e (by decide) rfl) rfl 22 (by decide) hlink (fun _ h9 => h9) rfl hdg kk
theorem zg_X4_sheetLane  (hx : p.tables.exec = Jvm.exec) (hb : c.code = cc) (hts : ∀ w ∈ Ts, w.before args s = true) (hin : ∀ w ∈ wsX40, w ∈ Ts) (hown : s.vm.findClass own = some m.cls) (hK : va_K D vwCl (tyM cz) s) (hP : va_P D vwCl (wM cz bd v) H) (hlink : (Cond.fieldLink own index "ProphetCoverModel" "sheetLane" "[I").before args s = true) (hdg : decode cc pc = .ok (.getfield index, 3)) (kk : W p l e R s m args below meth c H locs cells slots Q (F0 m (pc + 3) ls (.ref (bd 13) :: rest))) : W p l e R s m args below meth c H locs cells slots Q (F0 m (pc) ls (.ref (bd 0) :: rest)) :=
  va_get (D := D) (ci := 4) (v := .ref (bd 13)) (C := RX4) (T := TX4) (N := 27) hx hb hts hin hown hK hP (0) (wM_e (by decide) rfl) rfl 23 (by decide) hlink (fun _ h9 => h9) rfl hdg kk
theorem zg_X4_sheet  (hx : p.tables.exec = Jvm.exec) (hb : c.code = cc) (hts : ∀ w ∈ Ts, w.before args s = true) (hin : ∀ w ∈ wsX40, w ∈ Ts) (hown : s.vm.findClass own = some m.cls) (hK : va_K D vwCl (tyM cz) s) (hP : va_P D vwCl (wM cz bd v) H) (hlink : (Cond.fieldLink own index "ProphetCoverModel" "sheet" "[I").before args s = true) (hdg : decode cc pc = .ok (.getfield index, 3)) (kk : W p l e R s m args below meth c H locs cells slots Q (F0 m (pc + 3) ls (.ref (bd 14) :: rest))) : W p l e R s m args below meth c H locs cells slots Q (F0 m (pc) ls (.ref (bd 0) :: rest)) :=
  va_get (D := D) (ci := 4) (v := .ref (bd 14)) (C := RX4) (T := TX4) (N := 27) hx hb hts hin hown hK hP (0) (wM_e (by decide) rfl) rfl 24 (by decide) hlink (fun _ h9 => h9) rfl hdg kk
theorem zg_X4_hands  (hx : p.tables.exec = Jvm.exec) (hb : c.code = cc) (hts : ∀ w ∈ Ts, w.before args s = true) (hin : ∀ w ∈ wsX40, w ∈ Ts) (hown : s.vm.findClass own = some m.cls) (hK : va_K D vwCl (tyM cz) s) (hP : va_P D vwCl (wM cz bd v) H) (hlink : (Cond.fieldLink own index "ProphetCoverModel" "hands" "[I").before args s = true) (hdg : decode cc pc = .ok (.getfield index, 3)) (kk : W p l e R s m args below meth c H locs cells slots Q (F0 m (pc + 3) ls (.ref (bd 15) :: rest))) : W p l e R s m args below meth c H locs cells slots Q (F0 m (pc) ls (.ref (bd 0) :: rest)) :=
  va_get (D := D) (ci := 4) (v := .ref (bd 15)) (C := RX4) (T := TX4) (N := 27) hx hb hts hin hown hK hP (0) (wM_e (by decide) rfl) rfl 25 (by decide) hlink (fun _ h9 => h9) rfl hdg kk
theorem zg_X4_traceNow  (hx : p.tables.exec = Jvm.exec) (hb : c.code = cc) (hts : ∀ w ∈ Ts, w.before args s = true) (hin : ∀ w ∈ wsX40, w ∈ Ts) (hown : s.vm.findClass own = some m.cls) (hK : va_K D vwCl (tyM cz) s) (hP : va_P D vwCl (wM cz bd v) H) (hlink : (Cond.fieldLink own index "ProphetCoverModel" "traceNow" "I").before args s = true) (hdg : decode cc pc = .ok (.getfield index, 3)) (kk : W p l e R s m args below meth c H locs cells slots Q (F0 m (pc + 3) ls (.int (v 0 26) :: rest))) : W p l e R s m args below meth c H locs cells slots Q (F0 m (pc) ls (.ref (bd 0) :: rest)) :=
  va_get (D := D) (ci := 4) (v := .int (v 0 26)) (C := RX4) (T := TX4) (N := 27) hx hb hts hin hown hK hP (0) (wM_e (by decide) rfl) rfl 26 (by decide) hlink (fun _ h9 => h9) rfl hdg kk
theorem zp_X4_traceNow  (hx : p.tables.exec = Jvm.exec) (hb : c.code = cc) (hts : ∀ w ∈ Ts, w.before args s = true) (hin : ∀ w ∈ wsX40, w ∈ Ts) (hown : s.vm.findClass own = some m.cls) (hK : va_K D vwCl (tyM cz) s) (hP : va_P D vwCl (wM cz bd v) H) (hI : MI bd) (hS : va_S (AM bd) H0 H locs) (hlink : (Cond.fieldLink own index "ProphetCoverModel" "traceNow" "I").before args s = true) {x : Int32} (hdg : decode cc pc = .ok (.putfield index, 3)) (kk : ∀ (H1 : Heap) (locs1 : List Loc), va_P D vwCl (wM cz bd (mset v 0 26 x)) H1 → va_S (AM bd) H0 H1 locs1 → W p l e R s m args below meth c H1 locs1 cells slots Q (F0 m (pc + 3) ls (rest))) : W p l e R s m args below meth c H locs cells slots Q (F0 m (pc) ls (.int x :: .ref (bd 0) :: rest)) :=
  va_put (D := D) (ci := 4) (v := .int x) (ty := .int) (C := RX4) (T := TX4) (N := 27) hx hb hts hin tyX4 tyX4_ok nmX4 hown hK hP (mD hI) hS (0) (wM_e (by decide) rfl) rfl 26 (by decide) hlink (fun _ h9 => h9) rfl (by decide +kernel) rfl rfl (Nat.le_of_ble_eq_true rfl) hdg (fun H1 locs1 hP1 _ hS1 => kk H1 locs1 (um_S26 ▸ hP1) hS1)
theorem zl_ch  (hx : p.tables.exec = Jvm.exec) (hb : c.code = cc) (hK : va_K D vwCl (tyX cy) s) (hP : va_P D vwCl (wX cy ad u) H) {i : Int32} (hi : vp_in i 5) (hdg : decode cc pc = .ok (.iaload, 1)) (kk : W p l e R s m args below meth c H locs cells slots Q (F0 m (pc + 1) ls (.int (u 1 i.toNatClampNeg) :: rest))) : W p l e R s m args below meth c H locs cells slots Q (F0 m (pc) ls (.int i :: .ref (ad 2) :: rest)) :=
  va_iald (D := D) hx hb hK hP (2) 0 (wX_e (by decide) rfl) rfl hi hdg kk
theorem zl_ce {k : Nat} (hk : k < 4) (hx : p.tables.exec = Jvm.exec) (hb : c.code = cc) (hK : va_K D vwCl (tyX cy) s) (hP : va_P D vwCl (wX cy ad u) H) {i : Int32} (hi : vp_in i 60) (hdg : decode cc pc = .ok (.iaload, 1)) (kk : W p l e R s m args below meth c H locs cells slots Q (F0 m (pc + 1) ls (.int (u (10 + k) i.toNatClampNeg) :: rest))) : W p l e R s m args below meth c H locs cells slots Q (F0 m (pc) ls (.int i :: .ref (ad (9 + k)) :: rest)) :=
  va_iald (D := D) hx hb hK hP (9 + k) 0 (wX_e (by omega) (eX_ce hk)) rfl hi hdg kk
theorem zl_sheets  (hx : p.tables.exec = Jvm.exec) (hb : c.code = cc) (hK : va_K D vwCl (tyX cy) s) (hP : va_P D vwCl (wX cy ad u) H) {i : Int32} (hi : vp_in i 4) (hdg : decode cc pc = .ok (.aaload, 1)) (kk : W p l e R s m args below meth c H locs cells slots Q (F0 m (pc + 1) ls (.ref (ad (5 + i.toNatClampNeg)) :: rest))) : W p l e R s m args below meth c H locs cells slots Q (F0 m (pc) ls (.int i :: .ref (ad 1) :: rest)) :=
  va_aldq (D := D) hx hb hK hP (1) 1 (wX_e (by decide) rfl) rfl hi hdg kk
theorem zl_prophets  (hx : p.tables.exec = Jvm.exec) (hb : c.code = cc) (hK : va_K D vwCl (tyX cy) s) (hP : va_P D vwCl (wX cy ad u) H) {i : Int32} (hi : vp_in i 4) (hdg : decode cc pc = .ok (.aaload, 1)) (kk : W p l e R s m args below meth c H locs cells slots Q (F0 m (pc + 1) ls (.ref (ad (13 + i.toNatClampNeg)) :: rest))) : W p l e R s m args below meth c H locs cells slots Q (F0 m (pc) ls (.int i :: .ref (ad 3) :: rest)) :=
  va_aldq (D := D) hx hb hK hP (3) 2 (wX_e (by decide) rfl) rfl hi hdg kk
theorem zl_readings  (hx : p.tables.exec = Jvm.exec) (hb : c.code = cc) (hK : va_K D vwCl (tyX cy) s) (hP : va_P D vwCl (wX cy ad u) H) {i : Int32} (hi : vp_in i 8) (hdg : decode cc pc = .ok (.aaload, 1)) (kk : W p l e R s m args below meth c H locs cells slots Q (F0 m (pc + 1) ls (.ref (ad (17 + i.toNatClampNeg)) :: rest))) : W p l e R s m args below meth c H locs cells slots Q (F0 m (pc) ls (.int i :: .ref (ad 4) :: rest)) :=
  va_aldq (D := D) hx hb hK hP (4) 3 (wX_e (by decide) rfl) rfl hi hdg kk
theorem zl_M {a n : Nat} (ha : a < 16) (h0 : a ≠ 0) (hn : lenM a = n) (hx : p.tables.exec = Jvm.exec) (hb : c.code = cc) (hK : va_K D vwCl (tyM cz) s) (hP : va_P D vwCl (wM cz bd v) H) {i : Int32} (hi : vp_in i n) (hdg : decode cc pc = .ok (.iaload, 1)) (kk : W p l e R s m args below meth c H locs cells slots Q (F0 m (pc + 1) ls (.int (v a i.toNatClampNeg) :: rest))) : W p l e R s m args below meth c H locs cells slots Q (F0 m (pc) ls (.int i :: .ref (bd a) :: rest)) :=
  va_iald (D := D) hx hb hK hP (a) 0 (wM_e ha (eM_ar h0 hn)) rfl hi hdg kk
theorem zs_ch  (hx : p.tables.exec = Jvm.exec) (hb : c.code = cc) (hK : va_K D vwCl (tyX cy) s) (hP : va_P D vwCl (wX cy ad u) H) (hI : XI ad) (hS : va_S (AX ad) H0 H locs) {i x : Int32} (hi : vp_in i 5) (hdg : decode cc pc = .ok (.iastore, 1)) (kk : ∀ (H1 : Heap) (locs1 : List Loc), va_P D vwCl (wX cy ad (mset u 1 i.toNatClampNeg x)) H1 → va_S (AX ad) H0 H1 locs1 → W p l e R s m args below meth c H1 locs1 cells slots Q (F0 m (pc + 1) ls (rest))) : W p l e R s m args below meth c H locs cells slots Q (F0 m (pc) ls (.int x :: .int i :: .ref (ad 2) :: rest)) :=
  va_iast (D := D) hx hb hK hP (xD hI) hS (2) 0 (wX_e (by decide) rfl) rfl hi hdg (fun H1 locs1 hP1 _ hS1 => kk H1 locs1 (us_ch ▸ hP1) hS1)
theorem zs_ce {k : Nat} (hk : k < 4) (hx : p.tables.exec = Jvm.exec) (hb : c.code = cc) (hK : va_K D vwCl (tyX cy) s) (hP : va_P D vwCl (wX cy ad u) H) (hI : XI ad) (hS : va_S (AX ad) H0 H locs) {i x : Int32} (hi : vp_in i 60) (hdg : decode cc pc = .ok (.iastore, 1)) (kk : ∀ (H1 : Heap) (locs1 : List Loc), va_P D vwCl (wX cy ad (mset u (10 + k) i.toNatClampNeg x)) H1 → va_S (AX ad) H0 H1 locs1 → W p l e R s m args below meth c H1 locs1 cells slots Q (F0 m (pc + 1) ls (rest))) : W p l e R s m args below meth c H locs cells slots Q (F0 m (pc) ls (.int x :: .int i :: .ref (ad (9 + k)) :: rest)) :=
  va_iast (D := D) hx hb hK hP (xD hI) hS (9 + k) 0 (wX_e (by omega) (eX_ce hk)) rfl hi hdg (fun H1 locs1 hP1 _ hS1 => kk H1 locs1 (us_ce hk ▸ hP1) hS1)
theorem zs_M {a n : Nat} (ha : a < 16) (h0 : a ≠ 0) (hn : lenM a = n) (hx : p.tables.exec = Jvm.exec) (hb : c.code = cc) (hK : va_K D vwCl (tyM cz) s) (hP : va_P D vwCl (wM cz bd v) H) (hI : MI bd) (hS : va_S (AM bd) H0 H locs) {i x : Int32} (hi : vp_in i n) (hdg : decode cc pc = .ok (.iastore, 1)) (kk : ∀ (H1 : Heap) (locs1 : List Loc), va_P D vwCl (wM cz bd (mset v a i.toNatClampNeg x)) H1 → va_S (AM bd) H0 H1 locs1 → W p l e R s m args below meth c H1 locs1 cells slots Q (F0 m (pc + 1) ls (rest))) : W p l e R s m args below meth c H locs cells slots Q (F0 m (pc) ls (.int x :: .int i :: .ref (bd a) :: rest)) :=
  va_iast (D := D) hx hb hK hP (mD hI) hS (a) 0 (wM_e ha (eM_ar h0 hn)) rfl hi hdg (fun H1 locs1 hP1 _ hS1 => kk H1 locs1 (um_ar ha h0 hn ▸ hP1) hS1)
end BASE
end
