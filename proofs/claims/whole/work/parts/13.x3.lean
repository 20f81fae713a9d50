def fX3_greatestDivisor_c7 (p0 : Int32) (p1 : Int32)  : Nat → Int32 → Int32 → Int32 → Int32
  | 0, x4, x3, x2 => 0
  | n7 + 1, x4, x3, x2 => (if 100 ≤ x4 then (if x2 < 1 then 1 else x2) else (if x3 = 0 then (if x2 < 1 then 1 else x2) else (fX3_greatestDivisor_c7 p0 p1 n7 (x4 + 1) (x2 - x2 / x3 * x3) x3)))
def fX3_greatestDivisor (p0 : Int32) (p1 : Int32) : Int32 :=
  (fX3_greatestDivisor_c7 p0 p1 (101) 0 p1 p0)
set_option maxRecDepth 100000 in
set_option maxHeartbeats 4000000 in
theorem kX3_greatestDivisor (l : Launch)  (p0 : Int32) (p1 : Int32)  : Met l yX3_greatestDivisor wsX3_greatestDivisor ({ frames := 1, cells := 0, slots := 0, locals := 21 } : Room) (va_Pc [.int p0, .int p1] (fun _ => True)) (qR (some (.int (fX3_greatestDivisor p0 p1)))) 0 0 noF := by
  refine m_start (cc := cX3_greatestDivisor) (maxL := 6) (ret := (some .int)) (by decide) rfl (Nat.le_of_ble_eq_true rfl) (fun p e s m below meth c hx hb hr hts hown hml hlk _ hB ls hl => ?_)
  have hown : s.vm.findClass RX3 = some m.cls := hown
  have hl : lv_has ls 6 [(0, .int p0), (1, .int p1)] := hl
  refine lv_iload_n hx hb dX3_greatestDivisor_0 rfl (lv_at hl 0 rfl) ?_
  refine lv_istore_n (lv' := [(2, .int p0), (0, .int p0), (1, .int p1)]) hx hb dX3_greatestDivisor_1 rfl hl (by decide) rfl (fun ls hl => ?_)
  refine lv_iload_n hx hb dX3_greatestDivisor_2 rfl (lv_at hl 2 rfl) ?_
  refine lv_istore_n (lv' := [(3, .int p1), (2, .int p0), (0, .int p0), (1, .int p1)]) hx hb dX3_greatestDivisor_3 rfl hl (by decide) rfl (fun ls hl => ?_)
  refine lv_iconst (v := 0) hx hb dX3_greatestDivisor_4 (by decide) ?_
  refine lv_istore (lv' := [(4, .int 0), (3, .int p1), (2, .int p0), (0, .int p0), (1, .int p1)]) hx hb dX3_greatestDivisor_5 hl (by decide) rfl (fun ls hl => ?_)
  have lp7 : ∀ (n7 : Nat) (x4 : Int32) (x3 : Int32) (x2 : Int32) (k7 : Nat), (fX3_greatestDivisor p0 p1) = (fX3_greatestDivisor_c7 p0 p1 n7 x4 x3 x2) → (x4 = nI k7) → (k7 ≤ 100) → (100 < k7 + n7) → ∀ ls : Array Slot, lv_has ls 6 [(4, .int x4), (3, .int x3), (2, .int x2)] → W p l e ({ frames := 1, cells := 0, slots := 0, locals := 21 } : Room) s m ([.int p0, .int p1] : List Value).toArray below meth c s.heap [] 0 0 (MQ below (qR (some (.int (fX3_greatestDivisor p0 p1)))) ([.int p0, .int p1] : List Value).toArray s 0 0 noF) (F0 m 7 ls []) := by
    intro n7
    induction n7 with
    | zero =>
      intro x4 x3 x2 k7 _ e7 hk7 hm7 ls hl
      exfalso; omega
    | succ n7 ih7 =>
      intro x4 x3 x2 k7 hr7 e7 hk7 hm7 ls hl
      refine lv_iload hx hb dX3_greatestDivisor_7 (lv_at hl 0 rfl) ?_
      refine lv_bipush (v := 100) hx hb dX3_greatestDivisor_9 (by decide) ?_
      refine lv_icmp_ge (tgt := 34) hx hb dX3_greatestDivisor_11 (by decide) (fun c1 => ?_) (fun c1 => ?_)
      · refine lv_iload_n hx hb dX3_greatestDivisor_34 rfl (lv_at hl 2 rfl) ?_
        refine lv_iconst (v := 1) hx hb dX3_greatestDivisor_35 (by decide) ?_
        refine va_mmax hx hb (hml.trans hl.1.symm) hown (hts (Cond.methodLink RX3 231 Lib.Math.max.name) (List.mem_of_getElem? (i := 1) rfl)) (hts (Cond.static Lib.Math.max.name) (List.mem_of_getElem? (i := 2) rfl)) (hts (Cond.initialized "java/lang/Math") (List.mem_of_getElem? (i := 3) rfl)) (hts (Cond.code Lib.Math.max.name Lib.Math.max.code 2 (some .int)) (List.mem_of_getElem? (i := 4) rfl)) (Nat.le_of_ble_eq_true rfl) (Nat.le_of_ble_eq_true rfl) (Nat.le_refl _) (Nat.le_refl _) dX3_greatestDivisor_36 ?_
        exact rI hx hb hr hlk dX3_greatestDivisor_39 (by rw [hr7, fX3_greatestDivisor_c7, if_pos c1])
      · have hlt7 : k7 < 100 := cnt_lt (show (100 : Int32) = nI 100 from rfl) e7 (by omega) (by omega) c1
        refine lv_iload_n hx hb dX3_greatestDivisor_14 rfl (lv_at hl 1 rfl) ?_
        refine lv_if_eq (tgt := 34) hx hb dX3_greatestDivisor_15 (by decide) (fun c2 => ?_) (fun c2 => ?_)
        · refine lv_iload_n hx hb dX3_greatestDivisor_34 rfl (lv_at hl 2 rfl) ?_
          refine lv_iconst (v := 1) hx hb dX3_greatestDivisor_35 (by decide) ?_
          refine va_mmax hx hb (hml.trans hl.1.symm) hown (hts (Cond.methodLink RX3 231 Lib.Math.max.name) (List.mem_of_getElem? (i := 1) rfl)) (hts (Cond.static Lib.Math.max.name) (List.mem_of_getElem? (i := 2) rfl)) (hts (Cond.initialized "java/lang/Math") (List.mem_of_getElem? (i := 3) rfl)) (hts (Cond.code Lib.Math.max.name Lib.Math.max.code 2 (some .int)) (List.mem_of_getElem? (i := 4) rfl)) (Nat.le_of_ble_eq_true rfl) (Nat.le_of_ble_eq_true rfl) (Nat.le_refl _) (Nat.le_refl _) dX3_greatestDivisor_36 ?_
          exact rI hx hb hr hlk dX3_greatestDivisor_39 (by rw [hr7, fX3_greatestDivisor_c7, if_neg c1, if_pos c2])
        · refine lv_iload_n hx hb dX3_greatestDivisor_18 rfl (lv_at hl 2 rfl) ?_
          refine lv_iload_n hx hb dX3_greatestDivisor_19 rfl (lv_at hl 1 rfl) ?_
          refine lv_irem hx hb dX3_greatestDivisor_20 (by assumption) ?_
          refine lv_istore (lv' := [(5, .int (x2 - x2 / x3 * x3)), (4, .int x4), (3, .int x3), (2, .int x2)]) hx hb dX3_greatestDivisor_21 hl (by decide) rfl (fun ls hl => ?_)
          refine lv_iload_n hx hb dX3_greatestDivisor_23 rfl (lv_at hl 2 rfl) ?_
          refine lv_istore_n (lv' := [(2, .int x3), (5, .int (x2 - x2 / x3 * x3)), (4, .int x4), (3, .int x3)]) hx hb dX3_greatestDivisor_24 rfl hl (by decide) rfl (fun ls hl => ?_)
          refine lv_iload hx hb dX3_greatestDivisor_25 (lv_at hl 1 rfl) ?_
          refine lv_istore_n (lv' := [(3, .int (x2 - x2 / x3 * x3)), (2, .int x3), (5, .int (x2 - x2 / x3 * x3)), (4, .int x4)]) hx hb dX3_greatestDivisor_27 rfl hl (by decide) rfl (fun ls hl => ?_)
          refine lv_iinc (v := (x4 + 1)) (lv' := [(4, .int (x4 + 1)), (3, .int (x2 - x2 / x3 * x3)), (2, .int x3), (5, .int (x2 - x2 / x3 * x3))]) hx hb dX3_greatestDivisor_28 hl (k := 3) rfl rfl (by decide) rfl (fun ls hl => ?_)
          refine lv_goto (tgt := 7) hx hb dX3_greatestDivisor_31 (by decide) ?_
          exact ih7 (x4 + 1) (x2 - x2 / x3 * x3) x3 (k7 + 1) (by rw [hr7, fX3_greatestDivisor_c7, if_neg c1, if_neg c2]) (by rw [e7]; exact nI_1 _) hlt7 (by omega) ls (lv_sub hl [0, 1, 2] rfl)
  exact lp7 (101) 0 p1 p0 (0) (by rw [fX3_greatestDivisor]) nI_0.symm (by omega) (by omega) ls (lv_sub hl [0, 1, 2] rfl)
theorem max1_ne (x : Int32) : ¬ (if x < 1 then 1 else x) = (0 : Int32) := by
  by_cases c : x < 1
  · rw [if_pos c]; decide
  · rw [if_neg c]; intro q; subst q; exact c (by decide)
theorem gd_ne (a b : Int32) : ¬ fX3_greatestDivisor a b = 0 := by
  have key : ∀ (n k : Nat) (y z : Int32), k ≤ 100 → 100 < k + n → ¬ fX3_greatestDivisor_c7 a b n (nI k) y z = 0 := by
    intro n
    induction n with
    | zero => intro k y z h1 h2; omega
    | succ n ih =>
      intro k y z h1 h2
      rw [fX3_greatestDivisor_c7]
      by_cases c : (100 : Int32) ≤ nI k
      · rw [if_pos c]; exact max1_ne z
      rw [if_neg c]
      by_cases c2 : y = 0
      · rw [if_pos c2]; exact max1_ne z
      rw [if_neg c2, nI_1]
      have := cnt_lt (show (100 : Int32) = nI 100 from rfl) (rfl : nI k = nI k) (by omega) (by omega) c
      exact ih (k + 1) _ _ (by omega) (by omega)
  exact key 101 0 b a (by omega) (by omega)
def fX3_shareNumber (p0 : Int32) (p1 : Int32) (p2 : Int32) : Int64 :=
  (if p2 = 0 then ((p0 / (fX3_greatestDivisor p0 p1))).toInt64 else ((p1 / (fX3_greatestDivisor p0 p1))).toInt64)
set_option maxRecDepth 100000 in
set_option maxHeartbeats 4000000 in
theorem kX3_shareNumber (l : Launch)  (p0 : Int32) (p1 : Int32) (p2 : Int32)  : Met l yX3_shareNumber wsX3_shareNumber ({ frames := 2, cells := 0, slots := 0, locals := 46 } : Room) (va_Pc [.int p0, .int p1, .int p2] (fun _ => True)) (qR (some (.long (fX3_shareNumber p0 p1 p2)))) 0 0 noF := by
  refine m_start (cc := cX3_shareNumber) (maxL := 4) (ret := (some .long)) (by decide) rfl (Nat.le_of_ble_eq_true rfl) (fun p e s m below meth c hx hb hr hts hown hml hlk _ hB ls hl => ?_)
  have hown : s.vm.findClass RX3 = some m.cls := hown
  have hl : lv_has ls 4 [(0, .int p0), (1, .int p1), (2, .int p2)] := hl
  have hgd := gd_ne p0 p1
  refine lv_iload_n hx hb dX3_shareNumber_0 rfl (lv_at hl 0 rfl) ?_
  refine lv_iload_n hx hb dX3_shareNumber_1 rfl (lv_at hl 1 rfl) ?_
  refine kS (n := 2) (As := [.int p0, .int p1]) (rest := []) ⟨hx, hb, hml, hown, hts⟩ (kX3_greatestDivisor l p0 p1) gX3_shareNumber_X3_greatestDivisor rfl rfl rfl (by decide +kernel) ⟨Nat.le_of_ble_eq_true rfl, Nat.le_of_ble_eq_true rfl⟩ (fun _ _ _ => trivial) (fun _ _ _ _ _ => trivial) rfl hl.1 rfl (Nat.le_of_ble_eq_true rfl) dX3_shareNumber_2 ⟨Nat.le_refl _, Nat.le_refl _⟩ ?_
  refine lv_istore_n (lv' := [(3, .int (fX3_greatestDivisor p0 p1)), (0, .int p0), (1, .int p1), (2, .int p2)]) hx hb dX3_shareNumber_5 rfl hl (by decide) rfl (fun ls hl => ?_)
  refine lv_iload_n hx hb dX3_shareNumber_6 rfl (lv_at hl 3 rfl) ?_
  refine lv_if_ne (tgt := 14) hx hb dX3_shareNumber_7 (by decide) (fun c1 => ?_) (fun c1 => ?_)
  · refine lv_iload_n hx hb dX3_shareNumber_14 rfl (lv_at hl 2 rfl) ?_
    refine lv_iload_n hx hb dX3_shareNumber_15 rfl (lv_at hl 0 rfl) ?_
    refine lv_idiv hx hb dX3_shareNumber_16 (by assumption) ?_
    refine lv_i2l hx hb dX3_shareNumber_17 rfl ?_
    exact rL hx hb hr hlk dX3_shareNumber_18 (by rw [fX3_shareNumber, if_neg c1])
  · refine lv_iload_n hx hb dX3_shareNumber_10 rfl (lv_at hl 1 rfl) ?_
    refine lv_goto (tgt := 15) hx hb dX3_shareNumber_11 (by decide) ?_
    refine lv_iload_n hx hb dX3_shareNumber_15 rfl (lv_at hl 0 rfl) ?_
    refine lv_idiv hx hb dX3_shareNumber_16 (by assumption) ?_
    refine lv_i2l hx hb dX3_shareNumber_17 rfl ?_
    exact rL hx hb hr hlk dX3_shareNumber_18 (by rw [fX3_shareNumber, if_pos c1])
def fX3_fair_c33 (u : Mem) (p0 : Int32) (p1 : Int32)  : Nat → Int32 → Int32 → Int64
  | 0, x5, x4 => 0
  | n33 + 1, x5, x4 => (if (u 0 4) ≤ x5 then (fX3_shareNumber x4 10 p1) else (fX3_fair_c33 u p0 p1 n33 (x5 + 1) (x4 + ((u 1 x5.toNatClampNeg) * (fX3_payment u (u 2 p0.toNatClampNeg) (u 3 p0.toNatClampNeg) (u 4 p0.toNatClampNeg) ((1 : Int32) <<< (x5 &&& 31)))))))
def fX3_fair (u : Mem) (p0 : Int32) (p1 : Int32) : Int64 :=
  (if (fX3_isProphet u p0) = 0 then (-9223372036854775808) else (if (fX3_isWithin p1 1) = 0 then (-9223372036854775808) else (fX3_fair_c33 u p0 p1 (6) 0 0)))
set_option maxRecDepth 100000 in
set_option maxHeartbeats 4000000 in
theorem kX3_fair (l : Launch) (D : va_G) (cy : Nat → ClassId) (ad : Nat → Nat) (u : Mem) (p0 : Int32) (p1 : Int32) (hpc : PcOk u) (hec : EcOk u) : Met l yX3_fair wsX3_fair ({ frames := 3, cells := 0, slots := 0, locals := 69 } : Room) (va_Pc [.ref (ad 0), .int p0, .int p1] (XB D cy ad u)) (qR (some (.long (fX3_fair u p0 p1)))) 0 0 noF := by
  refine m_start (cc := cX3_fair) (maxL := 6) (ret := (some .long)) (by decide) rfl (Nat.le_of_ble_eq_true rfl) (fun p e s m below meth c hx hb hr hts hown hml hlk _ hB ls hl => ?_)
  obtain ⟨hP, hK⟩ := hB
  have hown : s.vm.findClass RX3 = some m.cls := hown
  have hl : lv_has ls 6 [(0, .ref (ad 0)), (1, .int p0), (2, .int p1)] := hl
  have hin_X0 : ∀ w ∈ wsX00, w ∈ wsX3_fair := fun _ h => List.mem_cons_of_mem _ (List.mem_append_right _ (h))
  have hin_X3 : ∀ w ∈ wsX30, w ∈ wsX3_fair := fun _ h => List.mem_cons_of_mem _ (List.mem_append_left _ (List.mem_append_right _ (h)))
  obtain ⟨ne, hne, ene⟩ := id hec
  refine lv_aload_n hx hb dX3_fair_0 rfl (lv_at hl 0 rfl) ?_
  refine lv_iload_n hx hb dX3_fair_1 rfl (lv_at hl 1 rfl) ?_
  refine kV (n := 1) (As := [.int p0]) (rest := []) ⟨hx, hb, hml, hown, hts⟩ (kX3_isProphet l D cy ad u p0) gX3_fair_X3_isProphet rfl rfl rfl (by decide +kernel) ⟨Nat.le_of_ble_eq_true rfl, Nat.le_of_ble_eq_true rfl⟩ (recvX hP hK) (XB_of hP hK) XB_bl rfl hl.1 rfl (Nat.le_of_ble_eq_true rfl) dX3_fair_2 ⟨Nat.le_refl _, Nat.le_refl _⟩ ?_
  refine lv_if_eq (tgt := 16) hx hb dX3_fair_5 (by decide) (fun c1 => ?_) (fun c1 => ?_)
  · refine lv_ldc2 hx hb hown (hts (Cond.constantLong RX3 132 (-9223372036854775808)) (List.mem_of_getElem? (i := 1) rfl)) dX3_fair_16 ?_
    exact rL hx hb hr hlk dX3_fair_19 (by rw [fX3_fair, if_pos c1])
  · have hv1 : vp_in p0 4 := isProphet_in hpc c1
    refine lv_iload_n hx hb dX3_fair_8 rfl (lv_at hl 2 rfl) ?_
    refine lv_iconst (v := 1) hx hb dX3_fair_9 (by decide) ?_
    refine kS (n := 2) (As := [.int p1, .int 1]) (rest := []) ⟨hx, hb, hml, hown, hts⟩ (kX3_isWithin l p1 1) gX3_fair_X3_isWithin rfl rfl rfl (by decide +kernel) ⟨Nat.le_of_ble_eq_true rfl, Nat.le_of_ble_eq_true rfl⟩ (fun _ _ _ => trivial) (fun _ _ _ _ _ => trivial) rfl hl.1 rfl (Nat.le_of_ble_eq_true rfl) dX3_fair_10 ⟨Nat.le_refl _, Nat.le_refl _⟩ ?_
    refine lv_if_ne (tgt := 20) hx hb dX3_fair_13 (by decide) (fun c2 => ?_) (fun c2 => ?_)
    · refine lv_aload_n hx hb dX3_fair_20 rfl (lv_at hl 0 rfl) ?_
      refine zg_X3_prophets hx hb hts hin_X3 hown hK hP (hts (Cond.fieldLink RX3 23 "ProphetCover" "prophets" "[LProphetCover$Prophet;") (List.mem_of_getElem? (i := 2) rfl)) dX3_fair_21 ?_
      refine lv_iload_n hx hb dX3_fair_24 rfl (lv_at hl 1 rfl) ?_
      refine zl_prophets hx hb hK hP (by assumption) dX3_fair_25 ?_
      refine lv_astore_n (lv' := [(3, .ref (ad (13 + p0.toNatClampNeg))), (0, .ref (ad 0)), (1, .int p0), (2, .int p1)]) hx hb dX3_fair_26 rfl hl (by decide) rfl (fun ls hl => ?_)
      refine lv_iconst (v := 0) hx hb dX3_fair_27 (by decide) ?_
      refine lv_istore (lv' := [(4, .int 0), (3, .ref (ad (13 + p0.toNatClampNeg))), (0, .ref (ad 0)), (1, .int p0), (2, .int p1)]) hx hb dX3_fair_28 hl (by decide) rfl (fun ls hl => ?_)
      refine lv_iconst (v := 0) hx hb dX3_fair_30 (by decide) ?_
      refine lv_istore (lv' := [(5, .int 0), (4, .int 0), (3, .ref (ad (13 + p0.toNatClampNeg))), (0, .ref (ad 0)), (1, .int p0), (2, .int p1)]) hx hb dX3_fair_31 hl (by decide) rfl (fun ls hl => ?_)
      have lp33 : ∀ (n33 : Nat) (x5 : Int32) (x4 : Int32) (k33 : Nat), (fX3_fair u p0 p1) = (fX3_fair_c33 u p0 p1 n33 x5 x4) → (x5 = nI k33) → (k33 ≤ ne) → (ne < k33 + n33) → ∀ ls : Array Slot, lv_has ls 6 [(5, .int x5), (4, .int x4), (3, .ref (ad (13 + p0.toNatClampNeg))), (0, .ref (ad 0)), (2, .int p1)] → W p l e ({ frames := 3, cells := 0, slots := 0, locals := 69 } : Room) s m ([.ref (ad 0), .int p0, .int p1] : List Value).toArray below meth c s.heap [] 0 0 (MQ below (qR (some (.long (fX3_fair u p0 p1)))) ([.ref (ad 0), .int p0, .int p1] : List Value).toArray s 0 0 noF) (F0 m 33 ls []) := by
        intro n33
        induction n33 with
        | zero =>
          intro x5 x4 k33 _ e33 hk33 hm33 ls hl
          exfalso; omega
        | succ n33 ih33 =>
          intro x5 x4 k33 hr33 e33 hk33 hm33 ls hl
          refine lv_iload hx hb dX3_fair_33 (lv_at hl 0 rfl) ?_
          refine lv_aload_n hx hb dX3_fair_35 rfl (lv_at hl 3 rfl) ?_
          refine zg_X3_eventCount hx hb hts hin_X3 hown hK hP (hts (Cond.fieldLink RX3 33 "ProphetCover" "eventCount" "I") (List.mem_of_getElem? (i := 3) rfl)) dX3_fair_36 ?_
          refine lv_icmp_ge (tgt := 81) hx hb dX3_fair_39 (by decide) (fun c3 => ?_) (fun c3 => ?_)
          · refine lv_iload hx hb dX3_fair_81 (lv_at hl 1 rfl) ?_
            refine lv_bipush (v := 10) hx hb dX3_fair_83 (by decide) ?_
            refine lv_iload_n hx hb dX3_fair_85 rfl (lv_at hl 4 rfl) ?_
            refine kS (n := 3) (As := [.int x4, .int 10, .int p1]) (rest := []) ⟨hx, hb, hml, hown, hts⟩ (kX3_shareNumber l x4 10 p1) gX3_fair_X3_shareNumber rfl rfl rfl (by decide +kernel) ⟨Nat.le_of_ble_eq_true rfl, Nat.le_of_ble_eq_true rfl⟩ (fun _ _ _ => trivial) (fun _ _ _ _ _ => trivial) rfl hl.1 rfl (Nat.le_of_ble_eq_true rfl) dX3_fair_86 ⟨Nat.le_refl _, Nat.le_refl _⟩ ?_
            exact rL hx hb hr hlk dX3_fair_89 (by rw [hr33, fX3_fair_c33, if_pos c3])
          · have hlt33 : k33 < ne := cnt_lt ene e33 (by omega) (by omega) c3
            have hv33 : vp_in x5 5 := cnt_in e33 (by omega) (by decide)
            refine lv_iload hx hb dX3_fair_42 (lv_at hl 1 rfl) ?_
            refine lv_aload_n hx hb dX3_fair_44 rfl (lv_at hl 3 rfl) ?_
            refine zg_X3_chances hx hb hts hin_X3 hown hK hP (hts (Cond.fieldLink RX3 17 "ProphetCover" "chances" "[I") (List.mem_of_getElem? (i := 4) rfl)) dX3_fair_45 ?_
            refine lv_iload hx hb dX3_fair_48 (lv_at hl 0 rfl) ?_
            refine zl_ch hx hb hK hP (by assumption) dX3_fair_50 ?_
            refine lv_aload_n hx hb dX3_fair_51 rfl (lv_at hl 3 rfl) ?_
            refine lv_aload_n hx hb dX3_fair_52 rfl (lv_at hl 2 rfl) ?_
            refine zg_X0_kind (vlt (n := 4) (i := p0) (by assumption)) hx hb hts hin_X0 hown hK hP (hts (Cond.fieldLink RX3 88 "ProphetCover$Prophet" "kind" "I") (List.mem_of_getElem? (i := 5) rfl)) dX3_fair_53 ?_
            refine lv_aload_n hx hb dX3_fair_56 rfl (lv_at hl 2 rfl) ?_
            refine zg_X0_cover (vlt (n := 4) (i := p0) (by assumption)) hx hb hts hin_X0 hown hK hP (hts (Cond.fieldLink RX3 91 "ProphetCover$Prophet" "cover" "I") (List.mem_of_getElem? (i := 6) rfl)) dX3_fair_57 ?_
            refine lv_aload_n hx hb dX3_fair_60 rfl (lv_at hl 2 rfl) ?_
            refine zg_X0_saidSet (vlt (n := 4) (i := p0) (by assumption)) hx hb hts hin_X0 hown hK hP (hts (Cond.fieldLink RX3 94 "ProphetCover$Prophet" "saidSet" "I") (List.mem_of_getElem? (i := 7) rfl)) dX3_fair_61 ?_
            refine lv_iconst (v := 1) hx hb dX3_fair_64 (by decide) ?_
            refine lv_iload hx hb dX3_fair_65 (lv_at hl 0 rfl) ?_
            refine lv_ishl hx hb dX3_fair_67 ?_
            refine kV (n := 4) (As := [.int (u 2 p0.toNatClampNeg), .int (u 3 p0.toNatClampNeg), .int (u 4 p0.toNatClampNeg), .int ((1 : Int32) <<< (x5 &&& 31))]) (rest := [.int (u 1 x5.toNatClampNeg), .int x4]) ⟨hx, hb, hml, hown, hts⟩ (kX3_payment l D cy ad u (u 2 p0.toNatClampNeg) (u 3 p0.toNatClampNeg) (u 4 p0.toNatClampNeg) ((1 : Int32) <<< (x5 &&& 31))) gX3_fair_X3_payment rfl rfl rfl (by decide +kernel) ⟨Nat.le_of_ble_eq_true rfl, Nat.le_of_ble_eq_true rfl⟩ (recvX hP hK) (XB_of hP hK) XB_bl rfl hl.1 rfl (Nat.le_of_ble_eq_true rfl) dX3_fair_68 ⟨Nat.le_refl _, Nat.le_refl _⟩ ?_
            refine lv_imul hx hb dX3_fair_71 ?_
            refine lv_iadd hx hb dX3_fair_72 ?_
            refine lv_istore (lv' := [(4, .int (x4 + ((u 1 x5.toNatClampNeg) * (fX3_payment u (u 2 p0.toNatClampNeg) (u 3 p0.toNatClampNeg) (u 4 p0.toNatClampNeg) ((1 : Int32) <<< (x5 &&& 31)))))), (5, .int x5), (3, .ref (ad (13 + p0.toNatClampNeg))), (0, .ref (ad 0)), (2, .int p1)]) hx hb dX3_fair_73 hl (by decide) rfl (fun ls hl => ?_)
            refine lv_iinc (v := (x5 + 1)) (lv' := [(5, .int (x5 + 1)), (4, .int (x4 + ((u 1 x5.toNatClampNeg) * (fX3_payment u (u 2 p0.toNatClampNeg) (u 3 p0.toNatClampNeg) (u 4 p0.toNatClampNeg) ((1 : Int32) <<< (x5 &&& 31)))))), (3, .ref (ad (13 + p0.toNatClampNeg))), (0, .ref (ad 0)), (2, .int p1)]) hx hb dX3_fair_75 hl (k := 1) rfl rfl (by decide) rfl (fun ls hl => ?_)
            refine lv_goto (tgt := 33) hx hb dX3_fair_78 (by decide) ?_
            exact ih33 (x5 + 1) (x4 + ((u 1 x5.toNatClampNeg) * (fX3_payment u (u 2 p0.toNatClampNeg) (u 3 p0.toNatClampNeg) (u 4 p0.toNatClampNeg) ((1 : Int32) <<< (x5 &&& 31))))) (k33 + 1) (by rw [hr33, fX3_fair_c33, if_neg c3]) (by rw [e33]; exact nI_1 _) hlt33 (by omega) ls (lv_sub hl [0, 1, 2, 3, 4] rfl)
      exact lp33 (6) 0 0 (0) (by rw [fX3_fair, if_neg c1, if_neg c2]) nI_0.symm (by omega) (by omega) ls (lv_sub hl [0, 1, 2, 3, 5] rfl)
    · refine lv_ldc2 hx hb hown (hts (Cond.constantLong RX3 132 (-9223372036854775808)) (List.mem_of_getElem? (i := 1) rfl)) dX3_fair_16 ?_
      exact rL hx hb hr hlk dX3_fair_19 (by rw [fX3_fair, if_neg c1, if_pos c2])
def fX3_safe (u : Mem) (p0 : Int32) : Int32 :=
  (if (fX3_isProphet u p0) = 0 then (-1) else (fX3_paidTo u p0 (fX3_allEvents u)))
set_option maxRecDepth 100000 in
set_option maxHeartbeats 4000000 in
theorem kX3_safe (l : Launch) (D : va_G) (cy : Nat → ClassId) (ad : Nat → Nat) (u : Mem) (p0 : Int32) (hpc : PcOk u) : Met l yX3_safe wsX3_safe ({ frames := 4, cells := 0, slots := 0, locals := 88 } : Room) (va_Pc [.ref (ad 0), .int p0] (XB D cy ad u)) (qR (some (.int (fX3_safe u p0)))) 0 0 noF := by
  refine m_start (cc := cX3_safe) (maxL := 2) (ret := (some .int)) (by decide) rfl (Nat.le_of_ble_eq_true rfl) (fun p e s m below meth c hx hb hr hts hown hml hlk _ hB ls hl => ?_)
  obtain ⟨hP, hK⟩ := hB
  have hown : s.vm.findClass RX3 = some m.cls := hown
  have hl : lv_has ls 2 [(0, .ref (ad 0)), (1, .int p0)] := hl
  have hin_X0 : ∀ w ∈ wsX00, w ∈ wsX3_safe := fun _ h => List.mem_cons_of_mem _ (List.mem_append_right _ (h))
  have hin_X3 : ∀ w ∈ wsX30, w ∈ wsX3_safe := fun _ h => List.mem_cons_of_mem _ (List.mem_append_left _ (List.mem_append_right _ (h)))
  refine lv_aload_n hx hb dX3_safe_0 rfl (lv_at hl 0 rfl) ?_
  refine lv_iload_n hx hb dX3_safe_1 rfl (lv_at hl 1 rfl) ?_
  refine kV (n := 1) (As := [.int p0]) (rest := []) ⟨hx, hb, hml, hown, hts⟩ (kX3_isProphet l D cy ad u p0) gX3_safe_X3_isProphet rfl rfl rfl (by decide +kernel) ⟨Nat.le_of_ble_eq_true rfl, Nat.le_of_ble_eq_true rfl⟩ (recvX hP hK) (XB_of hP hK) XB_bl rfl hl.1 rfl (Nat.le_of_ble_eq_true rfl) dX3_safe_2 ⟨Nat.le_refl _, Nat.le_refl _⟩ ?_
  refine lv_if_eq (tgt := 20) hx hb dX3_safe_5 (by decide) (fun c1 => ?_) (fun c1 => ?_)
  · refine lv_iconst (v := (-1)) hx hb dX3_safe_20 (by decide) ?_
    exact rI hx hb hr hlk dX3_safe_21 (by rw [fX3_safe, if_pos c1])
  · have hv1 : vp_in p0 4 := isProphet_in hpc c1
    refine lv_aload_n hx hb dX3_safe_8 rfl (lv_at hl 0 rfl) ?_
    refine lv_iload_n hx hb dX3_safe_9 rfl (lv_at hl 1 rfl) ?_
    refine lv_aload_n hx hb dX3_safe_10 rfl (lv_at hl 0 rfl) ?_
    refine kV (n := 0) (As := []) (rest := [.int p0, .ref (ad 0)]) ⟨hx, hb, hml, hown, hts⟩ (kX3_allEvents l D cy ad u) gX3_safe_X3_allEvents rfl rfl rfl (by decide +kernel) ⟨Nat.le_of_ble_eq_true rfl, Nat.le_of_ble_eq_true rfl⟩ (recvX hP hK) (XB_of hP hK) XB_bl rfl hl.1 rfl (Nat.le_of_ble_eq_true rfl) dX3_safe_11 ⟨Nat.le_refl _, Nat.le_refl _⟩ ?_
    refine kV (n := 2) (As := [.int p0, .int (fX3_allEvents u)]) (rest := []) ⟨hx, hb, hml, hown, hts⟩ (kX3_paidTo l D cy ad u p0 (fX3_allEvents u) (by assumption)) gX3_safe_X3_paidTo rfl rfl rfl (by decide +kernel) ⟨Nat.le_of_ble_eq_true rfl, Nat.le_of_ble_eq_true rfl⟩ (recvX hP hK) (XB_of hP hK) XB_bl rfl hl.1 rfl (Nat.le_of_ble_eq_true rfl) dX3_safe_14 ⟨Nat.le_refl _, Nat.le_refl _⟩ ?_
    refine lv_goto (tgt := 21) hx hb dX3_safe_17 (by decide) ?_
    exact rI hx hb hr hlk dX3_safe_21 (by rw [fX3_safe, if_neg c1])
def fX3_weightOfAll_c4 (u : Mem)  : Nat → Int32 → Int32 → Int32
  | 0, x2, x1 => 0
  | n4 + 1, x2, x1 => (if (u 0 4) ≤ x2 then x1 else (fX3_weightOfAll_c4 u n4 (x2 + 1) (x1 * 10)))
def fX3_weightOfAll (u : Mem) : Int32 :=
  (fX3_weightOfAll_c4 u (6) 0 1)
set_option maxRecDepth 100000 in
set_option maxHeartbeats 4000000 in
theorem kX3_weightOfAll (l : Launch) (D : va_G) (cy : Nat → ClassId) (ad : Nat → Nat) (u : Mem) (hec : EcOk u) : Met l yX3_weightOfAll wsX3_weightOfAll ({ frames := 0, cells := 0, slots := 0, locals := 0 } : Room) (va_Pc [.ref (ad 0)] (XB D cy ad u)) (qR (some (.int (fX3_weightOfAll u)))) 0 0 noF := by
  refine m_start (cc := cX3_weightOfAll) (maxL := 3) (ret := (some .int)) (by decide) rfl (Nat.le_of_ble_eq_true rfl) (fun p e s m below meth c hx hb hr hts hown hml hlk _ hB ls hl => ?_)
  obtain ⟨hP, hK⟩ := hB
  have hown : s.vm.findClass RX3 = some m.cls := hown
  have hl : lv_has ls 3 [(0, .ref (ad 0))] := hl
  have hin_X3 : ∀ w ∈ wsX30, w ∈ wsX3_weightOfAll := fun _ h => List.mem_cons_of_mem _ (List.mem_append_right _ (h))
  obtain ⟨ne, hne, ene⟩ := id hec
  refine lv_iconst (v := 1) hx hb dX3_weightOfAll_0 (by decide) ?_
  refine lv_istore_n (lv' := [(1, .int 1), (0, .ref (ad 0))]) hx hb dX3_weightOfAll_1 rfl hl (by decide) rfl (fun ls hl => ?_)
  refine lv_iconst (v := 0) hx hb dX3_weightOfAll_2 (by decide) ?_
  refine lv_istore_n (lv' := [(2, .int 0), (1, .int 1), (0, .ref (ad 0))]) hx hb dX3_weightOfAll_3 rfl hl (by decide) rfl (fun ls hl => ?_)
  have lp4 : ∀ (n4 : Nat) (x2 : Int32) (x1 : Int32) (k4 : Nat), (fX3_weightOfAll u) = (fX3_weightOfAll_c4 u n4 x2 x1) → (x2 = nI k4) → (k4 ≤ ne) → (ne < k4 + n4) → ∀ ls : Array Slot, lv_has ls 3 [(2, .int x2), (1, .int x1), (0, .ref (ad 0))] → W p l e ({ frames := 0, cells := 0, slots := 0, locals := 0 } : Room) s m ([.ref (ad 0)] : List Value).toArray below meth c s.heap [] 0 0 (MQ below (qR (some (.int (fX3_weightOfAll u)))) ([.ref (ad 0)] : List Value).toArray s 0 0 noF) (F0 m 4 ls []) := by
    intro n4
    induction n4 with
    | zero =>
      intro x2 x1 k4 _ e4 hk4 hm4 ls hl
      exfalso; omega
    | succ n4 ih4 =>
      intro x2 x1 k4 hr4 e4 hk4 hm4 ls hl
      refine lv_iload_n hx hb dX3_weightOfAll_4 rfl (lv_at hl 0 rfl) ?_
      refine lv_aload_n hx hb dX3_weightOfAll_5 rfl (lv_at hl 2 rfl) ?_
      refine zg_X3_eventCount hx hb hts hin_X3 hown hK hP (hts (Cond.fieldLink RX3 33 "ProphetCover" "eventCount" "I") (List.mem_of_getElem? (i := 1) rfl)) dX3_weightOfAll_6 ?_
      refine lv_icmp_ge (tgt := 23) hx hb dX3_weightOfAll_9 (by decide) (fun c1 => ?_) (fun c1 => ?_)
      · refine lv_iload_n hx hb dX3_weightOfAll_23 rfl (lv_at hl 1 rfl) ?_
        exact rI hx hb hr hlk dX3_weightOfAll_24 (by rw [hr4, fX3_weightOfAll_c4, if_pos c1])
      · have hlt4 : k4 < ne := cnt_lt ene e4 (by omega) (by omega) c1
        refine lv_iload_n hx hb dX3_weightOfAll_12 rfl (lv_at hl 1 rfl) ?_
        refine lv_bipush (v := 10) hx hb dX3_weightOfAll_13 (by decide) ?_
        refine lv_imul hx hb dX3_weightOfAll_15 ?_
        refine lv_istore_n (lv' := [(1, .int (x1 * 10)), (2, .int x2), (0, .ref (ad 0))]) hx hb dX3_weightOfAll_16 rfl hl (by decide) rfl (fun ls hl => ?_)
        refine lv_iinc (v := (x2 + 1)) (lv' := [(2, .int (x2 + 1)), (1, .int (x1 * 10)), (0, .ref (ad 0))]) hx hb dX3_weightOfAll_17 hl (k := 1) rfl rfl (by decide) rfl (fun ls hl => ?_)
        refine lv_goto (tgt := 4) hx hb dX3_weightOfAll_20 (by decide) ?_
        exact ih4 (x2 + 1) (x1 * 10) (k4 + 1) (by rw [hr4, fX3_weightOfAll_c4, if_neg c1]) (by rw [e4]; exact nI_1 _) hlt4 (by omega) ls (lv_sub hl [0, 1, 2] rfl)
  exact lp4 (6) 0 1 (0) (by rw [fX3_weightOfAll]) nI_0.symm (by omega) (by omega) ls (lv_sub hl [0, 1, 2] rfl)
def fX3_isIn (p0 : Int32) (p1 : Int32) : Int32 :=
  (if ((p0 >>> (p1 &&& 31)) &&& 1) = 1 then 1 else 0)
set_option maxRecDepth 100000 in
set_option maxHeartbeats 4000000 in
theorem kX3_isIn (l : Launch)  (p0 : Int32) (p1 : Int32)  : Met l yX3_isIn wsX3_isIn ({ frames := 0, cells := 0, slots := 0, locals := 0 } : Room) (va_Pc [.int p0, .int p1] (fun _ => True)) (qR (some (.int (fX3_isIn p0 p1)))) 0 0 noF := by
  refine m_start (cc := cX3_isIn) (maxL := 2) (ret := (some .boolean)) (by decide) rfl (Nat.le_of_ble_eq_true rfl) (fun p e s m below meth c hx hb hr hts hown hml hlk _ hB ls hl => ?_)
  have hown : s.vm.findClass RX3 = some m.cls := hown
  have hl : lv_has ls 2 [(0, .int p0), (1, .int p1)] := hl
  refine lv_iload_n hx hb dX3_isIn_0 rfl (lv_at hl 0 rfl) ?_
  refine lv_iload_n hx hb dX3_isIn_1 rfl (lv_at hl 1 rfl) ?_
  refine lv_ishr hx hb dX3_isIn_2 ?_
  refine lv_iconst (v := 1) hx hb dX3_isIn_3 (by decide) ?_
  refine lv_iand hx hb dX3_isIn_4 ?_
  refine lv_iconst (v := 1) hx hb dX3_isIn_5 (by decide) ?_
  refine lv_icmp_ne (tgt := 13) hx hb dX3_isIn_6 (by decide) (fun c1 => ?_) (fun c1 => ?_)
  · refine lv_iconst (v := 0) hx hb dX3_isIn_13 (by decide) ?_
    exact rZ hx hb hr hlk (by rfl) dX3_isIn_14 (by rw [fX3_isIn, if_neg c1])
  · refine lv_iconst (v := 1) hx hb dX3_isIn_9 (by decide) ?_
    refine lv_goto (tgt := 14) hx hb dX3_isIn_10 (by decide) ?_
    exact rZ hx hb hr hlk (by rfl) dX3_isIn_14 (by rw [fX3_isIn, if_pos c1])
def fX3_weightOf_c4 (u : Mem) (p0 : Int32)  : Nat → Int32 → Int32 → Int32
  | 0, x3, x2 => 0
  | n4 + 1, x3, x2 => (if (u 0 4) ≤ x3 then x2 else (if (fX3_isIn p0 x3) = 0 then (fX3_weightOf_c4 u p0 n4 (x3 + 1) (x2 * (10 - (u 1 x3.toNatClampNeg)))) else (fX3_weightOf_c4 u p0 n4 (x3 + 1) (x2 * (u 1 x3.toNatClampNeg)))))
def fX3_weightOf (u : Mem) (p0 : Int32) : Int32 :=
  (fX3_weightOf_c4 u p0 (6) 0 1)
set_option maxRecDepth 100000 in
set_option maxHeartbeats 4000000 in
theorem kX3_weightOf (l : Launch) (D : va_G) (cy : Nat → ClassId) (ad : Nat → Nat) (u : Mem) (p0 : Int32) (hec : EcOk u) : Met l yX3_weightOf wsX3_weightOf ({ frames := 1, cells := 0, slots := 0, locals := 21 } : Room) (va_Pc [.ref (ad 0), .int p0] (XB D cy ad u)) (qR (some (.int (fX3_weightOf u p0)))) 0 0 noF := by
  refine m_start (cc := cX3_weightOf) (maxL := 4) (ret := (some .int)) (by decide) rfl (Nat.le_of_ble_eq_true rfl) (fun p e s m below meth c hx hb hr hts hown hml hlk _ hB ls hl => ?_)
  obtain ⟨hP, hK⟩ := hB
  have hown : s.vm.findClass RX3 = some m.cls := hown
  have hl : lv_has ls 4 [(0, .ref (ad 0)), (1, .int p0)] := hl
  have hin_X3 : ∀ w ∈ wsX30, w ∈ wsX3_weightOf := fun _ h => List.mem_cons_of_mem _ (List.mem_append_right _ (h))
  obtain ⟨ne, hne, ene⟩ := id hec
  refine lv_iconst (v := 1) hx hb dX3_weightOf_0 (by decide) ?_
  refine lv_istore_n (lv' := [(2, .int 1), (0, .ref (ad 0)), (1, .int p0)]) hx hb dX3_weightOf_1 rfl hl (by decide) rfl (fun ls hl => ?_)
  refine lv_iconst (v := 0) hx hb dX3_weightOf_2 (by decide) ?_
  refine lv_istore_n (lv' := [(3, .int 0), (2, .int 1), (0, .ref (ad 0)), (1, .int p0)]) hx hb dX3_weightOf_3 rfl hl (by decide) rfl (fun ls hl => ?_)
  have lp4 : ∀ (n4 : Nat) (x3 : Int32) (x2 : Int32) (k4 : Nat), (fX3_weightOf u p0) = (fX3_weightOf_c4 u p0 n4 x3 x2) → (x3 = nI k4) → (k4 ≤ ne) → (ne < k4 + n4) → ∀ ls : Array Slot, lv_has ls 4 [(3, .int x3), (2, .int x2), (0, .ref (ad 0)), (1, .int p0)] → W p l e ({ frames := 1, cells := 0, slots := 0, locals := 21 } : Room) s m ([.ref (ad 0), .int p0] : List Value).toArray below meth c s.heap [] 0 0 (MQ below (qR (some (.int (fX3_weightOf u p0)))) ([.ref (ad 0), .int p0] : List Value).toArray s 0 0 noF) (F0 m 4 ls []) := by
    intro n4
    induction n4 with
    | zero =>
      intro x3 x2 k4 _ e4 hk4 hm4 ls hl
      exfalso; omega
    | succ n4 ih4 =>
      intro x3 x2 k4 hr4 e4 hk4 hm4 ls hl
      refine lv_iload_n hx hb dX3_weightOf_4 rfl (lv_at hl 0 rfl) ?_
      refine lv_aload_n hx hb dX3_weightOf_5 rfl (lv_at hl 2 rfl) ?_
      refine zg_X3_eventCount hx hb hts hin_X3 hown hK hP (hts (Cond.fieldLink RX3 33 "ProphetCover" "eventCount" "I") (List.mem_of_getElem? (i := 1) rfl)) dX3_weightOf_6 ?_
      refine lv_icmp_ge (tgt := 47) hx hb dX3_weightOf_9 (by decide) (fun c1 => ?_) (fun c1 => ?_)
      · refine lv_iload_n hx hb dX3_weightOf_47 rfl (lv_at hl 1 rfl) ?_
        exact rI hx hb hr hlk dX3_weightOf_48 (by rw [hr4, fX3_weightOf_c4, if_pos c1])
      · have hlt4 : k4 < ne := cnt_lt ene e4 (by omega) (by omega) c1
        have hv4 : vp_in x3 5 := cnt_in e4 (by omega) (by decide)
        refine lv_iload_n hx hb dX3_weightOf_12 rfl (lv_at hl 1 rfl) ?_
        refine lv_iload_n hx hb dX3_weightOf_13 rfl (lv_at hl 3 rfl) ?_
        refine lv_iload_n hx hb dX3_weightOf_14 rfl (lv_at hl 0 rfl) ?_
        refine kS (n := 2) (As := [.int p0, .int x3]) (rest := [.int x2]) ⟨hx, hb, hml, hown, hts⟩ (kX3_isIn l p0 x3) gX3_weightOf_X3_isIn rfl rfl rfl (by decide +kernel) ⟨Nat.le_of_ble_eq_true rfl, Nat.le_of_ble_eq_true rfl⟩ (fun _ _ _ => trivial) (fun _ _ _ _ _ => trivial) rfl hl.1 rfl (Nat.le_of_ble_eq_true rfl) dX3_weightOf_15 ⟨Nat.le_refl _, Nat.le_refl _⟩ ?_
        refine lv_if_eq (tgt := 30) hx hb dX3_weightOf_18 (by decide) (fun c2 => ?_) (fun c2 => ?_)
        · refine lv_bipush (v := 10) hx hb dX3_weightOf_30 (by decide) ?_
          refine lv_aload_n hx hb dX3_weightOf_32 rfl (lv_at hl 2 rfl) ?_
          refine zg_X3_chances hx hb hts hin_X3 hown hK hP (hts (Cond.fieldLink RX3 17 "ProphetCover" "chances" "[I") (List.mem_of_getElem? (i := 2) rfl)) dX3_weightOf_33 ?_
          refine lv_iload_n hx hb dX3_weightOf_36 rfl (lv_at hl 0 rfl) ?_
          refine zl_ch hx hb hK hP (by assumption) dX3_weightOf_37 ?_
          refine lv_isub hx hb dX3_weightOf_38 ?_
          refine lv_imul hx hb dX3_weightOf_39 ?_
          refine lv_istore_n (lv' := [(2, .int (x2 * (10 - (u 1 x3.toNatClampNeg)))), (3, .int x3), (0, .ref (ad 0)), (1, .int p0)]) hx hb dX3_weightOf_40 rfl hl (by decide) rfl (fun ls hl => ?_)
          refine lv_iinc (v := (x3 + 1)) (lv' := [(3, .int (x3 + 1)), (2, .int (x2 * (10 - (u 1 x3.toNatClampNeg)))), (0, .ref (ad 0)), (1, .int p0)]) hx hb dX3_weightOf_41 hl (k := 1) rfl rfl (by decide) rfl (fun ls hl => ?_)
          refine lv_goto (tgt := 4) hx hb dX3_weightOf_44 (by decide) ?_
          exact ih4 (x3 + 1) (x2 * (10 - (u 1 x3.toNatClampNeg))) (k4 + 1) (by rw [hr4, fX3_weightOf_c4, if_neg c1, if_pos c2]) (by rw [e4]; exact nI_1 _) hlt4 (by omega) ls (lv_sub hl [0, 1, 2, 3] rfl)
        · refine lv_aload_n hx hb dX3_weightOf_21 rfl (lv_at hl 2 rfl) ?_
          refine zg_X3_chances hx hb hts hin_X3 hown hK hP (hts (Cond.fieldLink RX3 17 "ProphetCover" "chances" "[I") (List.mem_of_getElem? (i := 2) rfl)) dX3_weightOf_22 ?_
          refine lv_iload_n hx hb dX3_weightOf_25 rfl (lv_at hl 0 rfl) ?_
          refine zl_ch hx hb hK hP (by assumption) dX3_weightOf_26 ?_
          refine lv_goto (tgt := 39) hx hb dX3_weightOf_27 (by decide) ?_
          refine lv_imul hx hb dX3_weightOf_39 ?_
          refine lv_istore_n (lv' := [(2, .int (x2 * (u 1 x3.toNatClampNeg))), (3, .int x3), (0, .ref (ad 0)), (1, .int p0)]) hx hb dX3_weightOf_40 rfl hl (by decide) rfl (fun ls hl => ?_)
          refine lv_iinc (v := (x3 + 1)) (lv' := [(3, .int (x3 + 1)), (2, .int (x2 * (u 1 x3.toNatClampNeg))), (0, .ref (ad 0)), (1, .int p0)]) hx hb dX3_weightOf_41 hl (k := 1) rfl rfl (by decide) rfl (fun ls hl => ?_)
          refine lv_goto (tgt := 4) hx hb dX3_weightOf_44 (by decide) ?_
          exact ih4 (x3 + 1) (x2 * (u 1 x3.toNatClampNeg)) (k4 + 1) (by rw [hr4, fX3_weightOf_c4, if_neg c1, if_neg c2]) (by rw [e4]; exact nI_1 _) hlt4 (by omega) ls (lv_sub hl [0, 1, 2, 3] rfl)
  exact lp4 (6) 0 1 (0) (by rw [fX3_weightOf]) nI_0.symm (by omega) (by omega) ls (lv_sub hl [0, 1, 2, 3] rfl)
def fX3_weightFrom_c4 (u : Mem) (p0 : Int32)  : Nat → Int32 → Int32 → Int32
  | 0, x3, x2 => 0
  | n4 + 1, x3, x2 => (if (fX3_allEvents u) < x3 then x2 else (if (fX3_paidToAll u x3) < p0 then (fX3_weightFrom_c4 u p0 n4 (x3 + 1) x2) else (fX3_weightFrom_c4 u p0 n4 (x3 + 1) (x2 + (fX3_weightOf u x3)))))
def fX3_weightFrom (u : Mem) (p0 : Int32) : Int32 :=
  (fX3_weightFrom_c4 u p0 (34) 0 0)
set_option maxRecDepth 100000 in
set_option maxHeartbeats 4000000 in
theorem kX3_weightFrom (l : Launch) (D : va_G) (cy : Nat → ClassId) (ad : Nat → Nat) (u : Mem) (p0 : Int32) (hpc : PcOk u) (hec : EcOk u) : Met l yX3_weightFrom wsX3_weightFrom ({ frames := 5, cells := 0, slots := 0, locals := 111 } : Room) (va_Pc [.ref (ad 0), .int p0] (XB D cy ad u)) (qR (some (.int (fX3_weightFrom u p0)))) 0 0 noF := by
  refine m_start (cc := cX3_weightFrom) (maxL := 4) (ret := (some .int)) (by decide) rfl (Nat.le_of_ble_eq_true rfl) (fun p e s m below meth c hx hb hr hts hown hml hlk _ hB ls hl => ?_)
  obtain ⟨hP, hK⟩ := hB
  have hown : s.vm.findClass RX3 = some m.cls := hown
  have hl : lv_has ls 4 [(0, .ref (ad 0)), (1, .int p0)] := hl
  have hin_X0 : ∀ w ∈ wsX00, w ∈ wsX3_weightFrom := fun _ h => List.mem_cons_of_mem _ (List.mem_append_right _ (h))
  have hin_X3 : ∀ w ∈ wsX30, w ∈ wsX3_weightFrom := fun _ h => List.mem_cons_of_mem _ (List.mem_append_left _ (List.mem_append_right _ (h)))
  obtain ⟨al, hal, eal⟩ := allEv_X hec
  refine lv_iconst (v := 0) hx hb dX3_weightFrom_0 (by decide) ?_
  refine lv_istore_n (lv' := [(2, .int 0), (0, .ref (ad 0)), (1, .int p0)]) hx hb dX3_weightFrom_1 rfl hl (by decide) rfl (fun ls hl => ?_)
  refine lv_iconst (v := 0) hx hb dX3_weightFrom_2 (by decide) ?_
  refine lv_istore_n (lv' := [(3, .int 0), (2, .int 0), (0, .ref (ad 0)), (1, .int p0)]) hx hb dX3_weightFrom_3 rfl hl (by decide) rfl (fun ls hl => ?_)
  have lp4 : ∀ (n4 : Nat) (x3 : Int32) (x2 : Int32) (k4 : Nat), (fX3_weightFrom u p0) = (fX3_weightFrom_c4 u p0 n4 x3 x2) → (x3 = nI k4) → (k4 ≤ al + 1) → (al + 1 < k4 + n4) → ∀ ls : Array Slot, lv_has ls 4 [(3, .int x3), (2, .int x2), (0, .ref (ad 0)), (1, .int p0)] → W p l e ({ frames := 5, cells := 0, slots := 0, locals := 111 } : Room) s m ([.ref (ad 0), .int p0] : List Value).toArray below meth c s.heap [] 0 0 (MQ below (qR (some (.int (fX3_weightFrom u p0)))) ([.ref (ad 0), .int p0] : List Value).toArray s 0 0 noF) (F0 m 4 ls []) := by
    intro n4
    induction n4 with
    | zero =>
      intro x3 x2 k4 _ e4 hk4 hm4 ls hl
      exfalso; omega
    | succ n4 ih4 =>
      intro x3 x2 k4 hr4 e4 hk4 hm4 ls hl
      refine lv_iload_n hx hb dX3_weightFrom_4 rfl (lv_at hl 0 rfl) ?_
      refine lv_aload_n hx hb dX3_weightFrom_5 rfl (lv_at hl 2 rfl) ?_
      refine kV (n := 0) (As := []) (rest := [.int x3]) ⟨hx, hb, hml, hown, hts⟩ (kX3_allEvents l D cy ad u) gX3_weightFrom_X3_allEvents rfl rfl rfl (by decide +kernel) ⟨Nat.le_of_ble_eq_true rfl, Nat.le_of_ble_eq_true rfl⟩ (recvX hP hK) (XB_of hP hK) XB_bl rfl hl.1 rfl (Nat.le_of_ble_eq_true rfl) dX3_weightFrom_6 ⟨Nat.le_refl _, Nat.le_refl _⟩ ?_
      refine lv_icmp_gt (tgt := 35) hx hb dX3_weightFrom_9 (by decide) (fun c1 => ?_) (fun c1 => ?_)
      · refine lv_iload_n hx hb dX3_weightFrom_35 rfl (lv_at hl 1 rfl) ?_
        exact rI hx hb hr hlk dX3_weightFrom_36 (by rw [hr4, fX3_weightFrom_c4, if_pos c1])
      · have hlt4 : k4 ≤ al := cnt_le eal e4 (by omega) (by omega) c1
        refine lv_aload_n hx hb dX3_weightFrom_12 rfl (lv_at hl 2 rfl) ?_
        refine lv_iload_n hx hb dX3_weightFrom_13 rfl (lv_at hl 0 rfl) ?_
        refine kV (n := 1) (As := [.int x3]) (rest := []) ⟨hx, hb, hml, hown, hts⟩ (kX3_paidToAll l D cy ad u x3 (by first | exact hpc | assumption)) gX3_weightFrom_X3_paidToAll rfl rfl rfl (by decide +kernel) ⟨Nat.le_of_ble_eq_true rfl, Nat.le_of_ble_eq_true rfl⟩ (recvX hP hK) (XB_of hP hK) XB_bl rfl hl.1 rfl (Nat.le_of_ble_eq_true rfl) dX3_weightFrom_14 ⟨Nat.le_refl _, Nat.le_refl _⟩ ?_
        refine lv_iload_n hx hb dX3_weightFrom_17 rfl (lv_at hl 3 rfl) ?_
        refine lv_icmp_lt (tgt := 29) hx hb dX3_weightFrom_18 (by decide) (fun c2 => ?_) (fun c2 => ?_)
        · refine lv_iinc (v := (x3 + 1)) (lv' := [(3, .int (x3 + 1)), (2, .int x2), (0, .ref (ad 0)), (1, .int p0)]) hx hb dX3_weightFrom_29 hl (k := 0) rfl rfl (by decide) rfl (fun ls hl => ?_)
          refine lv_goto (tgt := 4) hx hb dX3_weightFrom_32 (by decide) ?_
          exact ih4 (x3 + 1) x2 (k4 + 1) (by rw [hr4, fX3_weightFrom_c4, if_neg c1, if_pos c2]) (by rw [e4]; exact nI_1 _) (by omega) (by omega) ls (lv_sub hl [0, 1, 2, 3] rfl)
        · refine lv_iload_n hx hb dX3_weightFrom_21 rfl (lv_at hl 1 rfl) ?_
          refine lv_aload_n hx hb dX3_weightFrom_22 rfl (lv_at hl 2 rfl) ?_
          refine lv_iload_n hx hb dX3_weightFrom_23 rfl (lv_at hl 0 rfl) ?_
          refine kV (n := 1) (As := [.int x3]) (rest := [.int x2]) ⟨hx, hb, hml, hown, hts⟩ (kX3_weightOf l D cy ad u x3 (by first | exact hec | assumption)) gX3_weightFrom_X3_weightOf rfl rfl rfl (by decide +kernel) ⟨Nat.le_of_ble_eq_true rfl, Nat.le_of_ble_eq_true rfl⟩ (recvX hP hK) (XB_of hP hK) XB_bl rfl hl.1 rfl (Nat.le_of_ble_eq_true rfl) dX3_weightFrom_24 ⟨Nat.le_refl _, Nat.le_refl _⟩ ?_
          refine lv_iadd hx hb dX3_weightFrom_27 ?_
          refine lv_istore_n (lv' := [(2, .int (x2 + (fX3_weightOf u x3))), (3, .int x3), (0, .ref (ad 0)), (1, .int p0)]) hx hb dX3_weightFrom_28 rfl hl (by decide) rfl (fun ls hl => ?_)
          refine lv_iinc (v := (x3 + 1)) (lv' := [(3, .int (x3 + 1)), (2, .int (x2 + (fX3_weightOf u x3))), (0, .ref (ad 0)), (1, .int p0)]) hx hb dX3_weightFrom_29 hl (k := 1) rfl rfl (by decide) rfl (fun ls hl => ?_)
          refine lv_goto (tgt := 4) hx hb dX3_weightFrom_32 (by decide) ?_
          exact ih4 (x3 + 1) (x2 + (fX3_weightOf u x3)) (k4 + 1) (by rw [hr4, fX3_weightFrom_c4, if_neg c1, if_neg c2]) (by rw [e4]; exact nI_1 _) (by omega) (by omega) ls (lv_sub hl [0, 1, 2, 3] rfl)
  exact lp4 (34) 0 0 (0) (by rw [fX3_weightFrom]) nI_0.symm (by omega) (by omega) ls (lv_sub hl [0, 1, 2, 3] rfl)
def fX3_hold_c39 (u : Mem) (p0 : Int32)  : Nat → Int32 → Int32 → Int32 → Int32
  | 0, x4, x3, x2 => 0
  | n39 + 1, x4, x3, x2 => (if (fX3_allEvents u) ≤ x4 then x3 else (if x3 ≤ (fX3_paidToAll u x4) then (fX3_hold_c39 u p0 n39 (x4 + 1) x3 x2) else (if (10 * (x2 - (fX3_weightFrom u ((fX3_paidToAll u x4) + 1)))) < (p0 * x2) then (fX3_hold_c39 u p0 n39 (x4 + 1) x3 x2) else (fX3_hold_c39 u p0 n39 (x4 + 1) (fX3_paidToAll u x4) x2))))
def fX3_hold (u : Mem) (p0 : Int32) : Int32 :=
  (if (fX3_isWithin p0 10) = 0 then (-2) else (if (fX3_hasOffice u) = 0 then (-3) else (fX3_hold_c39 u p0 (34) 0 (fX3_paidToAll u (fX3_allEvents u)) (fX3_weightOfAll u))))
set_option maxRecDepth 100000 in
set_option maxHeartbeats 4000000 in
theorem kX3_hold (l : Launch) (D : va_G) (cy : Nat → ClassId) (ad : Nat → Nat) (u : Mem) (p0 : Int32) (hpc : PcOk u) (hec : EcOk u) : Met l yX3_hold wsX3_hold ({ frames := 6, cells := 0, slots := 0, locals := 134 } : Room) (va_Pc [.ref (ad 0), .int p0] (XB D cy ad u)) (qR (some (.int (fX3_hold u p0)))) 0 0 noF := by
  refine m_start (cc := cX3_hold) (maxL := 7) (ret := (some .int)) (by decide) rfl (Nat.le_of_ble_eq_true rfl) (fun p e s m below meth c hx hb hr hts hown hml hlk _ hB ls hl => ?_)
  obtain ⟨hP, hK⟩ := hB
  have hown : s.vm.findClass RX3 = some m.cls := hown
  have hl : lv_has ls 7 [(0, .ref (ad 0)), (1, .int p0)] := hl
  have hin_X0 : ∀ w ∈ wsX00, w ∈ wsX3_hold := fun _ h => List.mem_cons_of_mem _ (List.mem_append_right _ (h))
  have hin_X3 : ∀ w ∈ wsX30, w ∈ wsX3_hold := fun _ h => List.mem_cons_of_mem _ (List.mem_append_left _ (List.mem_append_right _ (h)))
  obtain ⟨al, hal, eal⟩ := allEv_X hec
  refine lv_iload_n hx hb dX3_hold_0 rfl (lv_at hl 1 rfl) ?_
  refine lv_bipush (v := 10) hx hb dX3_hold_1 (by decide) ?_
  refine kS (n := 2) (As := [.int p0, .int 10]) (rest := []) ⟨hx, hb, hml, hown, hts⟩ (kX3_isWithin l p0 10) gX3_hold_X3_isWithin rfl rfl rfl (by decide +kernel) ⟨Nat.le_of_ble_eq_true rfl, Nat.le_of_ble_eq_true rfl⟩ (fun _ _ _ => trivial) (fun _ _ _ _ _ => trivial) rfl hl.1 rfl (Nat.le_of_ble_eq_true rfl) dX3_hold_3 ⟨Nat.le_refl _, Nat.le_refl _⟩ ?_
  refine lv_if_ne (tgt := 12) hx hb dX3_hold_6 (by decide) (fun c1 => ?_) (fun c1 => ?_)
  · refine lv_aload_n hx hb dX3_hold_12 rfl (lv_at hl 0 rfl) ?_
    refine kV (n := 0) (As := []) (rest := []) ⟨hx, hb, hml, hown, hts⟩ (kX3_hasOffice l D cy ad u) gX3_hold_X3_hasOffice rfl rfl rfl (by decide +kernel) ⟨Nat.le_of_ble_eq_true rfl, Nat.le_of_ble_eq_true rfl⟩ (recvX hP hK) (XB_of hP hK) XB_bl rfl hl.1 rfl (Nat.le_of_ble_eq_true rfl) dX3_hold_13 ⟨Nat.le_refl _, Nat.le_refl _⟩ ?_
    refine lv_if_ne (tgt := 22) hx hb dX3_hold_16 (by decide) (fun c2 => ?_) (fun c2 => ?_)
    · refine lv_aload_n hx hb dX3_hold_22 rfl (lv_at hl 0 rfl) ?_
      refine kV (n := 0) (As := []) (rest := []) ⟨hx, hb, hml, hown, hts⟩ (kX3_weightOfAll l D cy ad u (by first | exact hec | assumption)) gX3_hold_X3_weightOfAll rfl rfl rfl (by decide +kernel) ⟨Nat.le_of_ble_eq_true rfl, Nat.le_of_ble_eq_true rfl⟩ (recvX hP hK) (XB_of hP hK) XB_bl rfl hl.1 rfl (Nat.le_of_ble_eq_true rfl) dX3_hold_23 ⟨Nat.le_refl _, Nat.le_refl _⟩ ?_
      refine lv_istore_n (lv' := [(2, .int (fX3_weightOfAll u)), (0, .ref (ad 0)), (1, .int p0)]) hx hb dX3_hold_26 rfl hl (by decide) rfl (fun ls hl => ?_)
      refine lv_aload_n hx hb dX3_hold_27 rfl (lv_at hl 1 rfl) ?_
      refine lv_aload_n hx hb dX3_hold_28 rfl (lv_at hl 1 rfl) ?_
      refine kV (n := 0) (As := []) (rest := [.ref (ad 0)]) ⟨hx, hb, hml, hown, hts⟩ (kX3_allEvents l D cy ad u) gX3_hold_X3_allEvents rfl rfl rfl (by decide +kernel) ⟨Nat.le_of_ble_eq_true rfl, Nat.le_of_ble_eq_true rfl⟩ (recvX hP hK) (XB_of hP hK) XB_bl rfl hl.1 rfl (Nat.le_of_ble_eq_true rfl) dX3_hold_29 ⟨Nat.le_refl _, Nat.le_refl _⟩ ?_
      refine kV (n := 1) (As := [.int (fX3_allEvents u)]) (rest := []) ⟨hx, hb, hml, hown, hts⟩ (kX3_paidToAll l D cy ad u (fX3_allEvents u) (by first | exact hpc | assumption)) gX3_hold_X3_paidToAll rfl rfl rfl (by decide +kernel) ⟨Nat.le_of_ble_eq_true rfl, Nat.le_of_ble_eq_true rfl⟩ (recvX hP hK) (XB_of hP hK) XB_bl rfl hl.1 rfl (Nat.le_of_ble_eq_true rfl) dX3_hold_32 ⟨Nat.le_refl _, Nat.le_refl _⟩ ?_
      refine lv_istore_n (lv' := [(3, .int (fX3_paidToAll u (fX3_allEvents u))), (2, .int (fX3_weightOfAll u)), (0, .ref (ad 0)), (1, .int p0)]) hx hb dX3_hold_35 rfl hl (by decide) rfl (fun ls hl => ?_)
      refine lv_iconst (v := 0) hx hb dX3_hold_36 (by decide) ?_
      refine lv_istore (lv' := [(4, .int 0), (3, .int (fX3_paidToAll u (fX3_allEvents u))), (2, .int (fX3_weightOfAll u)), (0, .ref (ad 0)), (1, .int p0)]) hx hb dX3_hold_37 hl (by decide) rfl (fun ls hl => ?_)
      have lp39 : ∀ (n39 : Nat) (x4 : Int32) (x3 : Int32) (x2 : Int32) (k39 : Nat), (fX3_hold u p0) = (fX3_hold_c39 u p0 n39 x4 x3 x2) → (x4 = nI k39) → (k39 ≤ al) → (al < k39 + n39) → ∀ ls : Array Slot, lv_has ls 7 [(4, .int x4), (3, .int x3), (2, .int x2), (0, .ref (ad 0)), (1, .int p0)] → W p l e ({ frames := 6, cells := 0, slots := 0, locals := 134 } : Room) s m ([.ref (ad 0), .int p0] : List Value).toArray below meth c s.heap [] 0 0 (MQ below (qR (some (.int (fX3_hold u p0)))) ([.ref (ad 0), .int p0] : List Value).toArray s 0 0 noF) (F0 m 39 ls []) := by
        intro n39
        induction n39 with
        | zero =>
          intro x4 x3 x2 k39 _ e39 hk39 hm39 ls hl
          exfalso; omega
        | succ n39 ih39 =>
          intro x4 x3 x2 k39 hr39 e39 hk39 hm39 ls hl
          refine lv_iload hx hb dX3_hold_39 (lv_at hl 0 rfl) ?_
          refine lv_aload_n hx hb dX3_hold_41 rfl (lv_at hl 3 rfl) ?_
          refine kV (n := 0) (As := []) (rest := [.int x4]) ⟨hx, hb, hml, hown, hts⟩ (kX3_allEvents l D cy ad u) gX3_hold_X3_allEvents rfl rfl rfl (by decide +kernel) ⟨Nat.le_of_ble_eq_true rfl, Nat.le_of_ble_eq_true rfl⟩ (recvX hP hK) (XB_of hP hK) XB_bl rfl hl.1 rfl (Nat.le_of_ble_eq_true rfl) dX3_hold_42 ⟨Nat.le_refl _, Nat.le_refl _⟩ ?_
          refine lv_icmp_ge (tgt := 94) hx hb dX3_hold_45 (by decide) (fun c3 => ?_) (fun c3 => ?_)
          · refine lv_iload_n hx hb dX3_hold_94 rfl (lv_at hl 1 rfl) ?_
            exact rI hx hb hr hlk dX3_hold_95 (by rw [hr39, fX3_hold_c39, if_pos c3])
          · have hlt39 : k39 < al := cnt_lt eal e39 (by omega) (by omega) c3
            refine lv_aload_n hx hb dX3_hold_48 rfl (lv_at hl 3 rfl) ?_
            refine lv_iload hx hb dX3_hold_49 (lv_at hl 0 rfl) ?_
            refine kV (n := 1) (As := [.int x4]) (rest := []) ⟨hx, hb, hml, hown, hts⟩ (kX3_paidToAll l D cy ad u x4 (by first | exact hpc | assumption)) gX3_hold_X3_paidToAll rfl rfl rfl (by decide +kernel) ⟨Nat.le_of_ble_eq_true rfl, Nat.le_of_ble_eq_true rfl⟩ (recvX hP hK) (XB_of hP hK) XB_bl rfl hl.1 rfl (Nat.le_of_ble_eq_true rfl) dX3_hold_51 ⟨Nat.le_refl _, Nat.le_refl _⟩ ?_
            refine lv_istore (lv' := [(5, .int (fX3_paidToAll u x4)), (4, .int x4), (3, .int x3), (2, .int x2), (0, .ref (ad 0)), (1, .int p0)]) hx hb dX3_hold_54 hl (by decide) rfl (fun ls hl => ?_)
            refine lv_iload_n hx hb dX3_hold_56 rfl (lv_at hl 3 rfl) ?_
            refine lv_aload_n hx hb dX3_hold_57 rfl (lv_at hl 4 rfl) ?_
            refine lv_iload hx hb dX3_hold_58 (lv_at hl 0 rfl) ?_
            refine lv_iconst (v := 1) hx hb dX3_hold_60 (by decide) ?_
            refine lv_iadd hx hb dX3_hold_61 ?_
            refine kV (n := 1) (As := [.int ((fX3_paidToAll u x4) + 1)]) (rest := [.int x2]) ⟨hx, hb, hml, hown, hts⟩ (kX3_weightFrom l D cy ad u ((fX3_paidToAll u x4) + 1) (by first | exact hpc | assumption) (by first | exact hec | assumption)) gX3_hold_X3_weightFrom rfl rfl rfl (by decide +kernel) ⟨Nat.le_of_ble_eq_true rfl, Nat.le_of_ble_eq_true rfl⟩ (recvX hP hK) (XB_of hP hK) XB_bl rfl hl.1 rfl (Nat.le_of_ble_eq_true rfl) dX3_hold_62 ⟨Nat.le_refl _, Nat.le_refl _⟩ ?_
            refine lv_isub hx hb dX3_hold_65 ?_
            refine lv_istore (lv' := [(6, .int (x2 - (fX3_weightFrom u ((fX3_paidToAll u x4) + 1)))), (5, .int (fX3_paidToAll u x4)), (4, .int x4), (3, .int x3), (2, .int x2), (0, .ref (ad 0)), (1, .int p0)]) hx hb dX3_hold_66 hl (by decide) rfl (fun ls hl => ?_)
            refine lv_iload hx hb dX3_hold_68 (lv_at hl 1 rfl) ?_
            refine lv_iload_n hx hb dX3_hold_70 rfl (lv_at hl 3 rfl) ?_
            refine lv_icmp_ge (tgt := 88) hx hb dX3_hold_71 (by decide) (fun c4 => ?_) (fun c4 => ?_)
            · refine lv_iinc (v := (x4 + 1)) (lv' := [(4, .int (x4 + 1)), (6, .int (x2 - (fX3_weightFrom u ((fX3_paidToAll u x4) + 1)))), (5, .int (fX3_paidToAll u x4)), (3, .int x3), (2, .int x2), (0, .ref (ad 0)), (1, .int p0)]) hx hb dX3_hold_88 hl (k := 2) rfl rfl (by decide) rfl (fun ls hl => ?_)
              refine lv_goto (tgt := 39) hx hb dX3_hold_91 (by decide) ?_
              exact ih39 (x4 + 1) x3 x2 (k39 + 1) (by rw [hr39, fX3_hold_c39, if_neg c3, if_pos c4]) (by rw [e39]; exact nI_1 _) hlt39 (by omega) ls (lv_sub hl [0, 3, 4, 5, 6] rfl)
            · refine lv_bipush (v := 10) hx hb dX3_hold_74 (by decide) ?_
              refine lv_iload hx hb dX3_hold_76 (lv_at hl 0 rfl) ?_
              refine lv_imul hx hb dX3_hold_78 ?_
              refine lv_iload_n hx hb dX3_hold_79 rfl (lv_at hl 6 rfl) ?_
              refine lv_iload_n hx hb dX3_hold_80 rfl (lv_at hl 4 rfl) ?_
              refine lv_imul hx hb dX3_hold_81 ?_
              refine lv_icmp_lt (tgt := 88) hx hb dX3_hold_82 (by decide) (fun c5 => ?_) (fun c5 => ?_)
              · refine lv_iinc (v := (x4 + 1)) (lv' := [(4, .int (x4 + 1)), (6, .int (x2 - (fX3_weightFrom u ((fX3_paidToAll u x4) + 1)))), (5, .int (fX3_paidToAll u x4)), (3, .int x3), (2, .int x2), (0, .ref (ad 0)), (1, .int p0)]) hx hb dX3_hold_88 hl (k := 2) rfl rfl (by decide) rfl (fun ls hl => ?_)
                refine lv_goto (tgt := 39) hx hb dX3_hold_91 (by decide) ?_
                exact ih39 (x4 + 1) x3 x2 (k39 + 1) (by rw [hr39, fX3_hold_c39, if_neg c3, if_neg c4, if_pos c5]) (by rw [e39]; exact nI_1 _) hlt39 (by omega) ls (lv_sub hl [0, 3, 4, 5, 6] rfl)
              · refine lv_iload hx hb dX3_hold_85 (lv_at hl 1 rfl) ?_
                refine lv_istore_n (lv' := [(3, .int (fX3_paidToAll u x4)), (6, .int (x2 - (fX3_weightFrom u ((fX3_paidToAll u x4) + 1)))), (5, .int (fX3_paidToAll u x4)), (4, .int x4), (2, .int x2), (0, .ref (ad 0)), (1, .int p0)]) hx hb dX3_hold_87 rfl hl (by decide) rfl (fun ls hl => ?_)
                refine lv_iinc (v := (x4 + 1)) (lv' := [(4, .int (x4 + 1)), (3, .int (fX3_paidToAll u x4)), (6, .int (x2 - (fX3_weightFrom u ((fX3_paidToAll u x4) + 1)))), (5, .int (fX3_paidToAll u x4)), (2, .int x2), (0, .ref (ad 0)), (1, .int p0)]) hx hb dX3_hold_88 hl (k := 3) rfl rfl (by decide) rfl (fun ls hl => ?_)
                refine lv_goto (tgt := 39) hx hb dX3_hold_91 (by decide) ?_
                exact ih39 (x4 + 1) (fX3_paidToAll u x4) x2 (k39 + 1) (by rw [hr39, fX3_hold_c39, if_neg c3, if_neg c4, if_neg c5]) (by rw [e39]; exact nI_1 _) hlt39 (by omega) ls (lv_sub hl [0, 1, 4, 5, 6] rfl)
      exact lp39 (34) 0 (fX3_paidToAll u (fX3_allEvents u)) (fX3_weightOfAll u) (0) (by rw [fX3_hold, if_neg c1, if_neg c2]) nI_0.symm (by omega) (by omega) ls (lv_sub hl [0, 1, 2, 3, 4] rfl)
    · refine lv_bipush (v := (-3)) hx hb dX3_hold_19 (by decide) ?_
      exact rI hx hb hr hlk dX3_hold_21 (by rw [fX3_hold, if_neg c1, if_pos c2])
  · refine lv_bipush (v := (-2)) hx hb dX3_hold_9 (by decide) ?_
    exact rI hx hb hr hlk dX3_hold_11 (by rw [fX3_hold, if_pos c1])
def fX3_tenthsGained_c6 (u : Mem) (p0 : Int32) (p1 : Int32) (p2 : Int32)  : Nat → Int32 → Int32 → Int32
  | 0, x5, x4 => 0
  | n6 + 1, x5, x4 => (if (u 0 4) ≤ x5 then x4 else (if (fX3_isIn p2 x5) = 0 then (fX3_tenthsGained_c6 u p0 p1 p2 n6 (x5 + 1) x4) else (fX3_tenthsGained_c6 u p0 p1 p2 n6 (x5 + 1) (x4 + ((p0 * (u 1 x5.toNatClampNeg)) - (10 * p1))))))
def fX3_tenthsGained (u : Mem) (p0 : Int32) (p1 : Int32) (p2 : Int32) : Int32 :=
  (fX3_tenthsGained_c6 u p0 p1 p2 (6) 0 0)
set_option maxRecDepth 100000 in
set_option maxHeartbeats 4000000 in
theorem kX3_tenthsGained (l : Launch) (D : va_G) (cy : Nat → ClassId) (ad : Nat → Nat) (u : Mem) (p0 : Int32) (p1 : Int32) (p2 : Int32) (hec : EcOk u) : Met l yX3_tenthsGained wsX3_tenthsGained ({ frames := 1, cells := 0, slots := 0, locals := 21 } : Room) (va_Pc [.ref (ad 0), .int p0, .int p1, .int p2] (XB D cy ad u)) (qR (some (.int (fX3_tenthsGained u p0 p1 p2)))) 0 0 noF := by
  refine m_start (cc := cX3_tenthsGained) (maxL := 6) (ret := (some .int)) (by decide) rfl (Nat.le_of_ble_eq_true rfl) (fun p e s m below meth c hx hb hr hts hown hml hlk _ hB ls hl => ?_)
  obtain ⟨hP, hK⟩ := hB
  have hown : s.vm.findClass RX3 = some m.cls := hown
  have hl : lv_has ls 6 [(0, .ref (ad 0)), (1, .int p0), (2, .int p1), (3, .int p2)] := hl
  have hin_X3 : ∀ w ∈ wsX30, w ∈ wsX3_tenthsGained := fun _ h => List.mem_cons_of_mem _ (List.mem_append_right _ (h))
  obtain ⟨ne, hne, ene⟩ := id hec
  refine lv_iconst (v := 0) hx hb dX3_tenthsGained_0 (by decide) ?_
  refine lv_istore (lv' := [(4, .int 0), (0, .ref (ad 0)), (1, .int p0), (2, .int p1), (3, .int p2)]) hx hb dX3_tenthsGained_1 hl (by decide) rfl (fun ls hl => ?_)
  refine lv_iconst (v := 0) hx hb dX3_tenthsGained_3 (by decide) ?_
  refine lv_istore (lv' := [(5, .int 0), (4, .int 0), (0, .ref (ad 0)), (1, .int p0), (2, .int p1), (3, .int p2)]) hx hb dX3_tenthsGained_4 hl (by decide) rfl (fun ls hl => ?_)
  have lp6 : ∀ (n6 : Nat) (x5 : Int32) (x4 : Int32) (k6 : Nat), (fX3_tenthsGained u p0 p1 p2) = (fX3_tenthsGained_c6 u p0 p1 p2 n6 x5 x4) → (x5 = nI k6) → (k6 ≤ ne) → (ne < k6 + n6) → ∀ ls : Array Slot, lv_has ls 6 [(5, .int x5), (4, .int x4), (0, .ref (ad 0)), (1, .int p0), (2, .int p1), (3, .int p2)] → W p l e ({ frames := 1, cells := 0, slots := 0, locals := 21 } : Room) s m ([.ref (ad 0), .int p0, .int p1, .int p2] : List Value).toArray below meth c s.heap [] 0 0 (MQ below (qR (some (.int (fX3_tenthsGained u p0 p1 p2)))) ([.ref (ad 0), .int p0, .int p1, .int p2] : List Value).toArray s 0 0 noF) (F0 m 6 ls []) := by
    intro n6
    induction n6 with
    | zero =>
      intro x5 x4 k6 _ e6 hk6 hm6 ls hl
      exfalso; omega
    | succ n6 ih6 =>
      intro x5 x4 k6 hr6 e6 hk6 hm6 ls hl
      refine lv_iload hx hb dX3_tenthsGained_6 (lv_at hl 0 rfl) ?_
      refine lv_aload_n hx hb dX3_tenthsGained_8 rfl (lv_at hl 2 rfl) ?_
      refine zg_X3_eventCount hx hb hts hin_X3 hown hK hP (hts (Cond.fieldLink RX3 33 "ProphetCover" "eventCount" "I") (List.mem_of_getElem? (i := 1) rfl)) dX3_tenthsGained_9 ?_
      refine lv_icmp_ge (tgt := 49) hx hb dX3_tenthsGained_12 (by decide) (fun c1 => ?_) (fun c1 => ?_)
      · refine lv_iload hx hb dX3_tenthsGained_49 (lv_at hl 1 rfl) ?_
        exact rI hx hb hr hlk dX3_tenthsGained_51 (by rw [hr6, fX3_tenthsGained_c6, if_pos c1])
      · have hlt6 : k6 < ne := cnt_lt ene e6 (by omega) (by omega) c1
        have hv6 : vp_in x5 5 := cnt_in e6 (by omega) (by decide)
        refine lv_iload_n hx hb dX3_tenthsGained_15 rfl (lv_at hl 5 rfl) ?_
        refine lv_iload hx hb dX3_tenthsGained_16 (lv_at hl 0 rfl) ?_
        refine kS (n := 2) (As := [.int p2, .int x5]) (rest := []) ⟨hx, hb, hml, hown, hts⟩ (kX3_isIn l p2 x5) gX3_tenthsGained_X3_isIn rfl rfl rfl (by decide +kernel) ⟨Nat.le_of_ble_eq_true rfl, Nat.le_of_ble_eq_true rfl⟩ (fun _ _ _ => trivial) (fun _ _ _ _ _ => trivial) rfl hl.1 rfl (Nat.le_of_ble_eq_true rfl) dX3_tenthsGained_18 ⟨Nat.le_refl _, Nat.le_refl _⟩ ?_
        refine lv_if_eq (tgt := 43) hx hb dX3_tenthsGained_21 (by decide) (fun c2 => ?_) (fun c2 => ?_)
        · refine lv_iinc (v := (x5 + 1)) (lv' := [(5, .int (x5 + 1)), (4, .int x4), (0, .ref (ad 0)), (1, .int p0), (2, .int p1), (3, .int p2)]) hx hb dX3_tenthsGained_43 hl (k := 0) rfl rfl (by decide) rfl (fun ls hl => ?_)
          refine lv_goto (tgt := 6) hx hb dX3_tenthsGained_46 (by decide) ?_
          exact ih6 (x5 + 1) x4 (k6 + 1) (by rw [hr6, fX3_tenthsGained_c6, if_neg c1, if_pos c2]) (by rw [e6]; exact nI_1 _) hlt6 (by omega) ls (lv_sub hl [0, 1, 2, 3, 4, 5] rfl)
        · refine lv_iload hx hb dX3_tenthsGained_24 (lv_at hl 1 rfl) ?_
          refine lv_iload_n hx hb dX3_tenthsGained_26 rfl (lv_at hl 3 rfl) ?_
          refine lv_aload_n hx hb dX3_tenthsGained_27 rfl (lv_at hl 2 rfl) ?_
          refine zg_X3_chances hx hb hts hin_X3 hown hK hP (hts (Cond.fieldLink RX3 17 "ProphetCover" "chances" "[I") (List.mem_of_getElem? (i := 2) rfl)) dX3_tenthsGained_28 ?_
          refine lv_iload hx hb dX3_tenthsGained_31 (lv_at hl 0 rfl) ?_
          refine zl_ch hx hb hK hP (by assumption) dX3_tenthsGained_33 ?_
          refine lv_imul hx hb dX3_tenthsGained_34 ?_
          refine lv_bipush (v := 10) hx hb dX3_tenthsGained_35 (by decide) ?_
          refine lv_iload_n hx hb dX3_tenthsGained_37 rfl (lv_at hl 4 rfl) ?_
          refine lv_imul hx hb dX3_tenthsGained_38 ?_
          refine lv_isub hx hb dX3_tenthsGained_39 ?_
          refine lv_iadd hx hb dX3_tenthsGained_40 ?_
          refine lv_istore (lv' := [(4, .int (x4 + ((p0 * (u 1 x5.toNatClampNeg)) - (10 * p1)))), (5, .int x5), (0, .ref (ad 0)), (1, .int p0), (2, .int p1), (3, .int p2)]) hx hb dX3_tenthsGained_41 hl (by decide) rfl (fun ls hl => ?_)
          refine lv_iinc (v := (x5 + 1)) (lv' := [(5, .int (x5 + 1)), (4, .int (x4 + ((p0 * (u 1 x5.toNatClampNeg)) - (10 * p1)))), (0, .ref (ad 0)), (1, .int p0), (2, .int p1), (3, .int p2)]) hx hb dX3_tenthsGained_43 hl (k := 1) rfl rfl (by decide) rfl (fun ls hl => ?_)
          refine lv_goto (tgt := 6) hx hb dX3_tenthsGained_46 (by decide) ?_
          exact ih6 (x5 + 1) (x4 + ((p0 * (u 1 x5.toNatClampNeg)) - (10 * p1))) (k6 + 1) (by rw [hr6, fX3_tenthsGained_c6, if_neg c1, if_neg c2]) (by rw [e6]; exact nI_1 _) hlt6 (by omega) ls (lv_sub hl [0, 1, 2, 3, 4, 5] rfl)
  exact lp6 (6) 0 0 (0) (by rw [fX3_tenthsGained]) nI_0.symm (by omega) (by omega) ls (lv_sub hl [0, 1, 2, 3, 4, 5] rfl)
