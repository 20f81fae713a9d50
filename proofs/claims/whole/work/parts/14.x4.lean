def fX3_best_c53 (u : Mem) (p0 : Int32) (p1 : Int32)  : Nat → Int32 → Int32 → Int32 → Int32 → Int32
  | 0, x6, x5, x4, x3 => 0
  | n53 + 1, x6, x5, x4, x3 => (if (fX3_allEvents u) ≤ x6 then x4 else (if (fX3_tenthsGained u x3 p1 x6) ≤ x5 then (fX3_best_c53 u p0 p1 n53 (x6 + 1) x5 x4 x3) else (fX3_best_c53 u p0 p1 n53 (x6 + 1) (fX3_tenthsGained u x3 p1 x6) x6 x3)))
def fX3_best (u : Mem) (p0 : Int32) (p1 : Int32) : Int32 :=
  (if (fX3_isProphet u p0) = 0 then (-1) else (if (fX3_isWithin p1 9) = 0 then (-2) else (fX3_best_c53 u p0 p1 (34) 1 0 0 (fX3_paysEach (u 2 p0.toNatClampNeg) (u 3 p0.toNatClampNeg)))))
set_option maxRecDepth 100000 in
set_option maxHeartbeats 4000000 in
theorem kX3_best (l : Launch) (D : va_G) (cy : Nat → ClassId) (ad : Nat → Nat) (u : Mem) (p0 : Int32) (p1 : Int32) (hpc : PcOk u) (hec : EcOk u) : Met l yX3_best wsX3_best ({ frames := 2, cells := 0, slots := 0, locals := 46 } : Room) (va_Pc [.ref (ad 0), .int p0, .int p1] (XB D cy ad u)) (qR (some (.int (fX3_best u p0 p1)))) 0 0 noF := by
  refine m_start (cc := cX3_best) (maxL := 8) (ret := (some .int)) (by decide) rfl (Nat.le_of_ble_eq_true rfl) (fun p e s m below meth c hx hb hr hts hown hml hlk _ hB ls hl => ?_)
  obtain ⟨hP, hK⟩ := hB
  have hown : s.vm.findClass RX3 = some m.cls := hown
  have hl : lv_has ls 8 [(0, .ref (ad 0)), (1, .int p0), (2, .int p1)] := hl
  have hin_X0 : ∀ w ∈ wsX00, w ∈ wsX3_best := fun _ h => List.mem_cons_of_mem _ (List.mem_append_right _ (h))
  have hin_X3 : ∀ w ∈ wsX30, w ∈ wsX3_best := fun _ h => List.mem_cons_of_mem _ (List.mem_append_left _ (List.mem_append_right _ (h)))
  obtain ⟨al, hal, eal⟩ := allEv_X hec
  refine lv_aload_n hx hb dX3_best_0 rfl (lv_at hl 0 rfl) ?_
  refine lv_iload_n hx hb dX3_best_1 rfl (lv_at hl 1 rfl) ?_
  refine kV (n := 1) (As := [.int p0]) (rest := []) ⟨hx, hb, hml, hown, hts⟩ (kX3_isProphet l D cy ad u p0) gX3_best_X3_isProphet rfl rfl rfl (by decide +kernel) ⟨Nat.le_of_ble_eq_true rfl, Nat.le_of_ble_eq_true rfl⟩ (recvX hP hK) (XB_of hP hK) XB_bl rfl hl.1 rfl (Nat.le_of_ble_eq_true rfl) dX3_best_2 ⟨Nat.le_refl _, Nat.le_refl _⟩ ?_
  refine lv_if_ne (tgt := 10) hx hb dX3_best_5 (by decide) (fun c1 => ?_) (fun c1 => ?_)
  · have hv1 : vp_in p0 4 := isProphet_in hpc c1
    refine lv_iload_n hx hb dX3_best_10 rfl (lv_at hl 2 rfl) ?_
    refine lv_bipush (v := 9) hx hb dX3_best_11 (by decide) ?_
    refine kS (n := 2) (As := [.int p1, .int 9]) (rest := []) ⟨hx, hb, hml, hown, hts⟩ (kX3_isWithin l p1 9) gX3_best_X3_isWithin rfl rfl rfl (by decide +kernel) ⟨Nat.le_of_ble_eq_true rfl, Nat.le_of_ble_eq_true rfl⟩ (fun _ _ _ => trivial) (fun _ _ _ _ _ => trivial) rfl hl.1 rfl (Nat.le_of_ble_eq_true rfl) dX3_best_13 ⟨Nat.le_refl _, Nat.le_refl _⟩ ?_
    refine lv_if_ne (tgt := 22) hx hb dX3_best_16 (by decide) (fun c2 => ?_) (fun c2 => ?_)
    · refine lv_aload_n hx hb dX3_best_22 rfl (lv_at hl 0 rfl) ?_
      refine zg_X3_prophets hx hb hts hin_X3 hown hK hP (hts (Cond.fieldLink RX3 23 "ProphetCover" "prophets" "[LProphetCover$Prophet;") (List.mem_of_getElem? (i := 1) rfl)) dX3_best_23 ?_
      refine lv_iload_n hx hb dX3_best_26 rfl (lv_at hl 1 rfl) ?_
      refine zl_prophets hx hb hK hP (by assumption) dX3_best_27 ?_
      refine zg_X0_kind (vlt (n := 4) (i := p0) (by assumption)) hx hb hts hin_X0 hown hK hP (hts (Cond.fieldLink RX3 88 "ProphetCover$Prophet" "kind" "I") (List.mem_of_getElem? (i := 2) rfl)) dX3_best_28 ?_
      refine lv_aload_n hx hb dX3_best_31 rfl (lv_at hl 0 rfl) ?_
      refine zg_X3_prophets hx hb hts hin_X3 hown hK hP (hts (Cond.fieldLink RX3 23 "ProphetCover" "prophets" "[LProphetCover$Prophet;") (List.mem_of_getElem? (i := 1) rfl)) dX3_best_32 ?_
      refine lv_iload_n hx hb dX3_best_35 rfl (lv_at hl 1 rfl) ?_
      refine zl_prophets hx hb hK hP (by assumption) dX3_best_36 ?_
      refine zg_X0_cover (vlt (n := 4) (i := p0) (by assumption)) hx hb hts hin_X0 hown hK hP (hts (Cond.fieldLink RX3 91 "ProphetCover$Prophet" "cover" "I") (List.mem_of_getElem? (i := 3) rfl)) dX3_best_37 ?_
      refine kS (n := 2) (As := [.int (u 2 p0.toNatClampNeg), .int (u 3 p0.toNatClampNeg)]) (rest := []) ⟨hx, hb, hml, hown, hts⟩ (kX3_paysEach l (u 2 p0.toNatClampNeg) (u 3 p0.toNatClampNeg)) gX3_best_X3_paysEach rfl rfl rfl (by decide +kernel) ⟨Nat.le_of_ble_eq_true rfl, Nat.le_of_ble_eq_true rfl⟩ (fun _ _ _ => trivial) (fun _ _ _ _ _ => trivial) rfl hl.1 rfl (Nat.le_of_ble_eq_true rfl) dX3_best_40 ⟨Nat.le_refl _, Nat.le_refl _⟩ ?_
      refine lv_istore_n (lv' := [(3, .int (fX3_paysEach (u 2 p0.toNatClampNeg) (u 3 p0.toNatClampNeg))), (0, .ref (ad 0)), (1, .int p0), (2, .int p1)]) hx hb dX3_best_43 rfl hl (by decide) rfl (fun ls hl => ?_)
      refine lv_iconst (v := 0) hx hb dX3_best_44 (by decide) ?_
      refine lv_istore (lv' := [(4, .int 0), (3, .int (fX3_paysEach (u 2 p0.toNatClampNeg) (u 3 p0.toNatClampNeg))), (0, .ref (ad 0)), (1, .int p0), (2, .int p1)]) hx hb dX3_best_45 hl (by decide) rfl (fun ls hl => ?_)
      refine lv_iconst (v := 0) hx hb dX3_best_47 (by decide) ?_
      refine lv_istore (lv' := [(5, .int 0), (4, .int 0), (3, .int (fX3_paysEach (u 2 p0.toNatClampNeg) (u 3 p0.toNatClampNeg))), (0, .ref (ad 0)), (1, .int p0), (2, .int p1)]) hx hb dX3_best_48 hl (by decide) rfl (fun ls hl => ?_)
      refine lv_iconst (v := 1) hx hb dX3_best_50 (by decide) ?_
      refine lv_istore (lv' := [(6, .int 1), (5, .int 0), (4, .int 0), (3, .int (fX3_paysEach (u 2 p0.toNatClampNeg) (u 3 p0.toNatClampNeg))), (0, .ref (ad 0)), (1, .int p0), (2, .int p1)]) hx hb dX3_best_51 hl (by decide) rfl (fun ls hl => ?_)
      have lp53 : ∀ (n53 : Nat) (x6 : Int32) (x5 : Int32) (x4 : Int32) (x3 : Int32) (k53 : Nat), (fX3_best u p0 p1) = (fX3_best_c53 u p0 p1 n53 x6 x5 x4 x3) → (x6 = nI k53) → (k53 ≤ al + 1) → (al + 1 < k53 + n53) → ∀ ls : Array Slot, lv_has ls 8 [(6, .int x6), (5, .int x5), (4, .int x4), (3, .int x3), (0, .ref (ad 0)), (2, .int p1)] → W p l e ({ frames := 2, cells := 0, slots := 0, locals := 46 } : Room) s m ([.ref (ad 0), .int p0, .int p1] : List Value).toArray below meth c s.heap [] 0 0 (MQ below (qR (some (.int (fX3_best u p0 p1)))) ([.ref (ad 0), .int p0, .int p1] : List Value).toArray s 0 0 noF) (F0 m 53 ls []) := by
        intro n53
        induction n53 with
        | zero =>
          intro x6 x5 x4 x3 k53 _ e53 hk53 hm53 ls hl
          exfalso; omega
        | succ n53 ih53 =>
          intro x6 x5 x4 x3 k53 hr53 e53 hk53 hm53 ls hl
          refine lv_iload hx hb dX3_best_53 (lv_at hl 0 rfl) ?_
          refine lv_aload_n hx hb dX3_best_55 rfl (lv_at hl 4 rfl) ?_
          refine kV (n := 0) (As := []) (rest := [.int x6]) ⟨hx, hb, hml, hown, hts⟩ (kX3_allEvents l D cy ad u) gX3_best_X3_allEvents rfl rfl rfl (by decide +kernel) ⟨Nat.le_of_ble_eq_true rfl, Nat.le_of_ble_eq_true rfl⟩ (recvX hP hK) (XB_of hP hK) XB_bl rfl hl.1 rfl (Nat.le_of_ble_eq_true rfl) dX3_best_56 ⟨Nat.le_refl _, Nat.le_refl _⟩ ?_
          refine lv_icmp_ge (tgt := 93) hx hb dX3_best_59 (by decide) (fun c3 => ?_) (fun c3 => ?_)
          · refine lv_iload hx hb dX3_best_93 (lv_at hl 2 rfl) ?_
            exact rI hx hb hr hlk dX3_best_95 (by rw [hr53, fX3_best_c53, if_pos c3])
          · have hlt53 : k53 < al := cnt_lt eal e53 (by omega) (by omega) c3
            refine lv_aload_n hx hb dX3_best_62 rfl (lv_at hl 4 rfl) ?_
            refine lv_iload_n hx hb dX3_best_63 rfl (lv_at hl 3 rfl) ?_
            refine lv_iload_n hx hb dX3_best_64 rfl (lv_at hl 5 rfl) ?_
            refine lv_iload hx hb dX3_best_65 (lv_at hl 0 rfl) ?_
            refine kV (n := 3) (As := [.int x3, .int p1, .int x6]) (rest := []) ⟨hx, hb, hml, hown, hts⟩ (kX3_tenthsGained l D cy ad u x3 p1 x6 (by first | exact hec | assumption)) gX3_best_X3_tenthsGained rfl rfl rfl (by decide +kernel) ⟨Nat.le_of_ble_eq_true rfl, Nat.le_of_ble_eq_true rfl⟩ (recvX hP hK) (XB_of hP hK) XB_bl rfl hl.1 rfl (Nat.le_of_ble_eq_true rfl) dX3_best_67 ⟨Nat.le_refl _, Nat.le_refl _⟩ ?_
            refine lv_istore (lv' := [(7, .int (fX3_tenthsGained u x3 p1 x6)), (6, .int x6), (5, .int x5), (4, .int x4), (3, .int x3), (0, .ref (ad 0)), (2, .int p1)]) hx hb dX3_best_70 hl (by decide) rfl (fun ls hl => ?_)
            refine lv_iload hx hb dX3_best_72 (lv_at hl 0 rfl) ?_
            refine lv_iload hx hb dX3_best_74 (lv_at hl 2 rfl) ?_
            refine lv_icmp_le (tgt := 87) hx hb dX3_best_76 (by decide) (fun c4 => ?_) (fun c4 => ?_)
            · refine lv_iinc (v := (x6 + 1)) (lv' := [(6, .int (x6 + 1)), (7, .int (fX3_tenthsGained u x3 p1 x6)), (5, .int x5), (4, .int x4), (3, .int x3), (0, .ref (ad 0)), (2, .int p1)]) hx hb dX3_best_87 hl (k := 1) rfl rfl (by decide) rfl (fun ls hl => ?_)
              refine lv_goto (tgt := 53) hx hb dX3_best_90 (by decide) ?_
              exact ih53 (x6 + 1) x5 x4 x3 (k53 + 1) (by rw [hr53, fX3_best_c53, if_neg c3, if_pos c4]) (by rw [e53]; exact nI_1 _) (by omega) (by omega) ls (lv_sub hl [0, 2, 3, 4, 5, 6] rfl)
            · refine lv_iload hx hb dX3_best_79 (lv_at hl 0 rfl) ?_
              refine lv_istore (lv' := [(5, .int (fX3_tenthsGained u x3 p1 x6)), (7, .int (fX3_tenthsGained u x3 p1 x6)), (6, .int x6), (4, .int x4), (3, .int x3), (0, .ref (ad 0)), (2, .int p1)]) hx hb dX3_best_81 hl (by decide) rfl (fun ls hl => ?_)
              refine lv_iload hx hb dX3_best_83 (lv_at hl 2 rfl) ?_
              refine lv_istore (lv' := [(4, .int x6), (5, .int (fX3_tenthsGained u x3 p1 x6)), (7, .int (fX3_tenthsGained u x3 p1 x6)), (6, .int x6), (3, .int x3), (0, .ref (ad 0)), (2, .int p1)]) hx hb dX3_best_85 hl (by decide) rfl (fun ls hl => ?_)
              refine lv_iinc (v := (x6 + 1)) (lv' := [(6, .int (x6 + 1)), (4, .int x6), (5, .int (fX3_tenthsGained u x3 p1 x6)), (7, .int (fX3_tenthsGained u x3 p1 x6)), (3, .int x3), (0, .ref (ad 0)), (2, .int p1)]) hx hb dX3_best_87 hl (k := 3) rfl rfl (by decide) rfl (fun ls hl => ?_)
              refine lv_goto (tgt := 53) hx hb dX3_best_90 (by decide) ?_
              exact ih53 (x6 + 1) (fX3_tenthsGained u x3 p1 x6) x6 x3 (k53 + 1) (by rw [hr53, fX3_best_c53, if_neg c3, if_neg c4]) (by rw [e53]; exact nI_1 _) (by omega) (by omega) ls (lv_sub hl [0, 2, 1, 4, 5, 6] rfl)
      exact lp53 (34) 1 0 0 (fX3_paysEach (u 2 p0.toNatClampNeg) (u 3 p0.toNatClampNeg)) (1) (by rw [fX3_best, if_neg c1, if_neg c2]) rfl (by omega) (by omega) ls (lv_sub hl [0, 1, 2, 3, 4, 6] rfl)
    · refine lv_bipush (v := (-2)) hx hb dX3_best_19 (by decide) ?_
      exact rI hx hb hr hlk dX3_best_21 (by rw [fX3_best, if_neg c1, if_pos c2])
  · refine lv_iconst (v := (-1)) hx hb dX3_best_8 (by decide) ?_
    exact rI hx hb hr hlk dX3_best_9 (by rw [fX3_best, if_pos c1])
def fX3_came_c43 (u : Mem) (p0 : Int32) (p1 : Int32)  : Nat → Int32 → Int32 → Int32 → Int32
  | 0, x5, x4, x3 => 0
  | n43 + 1, x5, x4, x3 => (if x5 < 0 then (if p1 = 0 then x3 else x4) else (if (fX3_paidToAll u x5) = p0 then (fX3_came_c43 u p0 p1 n43 (x5 + (-1)) x5 (x3 + 1)) else (fX3_came_c43 u p0 p1 n43 (x5 + (-1)) x4 x3)))
def fX3_came (u : Mem) (p0 : Int32) (p1 : Int32) : Int32 :=
  (if (fX3_isWithin p0 999) = 0 then (-2) else (if (fX3_isWithin p1 1) = 0 then (-2) else (if (fX3_hasOffice u) = 0 then (-3) else (fX3_came_c43 u p0 p1 (34) (fX3_allEvents u) (-9) 0))))
set_option maxRecDepth 100000 in
set_option maxHeartbeats 4000000 in
theorem kX3_came (l : Launch) (D : va_G) (cy : Nat → ClassId) (ad : Nat → Nat) (u : Mem) (p0 : Int32) (p1 : Int32) (hpc : PcOk u) (hec : EcOk u) : Met l yX3_came wsX3_came ({ frames := 5, cells := 0, slots := 0, locals := 111 } : Room) (va_Pc [.ref (ad 0), .int p0, .int p1] (XB D cy ad u)) (qR (some (.int (fX3_came u p0 p1)))) 0 0 noF := by
  refine m_start (cc := cX3_came) (maxL := 6) (ret := (some .int)) (by decide) rfl (Nat.le_of_ble_eq_true rfl) (fun p e s m below meth c hx hb hr hts hown hml hlk _ hB ls hl => ?_)
  obtain ⟨hP, hK⟩ := hB
  have hown : s.vm.findClass RX3 = some m.cls := hown
  have hl : lv_has ls 6 [(0, .ref (ad 0)), (1, .int p0), (2, .int p1)] := hl
  have hin_X0 : ∀ w ∈ wsX00, w ∈ wsX3_came := fun _ h => List.mem_cons_of_mem _ (List.mem_append_right _ (h))
  have hin_X3 : ∀ w ∈ wsX30, w ∈ wsX3_came := fun _ h => List.mem_cons_of_mem _ (List.mem_append_left _ (List.mem_append_right _ (h)))
  obtain ⟨al, hal, eal⟩ := allEv_X hec
  refine lv_iload_n hx hb dX3_came_0 rfl (lv_at hl 1 rfl) ?_
  refine lv_sipush (v := 999) hx hb dX3_came_1 (by decide) ?_
  refine kS (n := 2) (As := [.int p0, .int 999]) (rest := []) ⟨hx, hb, hml, hown, hts⟩ (kX3_isWithin l p0 999) gX3_came_X3_isWithin rfl rfl rfl (by decide +kernel) ⟨Nat.le_of_ble_eq_true rfl, Nat.le_of_ble_eq_true rfl⟩ (fun _ _ _ => trivial) (fun _ _ _ _ _ => trivial) rfl hl.1 rfl (Nat.le_of_ble_eq_true rfl) dX3_came_4 ⟨Nat.le_refl _, Nat.le_refl _⟩ ?_
  refine lv_if_eq (tgt := 18) hx hb dX3_came_7 (by decide) (fun c1 => ?_) (fun c1 => ?_)
  · refine lv_bipush (v := (-2)) hx hb dX3_came_18 (by decide) ?_
    exact rI hx hb hr hlk dX3_came_20 (by rw [fX3_came, if_pos c1])
  · refine lv_iload_n hx hb dX3_came_10 rfl (lv_at hl 2 rfl) ?_
    refine lv_iconst (v := 1) hx hb dX3_came_11 (by decide) ?_
    refine kS (n := 2) (As := [.int p1, .int 1]) (rest := []) ⟨hx, hb, hml, hown, hts⟩ (kX3_isWithin l p1 1) gX3_came_X3_isWithin rfl rfl rfl (by decide +kernel) ⟨Nat.le_of_ble_eq_true rfl, Nat.le_of_ble_eq_true rfl⟩ (fun _ _ _ => trivial) (fun _ _ _ _ _ => trivial) rfl hl.1 rfl (Nat.le_of_ble_eq_true rfl) dX3_came_12 ⟨Nat.le_refl _, Nat.le_refl _⟩ ?_
    refine lv_if_ne (tgt := 21) hx hb dX3_came_15 (by decide) (fun c2 => ?_) (fun c2 => ?_)
    · refine lv_aload_n hx hb dX3_came_21 rfl (lv_at hl 0 rfl) ?_
      refine kV (n := 0) (As := []) (rest := []) ⟨hx, hb, hml, hown, hts⟩ (kX3_hasOffice l D cy ad u) gX3_came_X3_hasOffice rfl rfl rfl (by decide +kernel) ⟨Nat.le_of_ble_eq_true rfl, Nat.le_of_ble_eq_true rfl⟩ (recvX hP hK) (XB_of hP hK) XB_bl rfl hl.1 rfl (Nat.le_of_ble_eq_true rfl) dX3_came_22 ⟨Nat.le_refl _, Nat.le_refl _⟩ ?_
      refine lv_if_ne (tgt := 31) hx hb dX3_came_25 (by decide) (fun c3 => ?_) (fun c3 => ?_)
      · refine lv_iconst (v := 0) hx hb dX3_came_31 (by decide) ?_
        refine lv_istore_n (lv' := [(3, .int 0), (0, .ref (ad 0)), (1, .int p0), (2, .int p1)]) hx hb dX3_came_32 rfl hl (by decide) rfl (fun ls hl => ?_)
        refine lv_bipush (v := (-9)) hx hb dX3_came_33 (by decide) ?_
        refine lv_istore (lv' := [(4, .int (-9)), (3, .int 0), (0, .ref (ad 0)), (1, .int p0), (2, .int p1)]) hx hb dX3_came_35 hl (by decide) rfl (fun ls hl => ?_)
        refine lv_aload_n hx hb dX3_came_37 rfl (lv_at hl 2 rfl) ?_
        refine kV (n := 0) (As := []) (rest := []) ⟨hx, hb, hml, hown, hts⟩ (kX3_allEvents l D cy ad u) gX3_came_X3_allEvents rfl rfl rfl (by decide +kernel) ⟨Nat.le_of_ble_eq_true rfl, Nat.le_of_ble_eq_true rfl⟩ (recvX hP hK) (XB_of hP hK) XB_bl rfl hl.1 rfl (Nat.le_of_ble_eq_true rfl) dX3_came_38 ⟨Nat.le_refl _, Nat.le_refl _⟩ ?_
        refine lv_istore (lv' := [(5, .int (fX3_allEvents u)), (4, .int (-9)), (3, .int 0), (0, .ref (ad 0)), (1, .int p0), (2, .int p1)]) hx hb dX3_came_41 hl (by decide) rfl (fun ls hl => ?_)
        have lp43 : ∀ (n43 : Nat) (x5 : Int32) (x4 : Int32) (x3 : Int32) (k43 : Nat), (fX3_came u p0 p1) = (fX3_came_c43 u p0 p1 n43 x5 x4 x3) → (x5 + 1 = nI k43) → (k43 ≤ 32) → (k43 < n43) → ∀ ls : Array Slot, lv_has ls 6 [(5, .int x5), (4, .int x4), (3, .int x3), (0, .ref (ad 0)), (1, .int p0), (2, .int p1)] → W p l e ({ frames := 5, cells := 0, slots := 0, locals := 111 } : Room) s m ([.ref (ad 0), .int p0, .int p1] : List Value).toArray below meth c s.heap [] 0 0 (MQ below (qR (some (.int (fX3_came u p0 p1)))) ([.ref (ad 0), .int p0, .int p1] : List Value).toArray s 0 0 noF) (F0 m 43 ls []) := by
          intro n43
          induction n43 with
          | zero =>
            intro x5 x4 x3 k43 _ e43 hk43 hm43 ls hl
            exfalso; omega
          | succ n43 ih43 =>
            intro x5 x4 x3 k43 hr43 e43 hk43 hm43 ls hl
            refine lv_iload hx hb dX3_came_43 (lv_at hl 0 rfl) ?_
            refine lv_if_lt (tgt := 71) hx hb dX3_came_45 (by decide) (fun c4 => ?_) (fun c4 => ?_)
            · refine lv_iload_n hx hb dX3_came_71 rfl (lv_at hl 5 rfl) ?_
              refine lv_if_ne (tgt := 79) hx hb dX3_came_72 (by decide) (fun c5 => ?_) (fun c5 => ?_)
              · refine lv_iload hx hb dX3_came_79 (lv_at hl 1 rfl) ?_
                exact rI hx hb hr hlk dX3_came_81 (by rw [hr43, fX3_came_c43, if_pos c4, if_neg c5])
              · refine lv_iload_n hx hb dX3_came_75 rfl (lv_at hl 2 rfl) ?_
                refine lv_goto (tgt := 81) hx hb dX3_came_76 (by decide) ?_
                exact rI hx hb hr hlk dX3_came_81 (by rw [hr43, fX3_came_c43, if_pos c4, if_pos c5])
            · have hp43 : 0 < k43 := dn_pos e43 c4
              refine lv_aload_n hx hb dX3_came_48 rfl (lv_at hl 3 rfl) ?_
              refine lv_iload hx hb dX3_came_49 (lv_at hl 0 rfl) ?_
              refine kV (n := 1) (As := [.int x5]) (rest := []) ⟨hx, hb, hml, hown, hts⟩ (kX3_paidToAll l D cy ad u x5 (by first | exact hpc | assumption)) gX3_came_X3_paidToAll rfl rfl rfl (by decide +kernel) ⟨Nat.le_of_ble_eq_true rfl, Nat.le_of_ble_eq_true rfl⟩ (recvX hP hK) (XB_of hP hK) XB_bl rfl hl.1 rfl (Nat.le_of_ble_eq_true rfl) dX3_came_51 ⟨Nat.le_refl _, Nat.le_refl _⟩ ?_
              refine lv_iload_n hx hb dX3_came_54 rfl (lv_at hl 4 rfl) ?_
              refine lv_icmp_ne (tgt := 65) hx hb dX3_came_55 (by decide) (fun c6 => ?_) (fun c6 => ?_)
              · refine lv_iinc (v := (x5 + (-1))) (lv' := [(5, .int (x5 + (-1))), (4, .int x4), (3, .int x3), (0, .ref (ad 0)), (1, .int p0), (2, .int p1)]) hx hb dX3_came_65 hl (k := 0) rfl rfl (by decide) rfl (fun ls hl => ?_)
                refine lv_goto (tgt := 43) hx hb dX3_came_68 (by decide) ?_
                exact ih43 (x5 + (-1)) x4 x3 (k43 - 1) (by rw [hr43, fX3_came_c43, if_neg c4, if_neg c6]) (dn_next e43 hp43) (by omega) (by omega) ls (lv_sub hl [0, 1, 2, 3, 4, 5] rfl)
              · refine lv_iinc (v := (x3 + 1)) (lv' := [(3, .int (x3 + 1)), (5, .int x5), (4, .int x4), (0, .ref (ad 0)), (1, .int p0), (2, .int p1)]) hx hb dX3_came_58 hl (k := 2) rfl rfl (by decide) rfl (fun ls hl => ?_)
                refine lv_iload hx hb dX3_came_61 (lv_at hl 1 rfl) ?_
                refine lv_istore (lv' := [(4, .int x5), (3, .int (x3 + 1)), (5, .int x5), (0, .ref (ad 0)), (1, .int p0), (2, .int p1)]) hx hb dX3_came_63 hl (by decide) rfl (fun ls hl => ?_)
                refine lv_iinc (v := (x5 + (-1))) (lv' := [(5, .int (x5 + (-1))), (4, .int x5), (3, .int (x3 + 1)), (0, .ref (ad 0)), (1, .int p0), (2, .int p1)]) hx hb dX3_came_65 hl (k := 2) rfl rfl (by decide) rfl (fun ls hl => ?_)
                refine lv_goto (tgt := 43) hx hb dX3_came_68 (by decide) ?_
                exact ih43 (x5 + (-1)) x5 (x3 + 1) (k43 - 1) (by rw [hr43, fX3_came_c43, if_neg c4, if_pos c6]) (dn_next e43 hp43) (by omega) (by omega) ls (lv_sub hl [0, 1, 2, 3, 4, 5] rfl)
        exact lp43 (34) (fX3_allEvents u) (-9) 0 (al + 1) (by rw [fX3_came, if_neg c1, if_neg c2, if_neg c3]) (by rw [eal]; exact nI_1 _) (by omega) (by omega) ls (lv_sub hl [0, 1, 2, 3, 4, 5] rfl)
      · refine lv_bipush (v := (-3)) hx hb dX3_came_28 (by decide) ?_
        exact rI hx hb hr hlk dX3_came_30 (by rw [fX3_came, if_neg c1, if_neg c2, if_pos c3])
    · refine lv_bipush (v := (-2)) hx hb dX3_came_18 (by decide) ?_
      exact rI hx hb hr hlk dX3_came_20 (by rw [fX3_came, if_neg c1, if_pos c2])
def fX3_reading (u : Mem) (p0 : Int32) (p1 : Int32) (p2 : Int32) : Int32 × Mem :=
  (if (fX3_isProphet u p0) = 0 then ((-1), u) else (if (fX3_isEventSet u p1) = 0 then ((-2), u) else (if (fX3_isWithin p2 999) = 0 then ((-2), u) else (if (u 0 6) < 8 then ((((mset (mset (mset (mset u 5 (u 0 6).toNatClampNeg p0) 6 (u 0 6).toNatClampNeg p1) 7 (u 0 6).toNatClampNeg p2) 0 6 (((mset (mset (mset u 5 (u 0 6).toNatClampNeg p0) 6 (u 0 6).toNatClampNeg p1) 7 (u 0 6).toNatClampNeg p2) 0 6) + 1)) 0 6) - 1), (mset (mset (mset (mset u 5 (u 0 6).toNatClampNeg p0) 6 (u 0 6).toNatClampNeg p1) 7 (u 0 6).toNatClampNeg p2) 0 6 (((mset (mset (mset u 5 (u 0 6).toNatClampNeg p0) 6 (u 0 6).toNatClampNeg p1) 7 (u 0 6).toNatClampNeg p2) 0 6) + 1))) else ((-4), u)))))
set_option maxRecDepth 100000 in
set_option maxHeartbeats 4000000 in
theorem kX3_reading (l : Launch) (D : va_G) (cy : Nat → ClassId) (ad : Nat → Nat) (hI : XI ad) (u : Mem) (p0 : Int32) (p1 : Int32) (p2 : Int32) (hpc : PcOk u) (hrc : RcOk u) : Met l yX3_reading wsX3_reading ({ frames := 2, cells := 0, slots := 0, locals := 42 } : Room) (va_Pc [.ref (ad 0), .int p0, .int p1, .int p2] (XB D cy ad u)) (qW (XB D cy ad (fX3_reading u p0 p1 p2).2) (AX ad) (some (.int (fX3_reading u p0 p1 p2).1))) 0 0 (AX ad) := by
  refine m_start (cc := cX3_reading) (maxL := 5) (ret := (some .int)) (by decide) rfl (Nat.le_of_ble_eq_true rfl) (fun p e s m below meth c hx hb hr hts hown hml hlk _ hB ls hl => ?_)
  obtain ⟨hP, hK⟩ := hB
  have hown : s.vm.findClass RX3 = some m.cls := hown
  have hl : lv_has ls 5 [(0, .ref (ad 0)), (1, .int p0), (2, .int p1), (3, .int p2)] := hl
  have hin_X1 : ∀ w ∈ wsX10, w ∈ wsX3_reading := fun _ h => List.mem_cons_of_mem _ (List.mem_append_right _ (h))
  have hin_X3 : ∀ w ∈ wsX30, w ∈ wsX3_reading := fun _ h => List.mem_cons_of_mem _ (List.mem_append_left _ (List.mem_append_right _ (h)))
  obtain ⟨H, hH⟩ : ∃ H, H = s.heap := ⟨_, rfl⟩
  obtain ⟨locs, hlo⟩ : ∃ z : List Loc, z = [] := ⟨_, rfl⟩
  have hS : va_S (AX ad) s.heap H locs := by rw [hH, hlo]; exact va_S.rf
  have hP : va_P D vwCl (wX cy ad u) H := by rw [hH]; exact hP
  suffices hgoal : W p l e ({ frames := 2, cells := 0, slots := 0, locals := 42 } : Room) s m ([.ref (ad 0), .int p0, .int p1, .int p2] : List Value).toArray below meth c H locs 0 0 (MQ below (qW (XB D cy ad (fX3_reading u p0 p1 p2).2) (AX ad) (some (.int (fX3_reading u p0 p1 p2).1))) ([.ref (ad 0), .int p0, .int p1, .int p2] : List Value).toArray s 0 0 (AX ad)) (F0 m 0 ls []) by rw [hH, hlo] at hgoal; exact hgoal
  clear hH hlo
  obtain ⟨nr, hnr, enr⟩ := id hrc
  refine lv_aload_n hx hb dX3_reading_0 rfl (lv_at hl 0 rfl) ?_
  refine lv_iload_n hx hb dX3_reading_1 rfl (lv_at hl 1 rfl) ?_
  refine kV (n := 1) (As := [.int p0]) (rest := []) ⟨hx, hb, hml, hown, hts⟩ (kX3_isProphet l D cy ad u p0) gX3_reading_X3_isProphet rfl rfl rfl (by decide +kernel) ⟨Nat.le_of_ble_eq_true rfl, Nat.le_of_ble_eq_true rfl⟩ (recvX hP hK) (XB_of hP hK) XB_bl rfl hl.1 rfl (Nat.le_of_ble_eq_true rfl) dX3_reading_2 ⟨Nat.le_refl _, Nat.le_refl _⟩ ?_
  refine lv_if_ne (tgt := 10) hx hb dX3_reading_5 (by decide) (fun c1 => ?_) (fun c1 => ?_)
  · have hv1 : vp_in p0 4 := isProphet_in hpc c1
    refine lv_aload_n hx hb dX3_reading_10 rfl (lv_at hl 0 rfl) ?_
    refine lv_iload_n hx hb dX3_reading_11 rfl (lv_at hl 2 rfl) ?_
    refine kV (n := 1) (As := [.int p1]) (rest := []) ⟨hx, hb, hml, hown, hts⟩ (kX3_isEventSet l D cy ad u p1) gX3_reading_X3_isEventSet rfl rfl rfl (by decide +kernel) ⟨Nat.le_of_ble_eq_true rfl, Nat.le_of_ble_eq_true rfl⟩ (recvX hP hK) (XB_of hP hK) XB_bl rfl hl.1 rfl (Nat.le_of_ble_eq_true rfl) dX3_reading_12 ⟨Nat.le_refl _, Nat.le_refl _⟩ ?_
    refine lv_if_eq (tgt := 28) hx hb dX3_reading_15 (by decide) (fun c2 => ?_) (fun c2 => ?_)
    · refine lv_bipush (v := (-2)) hx hb dX3_reading_28 (by decide) ?_
      exact rXI hx hb hr hlk hK hP hS dX3_reading_30 (by rw [fX3_reading, if_neg c1, if_pos c2])
    · refine lv_iload_n hx hb dX3_reading_18 rfl (lv_at hl 3 rfl) ?_
      refine lv_sipush (v := 999) hx hb dX3_reading_19 (by decide) ?_
      refine kS (n := 2) (As := [.int p2, .int 999]) (rest := []) ⟨hx, hb, hml, hown, hts⟩ (kX3_isWithin l p2 999) gX3_reading_X3_isWithin rfl rfl rfl (by decide +kernel) ⟨Nat.le_of_ble_eq_true rfl, Nat.le_of_ble_eq_true rfl⟩ (fun _ _ _ => trivial) (fun _ _ _ _ _ => trivial) rfl hl.1 rfl (Nat.le_of_ble_eq_true rfl) dX3_reading_22 ⟨Nat.le_refl _, Nat.le_refl _⟩ ?_
      refine lv_if_ne (tgt := 31) hx hb dX3_reading_25 (by decide) (fun c3 => ?_) (fun c3 => ?_)
      · refine lv_aload_n hx hb dX3_reading_31 rfl (lv_at hl 0 rfl) ?_
        refine zg_X3_readingCount hx hb hts hin_X3 hown hK hP (hts (Cond.fieldLink RX3 40 "ProphetCover" "readingCount" "I") (List.mem_of_getElem? (i := 1) rfl)) dX3_reading_32 ?_
        refine lv_bipush (v := 8) hx hb dX3_reading_35 (by decide) ?_
        refine lv_icmp_lt (tgt := 43) hx hb dX3_reading_37 (by decide) (fun c4 => ?_) (fun c4 => ?_)
        · have hv8 : vp_in (u 0 6) 8 := cnt_in enr (cnt_lt' (show (8 : Int32) = nI 8 from rfl) enr (by omega) (by omega) c4) (by decide)
          refine lv_aload_n hx hb dX3_reading_43 rfl (lv_at hl 0 rfl) ?_
          refine zg_X3_readings hx hb hts hin_X3 hown hK hP (hts (Cond.fieldLink RX3 29 "ProphetCover" "readings" "[LProphetCover$Reading;") (List.mem_of_getElem? (i := 2) rfl)) dX3_reading_44 ?_
          refine lv_aload_n hx hb dX3_reading_47 rfl (lv_at hl 0 rfl) ?_
          refine zg_X3_readingCount hx hb hts hin_X3 hown hK hP (hts (Cond.fieldLink RX3 40 "ProphetCover" "readingCount" "I") (List.mem_of_getElem? (i := 1) rfl)) dX3_reading_48 ?_
          refine zl_readings hx hb hK hP (by assumption) dX3_reading_51 ?_
          refine lv_astore (lv' := [(4, .ref (ad (17 + (u 0 6).toNatClampNeg))), (0, .ref (ad 0)), (1, .int p0), (2, .int p1), (3, .int p2)]) hx hb dX3_reading_52 hl (by decide) rfl (fun ls hl => ?_)
          refine lv_aload hx hb dX3_reading_54 (lv_at hl 0 rfl) ?_
          refine lv_iload_n hx hb dX3_reading_56 rfl (lv_at hl 2 rfl) ?_
          refine zp_X1_prophet (vlt (n := 8) (i := (u 0 6)) (by assumption)) hx hb hts hin_X1 hown hK hP hI hS (hts (Cond.fieldLink RX3 155 "ProphetCover$Reading" "prophet" "I") (List.mem_of_getElem? (i := 3) rfl)) dX3_reading_57 (fun H locs hP hS => ?_)
          refine lv_aload hx hb dX3_reading_60 (lv_at hl 0 rfl) ?_
          refine lv_iload_n hx hb dX3_reading_62 rfl (lv_at hl 3 rfl) ?_
          refine zp_X1_cameSet (vlt (n := 8) (i := (u 0 6)) (by assumption)) hx hb hts hin_X1 hown hK hP hI hS (hts (Cond.fieldLink RX3 158 "ProphetCover$Reading" "cameSet" "I") (List.mem_of_getElem? (i := 4) rfl)) dX3_reading_63 (fun H locs hP hS => ?_)
          refine lv_aload hx hb dX3_reading_66 (lv_at hl 0 rfl) ?_
          refine lv_iload_n hx hb dX3_reading_68 rfl (lv_at hl 4 rfl) ?_
          refine zp_X1_amount (vlt (n := 8) (i := (u 0 6)) (by assumption)) hx hb hts hin_X1 hown hK hP hI hS (hts (Cond.fieldLink RX3 161 "ProphetCover$Reading" "amount" "I") (List.mem_of_getElem? (i := 5) rfl)) dX3_reading_69 (fun H locs hP hS => ?_)
          refine lv_aload_n hx hb dX3_reading_72 rfl (lv_at hl 1 rfl) ?_
          refine lv_dup hx hb dX3_reading_73 rfl ?_
          refine zg_X3_readingCount hx hb hts hin_X3 hown hK hP (hts (Cond.fieldLink RX3 40 "ProphetCover" "readingCount" "I") (List.mem_of_getElem? (i := 1) rfl)) dX3_reading_74 ?_
          refine lv_iconst (v := 1) hx hb dX3_reading_77 (by decide) ?_
          refine lv_iadd hx hb dX3_reading_78 ?_
          refine zp_X3_readingCount hx hb hts hin_X3 hown hK hP hI hS (hts (Cond.fieldLink RX3 40 "ProphetCover" "readingCount" "I") (List.mem_of_getElem? (i := 1) rfl)) dX3_reading_79 (fun H locs hP hS => ?_)
          refine lv_aload_n hx hb dX3_reading_82 rfl (lv_at hl 1 rfl) ?_
          refine zg_X3_readingCount hx hb hts hin_X3 hown hK hP (hts (Cond.fieldLink RX3 40 "ProphetCover" "readingCount" "I") (List.mem_of_getElem? (i := 1) rfl)) dX3_reading_83 ?_
          refine lv_iconst (v := 1) hx hb dX3_reading_86 (by decide) ?_
          refine lv_isub hx hb dX3_reading_87 ?_
          exact rXI hx hb hr hlk hK hP hS dX3_reading_88 (by rw [fX3_reading, if_neg c1, if_neg c2, if_neg c3, if_pos c4])
        · refine lv_bipush (v := (-4)) hx hb dX3_reading_40 (by decide) ?_
          exact rXI hx hb hr hlk hK hP hS dX3_reading_42 (by rw [fX3_reading, if_neg c1, if_neg c2, if_neg c3, if_neg c4])
      · refine lv_bipush (v := (-2)) hx hb dX3_reading_28 (by decide) ?_
        exact rXI hx hb hr hlk hK hP hS dX3_reading_30 (by rw [fX3_reading, if_neg c1, if_neg c2, if_pos c3])
  · refine lv_iconst (v := (-1)) hx hb dX3_reading_8 (by decide) ?_
    exact rXI hx hb hr hlk hK hP hS dX3_reading_9 (by rw [fX3_reading, if_pos c1])
def fX3_back (u : Mem) (p0 : Int32) : Int32 × Mem :=
  (if (fX3_isWithin p0 (u 0 6)) = 0 then ((-2), u) else (((mset u 0 6 ((u 0 6) - p0)) 0 6), (mset u 0 6 ((u 0 6) - p0))))
set_option maxRecDepth 100000 in
set_option maxHeartbeats 4000000 in
theorem kX3_back (l : Launch) (D : va_G) (cy : Nat → ClassId) (ad : Nat → Nat) (hI : XI ad) (u : Mem) (p0 : Int32)  : Met l yX3_back wsX3_back ({ frames := 1, cells := 0, slots := 0, locals := 21 } : Room) (va_Pc [.ref (ad 0), .int p0] (XB D cy ad u)) (qW (XB D cy ad (fX3_back u p0).2) (AX ad) (some (.int (fX3_back u p0).1))) 0 0 (AX ad) := by
  refine m_start (cc := cX3_back) (maxL := 2) (ret := (some .int)) (by decide) rfl (Nat.le_of_ble_eq_true rfl) (fun p e s m below meth c hx hb hr hts hown hml hlk _ hB ls hl => ?_)
  obtain ⟨hP, hK⟩ := hB
  have hown : s.vm.findClass RX3 = some m.cls := hown
  have hl : lv_has ls 2 [(0, .ref (ad 0)), (1, .int p0)] := hl
  have hin_X3 : ∀ w ∈ wsX30, w ∈ wsX3_back := fun _ h => List.mem_cons_of_mem _ (List.mem_append_right _ (h))
  obtain ⟨H, hH⟩ : ∃ H, H = s.heap := ⟨_, rfl⟩
  obtain ⟨locs, hlo⟩ : ∃ z : List Loc, z = [] := ⟨_, rfl⟩
  have hS : va_S (AX ad) s.heap H locs := by rw [hH, hlo]; exact va_S.rf
  have hP : va_P D vwCl (wX cy ad u) H := by rw [hH]; exact hP
  suffices hgoal : W p l e ({ frames := 1, cells := 0, slots := 0, locals := 21 } : Room) s m ([.ref (ad 0), .int p0] : List Value).toArray below meth c H locs 0 0 (MQ below (qW (XB D cy ad (fX3_back u p0).2) (AX ad) (some (.int (fX3_back u p0).1))) ([.ref (ad 0), .int p0] : List Value).toArray s 0 0 (AX ad)) (F0 m 0 ls []) by rw [hH, hlo] at hgoal; exact hgoal
  clear hH hlo
  refine lv_iload_n hx hb dX3_back_0 rfl (lv_at hl 1 rfl) ?_
  refine lv_aload_n hx hb dX3_back_1 rfl (lv_at hl 0 rfl) ?_
  refine zg_X3_readingCount hx hb hts hin_X3 hown hK hP (hts (Cond.fieldLink RX3 40 "ProphetCover" "readingCount" "I") (List.mem_of_getElem? (i := 1) rfl)) dX3_back_2 ?_
  refine kS (n := 2) (As := [.int p0, .int (u 0 6)]) (rest := []) ⟨hx, hb, hml, hown, hts⟩ (kX3_isWithin l p0 (u 0 6)) gX3_back_X3_isWithin rfl rfl rfl (by decide +kernel) ⟨Nat.le_of_ble_eq_true rfl, Nat.le_of_ble_eq_true rfl⟩ (fun _ _ _ => trivial) (fun _ _ _ _ _ => trivial) rfl hl.1 rfl (Nat.le_of_ble_eq_true rfl) dX3_back_5 ⟨Nat.le_refl _, Nat.le_refl _⟩ ?_
  refine lv_if_ne (tgt := 14) hx hb dX3_back_8 (by decide) (fun c1 => ?_) (fun c1 => ?_)
  · refine lv_aload_n hx hb dX3_back_14 rfl (lv_at hl 0 rfl) ?_
    refine lv_dup hx hb dX3_back_15 rfl ?_
    refine zg_X3_readingCount hx hb hts hin_X3 hown hK hP (hts (Cond.fieldLink RX3 40 "ProphetCover" "readingCount" "I") (List.mem_of_getElem? (i := 1) rfl)) dX3_back_16 ?_
    refine lv_iload_n hx hb dX3_back_19 rfl (lv_at hl 1 rfl) ?_
    refine lv_isub hx hb dX3_back_20 ?_
    refine zp_X3_readingCount hx hb hts hin_X3 hown hK hP hI hS (hts (Cond.fieldLink RX3 40 "ProphetCover" "readingCount" "I") (List.mem_of_getElem? (i := 1) rfl)) dX3_back_21 (fun H locs hP hS => ?_)
    refine lv_aload_n hx hb dX3_back_24 rfl (lv_at hl 0 rfl) ?_
    refine zg_X3_readingCount hx hb hts hin_X3 hown hK hP (hts (Cond.fieldLink RX3 40 "ProphetCover" "readingCount" "I") (List.mem_of_getElem? (i := 1) rfl)) dX3_back_25 ?_
    exact rXI hx hb hr hlk hK hP hS dX3_back_28 (by rw [fX3_back, if_neg c1])
  · refine lv_bipush (v := (-2)) hx hb dX3_back_11 (by decide) ?_
    exact rXI hx hb hr hlk hK hP hS dX3_back_13 (by rw [fX3_back, if_pos c1])
def fX3_agreesWithReadings_c3 (u : Mem) (p0 : Int32) (p1 : Int32) (p2 : Int32) (p3 : Int32)  : Nat → Int32 → Int32
  | 0, x5 => 0
  | n3 + 1, x5 => (if (u 0 6) ≤ x5 then 1 else (if (u 5 x5.toNatClampNeg) = p0 then (if (fX3_payment u p1 p2 p3 (u 6 x5.toNatClampNeg)) = (u 7 x5.toNatClampNeg) then (fX3_agreesWithReadings_c3 u p0 p1 p2 p3 n3 (x5 + 1)) else 0) else (if (fX3_paidTo u (u 5 x5.toNatClampNeg) (u 6 x5.toNatClampNeg)) = (u 7 x5.toNatClampNeg) then (fX3_agreesWithReadings_c3 u p0 p1 p2 p3 n3 (x5 + 1)) else 0)))
def fX3_agreesWithReadings (u : Mem) (p0 : Int32) (p1 : Int32) (p2 : Int32) (p3 : Int32) : Int32 :=
  (fX3_agreesWithReadings_c3 u p0 p1 p2 p3 (9) 0)
set_option maxRecDepth 100000 in
set_option maxHeartbeats 4000000 in
theorem kX3_agreesWithReadings (l : Launch) (D : va_G) (cy : Nat → ClassId) (ad : Nat → Nat) (u : Mem) (p0 : Int32) (p1 : Int32) (p2 : Int32) (p3 : Int32) (hrc : RcOk u) (hrp : RpOk u) : Met l yX3_agreesWithReadings wsX3_agreesWithReadings ({ frames := 4, cells := 0, slots := 0, locals := 88 } : Room) (va_Pc [.ref (ad 0), .int p0, .int p1, .int p2, .int p3] (XB D cy ad u)) (qR (some (.int (fX3_agreesWithReadings u p0 p1 p2 p3)))) 0 0 noF := by
  refine m_start (cc := cX3_agreesWithReadings) (maxL := 8) (ret := (some .boolean)) (by decide) rfl (Nat.le_of_ble_eq_true rfl) (fun p e s m below meth c hx hb hr hts hown hml hlk _ hB ls hl => ?_)
  obtain ⟨hP, hK⟩ := hB
  have hown : s.vm.findClass RX3 = some m.cls := hown
  have hl : lv_has ls 8 [(0, .ref (ad 0)), (1, .int p0), (2, .int p1), (3, .int p2), (4, .int p3)] := hl
  have hin_X0 : ∀ w ∈ wsX00, w ∈ wsX3_agreesWithReadings := fun _ h => List.mem_cons_of_mem _ (List.mem_append_right _ (h))
  have hin_X1 : ∀ w ∈ wsX10, w ∈ wsX3_agreesWithReadings := fun _ h => List.mem_cons_of_mem _ (List.mem_append_left _ (List.mem_append_right _ (h)))
  have hin_X3 : ∀ w ∈ wsX30, w ∈ wsX3_agreesWithReadings := fun _ h => List.mem_cons_of_mem _ (List.mem_append_left _ (List.mem_append_left _ (List.mem_append_right _ (h))))
  obtain ⟨nr, hnr, enr⟩ := id hrc
  refine lv_iconst (v := 0) hx hb dX3_agreesWithReadings_0 (by decide) ?_
  refine lv_istore (lv' := [(5, .int 0), (0, .ref (ad 0)), (1, .int p0), (2, .int p1), (3, .int p2), (4, .int p3)]) hx hb dX3_agreesWithReadings_1 hl (by decide) rfl (fun ls hl => ?_)
  have lp3 : ∀ (n3 : Nat) (x5 : Int32) (k3 : Nat), (fX3_agreesWithReadings u p0 p1 p2 p3) = (fX3_agreesWithReadings_c3 u p0 p1 p2 p3 n3 x5) → (x5 = nI k3) → (k3 ≤ nr) → (nr < k3 + n3) → ∀ ls : Array Slot, lv_has ls 8 [(5, .int x5), (0, .ref (ad 0)), (1, .int p0), (2, .int p1), (3, .int p2), (4, .int p3)] → W p l e ({ frames := 4, cells := 0, slots := 0, locals := 88 } : Room) s m ([.ref (ad 0), .int p0, .int p1, .int p2, .int p3] : List Value).toArray below meth c s.heap [] 0 0 (MQ below (qR (some (.int (fX3_agreesWithReadings u p0 p1 p2 p3)))) ([.ref (ad 0), .int p0, .int p1, .int p2, .int p3] : List Value).toArray s 0 0 noF) (F0 m 3 ls []) := by
    intro n3
    induction n3 with
    | zero =>
      intro x5 k3 _ e3 hk3 hm3 ls hl
      exfalso; omega
    | succ n3 ih3 =>
      intro x5 k3 hr3 e3 hk3 hm3 ls hl
      refine lv_iload hx hb dX3_agreesWithReadings_3 (lv_at hl 0 rfl) ?_
      refine lv_aload_n hx hb dX3_agreesWithReadings_5 rfl (lv_at hl 1 rfl) ?_
      refine zg_X3_readingCount hx hb hts hin_X3 hown hK hP (hts (Cond.fieldLink RX3 40 "ProphetCover" "readingCount" "I") (List.mem_of_getElem? (i := 1) rfl)) dX3_agreesWithReadings_6 ?_
      refine lv_icmp_ge (tgt := 80) hx hb dX3_agreesWithReadings_9 (by decide) (fun c1 => ?_) (fun c1 => ?_)
      · refine lv_iconst (v := 1) hx hb dX3_agreesWithReadings_80 (by decide) ?_
        exact rZ hx hb hr hlk (by rfl) dX3_agreesWithReadings_81 (by rw [hr3, fX3_agreesWithReadings_c3, if_pos c1])
      · have hlt3 : k3 < nr := cnt_lt enr e3 (by omega) (by omega) c1
        have hv3 : vp_in x5 8 := cnt_in e3 (by omega) (by decide)
        have hvq : vp_in (u 5 x5.toNatClampNeg) 4 := hrp _ (vlt hv3)
        refine lv_aload_n hx hb dX3_agreesWithReadings_12 rfl (lv_at hl 1 rfl) ?_
        refine zg_X3_readings hx hb hts hin_X3 hown hK hP (hts (Cond.fieldLink RX3 29 "ProphetCover" "readings" "[LProphetCover$Reading;") (List.mem_of_getElem? (i := 2) rfl)) dX3_agreesWithReadings_13 ?_
        refine lv_iload hx hb dX3_agreesWithReadings_16 (lv_at hl 0 rfl) ?_
        refine zl_readings hx hb hK hP (by assumption) dX3_agreesWithReadings_18 ?_
        refine lv_astore (lv' := [(6, .ref (ad (17 + x5.toNatClampNeg))), (5, .int x5), (0, .ref (ad 0)), (1, .int p0), (2, .int p1), (3, .int p2), (4, .int p3)]) hx hb dX3_agreesWithReadings_19 hl (by decide) rfl (fun ls hl => ?_)
        refine lv_aload hx hb dX3_agreesWithReadings_21 (lv_at hl 0 rfl) ?_
        refine zg_X1_prophet (vlt (n := 8) (i := x5) (by assumption)) hx hb hts hin_X1 hown hK hP (hts (Cond.fieldLink RX3 155 "ProphetCover$Reading" "prophet" "I") (List.mem_of_getElem? (i := 3) rfl)) dX3_agreesWithReadings_23 ?_
        refine lv_iload_n hx hb dX3_agreesWithReadings_26 rfl (lv_at hl 3 rfl) ?_
        refine lv_icmp_ne (tgt := 46) hx hb dX3_agreesWithReadings_27 (by decide) (fun c2 => ?_) (fun c2 => ?_)
        · refine lv_aload_n hx hb dX3_agreesWithReadings_46 rfl (lv_at hl 2 rfl) ?_
          refine lv_aload hx hb dX3_agreesWithReadings_47 (lv_at hl 0 rfl) ?_
          refine zg_X1_prophet (vlt (n := 8) (i := x5) (by assumption)) hx hb hts hin_X1 hown hK hP (hts (Cond.fieldLink RX3 155 "ProphetCover$Reading" "prophet" "I") (List.mem_of_getElem? (i := 3) rfl)) dX3_agreesWithReadings_49 ?_
          refine lv_aload hx hb dX3_agreesWithReadings_52 (lv_at hl 0 rfl) ?_
          refine zg_X1_cameSet (vlt (n := 8) (i := x5) (by assumption)) hx hb hts hin_X1 hown hK hP (hts (Cond.fieldLink RX3 158 "ProphetCover$Reading" "cameSet" "I") (List.mem_of_getElem? (i := 4) rfl)) dX3_agreesWithReadings_54 ?_
          refine kV (n := 2) (As := [.int (u 5 x5.toNatClampNeg), .int (u 6 x5.toNatClampNeg)]) (rest := []) ⟨hx, hb, hml, hown, hts⟩ (kX3_paidTo l D cy ad u (u 5 x5.toNatClampNeg) (u 6 x5.toNatClampNeg) (by assumption)) gX3_agreesWithReadings_X3_paidTo rfl rfl rfl (by decide +kernel) ⟨Nat.le_of_ble_eq_true rfl, Nat.le_of_ble_eq_true rfl⟩ (recvX hP hK) (XB_of hP hK) XB_bl rfl hl.1 rfl (Nat.le_of_ble_eq_true rfl) dX3_agreesWithReadings_57 ⟨Nat.le_refl _, Nat.le_refl _⟩ ?_
          refine lv_istore (lv' := [(7, .int (fX3_paidTo u (u 5 x5.toNatClampNeg) (u 6 x5.toNatClampNeg))), (6, .ref (ad (17 + x5.toNatClampNeg))), (5, .int x5), (0, .ref (ad 0)), (1, .int p0), (2, .int p1), (3, .int p2), (4, .int p3)]) hx hb dX3_agreesWithReadings_60 hl (by decide) rfl (fun ls hl => ?_)
          refine lv_iload hx hb dX3_agreesWithReadings_62 (lv_at hl 0 rfl) ?_
          refine lv_aload hx hb dX3_agreesWithReadings_64 (lv_at hl 1 rfl) ?_
          refine zg_X1_amount (vlt (n := 8) (i := x5) (by assumption)) hx hb hts hin_X1 hown hK hP (hts (Cond.fieldLink RX3 161 "ProphetCover$Reading" "amount" "I") (List.mem_of_getElem? (i := 5) rfl)) dX3_agreesWithReadings_66 ?_
          refine lv_icmp_eq (tgt := 74) hx hb dX3_agreesWithReadings_69 (by decide) (fun c3 => ?_) (fun c3 => ?_)
          · refine lv_iinc (v := (x5 + 1)) (lv' := [(5, .int (x5 + 1)), (7, .int (fX3_paidTo u (u 5 x5.toNatClampNeg) (u 6 x5.toNatClampNeg))), (6, .ref (ad (17 + x5.toNatClampNeg))), (0, .ref (ad 0)), (1, .int p0), (2, .int p1), (3, .int p2), (4, .int p3)]) hx hb dX3_agreesWithReadings_74 hl (k := 2) rfl rfl (by decide) rfl (fun ls hl => ?_)
            refine lv_goto (tgt := 3) hx hb dX3_agreesWithReadings_77 (by decide) ?_
            exact ih3 (x5 + 1) (k3 + 1) (by rw [hr3, fX3_agreesWithReadings_c3, if_neg c1, if_neg c2, if_pos c3]) (by rw [e3]; exact nI_1 _) hlt3 (by omega) ls (lv_sub hl [0, 3, 4, 5, 6, 7] rfl)
          · refine lv_iconst (v := 0) hx hb dX3_agreesWithReadings_72 (by decide) ?_
            exact rZ hx hb hr hlk (by rfl) dX3_agreesWithReadings_73 (by rw [hr3, fX3_agreesWithReadings_c3, if_neg c1, if_neg c2, if_neg c3])
        · refine lv_aload_n hx hb dX3_agreesWithReadings_30 rfl (lv_at hl 2 rfl) ?_
          refine lv_iload_n hx hb dX3_agreesWithReadings_31 rfl (lv_at hl 4 rfl) ?_
          refine lv_iload_n hx hb dX3_agreesWithReadings_32 rfl (lv_at hl 5 rfl) ?_
          refine lv_iload hx hb dX3_agreesWithReadings_33 (lv_at hl 6 rfl) ?_
          refine lv_aload hx hb dX3_agreesWithReadings_35 (lv_at hl 0 rfl) ?_
          refine zg_X1_cameSet (vlt (n := 8) (i := x5) (by assumption)) hx hb hts hin_X1 hown hK hP (hts (Cond.fieldLink RX3 158 "ProphetCover$Reading" "cameSet" "I") (List.mem_of_getElem? (i := 4) rfl)) dX3_agreesWithReadings_37 ?_
          refine kV (n := 4) (As := [.int p1, .int p2, .int p3, .int (u 6 x5.toNatClampNeg)]) (rest := []) ⟨hx, hb, hml, hown, hts⟩ (kX3_payment l D cy ad u p1 p2 p3 (u 6 x5.toNatClampNeg)) gX3_agreesWithReadings_X3_payment rfl rfl rfl (by decide +kernel) ⟨Nat.le_of_ble_eq_true rfl, Nat.le_of_ble_eq_true rfl⟩ (recvX hP hK) (XB_of hP hK) XB_bl rfl hl.1 rfl (Nat.le_of_ble_eq_true rfl) dX3_agreesWithReadings_40 ⟨Nat.le_refl _, Nat.le_refl _⟩ ?_
          refine lv_goto (tgt := 60) hx hb dX3_agreesWithReadings_43 (by decide) ?_
          refine lv_istore (lv' := [(7, .int (fX3_payment u p1 p2 p3 (u 6 x5.toNatClampNeg))), (6, .ref (ad (17 + x5.toNatClampNeg))), (5, .int x5), (0, .ref (ad 0)), (1, .int p0), (2, .int p1), (3, .int p2), (4, .int p3)]) hx hb dX3_agreesWithReadings_60 hl (by decide) rfl (fun ls hl => ?_)
          refine lv_iload hx hb dX3_agreesWithReadings_62 (lv_at hl 0 rfl) ?_
          refine lv_aload hx hb dX3_agreesWithReadings_64 (lv_at hl 1 rfl) ?_
          refine zg_X1_amount (vlt (n := 8) (i := x5) (by assumption)) hx hb hts hin_X1 hown hK hP (hts (Cond.fieldLink RX3 161 "ProphetCover$Reading" "amount" "I") (List.mem_of_getElem? (i := 5) rfl)) dX3_agreesWithReadings_66 ?_
          refine lv_icmp_eq (tgt := 74) hx hb dX3_agreesWithReadings_69 (by decide) (fun c4 => ?_) (fun c4 => ?_)
          · refine lv_iinc (v := (x5 + 1)) (lv' := [(5, .int (x5 + 1)), (7, .int (fX3_payment u p1 p2 p3 (u 6 x5.toNatClampNeg))), (6, .ref (ad (17 + x5.toNatClampNeg))), (0, .ref (ad 0)), (1, .int p0), (2, .int p1), (3, .int p2), (4, .int p3)]) hx hb dX3_agreesWithReadings_74 hl (k := 2) rfl rfl (by decide) rfl (fun ls hl => ?_)
            refine lv_goto (tgt := 3) hx hb dX3_agreesWithReadings_77 (by decide) ?_
            exact ih3 (x5 + 1) (k3 + 1) (by rw [hr3, fX3_agreesWithReadings_c3, if_neg c1, if_pos c2, if_pos c4]) (by rw [e3]; exact nI_1 _) hlt3 (by omega) ls (lv_sub hl [0, 3, 4, 5, 6, 7] rfl)
          · refine lv_iconst (v := 0) hx hb dX3_agreesWithReadings_72 (by decide) ?_
            exact rZ hx hb hr hlk (by rfl) dX3_agreesWithReadings_73 (by rw [hr3, fX3_agreesWithReadings_c3, if_neg c1, if_pos c2, if_neg c4])
  exact lp3 (9) 0 (0) (by rw [fX3_agreesWithReadings]) nI_0.symm (by omega) (by omega) ls (lv_sub hl [0, 1, 2, 3, 4, 5] rfl)
def fX3_covers_c22 (u : Mem) (p0 : Int32)  : Nat → Int32 → Int32 → Int32
  | 0, x4, x3 => 0
  | n22 + 1, x4, x3 => (if 10 ≤ x4 then x3 else (if (fX3_agreesWithReadings u p0 (u 2 p0.toNatClampNeg) x4 (u 4 p0.toNatClampNeg)) = 0 then (fX3_covers_c22 u p0 n22 (x4 + 1) x3) else (fX3_covers_c22 u p0 n22 (x4 + 1) (x3 ||| ((1 : Int32) <<< (x4 &&& 31))))))
def fX3_covers (u : Mem) (p0 : Int32) : Int32 :=
  (if (fX3_isProphet u p0) = 0 then (-1) else (fX3_covers_c22 u p0 (11) 0 0))
set_option maxRecDepth 100000 in
set_option maxHeartbeats 4000000 in
theorem kX3_covers (l : Launch) (D : va_G) (cy : Nat → ClassId) (ad : Nat → Nat) (u : Mem) (p0 : Int32) (hpc : PcOk u) (hrc : RcOk u) (hrp : RpOk u) : Met l yX3_covers wsX3_covers ({ frames := 5, cells := 0, slots := 0, locals := 115 } : Room) (va_Pc [.ref (ad 0), .int p0] (XB D cy ad u)) (qR (some (.int (fX3_covers u p0)))) 0 0 noF := by
  refine m_start (cc := cX3_covers) (maxL := 5) (ret := (some .int)) (by decide) rfl (Nat.le_of_ble_eq_true rfl) (fun p e s m below meth c hx hb hr hts hown hml hlk _ hB ls hl => ?_)
  obtain ⟨hP, hK⟩ := hB
  have hown : s.vm.findClass RX3 = some m.cls := hown
  have hl : lv_has ls 5 [(0, .ref (ad 0)), (1, .int p0)] := hl
  have hin_X0 : ∀ w ∈ wsX00, w ∈ wsX3_covers := fun _ h => List.mem_cons_of_mem _ (List.mem_append_left _ (List.mem_append_right _ (h)))
  have hin_X1 : ∀ w ∈ wsX10, w ∈ wsX3_covers := fun _ h => List.mem_cons_of_mem _ (List.mem_append_right _ (h))
  have hin_X3 : ∀ w ∈ wsX30, w ∈ wsX3_covers := fun _ h => List.mem_cons_of_mem _ (List.mem_append_left _ (List.mem_append_left _ (List.mem_append_right _ (h))))
  refine lv_aload_n hx hb dX3_covers_0 rfl (lv_at hl 0 rfl) ?_
  refine lv_iload_n hx hb dX3_covers_1 rfl (lv_at hl 1 rfl) ?_
  refine kV (n := 1) (As := [.int p0]) (rest := []) ⟨hx, hb, hml, hown, hts⟩ (kX3_isProphet l D cy ad u p0) gX3_covers_X3_isProphet rfl rfl rfl (by decide +kernel) ⟨Nat.le_of_ble_eq_true rfl, Nat.le_of_ble_eq_true rfl⟩ (recvX hP hK) (XB_of hP hK) XB_bl rfl hl.1 rfl (Nat.le_of_ble_eq_true rfl) dX3_covers_2 ⟨Nat.le_refl _, Nat.le_refl _⟩ ?_
  refine lv_if_ne (tgt := 10) hx hb dX3_covers_5 (by decide) (fun c1 => ?_) (fun c1 => ?_)
  · have hv1 : vp_in p0 4 := isProphet_in hpc c1
    refine lv_aload_n hx hb dX3_covers_10 rfl (lv_at hl 0 rfl) ?_
    refine zg_X3_prophets hx hb hts hin_X3 hown hK hP (hts (Cond.fieldLink RX3 23 "ProphetCover" "prophets" "[LProphetCover$Prophet;") (List.mem_of_getElem? (i := 1) rfl)) dX3_covers_11 ?_
    refine lv_iload_n hx hb dX3_covers_14 rfl (lv_at hl 1 rfl) ?_
    refine zl_prophets hx hb hK hP (by assumption) dX3_covers_15 ?_
    refine lv_astore_n (lv' := [(2, .ref (ad (13 + p0.toNatClampNeg))), (0, .ref (ad 0)), (1, .int p0)]) hx hb dX3_covers_16 rfl hl (by decide) rfl (fun ls hl => ?_)
    refine lv_iconst (v := 0) hx hb dX3_covers_17 (by decide) ?_
    refine lv_istore_n (lv' := [(3, .int 0), (2, .ref (ad (13 + p0.toNatClampNeg))), (0, .ref (ad 0)), (1, .int p0)]) hx hb dX3_covers_18 rfl hl (by decide) rfl (fun ls hl => ?_)
    refine lv_iconst (v := 0) hx hb dX3_covers_19 (by decide) ?_
    refine lv_istore (lv' := [(4, .int 0), (3, .int 0), (2, .ref (ad (13 + p0.toNatClampNeg))), (0, .ref (ad 0)), (1, .int p0)]) hx hb dX3_covers_20 hl (by decide) rfl (fun ls hl => ?_)
    have lp22 : ∀ (n22 : Nat) (x4 : Int32) (x3 : Int32) (k22 : Nat), (fX3_covers u p0) = (fX3_covers_c22 u p0 n22 x4 x3) → (x4 = nI k22) → (k22 ≤ 10) → (10 < k22 + n22) → ∀ ls : Array Slot, lv_has ls 5 [(4, .int x4), (3, .int x3), (2, .ref (ad (13 + p0.toNatClampNeg))), (0, .ref (ad 0)), (1, .int p0)] → W p l e ({ frames := 5, cells := 0, slots := 0, locals := 115 } : Room) s m ([.ref (ad 0), .int p0] : List Value).toArray below meth c s.heap [] 0 0 (MQ below (qR (some (.int (fX3_covers u p0)))) ([.ref (ad 0), .int p0] : List Value).toArray s 0 0 noF) (F0 m 22 ls []) := by
      intro n22
      induction n22 with
      | zero =>
        intro x4 x3 k22 _ e22 hk22 hm22 ls hl
        exfalso; omega
      | succ n22 ih22 =>
        intro x4 x3 k22 hr22 e22 hk22 hm22 ls hl
        refine lv_iload hx hb dX3_covers_22 (lv_at hl 0 rfl) ?_
        refine lv_bipush (v := 10) hx hb dX3_covers_24 (by decide) ?_
        refine lv_icmp_ge (tgt := 60) hx hb dX3_covers_26 (by decide) (fun c2 => ?_) (fun c2 => ?_)
        · refine lv_iload_n hx hb dX3_covers_60 rfl (lv_at hl 1 rfl) ?_
          exact rI hx hb hr hlk dX3_covers_61 (by rw [hr22, fX3_covers_c22, if_pos c2])
        · have hlt22 : k22 < 10 := cnt_lt (show (10 : Int32) = nI 10 from rfl) e22 (by omega) (by omega) c2
          refine lv_aload_n hx hb dX3_covers_29 rfl (lv_at hl 3 rfl) ?_
          refine lv_iload_n hx hb dX3_covers_30 rfl (lv_at hl 4 rfl) ?_
          refine lv_aload_n hx hb dX3_covers_31 rfl (lv_at hl 2 rfl) ?_
          refine zg_X0_kind (vlt (n := 4) (i := p0) (by assumption)) hx hb hts hin_X0 hown hK hP (hts (Cond.fieldLink RX3 88 "ProphetCover$Prophet" "kind" "I") (List.mem_of_getElem? (i := 2) rfl)) dX3_covers_32 ?_
          refine lv_iload hx hb dX3_covers_35 (lv_at hl 0 rfl) ?_
          refine lv_aload_n hx hb dX3_covers_37 rfl (lv_at hl 2 rfl) ?_
          refine zg_X0_saidSet (vlt (n := 4) (i := p0) (by assumption)) hx hb hts hin_X0 hown hK hP (hts (Cond.fieldLink RX3 94 "ProphetCover$Prophet" "saidSet" "I") (List.mem_of_getElem? (i := 3) rfl)) dX3_covers_38 ?_
          refine kV (n := 4) (As := [.int p0, .int (u 2 p0.toNatClampNeg), .int x4, .int (u 4 p0.toNatClampNeg)]) (rest := []) ⟨hx, hb, hml, hown, hts⟩ (kX3_agreesWithReadings l D cy ad u p0 (u 2 p0.toNatClampNeg) x4 (u 4 p0.toNatClampNeg) (by first | exact hrc | assumption) (by first | exact hrp | assumption)) gX3_covers_X3_agreesWithReadings rfl rfl rfl (by decide +kernel) ⟨Nat.le_of_ble_eq_true rfl, Nat.le_of_ble_eq_true rfl⟩ (recvX hP hK) (XB_of hP hK) XB_bl rfl hl.1 rfl (Nat.le_of_ble_eq_true rfl) dX3_covers_41 ⟨Nat.le_refl _, Nat.le_refl _⟩ ?_
          refine lv_if_eq (tgt := 54) hx hb dX3_covers_44 (by decide) (fun c3 => ?_) (fun c3 => ?_)
          · refine lv_iinc (v := (x4 + 1)) (lv' := [(4, .int (x4 + 1)), (3, .int x3), (2, .ref (ad (13 + p0.toNatClampNeg))), (0, .ref (ad 0)), (1, .int p0)]) hx hb dX3_covers_54 hl (k := 0) rfl rfl (by decide) rfl (fun ls hl => ?_)
            refine lv_goto (tgt := 22) hx hb dX3_covers_57 (by decide) ?_
            exact ih22 (x4 + 1) x3 (k22 + 1) (by rw [hr22, fX3_covers_c22, if_neg c2, if_pos c3]) (by rw [e22]; exact nI_1 _) hlt22 (by omega) ls (lv_sub hl [0, 1, 2, 3, 4] rfl)
          · refine lv_iload_n hx hb dX3_covers_47 rfl (lv_at hl 1 rfl) ?_
            refine lv_iconst (v := 1) hx hb dX3_covers_48 (by decide) ?_
            refine lv_iload hx hb dX3_covers_49 (lv_at hl 0 rfl) ?_
            refine lv_ishl hx hb dX3_covers_51 ?_
            refine lv_ior hx hb dX3_covers_52 ?_
            refine lv_istore_n (lv' := [(3, .int (x3 ||| ((1 : Int32) <<< (x4 &&& 31)))), (4, .int x4), (2, .ref (ad (13 + p0.toNatClampNeg))), (0, .ref (ad 0)), (1, .int p0)]) hx hb dX3_covers_53 rfl hl (by decide) rfl (fun ls hl => ?_)
            refine lv_iinc (v := (x4 + 1)) (lv' := [(4, .int (x4 + 1)), (3, .int (x3 ||| ((1 : Int32) <<< (x4 &&& 31)))), (2, .ref (ad (13 + p0.toNatClampNeg))), (0, .ref (ad 0)), (1, .int p0)]) hx hb dX3_covers_54 hl (k := 1) rfl rfl (by decide) rfl (fun ls hl => ?_)
            refine lv_goto (tgt := 22) hx hb dX3_covers_57 (by decide) ?_
            exact ih22 (x4 + 1) (x3 ||| ((1 : Int32) <<< (x4 &&& 31))) (k22 + 1) (by rw [hr22, fX3_covers_c22, if_neg c2, if_neg c3]) (by rw [e22]; exact nI_1 _) hlt22 (by omega) ls (lv_sub hl [0, 1, 2, 3, 4] rfl)
    exact lp22 (11) 0 0 (0) (by rw [fX3_covers, if_neg c1]) nI_0.symm (by omega) (by omega) ls (lv_sub hl [0, 1, 2, 3, 4] rfl)
  · refine lv_iconst (v := (-1)) hx hb dX3_covers_8 (by decide) ?_
    exact rI hx hb hr hlk dX3_covers_9 (by rw [fX3_covers, if_pos c1])
def fX3_kinds_c22 (u : Mem) (p0 : Int32)  : Nat → Int32 → Int32 → Int32
  | 0, x4, x3 => 0
  | n22 + 1, x4, x3 => (if 3 ≤ x4 then x3 else (if (fX3_agreesWithReadings u p0 x4 (u 3 p0.toNatClampNeg) (u 4 p0.toNatClampNeg)) = 0 then (fX3_kinds_c22 u p0 n22 (x4 + 1) x3) else (fX3_kinds_c22 u p0 n22 (x4 + 1) (x3 ||| ((1 : Int32) <<< (x4 &&& 31))))))
def fX3_kinds (u : Mem) (p0 : Int32) : Int32 :=
  (if (fX3_isProphet u p0) = 0 then (-1) else (fX3_kinds_c22 u p0 (4) 0 0))
set_option maxRecDepth 100000 in
set_option maxHeartbeats 4000000 in
theorem kX3_kinds (l : Launch) (D : va_G) (cy : Nat → ClassId) (ad : Nat → Nat) (u : Mem) (p0 : Int32) (hpc : PcOk u) (hrc : RcOk u) (hrp : RpOk u) : Met l yX3_kinds wsX3_kinds ({ frames := 5, cells := 0, slots := 0, locals := 115 } : Room) (va_Pc [.ref (ad 0), .int p0] (XB D cy ad u)) (qR (some (.int (fX3_kinds u p0)))) 0 0 noF := by
  refine m_start (cc := cX3_kinds) (maxL := 5) (ret := (some .int)) (by decide) rfl (Nat.le_of_ble_eq_true rfl) (fun p e s m below meth c hx hb hr hts hown hml hlk _ hB ls hl => ?_)
  obtain ⟨hP, hK⟩ := hB
  have hown : s.vm.findClass RX3 = some m.cls := hown
  have hl : lv_has ls 5 [(0, .ref (ad 0)), (1, .int p0)] := hl
  have hin_X0 : ∀ w ∈ wsX00, w ∈ wsX3_kinds := fun _ h => List.mem_cons_of_mem _ (List.mem_append_left _ (List.mem_append_right _ (h)))
  have hin_X1 : ∀ w ∈ wsX10, w ∈ wsX3_kinds := fun _ h => List.mem_cons_of_mem _ (List.mem_append_right _ (h))
  have hin_X3 : ∀ w ∈ wsX30, w ∈ wsX3_kinds := fun _ h => List.mem_cons_of_mem _ (List.mem_append_left _ (List.mem_append_left _ (List.mem_append_right _ (h))))
  refine lv_aload_n hx hb dX3_kinds_0 rfl (lv_at hl 0 rfl) ?_
  refine lv_iload_n hx hb dX3_kinds_1 rfl (lv_at hl 1 rfl) ?_
  refine kV (n := 1) (As := [.int p0]) (rest := []) ⟨hx, hb, hml, hown, hts⟩ (kX3_isProphet l D cy ad u p0) gX3_kinds_X3_isProphet rfl rfl rfl (by decide +kernel) ⟨Nat.le_of_ble_eq_true rfl, Nat.le_of_ble_eq_true rfl⟩ (recvX hP hK) (XB_of hP hK) XB_bl rfl hl.1 rfl (Nat.le_of_ble_eq_true rfl) dX3_kinds_2 ⟨Nat.le_refl _, Nat.le_refl _⟩ ?_
  refine lv_if_ne (tgt := 10) hx hb dX3_kinds_5 (by decide) (fun c1 => ?_) (fun c1 => ?_)
  · have hv1 : vp_in p0 4 := isProphet_in hpc c1
    refine lv_aload_n hx hb dX3_kinds_10 rfl (lv_at hl 0 rfl) ?_
    refine zg_X3_prophets hx hb hts hin_X3 hown hK hP (hts (Cond.fieldLink RX3 23 "ProphetCover" "prophets" "[LProphetCover$Prophet;") (List.mem_of_getElem? (i := 1) rfl)) dX3_kinds_11 ?_
    refine lv_iload_n hx hb dX3_kinds_14 rfl (lv_at hl 1 rfl) ?_
    refine zl_prophets hx hb hK hP (by assumption) dX3_kinds_15 ?_
    refine lv_astore_n (lv' := [(2, .ref (ad (13 + p0.toNatClampNeg))), (0, .ref (ad 0)), (1, .int p0)]) hx hb dX3_kinds_16 rfl hl (by decide) rfl (fun ls hl => ?_)
    refine lv_iconst (v := 0) hx hb dX3_kinds_17 (by decide) ?_
    refine lv_istore_n (lv' := [(3, .int 0), (2, .ref (ad (13 + p0.toNatClampNeg))), (0, .ref (ad 0)), (1, .int p0)]) hx hb dX3_kinds_18 rfl hl (by decide) rfl (fun ls hl => ?_)
    refine lv_iconst (v := 0) hx hb dX3_kinds_19 (by decide) ?_
    refine lv_istore (lv' := [(4, .int 0), (3, .int 0), (2, .ref (ad (13 + p0.toNatClampNeg))), (0, .ref (ad 0)), (1, .int p0)]) hx hb dX3_kinds_20 hl (by decide) rfl (fun ls hl => ?_)
    have lp22 : ∀ (n22 : Nat) (x4 : Int32) (x3 : Int32) (k22 : Nat), (fX3_kinds u p0) = (fX3_kinds_c22 u p0 n22 x4 x3) → (x4 = nI k22) → (k22 ≤ 3) → (3 < k22 + n22) → ∀ ls : Array Slot, lv_has ls 5 [(4, .int x4), (3, .int x3), (2, .ref (ad (13 + p0.toNatClampNeg))), (0, .ref (ad 0)), (1, .int p0)] → W p l e ({ frames := 5, cells := 0, slots := 0, locals := 115 } : Room) s m ([.ref (ad 0), .int p0] : List Value).toArray below meth c s.heap [] 0 0 (MQ below (qR (some (.int (fX3_kinds u p0)))) ([.ref (ad 0), .int p0] : List Value).toArray s 0 0 noF) (F0 m 22 ls []) := by
      intro n22
      induction n22 with
      | zero =>
        intro x4 x3 k22 _ e22 hk22 hm22 ls hl
        exfalso; omega
      | succ n22 ih22 =>
        intro x4 x3 k22 hr22 e22 hk22 hm22 ls hl
        refine lv_iload hx hb dX3_kinds_22 (lv_at hl 0 rfl) ?_
        refine lv_iconst (v := 3) hx hb dX3_kinds_24 (by decide) ?_
        refine lv_icmp_ge (tgt := 59) hx hb dX3_kinds_25 (by decide) (fun c2 => ?_) (fun c2 => ?_)
        · refine lv_iload_n hx hb dX3_kinds_59 rfl (lv_at hl 1 rfl) ?_
          exact rI hx hb hr hlk dX3_kinds_60 (by rw [hr22, fX3_kinds_c22, if_pos c2])
        · have hlt22 : k22 < 3 := cnt_lt (show (3 : Int32) = nI 3 from rfl) e22 (by omega) (by omega) c2
          refine lv_aload_n hx hb dX3_kinds_28 rfl (lv_at hl 3 rfl) ?_
          refine lv_iload_n hx hb dX3_kinds_29 rfl (lv_at hl 4 rfl) ?_
          refine lv_iload hx hb dX3_kinds_30 (lv_at hl 0 rfl) ?_
          refine lv_aload_n hx hb dX3_kinds_32 rfl (lv_at hl 2 rfl) ?_
          refine zg_X0_cover (vlt (n := 4) (i := p0) (by assumption)) hx hb hts hin_X0 hown hK hP (hts (Cond.fieldLink RX3 91 "ProphetCover$Prophet" "cover" "I") (List.mem_of_getElem? (i := 2) rfl)) dX3_kinds_33 ?_
          refine lv_aload_n hx hb dX3_kinds_36 rfl (lv_at hl 2 rfl) ?_
          refine zg_X0_saidSet (vlt (n := 4) (i := p0) (by assumption)) hx hb hts hin_X0 hown hK hP (hts (Cond.fieldLink RX3 94 "ProphetCover$Prophet" "saidSet" "I") (List.mem_of_getElem? (i := 3) rfl)) dX3_kinds_37 ?_
          refine kV (n := 4) (As := [.int p0, .int x4, .int (u 3 p0.toNatClampNeg), .int (u 4 p0.toNatClampNeg)]) (rest := []) ⟨hx, hb, hml, hown, hts⟩ (kX3_agreesWithReadings l D cy ad u p0 x4 (u 3 p0.toNatClampNeg) (u 4 p0.toNatClampNeg) (by first | exact hrc | assumption) (by first | exact hrp | assumption)) gX3_kinds_X3_agreesWithReadings rfl rfl rfl (by decide +kernel) ⟨Nat.le_of_ble_eq_true rfl, Nat.le_of_ble_eq_true rfl⟩ (recvX hP hK) (XB_of hP hK) XB_bl rfl hl.1 rfl (Nat.le_of_ble_eq_true rfl) dX3_kinds_40 ⟨Nat.le_refl _, Nat.le_refl _⟩ ?_
          refine lv_if_eq (tgt := 53) hx hb dX3_kinds_43 (by decide) (fun c3 => ?_) (fun c3 => ?_)
          · refine lv_iinc (v := (x4 + 1)) (lv' := [(4, .int (x4 + 1)), (3, .int x3), (2, .ref (ad (13 + p0.toNatClampNeg))), (0, .ref (ad 0)), (1, .int p0)]) hx hb dX3_kinds_53 hl (k := 0) rfl rfl (by decide) rfl (fun ls hl => ?_)
            refine lv_goto (tgt := 22) hx hb dX3_kinds_56 (by decide) ?_
            exact ih22 (x4 + 1) x3 (k22 + 1) (by rw [hr22, fX3_kinds_c22, if_neg c2, if_pos c3]) (by rw [e22]; exact nI_1 _) hlt22 (by omega) ls (lv_sub hl [0, 1, 2, 3, 4] rfl)
          · refine lv_iload_n hx hb dX3_kinds_46 rfl (lv_at hl 1 rfl) ?_
            refine lv_iconst (v := 1) hx hb dX3_kinds_47 (by decide) ?_
            refine lv_iload hx hb dX3_kinds_48 (lv_at hl 0 rfl) ?_
            refine lv_ishl hx hb dX3_kinds_50 ?_
            refine lv_ior hx hb dX3_kinds_51 ?_
            refine lv_istore_n (lv' := [(3, .int (x3 ||| ((1 : Int32) <<< (x4 &&& 31)))), (4, .int x4), (2, .ref (ad (13 + p0.toNatClampNeg))), (0, .ref (ad 0)), (1, .int p0)]) hx hb dX3_kinds_52 rfl hl (by decide) rfl (fun ls hl => ?_)
            refine lv_iinc (v := (x4 + 1)) (lv' := [(4, .int (x4 + 1)), (3, .int (x3 ||| ((1 : Int32) <<< (x4 &&& 31)))), (2, .ref (ad (13 + p0.toNatClampNeg))), (0, .ref (ad 0)), (1, .int p0)]) hx hb dX3_kinds_53 hl (k := 1) rfl rfl (by decide) rfl (fun ls hl => ?_)
            refine lv_goto (tgt := 22) hx hb dX3_kinds_56 (by decide) ?_
            exact ih22 (x4 + 1) (x3 ||| ((1 : Int32) <<< (x4 &&& 31))) (k22 + 1) (by rw [hr22, fX3_kinds_c22, if_neg c2, if_neg c3]) (by rw [e22]; exact nI_1 _) hlt22 (by omega) ls (lv_sub hl [0, 1, 2, 3, 4] rfl)
    exact lp22 (4) 0 0 (0) (by rw [fX3_kinds, if_neg c1]) nI_0.symm (by omega) (by omega) ls (lv_sub hl [0, 1, 2, 3, 4] rfl)
  · refine lv_iconst (v := (-1)) hx hb dX3_kinds_8 (by decide) ?_
    exact rI hx hb hr hlk dX3_kinds_9 (by rw [fX3_kinds, if_pos c1])
def fX3_sayings (u : Mem) (p0 : Int32) (p1 : Int32) : Int32 :=
  (if (fX3_isProphet u p0) = 0 then (-1) else (if (fX3_isEvent u p1) = 0 then (-1) else (if (fX3_agreesWithReadings u p0 (u 2 p0.toNatClampNeg) (u 3 p0.toNatClampNeg) ((u 4 p0.toNatClampNeg) &&& (((1 : Int32) <<< (p1 &&& 31)) ^^^ (-1)))) = 0 then (if (fX3_agreesWithReadings u p0 (u 2 p0.toNatClampNeg) (u 3 p0.toNatClampNeg) ((u 4 p0.toNatClampNeg) ||| ((1 : Int32) <<< (p1 &&& 31)))) = 0 then 0 else ((0 : Int32) ||| 2)) else (if (fX3_agreesWithReadings u p0 (u 2 p0.toNatClampNeg) (u 3 p0.toNatClampNeg) ((u 4 p0.toNatClampNeg) ||| ((1 : Int32) <<< (p1 &&& 31)))) = 0 then ((0 : Int32) ||| 1) else (((0 : Int32) ||| 1) ||| 2)))))
set_option maxRecDepth 100000 in
set_option maxHeartbeats 4000000 in
theorem kX3_sayings (l : Launch) (D : va_G) (cy : Nat → ClassId) (ad : Nat → Nat) (u : Mem) (p0 : Int32) (p1 : Int32) (hpc : PcOk u) (hec : EcOk u) (hrc : RcOk u) (hrp : RpOk u) : Met l yX3_sayings wsX3_sayings ({ frames := 5, cells := 0, slots := 0, locals := 115 } : Room) (va_Pc [.ref (ad 0), .int p0, .int p1] (XB D cy ad u)) (qR (some (.int (fX3_sayings u p0 p1)))) 0 0 noF := by
  refine m_start (cc := cX3_sayings) (maxL := 6) (ret := (some .int)) (by decide) rfl (Nat.le_of_ble_eq_true rfl) (fun p e s m below meth c hx hb hr hts hown hml hlk _ hB ls hl => ?_)
  obtain ⟨hP, hK⟩ := hB
  have hown : s.vm.findClass RX3 = some m.cls := hown
  have hl : lv_has ls 6 [(0, .ref (ad 0)), (1, .int p0), (2, .int p1)] := hl
  have hin_X0 : ∀ w ∈ wsX00, w ∈ wsX3_sayings := fun _ h => List.mem_cons_of_mem _ (List.mem_append_left _ (List.mem_append_right _ (h)))
  have hin_X1 : ∀ w ∈ wsX10, w ∈ wsX3_sayings := fun _ h => List.mem_cons_of_mem _ (List.mem_append_right _ (h))
  have hin_X3 : ∀ w ∈ wsX30, w ∈ wsX3_sayings := fun _ h => List.mem_cons_of_mem _ (List.mem_append_left _ (List.mem_append_left _ (List.mem_append_right _ (h))))
  refine lv_aload_n hx hb dX3_sayings_0 rfl (lv_at hl 0 rfl) ?_
  refine lv_iload_n hx hb dX3_sayings_1 rfl (lv_at hl 1 rfl) ?_
  refine kV (n := 1) (As := [.int p0]) (rest := []) ⟨hx, hb, hml, hown, hts⟩ (kX3_isProphet l D cy ad u p0) gX3_sayings_X3_isProphet rfl rfl rfl (by decide +kernel) ⟨Nat.le_of_ble_eq_true rfl, Nat.le_of_ble_eq_true rfl⟩ (recvX hP hK) (XB_of hP hK) XB_bl rfl hl.1 rfl (Nat.le_of_ble_eq_true rfl) dX3_sayings_2 ⟨Nat.le_refl _, Nat.le_refl _⟩ ?_
  refine lv_if_eq (tgt := 16) hx hb dX3_sayings_5 (by decide) (fun c1 => ?_) (fun c1 => ?_)
  · refine lv_iconst (v := (-1)) hx hb dX3_sayings_16 (by decide) ?_
    exact rI hx hb hr hlk dX3_sayings_17 (by rw [fX3_sayings, if_pos c1])
  · have hv1 : vp_in p0 4 := isProphet_in hpc c1
    refine lv_aload_n hx hb dX3_sayings_8 rfl (lv_at hl 0 rfl) ?_
    refine lv_iload_n hx hb dX3_sayings_9 rfl (lv_at hl 2 rfl) ?_
    refine kV (n := 1) (As := [.int p1]) (rest := []) ⟨hx, hb, hml, hown, hts⟩ (kX3_isEvent l D cy ad u p1) gX3_sayings_X3_isEvent rfl rfl rfl (by decide +kernel) ⟨Nat.le_of_ble_eq_true rfl, Nat.le_of_ble_eq_true rfl⟩ (recvX hP hK) (XB_of hP hK) XB_bl rfl hl.1 rfl (Nat.le_of_ble_eq_true rfl) dX3_sayings_10 ⟨Nat.le_refl _, Nat.le_refl _⟩ ?_
    refine lv_if_ne (tgt := 18) hx hb dX3_sayings_13 (by decide) (fun c2 => ?_) (fun c2 => ?_)
    · have hv2 : vp_in p1 5 := isEvent_in hec c2
      refine lv_aload_n hx hb dX3_sayings_18 rfl (lv_at hl 0 rfl) ?_
      refine zg_X3_prophets hx hb hts hin_X3 hown hK hP (hts (Cond.fieldLink RX3 23 "ProphetCover" "prophets" "[LProphetCover$Prophet;") (List.mem_of_getElem? (i := 1) rfl)) dX3_sayings_19 ?_
      refine lv_iload_n hx hb dX3_sayings_22 rfl (lv_at hl 1 rfl) ?_
      refine zl_prophets hx hb hK hP (by assumption) dX3_sayings_23 ?_
      refine lv_astore_n (lv' := [(3, .ref (ad (13 + p0.toNatClampNeg))), (0, .ref (ad 0)), (1, .int p0), (2, .int p1)]) hx hb dX3_sayings_24 rfl hl (by decide) rfl (fun ls hl => ?_)
      refine lv_iconst (v := 1) hx hb dX3_sayings_25 (by decide) ?_
      refine lv_iload_n hx hb dX3_sayings_26 rfl (lv_at hl 3 rfl) ?_
      refine lv_ishl hx hb dX3_sayings_27 ?_
      refine lv_istore (lv' := [(4, .int ((1 : Int32) <<< (p1 &&& 31))), (3, .ref (ad (13 + p0.toNatClampNeg))), (0, .ref (ad 0)), (1, .int p0), (2, .int p1)]) hx hb dX3_sayings_28 hl (by decide) rfl (fun ls hl => ?_)
      refine lv_iconst (v := 0) hx hb dX3_sayings_30 (by decide) ?_
      refine lv_istore (lv' := [(5, .int 0), (4, .int ((1 : Int32) <<< (p1 &&& 31))), (3, .ref (ad (13 + p0.toNatClampNeg))), (0, .ref (ad 0)), (1, .int p0), (2, .int p1)]) hx hb dX3_sayings_31 hl (by decide) rfl (fun ls hl => ?_)
      refine lv_aload_n hx hb dX3_sayings_33 rfl (lv_at hl 3 rfl) ?_
      refine lv_iload_n hx hb dX3_sayings_34 rfl (lv_at hl 4 rfl) ?_
      refine lv_aload_n hx hb dX3_sayings_35 rfl (lv_at hl 2 rfl) ?_
      refine zg_X0_kind (vlt (n := 4) (i := p0) (by assumption)) hx hb hts hin_X0 hown hK hP (hts (Cond.fieldLink RX3 88 "ProphetCover$Prophet" "kind" "I") (List.mem_of_getElem? (i := 2) rfl)) dX3_sayings_36 ?_
      refine lv_aload_n hx hb dX3_sayings_39 rfl (lv_at hl 2 rfl) ?_
      refine zg_X0_cover (vlt (n := 4) (i := p0) (by assumption)) hx hb hts hin_X0 hown hK hP (hts (Cond.fieldLink RX3 91 "ProphetCover$Prophet" "cover" "I") (List.mem_of_getElem? (i := 3) rfl)) dX3_sayings_40 ?_
      refine lv_aload_n hx hb dX3_sayings_43 rfl (lv_at hl 2 rfl) ?_
      refine zg_X0_saidSet (vlt (n := 4) (i := p0) (by assumption)) hx hb hts hin_X0 hown hK hP (hts (Cond.fieldLink RX3 94 "ProphetCover$Prophet" "saidSet" "I") (List.mem_of_getElem? (i := 4) rfl)) dX3_sayings_44 ?_
      refine lv_iload hx hb dX3_sayings_47 (lv_at hl 1 rfl) ?_
      refine lv_iconst (v := (-1)) hx hb dX3_sayings_49 (by decide) ?_
      refine lv_ixor hx hb dX3_sayings_50 ?_
      refine lv_iand hx hb dX3_sayings_51 ?_
      refine kV (n := 4) (As := [.int p0, .int (u 2 p0.toNatClampNeg), .int (u 3 p0.toNatClampNeg), .int ((u 4 p0.toNatClampNeg) &&& (((1 : Int32) <<< (p1 &&& 31)) ^^^ (-1)))]) (rest := []) ⟨hx, hb, hml, hown, hts⟩ (kX3_agreesWithReadings l D cy ad u p0 (u 2 p0.toNatClampNeg) (u 3 p0.toNatClampNeg) ((u 4 p0.toNatClampNeg) &&& (((1 : Int32) <<< (p1 &&& 31)) ^^^ (-1))) (by first | exact hrc | assumption) (by first | exact hrp | assumption)) gX3_sayings_X3_agreesWithReadings rfl rfl rfl (by decide +kernel) ⟨Nat.le_of_ble_eq_true rfl, Nat.le_of_ble_eq_true rfl⟩ (recvX hP hK) (XB_of hP hK) XB_bl rfl hl.1 rfl (Nat.le_of_ble_eq_true rfl) dX3_sayings_52 ⟨Nat.le_refl _, Nat.le_refl _⟩ ?_
      refine lv_if_eq (tgt := 64) hx hb dX3_sayings_55 (by decide) (fun c3 => ?_) (fun c3 => ?_)
      · refine lv_aload_n hx hb dX3_sayings_64 rfl (lv_at hl 3 rfl) ?_
        refine lv_iload_n hx hb dX3_sayings_65 rfl (lv_at hl 4 rfl) ?_
        refine lv_aload_n hx hb dX3_sayings_66 rfl (lv_at hl 2 rfl) ?_
        refine zg_X0_kind (vlt (n := 4) (i := p0) (by assumption)) hx hb hts hin_X0 hown hK hP (hts (Cond.fieldLink RX3 88 "ProphetCover$Prophet" "kind" "I") (List.mem_of_getElem? (i := 2) rfl)) dX3_sayings_67 ?_
        refine lv_aload_n hx hb dX3_sayings_70 rfl (lv_at hl 2 rfl) ?_
        refine zg_X0_cover (vlt (n := 4) (i := p0) (by assumption)) hx hb hts hin_X0 hown hK hP (hts (Cond.fieldLink RX3 91 "ProphetCover$Prophet" "cover" "I") (List.mem_of_getElem? (i := 3) rfl)) dX3_sayings_71 ?_
        refine lv_aload_n hx hb dX3_sayings_74 rfl (lv_at hl 2 rfl) ?_
        refine zg_X0_saidSet (vlt (n := 4) (i := p0) (by assumption)) hx hb hts hin_X0 hown hK hP (hts (Cond.fieldLink RX3 94 "ProphetCover$Prophet" "saidSet" "I") (List.mem_of_getElem? (i := 4) rfl)) dX3_sayings_75 ?_
        refine lv_iload hx hb dX3_sayings_78 (lv_at hl 1 rfl) ?_
        refine lv_ior hx hb dX3_sayings_80 ?_
        refine kV (n := 4) (As := [.int p0, .int (u 2 p0.toNatClampNeg), .int (u 3 p0.toNatClampNeg), .int ((u 4 p0.toNatClampNeg) ||| ((1 : Int32) <<< (p1 &&& 31)))]) (rest := []) ⟨hx, hb, hml, hown, hts⟩ (kX3_agreesWithReadings l D cy ad u p0 (u 2 p0.toNatClampNeg) (u 3 p0.toNatClampNeg) ((u 4 p0.toNatClampNeg) ||| ((1 : Int32) <<< (p1 &&& 31))) (by first | exact hrc | assumption) (by first | exact hrp | assumption)) gX3_sayings_X3_agreesWithReadings rfl rfl rfl (by decide +kernel) ⟨Nat.le_of_ble_eq_true rfl, Nat.le_of_ble_eq_true rfl⟩ (recvX hP hK) (XB_of hP hK) XB_bl rfl hl.1 rfl (Nat.le_of_ble_eq_true rfl) dX3_sayings_81 ⟨Nat.le_refl _, Nat.le_refl _⟩ ?_
        refine lv_if_eq (tgt := 93) hx hb dX3_sayings_84 (by decide) (fun c4 => ?_) (fun c4 => ?_)
        · refine lv_iload hx hb dX3_sayings_93 (lv_at hl 0 rfl) ?_
          exact rI hx hb hr hlk dX3_sayings_95 (by rw [fX3_sayings, if_neg c1, if_neg c2, if_pos c3, if_pos c4])
        · refine lv_iload hx hb dX3_sayings_87 (lv_at hl 0 rfl) ?_
          refine lv_iconst (v := 2) hx hb dX3_sayings_89 (by decide) ?_
          refine lv_ior hx hb dX3_sayings_90 ?_
          refine lv_istore (lv' := [(5, .int ((0 : Int32) ||| 2)), (4, .int ((1 : Int32) <<< (p1 &&& 31))), (3, .ref (ad (13 + p0.toNatClampNeg))), (0, .ref (ad 0)), (1, .int p0), (2, .int p1)]) hx hb dX3_sayings_91 hl (by decide) rfl (fun ls hl => ?_)
          refine lv_iload hx hb dX3_sayings_93 (lv_at hl 0 rfl) ?_
          exact rI hx hb hr hlk dX3_sayings_95 (by rw [fX3_sayings, if_neg c1, if_neg c2, if_pos c3, if_neg c4])
      · refine lv_iload hx hb dX3_sayings_58 (lv_at hl 0 rfl) ?_
        refine lv_iconst (v := 1) hx hb dX3_sayings_60 (by decide) ?_
        refine lv_ior hx hb dX3_sayings_61 ?_
        refine lv_istore (lv' := [(5, .int ((0 : Int32) ||| 1)), (4, .int ((1 : Int32) <<< (p1 &&& 31))), (3, .ref (ad (13 + p0.toNatClampNeg))), (0, .ref (ad 0)), (1, .int p0), (2, .int p1)]) hx hb dX3_sayings_62 hl (by decide) rfl (fun ls hl => ?_)
        refine lv_aload_n hx hb dX3_sayings_64 rfl (lv_at hl 3 rfl) ?_
        refine lv_iload_n hx hb dX3_sayings_65 rfl (lv_at hl 4 rfl) ?_
        refine lv_aload_n hx hb dX3_sayings_66 rfl (lv_at hl 2 rfl) ?_
        refine zg_X0_kind (vlt (n := 4) (i := p0) (by assumption)) hx hb hts hin_X0 hown hK hP (hts (Cond.fieldLink RX3 88 "ProphetCover$Prophet" "kind" "I") (List.mem_of_getElem? (i := 2) rfl)) dX3_sayings_67 ?_
        refine lv_aload_n hx hb dX3_sayings_70 rfl (lv_at hl 2 rfl) ?_
        refine zg_X0_cover (vlt (n := 4) (i := p0) (by assumption)) hx hb hts hin_X0 hown hK hP (hts (Cond.fieldLink RX3 91 "ProphetCover$Prophet" "cover" "I") (List.mem_of_getElem? (i := 3) rfl)) dX3_sayings_71 ?_
        refine lv_aload_n hx hb dX3_sayings_74 rfl (lv_at hl 2 rfl) ?_
        refine zg_X0_saidSet (vlt (n := 4) (i := p0) (by assumption)) hx hb hts hin_X0 hown hK hP (hts (Cond.fieldLink RX3 94 "ProphetCover$Prophet" "saidSet" "I") (List.mem_of_getElem? (i := 4) rfl)) dX3_sayings_75 ?_
        refine lv_iload hx hb dX3_sayings_78 (lv_at hl 1 rfl) ?_
        refine lv_ior hx hb dX3_sayings_80 ?_
        refine kV (n := 4) (As := [.int p0, .int (u 2 p0.toNatClampNeg), .int (u 3 p0.toNatClampNeg), .int ((u 4 p0.toNatClampNeg) ||| ((1 : Int32) <<< (p1 &&& 31)))]) (rest := []) ⟨hx, hb, hml, hown, hts⟩ (kX3_agreesWithReadings l D cy ad u p0 (u 2 p0.toNatClampNeg) (u 3 p0.toNatClampNeg) ((u 4 p0.toNatClampNeg) ||| ((1 : Int32) <<< (p1 &&& 31))) (by first | exact hrc | assumption) (by first | exact hrp | assumption)) gX3_sayings_X3_agreesWithReadings rfl rfl rfl (by decide +kernel) ⟨Nat.le_of_ble_eq_true rfl, Nat.le_of_ble_eq_true rfl⟩ (recvX hP hK) (XB_of hP hK) XB_bl rfl hl.1 rfl (Nat.le_of_ble_eq_true rfl) dX3_sayings_81 ⟨Nat.le_refl _, Nat.le_refl _⟩ ?_
        refine lv_if_eq (tgt := 93) hx hb dX3_sayings_84 (by decide) (fun c5 => ?_) (fun c5 => ?_)
        · refine lv_iload hx hb dX3_sayings_93 (lv_at hl 0 rfl) ?_
          exact rI hx hb hr hlk dX3_sayings_95 (by rw [fX3_sayings, if_neg c1, if_neg c2, if_neg c3, if_pos c5])
        · refine lv_iload hx hb dX3_sayings_87 (lv_at hl 0 rfl) ?_
          refine lv_iconst (v := 2) hx hb dX3_sayings_89 (by decide) ?_
          refine lv_ior hx hb dX3_sayings_90 ?_
          refine lv_istore (lv' := [(5, .int (((0 : Int32) ||| 1) ||| 2)), (4, .int ((1 : Int32) <<< (p1 &&& 31))), (3, .ref (ad (13 + p0.toNatClampNeg))), (0, .ref (ad 0)), (1, .int p0), (2, .int p1)]) hx hb dX3_sayings_91 hl (by decide) rfl (fun ls hl => ?_)
          refine lv_iload hx hb dX3_sayings_93 (lv_at hl 0 rfl) ?_
          exact rI hx hb hr hlk dX3_sayings_95 (by rw [fX3_sayings, if_neg c1, if_neg c2, if_neg c3, if_neg c5])
    · refine lv_iconst (v := (-1)) hx hb dX3_sayings_16 (by decide) ?_
      exact rI hx hb hr hlk dX3_sayings_17 (by rw [fX3_sayings, if_neg c1, if_pos c2])
def fX3_odds (u : Mem) (p0 : Int32) (p1 : Int32) : Int64 :=
  (if (fX3_hasOffice u) = 0 then (-9223372036854775808) else (if (fX3_isWithin p0 999) = 0 then (-9223372036854775808) else (if (fX3_isWithin p1 1) = 0 then (-9223372036854775808) else (fX3_shareNumber (fX3_weightFrom u p0) (fX3_weightOfAll u) p1))))
set_option maxRecDepth 100000 in
set_option maxHeartbeats 4000000 in
theorem kX3_odds (l : Launch) (D : va_G) (cy : Nat → ClassId) (ad : Nat → Nat) (u : Mem) (p0 : Int32) (p1 : Int32) (hpc : PcOk u) (hec : EcOk u) : Met l yX3_odds wsX3_odds ({ frames := 6, cells := 0, slots := 0, locals := 134 } : Room) (va_Pc [.ref (ad 0), .int p0, .int p1] (XB D cy ad u)) (qR (some (.long (fX3_odds u p0 p1)))) 0 0 noF := by
  refine m_start (cc := cX3_odds) (maxL := 3) (ret := (some .long)) (by decide) rfl (Nat.le_of_ble_eq_true rfl) (fun p e s m below meth c hx hb hr hts hown hml hlk _ hB ls hl => ?_)
  obtain ⟨hP, hK⟩ := hB
  have hown : s.vm.findClass RX3 = some m.cls := hown
  have hl : lv_has ls 3 [(0, .ref (ad 0)), (1, .int p0), (2, .int p1)] := hl
  have hin_X0 : ∀ w ∈ wsX00, w ∈ wsX3_odds := fun _ h => List.mem_cons_of_mem _ (List.mem_append_right _ (h))
  have hin_X3 : ∀ w ∈ wsX30, w ∈ wsX3_odds := fun _ h => List.mem_cons_of_mem _ (List.mem_append_left _ (List.mem_append_right _ (h)))
  refine lv_aload_n hx hb dX3_odds_0 rfl (lv_at hl 0 rfl) ?_
  refine kV (n := 0) (As := []) (rest := []) ⟨hx, hb, hml, hown, hts⟩ (kX3_hasOffice l D cy ad u) gX3_odds_X3_hasOffice rfl rfl rfl (by decide +kernel) ⟨Nat.le_of_ble_eq_true rfl, Nat.le_of_ble_eq_true rfl⟩ (recvX hP hK) (XB_of hP hK) XB_bl rfl hl.1 rfl (Nat.le_of_ble_eq_true rfl) dX3_odds_1 ⟨Nat.le_refl _, Nat.le_refl _⟩ ?_
  refine lv_if_eq (tgt := 25) hx hb dX3_odds_4 (by decide) (fun c1 => ?_) (fun c1 => ?_)
  · refine lv_ldc2 hx hb hown (hts (Cond.constantLong RX3 132 (-9223372036854775808)) (List.mem_of_getElem? (i := 1) rfl)) dX3_odds_25 ?_
    exact rL hx hb hr hlk dX3_odds_28 (by rw [fX3_odds, if_pos c1])
  · refine lv_iload_n hx hb dX3_odds_7 rfl (lv_at hl 1 rfl) ?_
    refine lv_sipush (v := 999) hx hb dX3_odds_8 (by decide) ?_
    refine kS (n := 2) (As := [.int p0, .int 999]) (rest := []) ⟨hx, hb, hml, hown, hts⟩ (kX3_isWithin l p0 999) gX3_odds_X3_isWithin rfl rfl rfl (by decide +kernel) ⟨Nat.le_of_ble_eq_true rfl, Nat.le_of_ble_eq_true rfl⟩ (fun _ _ _ => trivial) (fun _ _ _ _ _ => trivial) rfl hl.1 rfl (Nat.le_of_ble_eq_true rfl) dX3_odds_11 ⟨Nat.le_refl _, Nat.le_refl _⟩ ?_
    refine lv_if_eq (tgt := 25) hx hb dX3_odds_14 (by decide) (fun c2 => ?_) (fun c2 => ?_)
    · refine lv_ldc2 hx hb hown (hts (Cond.constantLong RX3 132 (-9223372036854775808)) (List.mem_of_getElem? (i := 1) rfl)) dX3_odds_25 ?_
      exact rL hx hb hr hlk dX3_odds_28 (by rw [fX3_odds, if_neg c1, if_pos c2])
    · refine lv_iload_n hx hb dX3_odds_17 rfl (lv_at hl 2 rfl) ?_
      refine lv_iconst (v := 1) hx hb dX3_odds_18 (by decide) ?_
      refine kS (n := 2) (As := [.int p1, .int 1]) (rest := []) ⟨hx, hb, hml, hown, hts⟩ (kX3_isWithin l p1 1) gX3_odds_X3_isWithin rfl rfl rfl (by decide +kernel) ⟨Nat.le_of_ble_eq_true rfl, Nat.le_of_ble_eq_true rfl⟩ (fun _ _ _ => trivial) (fun _ _ _ _ _ => trivial) rfl hl.1 rfl (Nat.le_of_ble_eq_true rfl) dX3_odds_19 ⟨Nat.le_refl _, Nat.le_refl _⟩ ?_
      refine lv_if_ne (tgt := 29) hx hb dX3_odds_22 (by decide) (fun c3 => ?_) (fun c3 => ?_)
      · refine lv_aload_n hx hb dX3_odds_29 rfl (lv_at hl 0 rfl) ?_
        refine lv_iload_n hx hb dX3_odds_30 rfl (lv_at hl 1 rfl) ?_
        refine kV (n := 1) (As := [.int p0]) (rest := []) ⟨hx, hb, hml, hown, hts⟩ (kX3_weightFrom l D cy ad u p0 (by first | exact hpc | assumption) (by first | exact hec | assumption)) gX3_odds_X3_weightFrom rfl rfl rfl (by decide +kernel) ⟨Nat.le_of_ble_eq_true rfl, Nat.le_of_ble_eq_true rfl⟩ (recvX hP hK) (XB_of hP hK) XB_bl rfl hl.1 rfl (Nat.le_of_ble_eq_true rfl) dX3_odds_31 ⟨Nat.le_refl _, Nat.le_refl _⟩ ?_
        refine lv_aload_n hx hb dX3_odds_34 rfl (lv_at hl 0 rfl) ?_
        refine kV (n := 0) (As := []) (rest := [.int (fX3_weightFrom u p0)]) ⟨hx, hb, hml, hown, hts⟩ (kX3_weightOfAll l D cy ad u (by first | exact hec | assumption)) gX3_odds_X3_weightOfAll rfl rfl rfl (by decide +kernel) ⟨Nat.le_of_ble_eq_true rfl, Nat.le_of_ble_eq_true rfl⟩ (recvX hP hK) (XB_of hP hK) XB_bl rfl hl.1 rfl (Nat.le_of_ble_eq_true rfl) dX3_odds_35 ⟨Nat.le_refl _, Nat.le_refl _⟩ ?_
        refine lv_iload_n hx hb dX3_odds_38 rfl (lv_at hl 2 rfl) ?_
        refine kS (n := 3) (As := [.int (fX3_weightFrom u p0), .int (fX3_weightOfAll u), .int p1]) (rest := []) ⟨hx, hb, hml, hown, hts⟩ (kX3_shareNumber l (fX3_weightFrom u p0) (fX3_weightOfAll u) p1) gX3_odds_X3_shareNumber rfl rfl rfl (by decide +kernel) ⟨Nat.le_of_ble_eq_true rfl, Nat.le_of_ble_eq_true rfl⟩ (fun _ _ _ => trivial) (fun _ _ _ _ _ => trivial) rfl hl.1 rfl (Nat.le_of_ble_eq_true rfl) dX3_odds_39 ⟨Nat.le_refl _, Nat.le_refl _⟩ ?_
        exact rL hx hb hr hlk dX3_odds_42 (by rw [fX3_odds, if_neg c1, if_neg c2, if_neg c3])
      · refine lv_ldc2 hx hb hown (hts (Cond.constantLong RX3 132 (-9223372036854775808)) (List.mem_of_getElem? (i := 1) rfl)) dX3_odds_25 ?_
        exact rL hx hb hr hlk dX3_odds_28 (by rw [fX3_odds, if_neg c1, if_neg c2, if_pos c3])
