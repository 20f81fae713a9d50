def fX3_sheet (u : Mem) (p0 : Int32) (p1 : Int32) (p2 : Int32) : Int32 × Mem :=
  (if (fX3_isSheet p0) = 0 then ((-1), (mset u 0 8 0)) else (if (fX3_isLane p1) = 0 then ((-2), (mset u 0 8 0)) else (if p2 ≤ 60 then (if 0 ≤ p2 then (1, (fX2_makeRow (mset u 0 8 0) (p0.toNatClampNeg) p1 p2)) else ((fX3_faulty (mset u 0 8 0) 4).1, (fX3_faulty (mset u 0 8 0) 4).2)) else ((-2), (mset u 0 8 0)))))
set_option maxRecDepth 100000 in
set_option maxHeartbeats 4000000 in
theorem kX3_sheet (l : Launch) (D : va_G) (cy : Nat → ClassId) (ad : Nat → Nat) (hI : XI ad) (u : Mem) (p0 : Int32) (p1 : Int32) (p2 : Int32)  : Met l yX3_sheet wsX3_sheet ({ frames := 1, cells := 0, slots := 0, locals := 23 } : Room) (va_Pc [.ref (ad 0), .int p0, .int p1, .int p2] (XB D cy ad u)) (qW (XB D cy ad (fX3_sheet u p0 p1 p2).2) (AX ad) (some (.int (fX3_sheet u p0 p1 p2).1))) 0 0 (AX ad) := by
  refine m_start (cc := cX3_sheet) (maxL := 4) (ret := (some .int)) (by decide) rfl (Nat.le_of_ble_eq_true rfl) (fun p e s m below meth c hx hb hr hts hown hml hlk _ hB ls hl => ?_)
  obtain ⟨hP, hK⟩ := hB
  have hown : s.vm.findClass RX3 = some m.cls := hown
  have hl : lv_has ls 4 [(0, .ref (ad 0)), (1, .int p0), (2, .int p1), (3, .int p2)] := hl
  have hin_X2 : ∀ w ∈ wsX20, w ∈ wsX3_sheet := fun _ h => List.mem_cons_of_mem _ (List.mem_append_right _ (h))
  have hin_X3 : ∀ w ∈ wsX30, w ∈ wsX3_sheet := fun _ h => List.mem_cons_of_mem _ (List.mem_append_left _ (List.mem_append_right _ (h)))
  obtain ⟨H, hH⟩ : ∃ H, H = s.heap := ⟨_, rfl⟩
  obtain ⟨locs, hlo⟩ : ∃ z : List Loc, z = [] := ⟨_, rfl⟩
  have hS : va_S (AX ad) s.heap H locs := by rw [hH, hlo]; exact va_S.rf
  have hP : va_P D vwCl (wX cy ad u) H := by rw [hH]; exact hP
  suffices hgoal : W p l e ({ frames := 1, cells := 0, slots := 0, locals := 23 } : Room) s m ([.ref (ad 0), .int p0, .int p1, .int p2] : List Value).toArray below meth c H locs 0 0 (MQ below (qW (XB D cy ad (fX3_sheet u p0 p1 p2).2) (AX ad) (some (.int (fX3_sheet u p0 p1 p2).1))) ([.ref (ad 0), .int p0, .int p1, .int p2] : List Value).toArray s 0 0 (AX ad)) (F0 m 0 ls []) by rw [hH, hlo] at hgoal; exact hgoal
  clear hH hlo
  refine lv_aload_n hx hb dX3_sheet_0 rfl (lv_at hl 0 rfl) ?_
  refine lv_iconst (v := 0) hx hb dX3_sheet_1 (by decide) ?_
  refine zp_X3_latestFault hx hb hts hin_X3 hown hK hP hI hS (hts (Cond.fieldLink RX3 46 "ProphetCover" "latestFault" "I") (List.mem_of_getElem? (i := 1) rfl)) dX3_sheet_2 (fun H locs hP hS => ?_)
  refine lv_iload_n hx hb dX3_sheet_5 rfl (lv_at hl 1 rfl) ?_
  refine kS (n := 1) (As := [.int p0]) (rest := []) ⟨hx, hb, hml, hown, hts⟩ (kX3_isSheet l p0) gX3_sheet_X3_isSheet rfl rfl rfl (by decide +kernel) ⟨Nat.le_of_ble_eq_true rfl, Nat.le_of_ble_eq_true rfl⟩ (fun _ _ _ => trivial) (fun _ _ _ _ _ => trivial) rfl hl.1 rfl (Nat.le_of_ble_eq_true rfl) dX3_sheet_6 ⟨Nat.le_refl _, Nat.le_refl _⟩ ?_
  refine lv_if_ne (tgt := 14) hx hb dX3_sheet_9 (by decide) (fun c1 => ?_) (fun c1 => ?_)
  · have hv1 : vp_in p0 4 := isSheet_in c1
    refine lv_iload_n hx hb dX3_sheet_14 rfl (lv_at hl 2 rfl) ?_
    refine kS (n := 1) (As := [.int p1]) (rest := []) ⟨hx, hb, hml, hown, hts⟩ (kX3_isLane l p1) gX3_sheet_X3_isLane rfl rfl rfl (by decide +kernel) ⟨Nat.le_of_ble_eq_true rfl, Nat.le_of_ble_eq_true rfl⟩ (fun _ _ _ => trivial) (fun _ _ _ _ _ => trivial) rfl hl.1 rfl (Nat.le_of_ble_eq_true rfl) dX3_sheet_15 ⟨Nat.le_refl _, Nat.le_refl _⟩ ?_
    refine lv_if_eq (tgt := 27) hx hb dX3_sheet_18 (by decide) (fun c2 => ?_) (fun c2 => ?_)
    · refine lv_bipush (v := (-2)) hx hb dX3_sheet_27 (by decide) ?_
      exact rXI hx hb hr hlk hK hP hS dX3_sheet_29 (by rw [fX3_sheet, if_neg c1, if_pos c2])
    · refine lv_iload_n hx hb dX3_sheet_21 rfl (lv_at hl 3 rfl) ?_
      refine lv_bipush (v := 60) hx hb dX3_sheet_22 (by decide) ?_
      refine lv_icmp_le (tgt := 30) hx hb dX3_sheet_24 (by decide) (fun c3 => ?_) (fun c3 => ?_)
      · refine lv_iload_n hx hb dX3_sheet_30 rfl (lv_at hl 3 rfl) ?_
        refine lv_if_ge (tgt := 40) hx hb dX3_sheet_31 (by decide) (fun c4 => ?_) (fun c4 => ?_)
        · refine lv_aload_n hx hb dX3_sheet_40 rfl (lv_at hl 0 rfl) ?_
          refine zg_X3_sheets hx hb hts hin_X3 hown hK hP (hts (Cond.fieldLink RX3 13 "ProphetCover" "sheets" "[LProphetCover$Sheet;") (List.mem_of_getElem? (i := 2) rfl)) dX3_sheet_41 ?_
          refine lv_iload_n hx hb dX3_sheet_44 rfl (lv_at hl 1 rfl) ?_
          refine zl_sheets hx hb hK hP (by assumption) dX3_sheet_45 ?_
          refine lv_iload_n hx hb dX3_sheet_46 rfl (lv_at hl 2 rfl) ?_
          refine lv_iload_n hx hb dX3_sheet_47 rfl (lv_at hl 3 rfl) ?_
          refine kWXv (n := 2) (As := [.int p1, .int p2]) (rest := []) ⟨hx, hb, hml, hown, hts⟩ (kX2_makeRow l D cy ad hI (mset u 0 8 0) (p0.toNatClampNeg) p1 p2 (vlt (n := 4) (i := p0) (by assumption))) gX3_sheet_X2_makeRow rfl rfl rfl (by decide +kernel) ⟨Nat.le_of_ble_eq_true rfl, Nat.le_of_ble_eq_true rfl⟩ (recvXs hP hK (vlt (n := 4) (i := p0) (by assumption))) hP hK hS rfl hl.1 rfl (Nat.le_of_ble_eq_true rfl) dX3_sheet_48 ⟨Nat.le_refl _, Nat.le_refl _⟩ (fun H locs hP hS => ?_)
          refine lv_iconst (v := 1) hx hb dX3_sheet_51 (by decide) ?_
          exact rXI hx hb hr hlk hK hP hS dX3_sheet_52 (by rw [fX3_sheet, if_neg c1, if_neg c2, if_pos c3, if_pos c4])
        · refine lv_aload_n hx hb dX3_sheet_34 rfl (lv_at hl 0 rfl) ?_
          refine lv_iconst (v := 4) hx hb dX3_sheet_35 (by decide) ?_
          refine kWX (n := 1) (As := [.int 4]) (rest := []) ⟨hx, hb, hml, hown, hts⟩ (kX3_faulty l D cy ad hI (mset u 0 8 0) 4) gX3_sheet_X3_faulty rfl rfl rfl (by decide +kernel) ⟨Nat.le_of_ble_eq_true rfl, Nat.le_of_ble_eq_true rfl⟩ (recvX hP hK) hP hK hS rfl hl.1 rfl (Nat.le_of_ble_eq_true rfl) dX3_sheet_36 ⟨Nat.le_refl _, Nat.le_refl _⟩ (fun H locs hP hS => ?_)
          exact rXI hx hb hr hlk hK hP hS dX3_sheet_39 (by rw [fX3_sheet, if_neg c1, if_neg c2, if_pos c3, if_neg c4])
      · refine lv_bipush (v := (-2)) hx hb dX3_sheet_27 (by decide) ?_
        exact rXI hx hb hr hlk hK hP hS dX3_sheet_29 (by rw [fX3_sheet, if_neg c1, if_neg c2, if_neg c3])
  · refine lv_iconst (v := (-1)) hx hb dX3_sheet_12 (by decide) ?_
    exact rXI hx hb hr hlk hK hP hS dX3_sheet_13 (by rw [fX3_sheet, if_pos c1])
def fX3_lose (u : Mem) (p0 : Int32) : Int32 × Mem :=
  (if (fX3_isSheet p0) = 0 then ((-1), u) else (if (fX2_isEmpty u (p0.toNatClampNeg)) = 0 then (1, (mset u 9 p0.toNatClampNeg (-1))) else (0, (mset u 9 p0.toNatClampNeg (-1)))))
set_option maxRecDepth 100000 in
set_option maxHeartbeats 4000000 in
theorem kX3_lose (l : Launch) (D : va_G) (cy : Nat → ClassId) (ad : Nat → Nat) (hI : XI ad) (u : Mem) (p0 : Int32)  : Met l yX3_lose wsX3_lose ({ frames := 1, cells := 0, slots := 0, locals := 20 } : Room) (va_Pc [.ref (ad 0), .int p0] (XB D cy ad u)) (qW (XB D cy ad (fX3_lose u p0).2) (AX ad) (some (.int (fX3_lose u p0).1))) 0 0 (AX ad) := by
  refine m_start (cc := cX3_lose) (maxL := 3) (ret := (some .int)) (by decide) rfl (Nat.le_of_ble_eq_true rfl) (fun p e s m below meth c hx hb hr hts hown hml hlk _ hB ls hl => ?_)
  obtain ⟨hP, hK⟩ := hB
  have hown : s.vm.findClass RX3 = some m.cls := hown
  have hl : lv_has ls 3 [(0, .ref (ad 0)), (1, .int p0)] := hl
  have hin_X2 : ∀ w ∈ wsX20, w ∈ wsX3_lose := fun _ h => List.mem_cons_of_mem _ (List.mem_append_right _ (h))
  have hin_X3 : ∀ w ∈ wsX30, w ∈ wsX3_lose := fun _ h => List.mem_cons_of_mem _ (List.mem_append_left _ (List.mem_append_right _ (h)))
  obtain ⟨H, hH⟩ : ∃ H, H = s.heap := ⟨_, rfl⟩
  obtain ⟨locs, hlo⟩ : ∃ z : List Loc, z = [] := ⟨_, rfl⟩
  have hS : va_S (AX ad) s.heap H locs := by rw [hH, hlo]; exact va_S.rf
  have hP : va_P D vwCl (wX cy ad u) H := by rw [hH]; exact hP
  suffices hgoal : W p l e ({ frames := 1, cells := 0, slots := 0, locals := 20 } : Room) s m ([.ref (ad 0), .int p0] : List Value).toArray below meth c H locs 0 0 (MQ below (qW (XB D cy ad (fX3_lose u p0).2) (AX ad) (some (.int (fX3_lose u p0).1))) ([.ref (ad 0), .int p0] : List Value).toArray s 0 0 (AX ad)) (F0 m 0 ls []) by rw [hH, hlo] at hgoal; exact hgoal
  clear hH hlo
  refine lv_iload_n hx hb dX3_lose_0 rfl (lv_at hl 1 rfl) ?_
  refine kS (n := 1) (As := [.int p0]) (rest := []) ⟨hx, hb, hml, hown, hts⟩ (kX3_isSheet l p0) gX3_lose_X3_isSheet rfl rfl rfl (by decide +kernel) ⟨Nat.le_of_ble_eq_true rfl, Nat.le_of_ble_eq_true rfl⟩ (fun _ _ _ => trivial) (fun _ _ _ _ _ => trivial) rfl hl.1 rfl (Nat.le_of_ble_eq_true rfl) dX3_lose_1 ⟨Nat.le_refl _, Nat.le_refl _⟩ ?_
  refine lv_if_ne (tgt := 9) hx hb dX3_lose_4 (by decide) (fun c1 => ?_) (fun c1 => ?_)
  · have hv1 : vp_in p0 4 := isSheet_in c1
    refine lv_aload_n hx hb dX3_lose_9 rfl (lv_at hl 0 rfl) ?_
    refine zg_X3_sheets hx hb hts hin_X3 hown hK hP (hts (Cond.fieldLink RX3 13 "ProphetCover" "sheets" "[LProphetCover$Sheet;") (List.mem_of_getElem? (i := 1) rfl)) dX3_lose_10 ?_
    refine lv_iload_n hx hb dX3_lose_13 rfl (lv_at hl 1 rfl) ?_
    refine zl_sheets hx hb hK hP (by assumption) dX3_lose_14 ?_
    refine kV (n := 0) (As := []) (rest := []) ⟨hx, hb, hml, hown, hts⟩ (kX2_isEmpty l D cy ad u (p0.toNatClampNeg) (vlt (n := 4) (i := p0) (by assumption))) gX3_lose_X2_isEmpty rfl rfl rfl (by decide +kernel) ⟨Nat.le_of_ble_eq_true rfl, Nat.le_of_ble_eq_true rfl⟩ (recvXs hP hK (vlt (n := 4) (i := p0) (by assumption))) (XB_of hP hK) XB_bl rfl hl.1 rfl (Nat.le_of_ble_eq_true rfl) dX3_lose_15 ⟨Nat.le_refl _, Nat.le_refl _⟩ ?_
    refine lv_if_eq (tgt := 25) hx hb dX3_lose_18 (by decide) (fun c2 => ?_) (fun c2 => ?_)
    · refine lv_iconst (v := 1) hx hb dX3_lose_25 (by decide) ?_
      refine lv_istore_n (lv' := [(2, .int 1), (0, .ref (ad 0)), (1, .int p0)]) hx hb dX3_lose_26 rfl hl (by decide) rfl (fun ls hl => ?_)
      refine lv_aload_n hx hb dX3_lose_27 rfl (lv_at hl 1 rfl) ?_
      refine zg_X3_sheets hx hb hts hin_X3 hown hK hP (hts (Cond.fieldLink RX3 13 "ProphetCover" "sheets" "[LProphetCover$Sheet;") (List.mem_of_getElem? (i := 1) rfl)) dX3_lose_28 ?_
      refine lv_iload_n hx hb dX3_lose_31 rfl (lv_at hl 2 rfl) ?_
      refine zl_sheets hx hb hK hP (by assumption) dX3_lose_32 ?_
      refine lv_iconst (v := (-1)) hx hb dX3_lose_33 (by decide) ?_
      refine zp_X2_size (vlt (n := 4) (i := p0) (by assumption)) hx hb hts hin_X2 hown hK hP hI hS (hts (Cond.fieldLink RX3 175 "ProphetCover$Sheet" "size" "I") (List.mem_of_getElem? (i := 2) rfl)) dX3_lose_34 (fun H locs hP hS => ?_)
      refine lv_iload_n hx hb dX3_lose_37 rfl (lv_at hl 0 rfl) ?_
      exact rXI hx hb hr hlk hK hP hS dX3_lose_38 (by rw [fX3_lose, if_neg c1, if_pos c2])
    · refine lv_iconst (v := 0) hx hb dX3_lose_21 (by decide) ?_
      refine lv_goto (tgt := 26) hx hb dX3_lose_22 (by decide) ?_
      refine lv_istore_n (lv' := [(2, .int 0), (0, .ref (ad 0)), (1, .int p0)]) hx hb dX3_lose_26 rfl hl (by decide) rfl (fun ls hl => ?_)
      refine lv_aload_n hx hb dX3_lose_27 rfl (lv_at hl 1 rfl) ?_
      refine zg_X3_sheets hx hb hts hin_X3 hown hK hP (hts (Cond.fieldLink RX3 13 "ProphetCover" "sheets" "[LProphetCover$Sheet;") (List.mem_of_getElem? (i := 1) rfl)) dX3_lose_28 ?_
      refine lv_iload_n hx hb dX3_lose_31 rfl (lv_at hl 2 rfl) ?_
      refine zl_sheets hx hb hK hP (by assumption) dX3_lose_32 ?_
      refine lv_iconst (v := (-1)) hx hb dX3_lose_33 (by decide) ?_
      refine zp_X2_size (vlt (n := 4) (i := p0) (by assumption)) hx hb hts hin_X2 hown hK hP hI hS (hts (Cond.fieldLink RX3 175 "ProphetCover$Sheet" "size" "I") (List.mem_of_getElem? (i := 2) rfl)) dX3_lose_34 (fun H locs hP hS => ?_)
      refine lv_iload_n hx hb dX3_lose_37 rfl (lv_at hl 0 rfl) ?_
      exact rXI hx hb hr hlk hK hP hS dX3_lose_38 (by rw [fX3_lose, if_neg c1, if_neg c2])
  · refine lv_iconst (v := (-1)) hx hb dX3_lose_7 (by decide) ?_
    exact rXI hx hb hr hlk hK hP hS dX3_lose_8 (by rw [fX3_lose, if_pos c1])
def fX3_put (u : Mem) (p0 : Int32) (p1 : Int32) (p2 : Int32) : Int32 × Mem :=
  (if (fX3_isSheet p0) = 0 then ((-1), (mset u 0 8 0)) else (if (fX2_flaw (mset u 0 8 0) (p0.toNatClampNeg) ((mset u 0 8 0) 8 p0.toNatClampNeg) p1 1) = 0 then (1, (fX2_store (mset u 0 8 0) (p0.toNatClampNeg) p1 p2)) else ((fX3_faulty (mset u 0 8 0) (fX2_flaw (mset u 0 8 0) (p0.toNatClampNeg) ((mset u 0 8 0) 8 p0.toNatClampNeg) p1 1)).1, (fX3_faulty (mset u 0 8 0) (fX2_flaw (mset u 0 8 0) (p0.toNatClampNeg) ((mset u 0 8 0) 8 p0.toNatClampNeg) p1 1)).2)))
set_option maxRecDepth 100000 in
set_option maxHeartbeats 4000000 in
theorem kX3_put (l : Launch) (D : va_G) (cy : Nat → ClassId) (ad : Nat → Nat) (hI : XI ad) (u : Mem) (p0 : Int32) (p1 : Int32) (p2 : Int32) (hsz : SzOk u) : Met l yX3_put wsX3_put ({ frames := 2, cells := 0, slots := 0, locals := 45 } : Room) (va_Pc [.ref (ad 0), .int p0, .int p1, .int p2] (XB D cy ad u)) (qW (XB D cy ad (fX3_put u p0 p1 p2).2) (AX ad) (some (.int (fX3_put u p0 p1 p2).1))) 0 0 (AX ad) := by
  refine m_start (cc := cX3_put) (maxL := 5) (ret := (some .int)) (by decide) rfl (Nat.le_of_ble_eq_true rfl) (fun p e s m below meth c hx hb hr hts hown hml hlk _ hB ls hl => ?_)
  obtain ⟨hP, hK⟩ := hB
  have hown : s.vm.findClass RX3 = some m.cls := hown
  have hl : lv_has ls 5 [(0, .ref (ad 0)), (1, .int p0), (2, .int p1), (3, .int p2)] := hl
  have hin_X2 : ∀ w ∈ wsX20, w ∈ wsX3_put := fun _ h => List.mem_cons_of_mem _ (List.mem_append_right _ (h))
  have hin_X3 : ∀ w ∈ wsX30, w ∈ wsX3_put := fun _ h => List.mem_cons_of_mem _ (List.mem_append_left _ (List.mem_append_right _ (h)))
  obtain ⟨H, hH⟩ : ∃ H, H = s.heap := ⟨_, rfl⟩
  obtain ⟨locs, hlo⟩ : ∃ z : List Loc, z = [] := ⟨_, rfl⟩
  have hS : va_S (AX ad) s.heap H locs := by rw [hH, hlo]; exact va_S.rf
  have hP : va_P D vwCl (wX cy ad u) H := by rw [hH]; exact hP
  suffices hgoal : W p l e ({ frames := 2, cells := 0, slots := 0, locals := 45 } : Room) s m ([.ref (ad 0), .int p0, .int p1, .int p2] : List Value).toArray below meth c H locs 0 0 (MQ below (qW (XB D cy ad (fX3_put u p0 p1 p2).2) (AX ad) (some (.int (fX3_put u p0 p1 p2).1))) ([.ref (ad 0), .int p0, .int p1, .int p2] : List Value).toArray s 0 0 (AX ad)) (F0 m 0 ls []) by rw [hH, hlo] at hgoal; exact hgoal
  clear hH hlo
  refine lv_aload_n hx hb dX3_put_0 rfl (lv_at hl 0 rfl) ?_
  refine lv_iconst (v := 0) hx hb dX3_put_1 (by decide) ?_
  refine zp_X3_latestFault hx hb hts hin_X3 hown hK hP hI hS (hts (Cond.fieldLink RX3 46 "ProphetCover" "latestFault" "I") (List.mem_of_getElem? (i := 1) rfl)) dX3_put_2 (fun H locs hP hS => ?_)
  refine lv_iload_n hx hb dX3_put_5 rfl (lv_at hl 1 rfl) ?_
  refine kS (n := 1) (As := [.int p0]) (rest := []) ⟨hx, hb, hml, hown, hts⟩ (kX3_isSheet l p0) gX3_put_X3_isSheet rfl rfl rfl (by decide +kernel) ⟨Nat.le_of_ble_eq_true rfl, Nat.le_of_ble_eq_true rfl⟩ (fun _ _ _ => trivial) (fun _ _ _ _ _ => trivial) rfl hl.1 rfl (Nat.le_of_ble_eq_true rfl) dX3_put_6 ⟨Nat.le_refl _, Nat.le_refl _⟩ ?_
  refine lv_if_ne (tgt := 14) hx hb dX3_put_9 (by decide) (fun c1 => ?_) (fun c1 => ?_)
  · have hv1 : vp_in p0 4 := isSheet_in c1
    refine lv_aload_n hx hb dX3_put_14 rfl (lv_at hl 0 rfl) ?_
    refine zg_X3_sheets hx hb hts hin_X3 hown hK hP (hts (Cond.fieldLink RX3 13 "ProphetCover" "sheets" "[LProphetCover$Sheet;") (List.mem_of_getElem? (i := 2) rfl)) dX3_put_15 ?_
    refine lv_iload_n hx hb dX3_put_18 rfl (lv_at hl 1 rfl) ?_
    refine zl_sheets hx hb hK hP (by assumption) dX3_put_19 ?_
    refine lv_aload_n hx hb dX3_put_20 rfl (lv_at hl 0 rfl) ?_
    refine zg_X3_sheets hx hb hts hin_X3 hown hK hP (hts (Cond.fieldLink RX3 13 "ProphetCover" "sheets" "[LProphetCover$Sheet;") (List.mem_of_getElem? (i := 2) rfl)) dX3_put_21 ?_
    refine lv_iload_n hx hb dX3_put_24 rfl (lv_at hl 1 rfl) ?_
    refine zl_sheets hx hb hK hP (by assumption) dX3_put_25 ?_
    refine zg_X2_lane (vlt (n := 4) (i := p0) (by assumption)) hx hb hts hin_X2 hown hK hP (hts (Cond.fieldLink RX3 178 "ProphetCover$Sheet" "lane" "I") (List.mem_of_getElem? (i := 3) rfl)) dX3_put_26 ?_
    refine lv_iload_n hx hb dX3_put_29 rfl (lv_at hl 2 rfl) ?_
    refine lv_iconst (v := 1) hx hb dX3_put_30 (by decide) ?_
    refine kV (n := 3) (As := [.int ((mset u 0 8 0) 8 p0.toNatClampNeg), .int p1, .int 1]) (rest := []) ⟨hx, hb, hml, hown, hts⟩ (kX2_flaw l D cy ad (mset u 0 8 0) (p0.toNatClampNeg) ((mset u 0 8 0) 8 p0.toNatClampNeg) p1 1 (vlt (n := 4) (i := p0) (by assumption))) gX3_put_X2_flaw rfl rfl rfl (by decide +kernel) ⟨Nat.le_of_ble_eq_true rfl, Nat.le_of_ble_eq_true rfl⟩ (recvXs hP hK (vlt (n := 4) (i := p0) (by assumption))) (XB_of hP hK) XB_bl rfl hl.1 rfl (Nat.le_of_ble_eq_true rfl) dX3_put_31 ⟨Nat.le_refl _, Nat.le_refl _⟩ ?_
    refine lv_istore (lv' := [(4, .int (fX2_flaw (mset u 0 8 0) (p0.toNatClampNeg) ((mset u 0 8 0) 8 p0.toNatClampNeg) p1 1)), (0, .ref (ad 0)), (1, .int p0), (2, .int p1), (3, .int p2)]) hx hb dX3_put_34 hl (by decide) rfl (fun ls hl => ?_)
    refine lv_iload hx hb dX3_put_36 (lv_at hl 0 rfl) ?_
    refine lv_if_eq (tgt := 48) hx hb dX3_put_38 (by decide) (fun c2 => ?_) (fun c2 => ?_)
    · have hf2 : Rng p1 (p1 + 1) := flaw_rng (u := (mset u 0 8 0)) hsz (by first | assumption | exact vlt (by assumption)) c2
      refine lv_aload_n hx hb dX3_put_48 rfl (lv_at hl 1 rfl) ?_
      refine zg_X3_sheets hx hb hts hin_X3 hown hK hP (hts (Cond.fieldLink RX3 13 "ProphetCover" "sheets" "[LProphetCover$Sheet;") (List.mem_of_getElem? (i := 2) rfl)) dX3_put_49 ?_
      refine lv_iload_n hx hb dX3_put_52 rfl (lv_at hl 2 rfl) ?_
      refine zl_sheets hx hb hK hP (by assumption) dX3_put_53 ?_
      refine lv_iload_n hx hb dX3_put_54 rfl (lv_at hl 3 rfl) ?_
      refine lv_iload_n hx hb dX3_put_55 rfl (lv_at hl 4 rfl) ?_
      refine kWXv (n := 2) (As := [.int p1, .int p2]) (rest := []) ⟨hx, hb, hml, hown, hts⟩ (kX2_store l D cy ad hI (mset u 0 8 0) (p0.toNatClampNeg) p1 p2 (vlt (n := 4) (i := p0) (by assumption)) (by first | exact hsz | assumption)) gX3_put_X2_store rfl rfl rfl (by decide +kernel) ⟨Nat.le_of_ble_eq_true rfl, Nat.le_of_ble_eq_true rfl⟩ (recvXs hP hK (vlt (n := 4) (i := p0) (by assumption))) hP hK hS rfl hl.1 rfl (Nat.le_of_ble_eq_true rfl) dX3_put_56 ⟨Nat.le_refl _, Nat.le_refl _⟩ (fun H locs hP hS => ?_)
      refine lv_iconst (v := 1) hx hb dX3_put_59 (by decide) ?_
      exact rXI hx hb hr hlk hK hP hS dX3_put_60 (by rw [fX3_put, if_neg c1, if_pos c2])
    · refine lv_aload_n hx hb dX3_put_41 rfl (lv_at hl 1 rfl) ?_
      refine lv_iload hx hb dX3_put_42 (lv_at hl 0 rfl) ?_
      refine kWX (n := 1) (As := [.int (fX2_flaw (mset u 0 8 0) (p0.toNatClampNeg) ((mset u 0 8 0) 8 p0.toNatClampNeg) p1 1)]) (rest := []) ⟨hx, hb, hml, hown, hts⟩ (kX3_faulty l D cy ad hI (mset u 0 8 0) (fX2_flaw (mset u 0 8 0) (p0.toNatClampNeg) ((mset u 0 8 0) 8 p0.toNatClampNeg) p1 1)) gX3_put_X3_faulty rfl rfl rfl (by decide +kernel) ⟨Nat.le_of_ble_eq_true rfl, Nat.le_of_ble_eq_true rfl⟩ (recvX hP hK) hP hK hS rfl hl.1 rfl (Nat.le_of_ble_eq_true rfl) dX3_put_44 ⟨Nat.le_refl _, Nat.le_refl _⟩ (fun H locs hP hS => ?_)
      exact rXI hx hb hr hlk hK hP hS dX3_put_47 (by rw [fX3_put, if_neg c1, if_neg c2])
  · refine lv_iconst (v := (-1)) hx hb dX3_put_12 (by decide) ?_
    exact rXI hx hb hr hlk hK hP hS dX3_put_13 (by rw [fX3_put, if_pos c1])
def fX3_cell (u : Mem) (p0 : Int32) (p1 : Int32) (p2 : Int32) : Int64 × Mem :=
  (if (fX3_isSheet p0) = 0 then ((-9223372036854775808), (mset u 0 8 0)) else (if (fX3_isLane p2) = 0 then ((-9223372036854775808), (mset u 0 8 0)) else (if ((mset (mset u 0 8 0) 0 8 (fX2_flaw (mset u 0 8 0) (p0.toNatClampNeg) p2 p1 1)) 0 8) = 0 then ((((mset (mset u 0 8 0) 0 8 (fX2_flaw (mset u 0 8 0) (p0.toNatClampNeg) p2 p1 1)) (10 + p0.toNatClampNeg) p1.toNatClampNeg)).toInt64, (mset (mset u 0 8 0) 0 8 (fX2_flaw (mset u 0 8 0) (p0.toNatClampNeg) p2 p1 1))) else ((-9223372036854775808), (mset (mset u 0 8 0) 0 8 (fX2_flaw (mset u 0 8 0) (p0.toNatClampNeg) p2 p1 1))))))
set_option maxRecDepth 100000 in
set_option maxHeartbeats 4000000 in
theorem kX3_cell (l : Launch) (D : va_G) (cy : Nat → ClassId) (ad : Nat → Nat) (hI : XI ad) (u : Mem) (p0 : Int32) (p1 : Int32) (p2 : Int32) (hsz : SzOk u) : Met l yX3_cell wsX3_cell ({ frames := 2, cells := 0, slots := 0, locals := 45 } : Room) (va_Pc [.ref (ad 0), .int p0, .int p1, .int p2] (XB D cy ad u)) (qW (XB D cy ad (fX3_cell u p0 p1 p2).2) (AX ad) (some (.long (fX3_cell u p0 p1 p2).1))) 0 0 (AX ad) := by
  refine m_start (cc := cX3_cell) (maxL := 4) (ret := (some .long)) (by decide) rfl (Nat.le_of_ble_eq_true rfl) (fun p e s m below meth c hx hb hr hts hown hml hlk _ hB ls hl => ?_)
  obtain ⟨hP, hK⟩ := hB
  have hown : s.vm.findClass RX3 = some m.cls := hown
  have hl : lv_has ls 4 [(0, .ref (ad 0)), (1, .int p0), (2, .int p1), (3, .int p2)] := hl
  have hin_X2 : ∀ w ∈ wsX20, w ∈ wsX3_cell := fun _ h => List.mem_cons_of_mem _ (List.mem_append_right _ (h))
  have hin_X3 : ∀ w ∈ wsX30, w ∈ wsX3_cell := fun _ h => List.mem_cons_of_mem _ (List.mem_append_left _ (List.mem_append_right _ (h)))
  obtain ⟨H, hH⟩ : ∃ H, H = s.heap := ⟨_, rfl⟩
  obtain ⟨locs, hlo⟩ : ∃ z : List Loc, z = [] := ⟨_, rfl⟩
  have hS : va_S (AX ad) s.heap H locs := by rw [hH, hlo]; exact va_S.rf
  have hP : va_P D vwCl (wX cy ad u) H := by rw [hH]; exact hP
  suffices hgoal : W p l e ({ frames := 2, cells := 0, slots := 0, locals := 45 } : Room) s m ([.ref (ad 0), .int p0, .int p1, .int p2] : List Value).toArray below meth c H locs 0 0 (MQ below (qW (XB D cy ad (fX3_cell u p0 p1 p2).2) (AX ad) (some (.long (fX3_cell u p0 p1 p2).1))) ([.ref (ad 0), .int p0, .int p1, .int p2] : List Value).toArray s 0 0 (AX ad)) (F0 m 0 ls []) by rw [hH, hlo] at hgoal; exact hgoal
  clear hH hlo
  refine lv_aload_n hx hb dX3_cell_0 rfl (lv_at hl 0 rfl) ?_
  refine lv_iconst (v := 0) hx hb dX3_cell_1 (by decide) ?_
  refine zp_X3_latestFault hx hb hts hin_X3 hown hK hP hI hS (hts (Cond.fieldLink RX3 46 "ProphetCover" "latestFault" "I") (List.mem_of_getElem? (i := 1) rfl)) dX3_cell_2 (fun H locs hP hS => ?_)
  refine lv_iload_n hx hb dX3_cell_5 rfl (lv_at hl 1 rfl) ?_
  refine kS (n := 1) (As := [.int p0]) (rest := []) ⟨hx, hb, hml, hown, hts⟩ (kX3_isSheet l p0) gX3_cell_X3_isSheet rfl rfl rfl (by decide +kernel) ⟨Nat.le_of_ble_eq_true rfl, Nat.le_of_ble_eq_true rfl⟩ (fun _ _ _ => trivial) (fun _ _ _ _ _ => trivial) rfl hl.1 rfl (Nat.le_of_ble_eq_true rfl) dX3_cell_6 ⟨Nat.le_refl _, Nat.le_refl _⟩ ?_
  refine lv_if_eq (tgt := 19) hx hb dX3_cell_9 (by decide) (fun c1 => ?_) (fun c1 => ?_)
  · refine lv_ldc2 hx hb hown (hts (Cond.constantLong RX3 132 (-9223372036854775808)) (List.mem_of_getElem? (i := 2) rfl)) dX3_cell_19 ?_
    exact rXL hx hb hr hlk hK hP hS dX3_cell_22 (by rw [fX3_cell, if_pos c1])
  · have hv1 : vp_in p0 4 := isSheet_in c1
    refine lv_iload_n hx hb dX3_cell_12 rfl (lv_at hl 3 rfl) ?_
    refine kS (n := 1) (As := [.int p2]) (rest := []) ⟨hx, hb, hml, hown, hts⟩ (kX3_isLane l p2) gX3_cell_X3_isLane rfl rfl rfl (by decide +kernel) ⟨Nat.le_of_ble_eq_true rfl, Nat.le_of_ble_eq_true rfl⟩ (fun _ _ _ => trivial) (fun _ _ _ _ _ => trivial) rfl hl.1 rfl (Nat.le_of_ble_eq_true rfl) dX3_cell_13 ⟨Nat.le_refl _, Nat.le_refl _⟩ ?_
    refine lv_if_ne (tgt := 23) hx hb dX3_cell_16 (by decide) (fun c2 => ?_) (fun c2 => ?_)
    · refine lv_aload_n hx hb dX3_cell_23 rfl (lv_at hl 0 rfl) ?_
      refine lv_aload_n hx hb dX3_cell_24 rfl (lv_at hl 0 rfl) ?_
      refine zg_X3_sheets hx hb hts hin_X3 hown hK hP (hts (Cond.fieldLink RX3 13 "ProphetCover" "sheets" "[LProphetCover$Sheet;") (List.mem_of_getElem? (i := 3) rfl)) dX3_cell_25 ?_
      refine lv_iload_n hx hb dX3_cell_28 rfl (lv_at hl 1 rfl) ?_
      refine zl_sheets hx hb hK hP (by assumption) dX3_cell_29 ?_
      refine lv_iload_n hx hb dX3_cell_30 rfl (lv_at hl 3 rfl) ?_
      refine lv_iload_n hx hb dX3_cell_31 rfl (lv_at hl 2 rfl) ?_
      refine lv_iconst (v := 1) hx hb dX3_cell_32 (by decide) ?_
      refine kV (n := 3) (As := [.int p2, .int p1, .int 1]) (rest := [.ref (ad 0)]) ⟨hx, hb, hml, hown, hts⟩ (kX2_flaw l D cy ad (mset u 0 8 0) (p0.toNatClampNeg) p2 p1 1 (vlt (n := 4) (i := p0) (by assumption))) gX3_cell_X2_flaw rfl rfl rfl (by decide +kernel) ⟨Nat.le_of_ble_eq_true rfl, Nat.le_of_ble_eq_true rfl⟩ (recvXs hP hK (vlt (n := 4) (i := p0) (by assumption))) (XB_of hP hK) XB_bl rfl hl.1 rfl (Nat.le_of_ble_eq_true rfl) dX3_cell_33 ⟨Nat.le_refl _, Nat.le_refl _⟩ ?_
      refine zp_X3_latestFault hx hb hts hin_X3 hown hK hP hI hS (hts (Cond.fieldLink RX3 46 "ProphetCover" "latestFault" "I") (List.mem_of_getElem? (i := 1) rfl)) dX3_cell_36 (fun H locs hP hS => ?_)
      refine lv_aload_n hx hb dX3_cell_39 rfl (lv_at hl 0 rfl) ?_
      refine zg_X3_latestFault hx hb hts hin_X3 hown hK hP (hts (Cond.fieldLink RX3 46 "ProphetCover" "latestFault" "I") (List.mem_of_getElem? (i := 1) rfl)) dX3_cell_40 ?_
      refine lv_if_ne (tgt := 61) hx hb dX3_cell_43 (by decide) (fun c3 => ?_) (fun c3 => ?_)
      · refine lv_ldc2 hx hb hown (hts (Cond.constantLong RX3 132 (-9223372036854775808)) (List.mem_of_getElem? (i := 2) rfl)) dX3_cell_61 ?_
        exact rXL hx hb hr hlk hK hP hS dX3_cell_64 (by rw [fX3_cell, if_neg c1, if_neg c2, if_neg c3])
      · have hfc : Rng p1 (p1 + 1) := flaw_rng (u := (mset u 0 8 0)) hsz (vlt (by assumption)) c3
        have hvc : vp_in p1 60 := rng_in hfc
        refine lv_aload_n hx hb dX3_cell_46 rfl (lv_at hl 0 rfl) ?_
        refine zg_X3_sheets hx hb hts hin_X3 hown hK hP (hts (Cond.fieldLink RX3 13 "ProphetCover" "sheets" "[LProphetCover$Sheet;") (List.mem_of_getElem? (i := 3) rfl)) dX3_cell_47 ?_
        refine lv_iload_n hx hb dX3_cell_50 rfl (lv_at hl 1 rfl) ?_
        refine zl_sheets hx hb hK hP (by assumption) dX3_cell_51 ?_
        refine zg_X2_cells (vlt (n := 4) (i := p0) (by assumption)) hx hb hts hin_X2 hown hK hP (hts (Cond.fieldLink RX3 67 "ProphetCover$Sheet" "cells" "[I") (List.mem_of_getElem? (i := 4) rfl)) dX3_cell_52 ?_
        refine lv_iload_n hx hb dX3_cell_55 rfl (lv_at hl 2 rfl) ?_
        refine zl_ce (vlt (n := 4) (i := p0) (by assumption)) hx hb hK hP (by assumption) dX3_cell_56 ?_
        refine lv_i2l hx hb dX3_cell_57 rfl ?_
        refine lv_goto (tgt := 64) hx hb dX3_cell_58 (by decide) ?_
        exact rXL hx hb hr hlk hK hP hS dX3_cell_64 (by rw [fX3_cell, if_neg c1, if_neg c2, if_pos c3])
    · refine lv_ldc2 hx hb hown (hts (Cond.constantLong RX3 132 (-9223372036854775808)) (List.mem_of_getElem? (i := 2) rfl)) dX3_cell_19 ?_
      exact rXL hx hb hr hlk hK hP hS dX3_cell_22 (by rw [fX3_cell, if_neg c1, if_pos c2])
def fX3_copy (u : Mem) (p0 : Int32) (p1 : Int32) (p2 : Int32) (p3 : Int32) (p4 : Int32) : Int32 × Mem :=
  (if (fX3_isSheet p0) = 0 then ((-1), (mset u 0 8 0)) else (if (fX3_isSheet p2) = 0 then ((-1), (mset u 0 8 0)) else (if (fX2_isEmpty (mset u 0 8 0) (p0.toNatClampNeg)) = 0 then (if (fX2_isEmpty (mset u 0 8 0) (p2.toNatClampNeg)) = 0 then (if ((mset u 0 8 0) 8 p0.toNatClampNeg) = ((mset u 0 8 0) 8 p2.toNatClampNeg) then (if (fX2_reaches (mset u 0 8 0) (p0.toNatClampNeg) p1 p4) = 0 then ((fX3_faulty (mset u 0 8 0) 3).1, (fX3_faulty (mset u 0 8 0) 3).2) else (if (fX2_reaches (mset u 0 8 0) (p2.toNatClampNeg) p3 p4) = 0 then ((fX3_faulty (mset u 0 8 0) 3).1, (fX3_faulty (mset u 0 8 0) 3).2) else (p4, (mrow (mset u 0 8 0) (10 + p2.toNatClampNeg) (va_cpy ((mset u 0 8 0) (10 + p0.toNatClampNeg)) ((mset u 0 8 0) (10 + p2.toNatClampNeg)) p1.toNatClampNeg p3.toNatClampNeg p4.toNatClampNeg))))) else ((fX3_faulty (mset u 0 8 0) 2).1, (fX3_faulty (mset u 0 8 0) 2).2)) else ((fX3_faulty (mset u 0 8 0) 1).1, (fX3_faulty (mset u 0 8 0) 1).2)) else ((fX3_faulty (mset u 0 8 0) 1).1, (fX3_faulty (mset u 0 8 0) 1).2))))
set_option maxRecDepth 100000 in
set_option maxHeartbeats 4000000 in
theorem kX3_copy (l : Launch) (D : va_G) (cy : Nat → ClassId) (ad : Nat → Nat) (hI : XI ad) (u : Mem) (p0 : Int32) (p1 : Int32) (p2 : Int32) (p3 : Int32) (p4 : Int32) (hsz : SzOk u) : Met l yX3_copy wsX3_copy ({ frames := 1, cells := 0, slots := 0, locals := 26 } : Room) (va_Pc [.ref (ad 0), .int p0, .int p1, .int p2, .int p3, .int p4] (XB D cy ad u)) (qW (XB D cy ad (fX3_copy u p0 p1 p2 p3 p4).2) (AX ad) (some (.int (fX3_copy u p0 p1 p2 p3 p4).1))) 0 0 (AX ad) := by
  refine m_start (cc := cX3_copy) (maxL := 8) (ret := (some .int)) (by decide) rfl (Nat.le_of_ble_eq_true rfl) (fun p e s m below meth c hx hb hr hts hown hml hlk _ hB ls hl => ?_)
  obtain ⟨hP, hK⟩ := hB
  have hown : s.vm.findClass RX3 = some m.cls := hown
  have hl : lv_has ls 8 [(0, .ref (ad 0)), (1, .int p0), (2, .int p1), (3, .int p2), (4, .int p3), (5, .int p4)] := hl
  have hin_X2 : ∀ w ∈ wsX20, w ∈ wsX3_copy := fun _ h => List.mem_cons_of_mem _ (List.mem_append_right _ (h))
  have hin_X3 : ∀ w ∈ wsX30, w ∈ wsX3_copy := fun _ h => List.mem_cons_of_mem _ (List.mem_append_left _ (List.mem_append_right _ (h)))
  obtain ⟨H, hH⟩ : ∃ H, H = s.heap := ⟨_, rfl⟩
  obtain ⟨locs, hlo⟩ : ∃ z : List Loc, z = [] := ⟨_, rfl⟩
  have hS : va_S (AX ad) s.heap H locs := by rw [hH, hlo]; exact va_S.rf
  have hP : va_P D vwCl (wX cy ad u) H := by rw [hH]; exact hP
  suffices hgoal : W p l e ({ frames := 1, cells := 0, slots := 0, locals := 26 } : Room) s m ([.ref (ad 0), .int p0, .int p1, .int p2, .int p3, .int p4] : List Value).toArray below meth c H locs 0 0 (MQ below (qW (XB D cy ad (fX3_copy u p0 p1 p2 p3 p4).2) (AX ad) (some (.int (fX3_copy u p0 p1 p2 p3 p4).1))) ([.ref (ad 0), .int p0, .int p1, .int p2, .int p3, .int p4] : List Value).toArray s 0 0 (AX ad)) (F0 m 0 ls []) by rw [hH, hlo] at hgoal; exact hgoal
  clear hH hlo
  refine lv_aload_n hx hb dX3_copy_0 rfl (lv_at hl 0 rfl) ?_
  refine lv_iconst (v := 0) hx hb dX3_copy_1 (by decide) ?_
  refine zp_X3_latestFault hx hb hts hin_X3 hown hK hP hI hS (hts (Cond.fieldLink RX3 46 "ProphetCover" "latestFault" "I") (List.mem_of_getElem? (i := 1) rfl)) dX3_copy_2 (fun H locs hP hS => ?_)
  refine lv_iload_n hx hb dX3_copy_5 rfl (lv_at hl 1 rfl) ?_
  refine kS (n := 1) (As := [.int p0]) (rest := []) ⟨hx, hb, hml, hown, hts⟩ (kX3_isSheet l p0) gX3_copy_X3_isSheet rfl rfl rfl (by decide +kernel) ⟨Nat.le_of_ble_eq_true rfl, Nat.le_of_ble_eq_true rfl⟩ (fun _ _ _ => trivial) (fun _ _ _ _ _ => trivial) rfl hl.1 rfl (Nat.le_of_ble_eq_true rfl) dX3_copy_6 ⟨Nat.le_refl _, Nat.le_refl _⟩ ?_
  refine lv_if_eq (tgt := 19) hx hb dX3_copy_9 (by decide) (fun c1 => ?_) (fun c1 => ?_)
  · refine lv_iconst (v := (-1)) hx hb dX3_copy_19 (by decide) ?_
    exact rXI hx hb hr hlk hK hP hS dX3_copy_20 (by rw [fX3_copy, if_pos c1])
  · have hv1 : vp_in p0 4 := isSheet_in c1
    refine lv_iload_n hx hb dX3_copy_12 rfl (lv_at hl 3 rfl) ?_
    refine kS (n := 1) (As := [.int p2]) (rest := []) ⟨hx, hb, hml, hown, hts⟩ (kX3_isSheet l p2) gX3_copy_X3_isSheet rfl rfl rfl (by decide +kernel) ⟨Nat.le_of_ble_eq_true rfl, Nat.le_of_ble_eq_true rfl⟩ (fun _ _ _ => trivial) (fun _ _ _ _ _ => trivial) rfl hl.1 rfl (Nat.le_of_ble_eq_true rfl) dX3_copy_13 ⟨Nat.le_refl _, Nat.le_refl _⟩ ?_
    refine lv_if_ne (tgt := 21) hx hb dX3_copy_16 (by decide) (fun c2 => ?_) (fun c2 => ?_)
    · have hv2 : vp_in p2 4 := isSheet_in c2
      refine lv_aload_n hx hb dX3_copy_21 rfl (lv_at hl 0 rfl) ?_
      refine zg_X3_sheets hx hb hts hin_X3 hown hK hP (hts (Cond.fieldLink RX3 13 "ProphetCover" "sheets" "[LProphetCover$Sheet;") (List.mem_of_getElem? (i := 2) rfl)) dX3_copy_22 ?_
      refine lv_iload_n hx hb dX3_copy_25 rfl (lv_at hl 1 rfl) ?_
      refine zl_sheets hx hb hK hP (by assumption) dX3_copy_26 ?_
      refine lv_astore (lv' := [(6, .ref (ad (5 + p0.toNatClampNeg))), (0, .ref (ad 0)), (1, .int p0), (2, .int p1), (3, .int p2), (4, .int p3), (5, .int p4)]) hx hb dX3_copy_27 hl (by decide) rfl (fun ls hl => ?_)
      refine lv_aload_n hx hb dX3_copy_29 rfl (lv_at hl 1 rfl) ?_
      refine zg_X3_sheets hx hb hts hin_X3 hown hK hP (hts (Cond.fieldLink RX3 13 "ProphetCover" "sheets" "[LProphetCover$Sheet;") (List.mem_of_getElem? (i := 2) rfl)) dX3_copy_30 ?_
      refine lv_iload_n hx hb dX3_copy_33 rfl (lv_at hl 4 rfl) ?_
      refine zl_sheets hx hb hK hP (by assumption) dX3_copy_34 ?_
      refine lv_astore (lv' := [(7, .ref (ad (5 + p2.toNatClampNeg))), (6, .ref (ad (5 + p0.toNatClampNeg))), (0, .ref (ad 0)), (1, .int p0), (2, .int p1), (3, .int p2), (4, .int p3), (5, .int p4)]) hx hb dX3_copy_35 hl (by decide) rfl (fun ls hl => ?_)
      refine lv_aload hx hb dX3_copy_37 (lv_at hl 1 rfl) ?_
      refine kV (n := 0) (As := []) (rest := []) ⟨hx, hb, hml, hown, hts⟩ (kX2_isEmpty l D cy ad (mset u 0 8 0) (p0.toNatClampNeg) (vlt (n := 4) (i := p0) (by assumption))) gX3_copy_X2_isEmpty rfl rfl rfl (by decide +kernel) ⟨Nat.le_of_ble_eq_true rfl, Nat.le_of_ble_eq_true rfl⟩ (recvXs hP hK (vlt (n := 4) (i := p0) (by assumption))) (XB_of hP hK) XB_bl rfl hl.1 rfl (Nat.le_of_ble_eq_true rfl) dX3_copy_39 ⟨Nat.le_refl _, Nat.le_refl _⟩ ?_
      refine lv_if_ne (tgt := 53) hx hb dX3_copy_42 (by decide) (fun c3 => ?_) (fun c3 => ?_)
      · refine lv_aload_n hx hb dX3_copy_53 rfl (lv_at hl 2 rfl) ?_
        refine lv_iconst (v := 1) hx hb dX3_copy_54 (by decide) ?_
        refine kWX (n := 1) (As := [.int 1]) (rest := []) ⟨hx, hb, hml, hown, hts⟩ (kX3_faulty l D cy ad hI (mset u 0 8 0) 1) gX3_copy_X3_faulty rfl rfl rfl (by decide +kernel) ⟨Nat.le_of_ble_eq_true rfl, Nat.le_of_ble_eq_true rfl⟩ (recvX hP hK) hP hK hS rfl hl.1 rfl (Nat.le_of_ble_eq_true rfl) dX3_copy_55 ⟨Nat.le_refl _, Nat.le_refl _⟩ (fun H locs hP hS => ?_)
        exact rXI hx hb hr hlk hK hP hS dX3_copy_58 (by rw [fX3_copy, if_neg c1, if_neg c2, if_neg c3])
      · refine lv_aload hx hb dX3_copy_45 (lv_at hl 0 rfl) ?_
        refine kV (n := 0) (As := []) (rest := []) ⟨hx, hb, hml, hown, hts⟩ (kX2_isEmpty l D cy ad (mset u 0 8 0) (p2.toNatClampNeg) (vlt (n := 4) (i := p2) (by assumption))) gX3_copy_X2_isEmpty rfl rfl rfl (by decide +kernel) ⟨Nat.le_of_ble_eq_true rfl, Nat.le_of_ble_eq_true rfl⟩ (recvXs hP hK (vlt (n := 4) (i := p2) (by assumption))) (XB_of hP hK) XB_bl rfl hl.1 rfl (Nat.le_of_ble_eq_true rfl) dX3_copy_47 ⟨Nat.le_refl _, Nat.le_refl _⟩ ?_
        refine lv_if_eq (tgt := 59) hx hb dX3_copy_50 (by decide) (fun c4 => ?_) (fun c4 => ?_)
        · refine lv_aload hx hb dX3_copy_59 (lv_at hl 1 rfl) ?_
          refine zg_X2_lane (vlt (n := 4) (i := p0) (by assumption)) hx hb hts hin_X2 hown hK hP (hts (Cond.fieldLink RX3 178 "ProphetCover$Sheet" "lane" "I") (List.mem_of_getElem? (i := 3) rfl)) dX3_copy_61 ?_
          refine lv_aload hx hb dX3_copy_64 (lv_at hl 0 rfl) ?_
          refine zg_X2_lane (vlt (n := 4) (i := p2) (by assumption)) hx hb hts hin_X2 hown hK hP (hts (Cond.fieldLink RX3 178 "ProphetCover$Sheet" "lane" "I") (List.mem_of_getElem? (i := 3) rfl)) dX3_copy_66 ?_
          refine lv_icmp_eq (tgt := 78) hx hb dX3_copy_69 (by decide) (fun c5 => ?_) (fun c5 => ?_)
          · refine lv_aload hx hb dX3_copy_78 (lv_at hl 1 rfl) ?_
            refine lv_iload_n hx hb dX3_copy_80 rfl (lv_at hl 4 rfl) ?_
            refine lv_iload hx hb dX3_copy_81 (lv_at hl 7 rfl) ?_
            refine kV (n := 2) (As := [.int p1, .int p4]) (rest := []) ⟨hx, hb, hml, hown, hts⟩ (kX2_reaches l D cy ad (mset u 0 8 0) (p0.toNatClampNeg) p1 p4 (vlt (n := 4) (i := p0) (by assumption))) gX3_copy_X2_reaches rfl rfl rfl (by decide +kernel) ⟨Nat.le_of_ble_eq_true rfl, Nat.le_of_ble_eq_true rfl⟩ (recvXs hP hK (vlt (n := 4) (i := p0) (by assumption))) (XB_of hP hK) XB_bl rfl hl.1 rfl (Nat.le_of_ble_eq_true rfl) dX3_copy_83 ⟨Nat.le_refl _, Nat.le_refl _⟩ ?_
            refine lv_if_eq (tgt := 101) hx hb dX3_copy_86 (by decide) (fun c6 => ?_) (fun c6 => ?_)
            · refine lv_aload_n hx hb dX3_copy_101 rfl (lv_at hl 2 rfl) ?_
              refine lv_iconst (v := 3) hx hb dX3_copy_102 (by decide) ?_
              refine kWX (n := 1) (As := [.int 3]) (rest := []) ⟨hx, hb, hml, hown, hts⟩ (kX3_faulty l D cy ad hI (mset u 0 8 0) 3) gX3_copy_X3_faulty rfl rfl rfl (by decide +kernel) ⟨Nat.le_of_ble_eq_true rfl, Nat.le_of_ble_eq_true rfl⟩ (recvX hP hK) hP hK hS rfl hl.1 rfl (Nat.le_of_ble_eq_true rfl) dX3_copy_103 ⟨Nat.le_refl _, Nat.le_refl _⟩ (fun H locs hP hS => ?_)
              exact rXI hx hb hr hlk hK hP hS dX3_copy_106 (by rw [fX3_copy, if_neg c1, if_neg c2, if_pos c3, if_pos c4, if_pos c5, if_pos c6])
            · refine lv_aload hx hb dX3_copy_89 (lv_at hl 0 rfl) ?_
              refine lv_iload hx hb dX3_copy_91 (lv_at hl 6 rfl) ?_
              refine lv_iload hx hb dX3_copy_93 (lv_at hl 7 rfl) ?_
              refine kV (n := 2) (As := [.int p3, .int p4]) (rest := []) ⟨hx, hb, hml, hown, hts⟩ (kX2_reaches l D cy ad (mset u 0 8 0) (p2.toNatClampNeg) p3 p4 (vlt (n := 4) (i := p2) (by assumption))) gX3_copy_X2_reaches rfl rfl rfl (by decide +kernel) ⟨Nat.le_of_ble_eq_true rfl, Nat.le_of_ble_eq_true rfl⟩ (recvXs hP hK (vlt (n := 4) (i := p2) (by assumption))) (XB_of hP hK) XB_bl rfl hl.1 rfl (Nat.le_of_ble_eq_true rfl) dX3_copy_95 ⟨Nat.le_refl _, Nat.le_refl _⟩ ?_
              refine lv_if_ne (tgt := 107) hx hb dX3_copy_98 (by decide) (fun c7 => ?_) (fun c7 => ?_)
              · obtain ⟨hq1, hq2, hq3⟩ := reach_cpy (u := (mset u 0 8 0)) (k := p0.toNatClampNeg) hsz (vlt (by assumption)) (by assumption)
                obtain ⟨hq4, hq5, hq6⟩ := reach_cpy (u := (mset u 0 8 0)) (k := p2.toNatClampNeg) hsz (vlt (by assumption)) c7
                refine lv_aload hx hb dX3_copy_107 (lv_at hl 1 rfl) ?_
                refine zg_X2_cells (vlt (n := 4) (i := p0) (by assumption)) hx hb hts hin_X2 hown hK hP (hts (Cond.fieldLink RX3 67 "ProphetCover$Sheet" "cells" "[I") (List.mem_of_getElem? (i := 4) rfl)) dX3_copy_109 ?_
                refine lv_iload_n hx hb dX3_copy_112 rfl (lv_at hl 4 rfl) ?_
                refine lv_aload hx hb dX3_copy_113 (lv_at hl 0 rfl) ?_
                refine zg_X2_cells (vlt (n := 4) (i := p2) (by assumption)) hx hb hts hin_X2 hown hK hP (hts (Cond.fieldLink RX3 67 "ProphetCover$Sheet" "cells" "[I") (List.mem_of_getElem? (i := 4) rfl)) dX3_copy_115 ?_
                refine lv_iload hx hb dX3_copy_118 (lv_at hl 6 rfl) ?_
                refine lv_iload hx hb dX3_copy_120 (lv_at hl 7 rfl) ?_
                refine va_copyi (D := D) hx hb (hml.trans hl.1.symm) hown (hts (Cond.methodLink RX3 187 arraycopyName) (List.mem_of_getElem? (i := 5) rfl)) (hts (Cond.native arraycopyName) (List.mem_of_getElem? (i := 6) rfl)) (hts (Cond.static arraycopyName) (List.mem_of_getElem? (i := 7) rfl)) (hts (Cond.initialized "java/lang/System") (List.mem_of_getElem? (i := 8) rfl)) hK hP (xD hI) hS (9 + p0.toNatClampNeg) (9 + p2.toNatClampNeg) 0 0 (wX_e (by have := (vlt (n := 4) (i := p0) (by assumption)); omega) (eX_ce (vlt (n := 4) (i := p0) (by assumption)))) (wX_e (by have := (vlt (n := 4) (i := p2) (by assumption)); omega) (eX_ce (vlt (n := 4) (i := p2) (by assumption)))) rfl rfl rfl (by assumption) (by assumption) (by assumption) (by assumption) (by assumption) (fun _ _ => rfl) (Nat.le_of_ble_eq_true rfl) (Nat.le_of_ble_eq_true rfl) dX3_copy_122 (fun H locs hP _ hS => ?_)
                have hP : va_P D vwCl (wX cy ad (mrow (mset u 0 8 0) (10 + p2.toNatClampNeg) (va_cpy ((mset u 0 8 0) (10 + p0.toNatClampNeg)) ((mset u 0 8 0) (10 + p2.toNatClampNeg)) p1.toNatClampNeg p3.toNatClampNeg p4.toNatClampNeg))) H := (us_row (vlt (n := 4) (i := p2) (by assumption))) ▸ hP
                refine lv_iload hx hb dX3_copy_125 (lv_at hl 7 rfl) ?_
                exact rXI hx hb hr hlk hK hP hS dX3_copy_127 (by rw [fX3_copy, if_neg c1, if_neg c2, if_pos c3, if_pos c4, if_pos c5, if_neg c6, if_neg c7])
              · refine lv_aload_n hx hb dX3_copy_101 rfl (lv_at hl 2 rfl) ?_
                refine lv_iconst (v := 3) hx hb dX3_copy_102 (by decide) ?_
                refine kWX (n := 1) (As := [.int 3]) (rest := []) ⟨hx, hb, hml, hown, hts⟩ (kX3_faulty l D cy ad hI (mset u 0 8 0) 3) gX3_copy_X3_faulty rfl rfl rfl (by decide +kernel) ⟨Nat.le_of_ble_eq_true rfl, Nat.le_of_ble_eq_true rfl⟩ (recvX hP hK) hP hK hS rfl hl.1 rfl (Nat.le_of_ble_eq_true rfl) dX3_copy_103 ⟨Nat.le_refl _, Nat.le_refl _⟩ (fun H locs hP hS => ?_)
                exact rXI hx hb hr hlk hK hP hS dX3_copy_106 (by rw [fX3_copy, if_neg c1, if_neg c2, if_pos c3, if_pos c4, if_pos c5, if_neg c6, if_pos c7])
          · refine lv_aload_n hx hb dX3_copy_72 rfl (lv_at hl 2 rfl) ?_
            refine lv_iconst (v := 2) hx hb dX3_copy_73 (by decide) ?_
            refine kWX (n := 1) (As := [.int 2]) (rest := []) ⟨hx, hb, hml, hown, hts⟩ (kX3_faulty l D cy ad hI (mset u 0 8 0) 2) gX3_copy_X3_faulty rfl rfl rfl (by decide +kernel) ⟨Nat.le_of_ble_eq_true rfl, Nat.le_of_ble_eq_true rfl⟩ (recvX hP hK) hP hK hS rfl hl.1 rfl (Nat.le_of_ble_eq_true rfl) dX3_copy_74 ⟨Nat.le_refl _, Nat.le_refl _⟩ (fun H locs hP hS => ?_)
            exact rXI hx hb hr hlk hK hP hS dX3_copy_77 (by rw [fX3_copy, if_neg c1, if_neg c2, if_pos c3, if_pos c4, if_neg c5])
        · refine lv_aload_n hx hb dX3_copy_53 rfl (lv_at hl 2 rfl) ?_
          refine lv_iconst (v := 1) hx hb dX3_copy_54 (by decide) ?_
          refine kWX (n := 1) (As := [.int 1]) (rest := []) ⟨hx, hb, hml, hown, hts⟩ (kX3_faulty l D cy ad hI (mset u 0 8 0) 1) gX3_copy_X3_faulty rfl rfl rfl (by decide +kernel) ⟨Nat.le_of_ble_eq_true rfl, Nat.le_of_ble_eq_true rfl⟩ (recvX hP hK) hP hK hS rfl hl.1 rfl (Nat.le_of_ble_eq_true rfl) dX3_copy_55 ⟨Nat.le_refl _, Nat.le_refl _⟩ (fun H locs hP hS => ?_)
          exact rXI hx hb hr hlk hK hP hS dX3_copy_58 (by rw [fX3_copy, if_neg c1, if_neg c2, if_pos c3, if_neg c4])
    · refine lv_iconst (v := (-1)) hx hb dX3_copy_19 (by decide) ?_
      exact rXI hx hb hr hlk hK hP hS dX3_copy_20 (by rw [fX3_copy, if_neg c1, if_pos c2])
def fX3_leaveInTrace (u : Mem) (p0 : Int32) : Mem :=
  (mset u 0 7 ((31 * (u 0 7)) + p0))
set_option maxRecDepth 100000 in
set_option maxHeartbeats 4000000 in
theorem kX3_leaveInTrace (l : Launch) (D : va_G) (cy : Nat → ClassId) (ad : Nat → Nat) (hI : XI ad) (u : Mem) (p0 : Int32)  : Met l yX3_leaveInTrace wsX3_leaveInTrace ({ frames := 0, cells := 0, slots := 0, locals := 0 } : Room) (va_Pc [.ref (ad 0), .int p0] (XB D cy ad u)) (qW (XB D cy ad (fX3_leaveInTrace u p0)) (AX ad) none) 0 0 (AX ad) := by
  refine m_start (cc := cX3_leaveInTrace) (maxL := 2) (ret := none) (by decide) rfl (Nat.le_of_ble_eq_true rfl) (fun p e s m below meth c hx hb hr hts hown hml hlk _ hB ls hl => ?_)
  obtain ⟨hP, hK⟩ := hB
  have hown : s.vm.findClass RX3 = some m.cls := hown
  have hl : lv_has ls 2 [(0, .ref (ad 0)), (1, .int p0)] := hl
  have hin_X3 : ∀ w ∈ wsX30, w ∈ wsX3_leaveInTrace := fun _ h => List.mem_cons_of_mem _ (List.mem_append_right _ (h))
  obtain ⟨H, hH⟩ : ∃ H, H = s.heap := ⟨_, rfl⟩
  obtain ⟨locs, hlo⟩ : ∃ z : List Loc, z = [] := ⟨_, rfl⟩
  have hS : va_S (AX ad) s.heap H locs := by rw [hH, hlo]; exact va_S.rf
  have hP : va_P D vwCl (wX cy ad u) H := by rw [hH]; exact hP
  suffices hgoal : W p l e ({ frames := 0, cells := 0, slots := 0, locals := 0 } : Room) s m ([.ref (ad 0), .int p0] : List Value).toArray below meth c H locs 0 0 (MQ below (qW (XB D cy ad (fX3_leaveInTrace u p0)) (AX ad) none) ([.ref (ad 0), .int p0] : List Value).toArray s 0 0 (AX ad)) (F0 m 0 ls []) by rw [hH, hlo] at hgoal; exact hgoal
  clear hH hlo
  refine lv_aload_n hx hb dX3_leaveInTrace_0 rfl (lv_at hl 0 rfl) ?_
  refine lv_bipush (v := 31) hx hb dX3_leaveInTrace_1 (by decide) ?_
  refine lv_aload_n hx hb dX3_leaveInTrace_3 rfl (lv_at hl 0 rfl) ?_
  refine zg_X3_traceNow hx hb hts hin_X3 hown hK hP (hts (Cond.fieldLink RX3 43 "ProphetCover" "traceNow" "I") (List.mem_of_getElem? (i := 1) rfl)) dX3_leaveInTrace_4 ?_
  refine lv_imul hx hb dX3_leaveInTrace_7 ?_
  refine lv_iload_n hx hb dX3_leaveInTrace_8 rfl (lv_at hl 1 rfl) ?_
  refine lv_iadd hx hb dX3_leaveInTrace_9 ?_
  refine zp_X3_traceNow hx hb hts hin_X3 hown hK hP hI hS (hts (Cond.fieldLink RX3 43 "ProphetCover" "traceNow" "I") (List.mem_of_getElem? (i := 1) rfl)) dX3_leaveInTrace_10 (fun H locs hP hS => ?_)
  exact rXV hx hb hr hlk hK hP hS dX3_leaveInTrace_13 (by rw [fX3_leaveInTrace])
def fX3_modestTells (u : Mem) (p0 : Int32) : Int32 × Mem :=
  (p0, (fX3_leaveInTrace u 1))
set_option maxRecDepth 100000 in
set_option maxHeartbeats 4000000 in
theorem kX3_modestTells (l : Launch) (D : va_G) (cy : Nat → ClassId) (ad : Nat → Nat) (hI : XI ad) (u : Mem) (p0 : Int32)  : Met l yX3_modestTells wsX3_modestTells ({ frames := 1, cells := 0, slots := 0, locals := 21 } : Room) (va_Pc [.ref (ad 0), .int p0] (XB D cy ad u)) (qW (XB D cy ad (fX3_modestTells u p0).2) (AX ad) (some (.int (fX3_modestTells u p0).1))) 0 0 (AX ad) := by
  refine m_start (cc := cX3_modestTells) (maxL := 2) (ret := (some .int)) (by decide) rfl (Nat.le_of_ble_eq_true rfl) (fun p e s m below meth c hx hb hr hts hown hml hlk _ hB ls hl => ?_)
  obtain ⟨hP, hK⟩ := hB
  have hown : s.vm.findClass RX3 = some m.cls := hown
  have hl : lv_has ls 2 [(0, .ref (ad 0)), (1, .int p0)] := hl
  have hin_X3 : ∀ w ∈ wsX30, w ∈ wsX3_modestTells := fun _ h => List.mem_cons_of_mem _ (List.mem_append_right _ (h))
  obtain ⟨H, hH⟩ : ∃ H, H = s.heap := ⟨_, rfl⟩
  obtain ⟨locs, hlo⟩ : ∃ z : List Loc, z = [] := ⟨_, rfl⟩
  have hS : va_S (AX ad) s.heap H locs := by rw [hH, hlo]; exact va_S.rf
  have hP : va_P D vwCl (wX cy ad u) H := by rw [hH]; exact hP
  suffices hgoal : W p l e ({ frames := 1, cells := 0, slots := 0, locals := 21 } : Room) s m ([.ref (ad 0), .int p0] : List Value).toArray below meth c H locs 0 0 (MQ below (qW (XB D cy ad (fX3_modestTells u p0).2) (AX ad) (some (.int (fX3_modestTells u p0).1))) ([.ref (ad 0), .int p0] : List Value).toArray s 0 0 (AX ad)) (F0 m 0 ls []) by rw [hH, hlo] at hgoal; exact hgoal
  clear hH hlo
  refine lv_aload_n hx hb dX3_modestTells_0 rfl (lv_at hl 0 rfl) ?_
  refine lv_iconst (v := 1) hx hb dX3_modestTells_1 (by decide) ?_
  refine kWXv (n := 1) (As := [.int 1]) (rest := []) ⟨hx, hb, hml, hown, hts⟩ (kX3_leaveInTrace l D cy ad hI u 1) gX3_modestTells_X3_leaveInTrace rfl rfl rfl (by decide +kernel) ⟨Nat.le_of_ble_eq_true rfl, Nat.le_of_ble_eq_true rfl⟩ (recvX hP hK) hP hK hS rfl hl.1 rfl (Nat.le_of_ble_eq_true rfl) dX3_modestTells_2 ⟨Nat.le_refl _, Nat.le_refl _⟩ (fun H locs hP hS => ?_)
  refine lv_iload_n hx hb dX3_modestTells_5 rfl (lv_at hl 1 rfl) ?_
  exact rXI hx hb hr hlk hK hP hS dX3_modestTells_6 (by rw [fX3_modestTells])
def fX3_sureTells (u : Mem) (p0 : Int32) : Int32 × Mem :=
  (((fX3_modestTells (fX3_leaveInTrace u 2) p0).1 + 100), (fX3_modestTells (fX3_leaveInTrace u 2) p0).2)
set_option maxRecDepth 100000 in
set_option maxHeartbeats 4000000 in
theorem kX3_sureTells (l : Launch) (D : va_G) (cy : Nat → ClassId) (ad : Nat → Nat) (hI : XI ad) (u : Mem) (p0 : Int32)  : Met l yX3_sureTells wsX3_sureTells ({ frames := 2, cells := 0, slots := 0, locals := 42 } : Room) (va_Pc [.ref (ad 0), .int p0] (XB D cy ad u)) (qW (XB D cy ad (fX3_sureTells u p0).2) (AX ad) (some (.int (fX3_sureTells u p0).1))) 0 0 (AX ad) := by
  refine m_start (cc := cX3_sureTells) (maxL := 2) (ret := (some .int)) (by decide) rfl (Nat.le_of_ble_eq_true rfl) (fun p e s m below meth c hx hb hr hts hown hml hlk _ hB ls hl => ?_)
  obtain ⟨hP, hK⟩ := hB
  have hown : s.vm.findClass RX3 = some m.cls := hown
  have hl : lv_has ls 2 [(0, .ref (ad 0)), (1, .int p0)] := hl
  have hin_X3 : ∀ w ∈ wsX30, w ∈ wsX3_sureTells := fun _ h => List.mem_cons_of_mem _ (List.mem_append_right _ (h))
  obtain ⟨H, hH⟩ : ∃ H, H = s.heap := ⟨_, rfl⟩
  obtain ⟨locs, hlo⟩ : ∃ z : List Loc, z = [] := ⟨_, rfl⟩
  have hS : va_S (AX ad) s.heap H locs := by rw [hH, hlo]; exact va_S.rf
  have hP : va_P D vwCl (wX cy ad u) H := by rw [hH]; exact hP
  suffices hgoal : W p l e ({ frames := 2, cells := 0, slots := 0, locals := 42 } : Room) s m ([.ref (ad 0), .int p0] : List Value).toArray below meth c H locs 0 0 (MQ below (qW (XB D cy ad (fX3_sureTells u p0).2) (AX ad) (some (.int (fX3_sureTells u p0).1))) ([.ref (ad 0), .int p0] : List Value).toArray s 0 0 (AX ad)) (F0 m 0 ls []) by rw [hH, hlo] at hgoal; exact hgoal
  clear hH hlo
  refine lv_aload_n hx hb dX3_sureTells_0 rfl (lv_at hl 0 rfl) ?_
  refine lv_iconst (v := 2) hx hb dX3_sureTells_1 (by decide) ?_
  refine kWXv (n := 1) (As := [.int 2]) (rest := []) ⟨hx, hb, hml, hown, hts⟩ (kX3_leaveInTrace l D cy ad hI u 2) gX3_sureTells_X3_leaveInTrace rfl rfl rfl (by decide +kernel) ⟨Nat.le_of_ble_eq_true rfl, Nat.le_of_ble_eq_true rfl⟩ (recvX hP hK) hP hK hS rfl hl.1 rfl (Nat.le_of_ble_eq_true rfl) dX3_sureTells_2 ⟨Nat.le_refl _, Nat.le_refl _⟩ (fun H locs hP hS => ?_)
  refine lv_aload_n hx hb dX3_sureTells_5 rfl (lv_at hl 0 rfl) ?_
  refine lv_iload_n hx hb dX3_sureTells_6 rfl (lv_at hl 1 rfl) ?_
  refine kWX (n := 1) (As := [.int p0]) (rest := []) ⟨hx, hb, hml, hown, hts⟩ (kX3_modestTells l D cy ad hI (fX3_leaveInTrace u 2) p0) gX3_sureTells_X3_modestTells rfl rfl rfl (by decide +kernel) ⟨Nat.le_of_ble_eq_true rfl, Nat.le_of_ble_eq_true rfl⟩ (recvX hP hK) hP hK hS rfl hl.1 rfl (Nat.le_of_ble_eq_true rfl) dX3_sureTells_7 ⟨Nat.le_refl _, Nat.le_refl _⟩ (fun H locs hP hS => ?_)
  refine lv_bipush (v := 100) hx hb dX3_sureTells_10 (by decide) ?_
  refine lv_iadd hx hb dX3_sureTells_12 ?_
  exact rXI hx hb hr hlk hK hP hS dX3_sureTells_13 (by rw [fX3_sureTells])
def fX3_loudTells (u : Mem) (p0 : Int32) : Int32 × Mem :=
  (((fX3_sureTells (fX3_leaveInTrace u 3) p0).1 + (fX3_modestTells ((fX3_sureTells (fX3_leaveInTrace u 3) p0).2) p0).1), (fX3_modestTells ((fX3_sureTells (fX3_leaveInTrace u 3) p0).2) p0).2)
set_option maxRecDepth 100000 in
set_option maxHeartbeats 4000000 in
theorem kX3_loudTells (l : Launch) (D : va_G) (cy : Nat → ClassId) (ad : Nat → Nat) (hI : XI ad) (u : Mem) (p0 : Int32)  : Met l yX3_loudTells wsX3_loudTells ({ frames := 3, cells := 0, slots := 0, locals := 63 } : Room) (va_Pc [.ref (ad 0), .int p0] (XB D cy ad u)) (qW (XB D cy ad (fX3_loudTells u p0).2) (AX ad) (some (.int (fX3_loudTells u p0).1))) 0 0 (AX ad) := by
  refine m_start (cc := cX3_loudTells) (maxL := 3) (ret := (some .int)) (by decide) rfl (Nat.le_of_ble_eq_true rfl) (fun p e s m below meth c hx hb hr hts hown hml hlk _ hB ls hl => ?_)
  obtain ⟨hP, hK⟩ := hB
  have hown : s.vm.findClass RX3 = some m.cls := hown
  have hl : lv_has ls 3 [(0, .ref (ad 0)), (1, .int p0)] := hl
  have hin_X3 : ∀ w ∈ wsX30, w ∈ wsX3_loudTells := fun _ h => List.mem_cons_of_mem _ (List.mem_append_right _ (h))
  obtain ⟨H, hH⟩ : ∃ H, H = s.heap := ⟨_, rfl⟩
  obtain ⟨locs, hlo⟩ : ∃ z : List Loc, z = [] := ⟨_, rfl⟩
  have hS : va_S (AX ad) s.heap H locs := by rw [hH, hlo]; exact va_S.rf
  have hP : va_P D vwCl (wX cy ad u) H := by rw [hH]; exact hP
  suffices hgoal : W p l e ({ frames := 3, cells := 0, slots := 0, locals := 63 } : Room) s m ([.ref (ad 0), .int p0] : List Value).toArray below meth c H locs 0 0 (MQ below (qW (XB D cy ad (fX3_loudTells u p0).2) (AX ad) (some (.int (fX3_loudTells u p0).1))) ([.ref (ad 0), .int p0] : List Value).toArray s 0 0 (AX ad)) (F0 m 0 ls []) by rw [hH, hlo] at hgoal; exact hgoal
  clear hH hlo
  refine lv_aload_n hx hb dX3_loudTells_0 rfl (lv_at hl 0 rfl) ?_
  refine lv_iconst (v := 3) hx hb dX3_loudTells_1 (by decide) ?_
  refine kWXv (n := 1) (As := [.int 3]) (rest := []) ⟨hx, hb, hml, hown, hts⟩ (kX3_leaveInTrace l D cy ad hI u 3) gX3_loudTells_X3_leaveInTrace rfl rfl rfl (by decide +kernel) ⟨Nat.le_of_ble_eq_true rfl, Nat.le_of_ble_eq_true rfl⟩ (recvX hP hK) hP hK hS rfl hl.1 rfl (Nat.le_of_ble_eq_true rfl) dX3_loudTells_2 ⟨Nat.le_refl _, Nat.le_refl _⟩ (fun H locs hP hS => ?_)
  refine lv_aload_n hx hb dX3_loudTells_5 rfl (lv_at hl 0 rfl) ?_
  refine lv_iload_n hx hb dX3_loudTells_6 rfl (lv_at hl 1 rfl) ?_
  refine kWX (n := 1) (As := [.int p0]) (rest := []) ⟨hx, hb, hml, hown, hts⟩ (kX3_sureTells l D cy ad hI (fX3_leaveInTrace u 3) p0) gX3_loudTells_X3_sureTells rfl rfl rfl (by decide +kernel) ⟨Nat.le_of_ble_eq_true rfl, Nat.le_of_ble_eq_true rfl⟩ (recvX hP hK) hP hK hS rfl hl.1 rfl (Nat.le_of_ble_eq_true rfl) dX3_loudTells_7 ⟨Nat.le_refl _, Nat.le_refl _⟩ (fun H locs hP hS => ?_)
  refine lv_istore_n (lv' := [(2, .int (fX3_sureTells (fX3_leaveInTrace u 3) p0).1), (0, .ref (ad 0)), (1, .int p0)]) hx hb dX3_loudTells_10 rfl hl (by decide) rfl (fun ls hl => ?_)
  refine lv_iload_n hx hb dX3_loudTells_11 rfl (lv_at hl 0 rfl) ?_
  refine lv_aload_n hx hb dX3_loudTells_12 rfl (lv_at hl 1 rfl) ?_
  refine lv_iload_n hx hb dX3_loudTells_13 rfl (lv_at hl 2 rfl) ?_
  refine kWX (n := 1) (As := [.int p0]) (rest := [.int (fX3_sureTells (fX3_leaveInTrace u 3) p0).1]) ⟨hx, hb, hml, hown, hts⟩ (kX3_modestTells l D cy ad hI ((fX3_sureTells (fX3_leaveInTrace u 3) p0).2) p0) gX3_loudTells_X3_modestTells rfl rfl rfl (by decide +kernel) ⟨Nat.le_of_ble_eq_true rfl, Nat.le_of_ble_eq_true rfl⟩ (recvX hP hK) hP hK hS rfl hl.1 rfl (Nat.le_of_ble_eq_true rfl) dX3_loudTells_14 ⟨Nat.le_refl _, Nat.le_refl _⟩ (fun H locs hP hS => ?_)
  refine lv_iadd hx hb dX3_loudTells_17 ?_
  exact rXI hx hb hr hlk hK hP hS dX3_loudTells_18 (by rw [fX3_loudTells])
def fX3_tell (u : Mem) (p0 : Int32) : Int32 × Mem :=
  (if (fX3_isProphet u p0) = 0 then ((-1), u) else (if (u 2 p0.toNatClampNeg) = 0 then ((fX3_modestTells u (u 3 p0.toNatClampNeg)).1, (fX3_modestTells u (u 3 p0.toNatClampNeg)).2) else (if (u 2 p0.toNatClampNeg) = 1 then ((fX3_sureTells u (u 3 p0.toNatClampNeg)).1, (fX3_sureTells u (u 3 p0.toNatClampNeg)).2) else ((fX3_loudTells u (u 3 p0.toNatClampNeg)).1, (fX3_loudTells u (u 3 p0.toNatClampNeg)).2))))
set_option maxRecDepth 100000 in
set_option maxHeartbeats 4000000 in
theorem kX3_tell (l : Launch) (D : va_G) (cy : Nat → ClassId) (ad : Nat → Nat) (hI : XI ad) (u : Mem) (p0 : Int32) (hpc : PcOk u) : Met l yX3_tell wsX3_tell ({ frames := 4, cells := 0, slots := 0, locals := 85 } : Room) (va_Pc [.ref (ad 0), .int p0] (XB D cy ad u)) (qW (XB D cy ad (fX3_tell u p0).2) (AX ad) (some (.int (fX3_tell u p0).1))) 0 0 (AX ad) := by
  refine m_start (cc := cX3_tell) (maxL := 3) (ret := (some .int)) (by decide) rfl (Nat.le_of_ble_eq_true rfl) (fun p e s m below meth c hx hb hr hts hown hml hlk _ hB ls hl => ?_)
  obtain ⟨hP, hK⟩ := hB
  have hown : s.vm.findClass RX3 = some m.cls := hown
  have hl : lv_has ls 3 [(0, .ref (ad 0)), (1, .int p0)] := hl
  have hin_X0 : ∀ w ∈ wsX00, w ∈ wsX3_tell := fun _ h => List.mem_cons_of_mem _ (List.mem_append_right _ (h))
  have hin_X3 : ∀ w ∈ wsX30, w ∈ wsX3_tell := fun _ h => List.mem_cons_of_mem _ (List.mem_append_left _ (List.mem_append_right _ (h)))
  obtain ⟨H, hH⟩ : ∃ H, H = s.heap := ⟨_, rfl⟩
  obtain ⟨locs, hlo⟩ : ∃ z : List Loc, z = [] := ⟨_, rfl⟩
  have hS : va_S (AX ad) s.heap H locs := by rw [hH, hlo]; exact va_S.rf
  have hP : va_P D vwCl (wX cy ad u) H := by rw [hH]; exact hP
  suffices hgoal : W p l e ({ frames := 4, cells := 0, slots := 0, locals := 85 } : Room) s m ([.ref (ad 0), .int p0] : List Value).toArray below meth c H locs 0 0 (MQ below (qW (XB D cy ad (fX3_tell u p0).2) (AX ad) (some (.int (fX3_tell u p0).1))) ([.ref (ad 0), .int p0] : List Value).toArray s 0 0 (AX ad)) (F0 m 0 ls []) by rw [hH, hlo] at hgoal; exact hgoal
  clear hH hlo
  refine lv_aload_n hx hb dX3_tell_0 rfl (lv_at hl 0 rfl) ?_
  refine lv_iload_n hx hb dX3_tell_1 rfl (lv_at hl 1 rfl) ?_
  refine kV (n := 1) (As := [.int p0]) (rest := []) ⟨hx, hb, hml, hown, hts⟩ (kX3_isProphet l D cy ad u p0) gX3_tell_X3_isProphet rfl rfl rfl (by decide +kernel) ⟨Nat.le_of_ble_eq_true rfl, Nat.le_of_ble_eq_true rfl⟩ (recvX hP hK) (XB_of hP hK) XB_bl rfl hl.1 rfl (Nat.le_of_ble_eq_true rfl) dX3_tell_2 ⟨Nat.le_refl _, Nat.le_refl _⟩ ?_
  refine lv_if_ne (tgt := 10) hx hb dX3_tell_5 (by decide) (fun c1 => ?_) (fun c1 => ?_)
  · have hv1 : vp_in p0 4 := isProphet_in hpc c1
    refine lv_aload_n hx hb dX3_tell_10 rfl (lv_at hl 0 rfl) ?_
    refine zg_X3_prophets hx hb hts hin_X3 hown hK hP (hts (Cond.fieldLink RX3 23 "ProphetCover" "prophets" "[LProphetCover$Prophet;") (List.mem_of_getElem? (i := 1) rfl)) dX3_tell_11 ?_
    refine lv_iload_n hx hb dX3_tell_14 rfl (lv_at hl 1 rfl) ?_
    refine zl_prophets hx hb hK hP (by assumption) dX3_tell_15 ?_
    refine zg_X0_cover (vlt (n := 4) (i := p0) (by assumption)) hx hb hts hin_X0 hown hK hP (hts (Cond.fieldLink RX3 91 "ProphetCover$Prophet" "cover" "I") (List.mem_of_getElem? (i := 2) rfl)) dX3_tell_16 ?_
    refine lv_istore_n (lv' := [(2, .int (u 3 p0.toNatClampNeg)), (0, .ref (ad 0)), (1, .int p0)]) hx hb dX3_tell_19 rfl hl (by decide) rfl (fun ls hl => ?_)
    refine lv_aload_n hx hb dX3_tell_20 rfl (lv_at hl 1 rfl) ?_
    refine zg_X3_prophets hx hb hts hin_X3 hown hK hP (hts (Cond.fieldLink RX3 23 "ProphetCover" "prophets" "[LProphetCover$Prophet;") (List.mem_of_getElem? (i := 1) rfl)) dX3_tell_21 ?_
    refine lv_iload_n hx hb dX3_tell_24 rfl (lv_at hl 2 rfl) ?_
    refine zl_prophets hx hb hK hP (by assumption) dX3_tell_25 ?_
    refine zg_X0_kind (vlt (n := 4) (i := p0) (by assumption)) hx hb hts hin_X0 hown hK hP (hts (Cond.fieldLink RX3 88 "ProphetCover$Prophet" "kind" "I") (List.mem_of_getElem? (i := 3) rfl)) dX3_tell_26 ?_
    by_cases c2 : (u 2 p0.toNatClampNeg) = 0
    · refine lv_lookup (off := 27) (tgt := 56) hx hb dX3_tell_29 (by decide) (by rw [c2]; decide) (by decide) ?_
      refine lv_aload_n hx hb dX3_tell_56 rfl (lv_at hl 1 rfl) ?_
      refine lv_iload_n hx hb dX3_tell_57 rfl (lv_at hl 0 rfl) ?_
      refine kWX (n := 1) (As := [.int (u 3 p0.toNatClampNeg)]) (rest := []) ⟨hx, hb, hml, hown, hts⟩ (kX3_modestTells l D cy ad hI u (u 3 p0.toNatClampNeg)) gX3_tell_X3_modestTells rfl rfl rfl (by decide +kernel) ⟨Nat.le_of_ble_eq_true rfl, Nat.le_of_ble_eq_true rfl⟩ (recvX hP hK) hP hK hS rfl hl.1 rfl (Nat.le_of_ble_eq_true rfl) dX3_tell_58 ⟨Nat.le_refl _, Nat.le_refl _⟩ (fun H locs hP hS => ?_)
      exact rXI hx hb hr hlk hK hP hS dX3_tell_61 (by rw [fX3_tell, if_neg c1, if_pos c2])
    by_cases c3 : (u 2 p0.toNatClampNeg) = 1
    · refine lv_lookup (off := 33) (tgt := 62) hx hb dX3_tell_29 (by decide) (by rw [c3]; decide) (by decide) ?_
      refine lv_aload_n hx hb dX3_tell_62 rfl (lv_at hl 1 rfl) ?_
      refine lv_iload_n hx hb dX3_tell_63 rfl (lv_at hl 0 rfl) ?_
      refine kWX (n := 1) (As := [.int (u 3 p0.toNatClampNeg)]) (rest := []) ⟨hx, hb, hml, hown, hts⟩ (kX3_sureTells l D cy ad hI u (u 3 p0.toNatClampNeg)) gX3_tell_X3_sureTells rfl rfl rfl (by decide +kernel) ⟨Nat.le_of_ble_eq_true rfl, Nat.le_of_ble_eq_true rfl⟩ (recvX hP hK) hP hK hS rfl hl.1 rfl (Nat.le_of_ble_eq_true rfl) dX3_tell_64 ⟨Nat.le_refl _, Nat.le_refl _⟩ (fun H locs hP hS => ?_)
      exact rXI hx hb hr hlk hK hP hS dX3_tell_67 (by rw [fX3_tell, if_neg c1, if_neg c2, if_pos c3])
    refine lv_lookup (off := 39) (tgt := 68) hx hb dX3_tell_29 (by decide) (look_out2 c2 c3) (by decide) ?_
    refine lv_aload_n hx hb dX3_tell_68 rfl (lv_at hl 1 rfl) ?_
    refine lv_iload_n hx hb dX3_tell_69 rfl (lv_at hl 0 rfl) ?_
    refine kWX (n := 1) (As := [.int (u 3 p0.toNatClampNeg)]) (rest := []) ⟨hx, hb, hml, hown, hts⟩ (kX3_loudTells l D cy ad hI u (u 3 p0.toNatClampNeg)) gX3_tell_X3_loudTells rfl rfl rfl (by decide +kernel) ⟨Nat.le_of_ble_eq_true rfl, Nat.le_of_ble_eq_true rfl⟩ (recvX hP hK) hP hK hS rfl hl.1 rfl (Nat.le_of_ble_eq_true rfl) dX3_tell_70 ⟨Nat.le_refl _, Nat.le_refl _⟩ (fun H locs hP hS => ?_)
    exact rXI hx hb hr hlk hK hP hS dX3_tell_73 (by rw [fX3_tell, if_neg c1, if_neg c2, if_neg c3])
  · refine lv_iconst (v := (-1)) hx hb dX3_tell_8 (by decide) ?_
    exact rXI hx hb hr hlk hK hP hS dX3_tell_9 (by rw [fX3_tell, if_pos c1])
def fX3_loudIsHeard (u : Mem) : Int32 × Mem :=
  (20, (fX3_leaveInTrace u 5))
set_option maxRecDepth 100000 in
set_option maxHeartbeats 4000000 in
theorem kX3_loudIsHeard (l : Launch) (D : va_G) (cy : Nat → ClassId) (ad : Nat → Nat) (hI : XI ad) (u : Mem)  : Met l yX3_loudIsHeard wsX3_loudIsHeard ({ frames := 1, cells := 0, slots := 0, locals := 21 } : Room) (va_Pc [.ref (ad 0)] (XB D cy ad u)) (qW (XB D cy ad (fX3_loudIsHeard u).2) (AX ad) (some (.int (fX3_loudIsHeard u).1))) 0 0 (AX ad) := by
  refine m_start (cc := cX3_loudIsHeard) (maxL := 1) (ret := (some .int)) (by decide) rfl (Nat.le_of_ble_eq_true rfl) (fun p e s m below meth c hx hb hr hts hown hml hlk _ hB ls hl => ?_)
  obtain ⟨hP, hK⟩ := hB
  have hown : s.vm.findClass RX3 = some m.cls := hown
  have hl : lv_has ls 1 [(0, .ref (ad 0))] := hl
  have hin_X3 : ∀ w ∈ wsX30, w ∈ wsX3_loudIsHeard := fun _ h => List.mem_cons_of_mem _ (List.mem_append_right _ (h))
  obtain ⟨H, hH⟩ : ∃ H, H = s.heap := ⟨_, rfl⟩
  obtain ⟨locs, hlo⟩ : ∃ z : List Loc, z = [] := ⟨_, rfl⟩
  have hS : va_S (AX ad) s.heap H locs := by rw [hH, hlo]; exact va_S.rf
  have hP : va_P D vwCl (wX cy ad u) H := by rw [hH]; exact hP
  suffices hgoal : W p l e ({ frames := 1, cells := 0, slots := 0, locals := 21 } : Room) s m ([.ref (ad 0)] : List Value).toArray below meth c H locs 0 0 (MQ below (qW (XB D cy ad (fX3_loudIsHeard u).2) (AX ad) (some (.int (fX3_loudIsHeard u).1))) ([.ref (ad 0)] : List Value).toArray s 0 0 (AX ad)) (F0 m 0 ls []) by rw [hH, hlo] at hgoal; exact hgoal
  clear hH hlo
  refine lv_aload_n hx hb dX3_loudIsHeard_0 rfl (lv_at hl 0 rfl) ?_
  refine lv_iconst (v := 5) hx hb dX3_loudIsHeard_1 (by decide) ?_
  refine kWXv (n := 1) (As := [.int 5]) (rest := []) ⟨hx, hb, hml, hown, hts⟩ (kX3_leaveInTrace l D cy ad hI u 5) gX3_loudIsHeard_X3_leaveInTrace rfl rfl rfl (by decide +kernel) ⟨Nat.le_of_ble_eq_true rfl, Nat.le_of_ble_eq_true rfl⟩ (recvX hP hK) hP hK hS rfl hl.1 rfl (Nat.le_of_ble_eq_true rfl) dX3_loudIsHeard_2 ⟨Nat.le_refl _, Nat.le_refl _⟩ (fun H locs hP hS => ?_)
  refine lv_bipush (v := 20) hx hb dX3_loudIsHeard_5 (by decide) ?_
  exact rXI hx hb hr hlk hK hP hS dX3_loudIsHeard_7 (by rw [fX3_loudIsHeard])
def fX3_lentBodyHears (u : Mem) (p0 : Int32) : Int32 × Mem :=
  (p0, (fX3_leaveInTrace u 4))
set_option maxRecDepth 100000 in
set_option maxHeartbeats 4000000 in
theorem kX3_lentBodyHears (l : Launch) (D : va_G) (cy : Nat → ClassId) (ad : Nat → Nat) (hI : XI ad) (u : Mem) (p0 : Int32)  : Met l yX3_lentBodyHears wsX3_lentBodyHears ({ frames := 1, cells := 0, slots := 0, locals := 21 } : Room) (va_Pc [.ref (ad 0), .int p0] (XB D cy ad u)) (qW (XB D cy ad (fX3_lentBodyHears u p0).2) (AX ad) (some (.int (fX3_lentBodyHears u p0).1))) 0 0 (AX ad) := by
  refine m_start (cc := cX3_lentBodyHears) (maxL := 2) (ret := (some .int)) (by decide) rfl (Nat.le_of_ble_eq_true rfl) (fun p e s m below meth c hx hb hr hts hown hml hlk _ hB ls hl => ?_)
  obtain ⟨hP, hK⟩ := hB
  have hown : s.vm.findClass RX3 = some m.cls := hown
  have hl : lv_has ls 2 [(0, .ref (ad 0)), (1, .int p0)] := hl
  have hin_X3 : ∀ w ∈ wsX30, w ∈ wsX3_lentBodyHears := fun _ h => List.mem_cons_of_mem _ (List.mem_append_right _ (h))
  obtain ⟨H, hH⟩ : ∃ H, H = s.heap := ⟨_, rfl⟩
  obtain ⟨locs, hlo⟩ : ∃ z : List Loc, z = [] := ⟨_, rfl⟩
  have hS : va_S (AX ad) s.heap H locs := by rw [hH, hlo]; exact va_S.rf
  have hP : va_P D vwCl (wX cy ad u) H := by rw [hH]; exact hP
  suffices hgoal : W p l e ({ frames := 1, cells := 0, slots := 0, locals := 21 } : Room) s m ([.ref (ad 0), .int p0] : List Value).toArray below meth c H locs 0 0 (MQ below (qW (XB D cy ad (fX3_lentBodyHears u p0).2) (AX ad) (some (.int (fX3_lentBodyHears u p0).1))) ([.ref (ad 0), .int p0] : List Value).toArray s 0 0 (AX ad)) (F0 m 0 ls []) by rw [hH, hlo] at hgoal; exact hgoal
  clear hH hlo
  refine lv_aload_n hx hb dX3_lentBodyHears_0 rfl (lv_at hl 0 rfl) ?_
  refine lv_iconst (v := 4) hx hb dX3_lentBodyHears_1 (by decide) ?_
  refine kWXv (n := 1) (As := [.int 4]) (rest := []) ⟨hx, hb, hml, hown, hts⟩ (kX3_leaveInTrace l D cy ad hI u 4) gX3_lentBodyHears_X3_leaveInTrace rfl rfl rfl (by decide +kernel) ⟨Nat.le_of_ble_eq_true rfl, Nat.le_of_ble_eq_true rfl⟩ (recvX hP hK) hP hK hS rfl hl.1 rfl (Nat.le_of_ble_eq_true rfl) dX3_lentBodyHears_2 ⟨Nat.le_refl _, Nat.le_refl _⟩ (fun H locs hP hS => ?_)
  refine lv_iload_n hx hb dX3_lentBodyHears_5 rfl (lv_at hl 1 rfl) ?_
  exact rXI hx hb hr hlk hK hP hS dX3_lentBodyHears_6 (by rw [fX3_lentBodyHears])
def fX3_hear (u : Mem) (p0 : Int32) : Int32 × Mem :=
  (if (fX3_isProphet u p0) = 0 then ((-1), u) else (if (u 2 p0.toNatClampNeg) = 2 then ((fX3_loudIsHeard u).1, (fX3_loudIsHeard u).2) else ((fX3_lentBodyHears u p0).1, (fX3_lentBodyHears u p0).2)))
set_option maxRecDepth 100000 in
set_option maxHeartbeats 4000000 in
theorem kX3_hear (l : Launch) (D : va_G) (cy : Nat → ClassId) (ad : Nat → Nat) (hI : XI ad) (u : Mem) (p0 : Int32) (hpc : PcOk u) : Met l yX3_hear wsX3_hear ({ frames := 2, cells := 0, slots := 0, locals := 42 } : Room) (va_Pc [.ref (ad 0), .int p0] (XB D cy ad u)) (qW (XB D cy ad (fX3_hear u p0).2) (AX ad) (some (.int (fX3_hear u p0).1))) 0 0 (AX ad) := by
  refine m_start (cc := cX3_hear) (maxL := 2) (ret := (some .int)) (by decide) rfl (Nat.le_of_ble_eq_true rfl) (fun p e s m below meth c hx hb hr hts hown hml hlk _ hB ls hl => ?_)
  obtain ⟨hP, hK⟩ := hB
  have hown : s.vm.findClass RX3 = some m.cls := hown
  have hl : lv_has ls 2 [(0, .ref (ad 0)), (1, .int p0)] := hl
  have hin_X0 : ∀ w ∈ wsX00, w ∈ wsX3_hear := fun _ h => List.mem_cons_of_mem _ (List.mem_append_right _ (h))
  have hin_X3 : ∀ w ∈ wsX30, w ∈ wsX3_hear := fun _ h => List.mem_cons_of_mem _ (List.mem_append_left _ (List.mem_append_right _ (h)))
  obtain ⟨H, hH⟩ : ∃ H, H = s.heap := ⟨_, rfl⟩
  obtain ⟨locs, hlo⟩ : ∃ z : List Loc, z = [] := ⟨_, rfl⟩
  have hS : va_S (AX ad) s.heap H locs := by rw [hH, hlo]; exact va_S.rf
  have hP : va_P D vwCl (wX cy ad u) H := by rw [hH]; exact hP
  suffices hgoal : W p l e ({ frames := 2, cells := 0, slots := 0, locals := 42 } : Room) s m ([.ref (ad 0), .int p0] : List Value).toArray below meth c H locs 0 0 (MQ below (qW (XB D cy ad (fX3_hear u p0).2) (AX ad) (some (.int (fX3_hear u p0).1))) ([.ref (ad 0), .int p0] : List Value).toArray s 0 0 (AX ad)) (F0 m 0 ls []) by rw [hH, hlo] at hgoal; exact hgoal
  clear hH hlo
  refine lv_aload_n hx hb dX3_hear_0 rfl (lv_at hl 0 rfl) ?_
  refine lv_iload_n hx hb dX3_hear_1 rfl (lv_at hl 1 rfl) ?_
  refine kV (n := 1) (As := [.int p0]) (rest := []) ⟨hx, hb, hml, hown, hts⟩ (kX3_isProphet l D cy ad u p0) gX3_hear_X3_isProphet rfl rfl rfl (by decide +kernel) ⟨Nat.le_of_ble_eq_true rfl, Nat.le_of_ble_eq_true rfl⟩ (recvX hP hK) (XB_of hP hK) XB_bl rfl hl.1 rfl (Nat.le_of_ble_eq_true rfl) dX3_hear_2 ⟨Nat.le_refl _, Nat.le_refl _⟩ ?_
  refine lv_if_ne (tgt := 10) hx hb dX3_hear_5 (by decide) (fun c1 => ?_) (fun c1 => ?_)
  · have hv1 : vp_in p0 4 := isProphet_in hpc c1
    refine lv_aload_n hx hb dX3_hear_10 rfl (lv_at hl 0 rfl) ?_
    refine zg_X3_prophets hx hb hts hin_X3 hown hK hP (hts (Cond.fieldLink RX3 23 "ProphetCover" "prophets" "[LProphetCover$Prophet;") (List.mem_of_getElem? (i := 1) rfl)) dX3_hear_11 ?_
    refine lv_iload_n hx hb dX3_hear_14 rfl (lv_at hl 1 rfl) ?_
    refine zl_prophets hx hb hK hP (by assumption) dX3_hear_15 ?_
    refine zg_X0_kind (vlt (n := 4) (i := p0) (by assumption)) hx hb hts hin_X0 hown hK hP (hts (Cond.fieldLink RX3 88 "ProphetCover$Prophet" "kind" "I") (List.mem_of_getElem? (i := 2) rfl)) dX3_hear_16 ?_
    refine lv_iconst (v := 2) hx hb dX3_hear_19 (by decide) ?_
    refine lv_icmp_ne (tgt := 30) hx hb dX3_hear_20 (by decide) (fun c2 => ?_) (fun c2 => ?_)
    · refine lv_aload_n hx hb dX3_hear_30 rfl (lv_at hl 0 rfl) ?_
      refine lv_iload_n hx hb dX3_hear_31 rfl (lv_at hl 1 rfl) ?_
      refine kWX (n := 1) (As := [.int p0]) (rest := []) ⟨hx, hb, hml, hown, hts⟩ (kX3_lentBodyHears l D cy ad hI u p0) gX3_hear_X3_lentBodyHears rfl rfl rfl (by decide +kernel) ⟨Nat.le_of_ble_eq_true rfl, Nat.le_of_ble_eq_true rfl⟩ (recvX hP hK) hP hK hS rfl hl.1 rfl (Nat.le_of_ble_eq_true rfl) dX3_hear_32 ⟨Nat.le_refl _, Nat.le_refl _⟩ (fun H locs hP hS => ?_)
      exact rXI hx hb hr hlk hK hP hS dX3_hear_35 (by rw [fX3_hear, if_neg c1, if_neg c2])
    · refine lv_aload_n hx hb dX3_hear_23 rfl (lv_at hl 0 rfl) ?_
      refine kWX (n := 0) (As := []) (rest := []) ⟨hx, hb, hml, hown, hts⟩ (kX3_loudIsHeard l D cy ad hI u) gX3_hear_X3_loudIsHeard rfl rfl rfl (by decide +kernel) ⟨Nat.le_of_ble_eq_true rfl, Nat.le_of_ble_eq_true rfl⟩ (recvX hP hK) hP hK hS rfl hl.1 rfl (Nat.le_of_ble_eq_true rfl) dX3_hear_24 ⟨Nat.le_refl _, Nat.le_refl _⟩ (fun H locs hP hS => ?_)
      refine lv_goto (tgt := 35) hx hb dX3_hear_27 (by decide) ?_
      exact rXI hx hb hr hlk hK hP hS dX3_hear_35 (by rw [fX3_hear, if_neg c1, if_pos c2])
  · refine lv_iconst (v := (-1)) hx hb dX3_hear_8 (by decide) ?_
    exact rXI hx hb hr hlk hK hP hS dX3_hear_9 (by rw [fX3_hear, if_pos c1])
def fX3_as (u : Mem) (p0 : Int32) (p1 : Int32) : Int32 × Mem :=
  (if (fX3_isProphet (mset u 0 8 0) p0) = 0 then ((-1), (mset u 0 8 0)) else (if (fX3_isWithin p1 2) = 0 then ((-2), (mset u 0 8 0)) else (if ((mset u 0 8 0) 2 p0.toNatClampNeg) < p1 then ((fX3_faulty (mset u 0 8 0) 2).1, (fX3_faulty (mset u 0 8 0) 2).2) else (1, (mset u 0 8 0)))))
set_option maxRecDepth 100000 in
set_option maxHeartbeats 4000000 in
theorem kX3_as (l : Launch) (D : va_G) (cy : Nat → ClassId) (ad : Nat → Nat) (hI : XI ad) (u : Mem) (p0 : Int32) (p1 : Int32) (hpc : PcOk u) : Met l yX3_as wsX3_as ({ frames := 1, cells := 0, slots := 0, locals := 21 } : Room) (va_Pc [.ref (ad 0), .int p0, .int p1] (XB D cy ad u)) (qW (XB D cy ad (fX3_as u p0 p1).2) (AX ad) (some (.int (fX3_as u p0 p1).1))) 0 0 (AX ad) := by
  refine m_start (cc := cX3_as) (maxL := 3) (ret := (some .int)) (by decide) rfl (Nat.le_of_ble_eq_true rfl) (fun p e s m below meth c hx hb hr hts hown hml hlk _ hB ls hl => ?_)
  obtain ⟨hP, hK⟩ := hB
  have hown : s.vm.findClass RX3 = some m.cls := hown
  have hl : lv_has ls 3 [(0, .ref (ad 0)), (1, .int p0), (2, .int p1)] := hl
  have hin_X0 : ∀ w ∈ wsX00, w ∈ wsX3_as := fun _ h => List.mem_cons_of_mem _ (List.mem_append_right _ (h))
  have hin_X3 : ∀ w ∈ wsX30, w ∈ wsX3_as := fun _ h => List.mem_cons_of_mem _ (List.mem_append_left _ (List.mem_append_right _ (h)))
  obtain ⟨H, hH⟩ : ∃ H, H = s.heap := ⟨_, rfl⟩
  obtain ⟨locs, hlo⟩ : ∃ z : List Loc, z = [] := ⟨_, rfl⟩
  have hS : va_S (AX ad) s.heap H locs := by rw [hH, hlo]; exact va_S.rf
  have hP : va_P D vwCl (wX cy ad u) H := by rw [hH]; exact hP
  suffices hgoal : W p l e ({ frames := 1, cells := 0, slots := 0, locals := 21 } : Room) s m ([.ref (ad 0), .int p0, .int p1] : List Value).toArray below meth c H locs 0 0 (MQ below (qW (XB D cy ad (fX3_as u p0 p1).2) (AX ad) (some (.int (fX3_as u p0 p1).1))) ([.ref (ad 0), .int p0, .int p1] : List Value).toArray s 0 0 (AX ad)) (F0 m 0 ls []) by rw [hH, hlo] at hgoal; exact hgoal
  clear hH hlo
  refine lv_aload_n hx hb dX3_as_0 rfl (lv_at hl 0 rfl) ?_
  refine lv_iconst (v := 0) hx hb dX3_as_1 (by decide) ?_
  refine zp_X3_latestFault hx hb hts hin_X3 hown hK hP hI hS (hts (Cond.fieldLink RX3 46 "ProphetCover" "latestFault" "I") (List.mem_of_getElem? (i := 1) rfl)) dX3_as_2 (fun H locs hP hS => ?_)
  refine lv_aload_n hx hb dX3_as_5 rfl (lv_at hl 0 rfl) ?_
  refine lv_iload_n hx hb dX3_as_6 rfl (lv_at hl 1 rfl) ?_
  refine kV (n := 1) (As := [.int p0]) (rest := []) ⟨hx, hb, hml, hown, hts⟩ (kX3_isProphet l D cy ad (mset u 0 8 0) p0) gX3_as_X3_isProphet rfl rfl rfl (by decide +kernel) ⟨Nat.le_of_ble_eq_true rfl, Nat.le_of_ble_eq_true rfl⟩ (recvX hP hK) (XB_of hP hK) XB_bl rfl hl.1 rfl (Nat.le_of_ble_eq_true rfl) dX3_as_7 ⟨Nat.le_refl _, Nat.le_refl _⟩ ?_
  refine lv_if_ne (tgt := 15) hx hb dX3_as_10 (by decide) (fun c1 => ?_) (fun c1 => ?_)
  · have hv1 : vp_in p0 4 := isProphet_in hpc c1
    refine lv_iload_n hx hb dX3_as_15 rfl (lv_at hl 2 rfl) ?_
    refine lv_iconst (v := 2) hx hb dX3_as_16 (by decide) ?_
    refine kS (n := 2) (As := [.int p1, .int 2]) (rest := []) ⟨hx, hb, hml, hown, hts⟩ (kX3_isWithin l p1 2) gX3_as_X3_isWithin rfl rfl rfl (by decide +kernel) ⟨Nat.le_of_ble_eq_true rfl, Nat.le_of_ble_eq_true rfl⟩ (fun _ _ _ => trivial) (fun _ _ _ _ _ => trivial) rfl hl.1 rfl (Nat.le_of_ble_eq_true rfl) dX3_as_17 ⟨Nat.le_refl _, Nat.le_refl _⟩ ?_
    refine lv_if_ne (tgt := 26) hx hb dX3_as_20 (by decide) (fun c2 => ?_) (fun c2 => ?_)
    · refine lv_aload_n hx hb dX3_as_26 rfl (lv_at hl 0 rfl) ?_
      refine zg_X3_prophets hx hb hts hin_X3 hown hK hP (hts (Cond.fieldLink RX3 23 "ProphetCover" "prophets" "[LProphetCover$Prophet;") (List.mem_of_getElem? (i := 2) rfl)) dX3_as_27 ?_
      refine lv_iload_n hx hb dX3_as_30 rfl (lv_at hl 1 rfl) ?_
      refine zl_prophets hx hb hK hP (by assumption) dX3_as_31 ?_
      refine zg_X0_kind (vlt (n := 4) (i := p0) (by assumption)) hx hb hts hin_X0 hown hK hP (hts (Cond.fieldLink RX3 88 "ProphetCover$Prophet" "kind" "I") (List.mem_of_getElem? (i := 3) rfl)) dX3_as_32 ?_
      refine lv_iload_n hx hb dX3_as_35 rfl (lv_at hl 2 rfl) ?_
      refine lv_icmp_lt (tgt := 43) hx hb dX3_as_36 (by decide) (fun c3 => ?_) (fun c3 => ?_)
      · refine lv_aload_n hx hb dX3_as_43 rfl (lv_at hl 0 rfl) ?_
        refine lv_iconst (v := 2) hx hb dX3_as_44 (by decide) ?_
        refine kWX (n := 1) (As := [.int 2]) (rest := []) ⟨hx, hb, hml, hown, hts⟩ (kX3_faulty l D cy ad hI (mset u 0 8 0) 2) gX3_as_X3_faulty rfl rfl rfl (by decide +kernel) ⟨Nat.le_of_ble_eq_true rfl, Nat.le_of_ble_eq_true rfl⟩ (recvX hP hK) hP hK hS rfl hl.1 rfl (Nat.le_of_ble_eq_true rfl) dX3_as_45 ⟨Nat.le_refl _, Nat.le_refl _⟩ (fun H locs hP hS => ?_)
        exact rXI hx hb hr hlk hK hP hS dX3_as_48 (by rw [fX3_as, if_neg c1, if_neg c2, if_pos c3])
      · refine lv_iconst (v := 1) hx hb dX3_as_39 (by decide) ?_
        refine lv_goto (tgt := 48) hx hb dX3_as_40 (by decide) ?_
        exact rXI hx hb hr hlk hK hP hS dX3_as_48 (by rw [fX3_as, if_neg c1, if_neg c2, if_neg c3])
    · refine lv_bipush (v := (-2)) hx hb dX3_as_23 (by decide) ?_
      exact rXI hx hb hr hlk hK hP hS dX3_as_25 (by rw [fX3_as, if_neg c1, if_pos c2])
  · refine lv_iconst (v := (-1)) hx hb dX3_as_13 (by decide) ?_
    exact rXI hx hb hr hlk hK hP hS dX3_as_14 (by rw [fX3_as, if_pos c1])
def fX3_trace (u : Mem) : Int32 :=
  (u 0 7)
set_option maxRecDepth 100000 in
set_option maxHeartbeats 4000000 in
theorem kX3_trace (l : Launch) (D : va_G) (cy : Nat → ClassId) (ad : Nat → Nat) (u : Mem)  : Met l yX3_trace wsX3_trace ({ frames := 0, cells := 0, slots := 0, locals := 0 } : Room) (va_Pc [.ref (ad 0)] (XB D cy ad u)) (qR (some (.int (fX3_trace u)))) 0 0 noF := by
  refine m_start (cc := cX3_trace) (maxL := 1) (ret := (some .int)) (by decide) rfl (Nat.le_of_ble_eq_true rfl) (fun p e s m below meth c hx hb hr hts hown hml hlk _ hB ls hl => ?_)
  obtain ⟨hP, hK⟩ := hB
  have hown : s.vm.findClass RX3 = some m.cls := hown
  have hl : lv_has ls 1 [(0, .ref (ad 0))] := hl
  have hin_X3 : ∀ w ∈ wsX30, w ∈ wsX3_trace := fun _ h => List.mem_cons_of_mem _ (List.mem_append_right _ (h))
  refine lv_aload_n hx hb dX3_trace_0 rfl (lv_at hl 0 rfl) ?_
  refine zg_X3_traceNow hx hb hts hin_X3 hown hK hP (hts (Cond.fieldLink RX3 43 "ProphetCover" "traceNow" "I") (List.mem_of_getElem? (i := 1) rfl)) dX3_trace_1 ?_
  exact rI hx hb hr hlk dX3_trace_4 (by rw [fX3_trace])
def fX3_fault (u : Mem) : Int32 :=
  (u 0 8)
set_option maxRecDepth 100000 in
set_option maxHeartbeats 4000000 in
theorem kX3_fault (l : Launch) (D : va_G) (cy : Nat → ClassId) (ad : Nat → Nat) (u : Mem)  : Met l yX3_fault wsX3_fault ({ frames := 0, cells := 0, slots := 0, locals := 0 } : Room) (va_Pc [.ref (ad 0)] (XB D cy ad u)) (qR (some (.int (fX3_fault u)))) 0 0 noF := by
  refine m_start (cc := cX3_fault) (maxL := 1) (ret := (some .int)) (by decide) rfl (Nat.le_of_ble_eq_true rfl) (fun p e s m below meth c hx hb hr hts hown hml hlk _ hB ls hl => ?_)
  obtain ⟨hP, hK⟩ := hB
  have hown : s.vm.findClass RX3 = some m.cls := hown
  have hl : lv_has ls 1 [(0, .ref (ad 0))] := hl
  have hin_X3 : ∀ w ∈ wsX30, w ∈ wsX3_fault := fun _ h => List.mem_cons_of_mem _ (List.mem_append_right _ (h))
  refine lv_aload_n hx hb dX3_fault_0 rfl (lv_at hl 0 rfl) ?_
  refine zg_X3_latestFault hx hb hts hin_X3 hown hK hP (hts (Cond.fieldLink RX3 46 "ProphetCover" "latestFault" "I") (List.mem_of_getElem? (i := 1) rfl)) dX3_fault_1 ?_
  exact rI hx hb hr hlk dX3_fault_4 (by rw [fX3_fault])
def fX3_countFrauds_c4 (u : Mem)  : Nat → Int32 → Int32 → Int32
  | 0, x2, x1 => 0
  | n4 + 1, x2, x1 => (if (u 0 5) ≤ x2 then x1 else (if (fX3_isFraud u (u 4 x2.toNatClampNeg)) = 0 then (fX3_countFrauds_c4 u n4 (x2 + 1) x1) else (fX3_countFrauds_c4 u n4 (x2 + 1) (x1 + 1))))
def fX3_countFrauds (u : Mem) : Int32 :=
  (fX3_countFrauds_c4 u (5) 0 0)
set_option maxRecDepth 100000 in
set_option maxHeartbeats 4000000 in
theorem kX3_countFrauds (l : Launch) (D : va_G) (cy : Nat → ClassId) (ad : Nat → Nat) (u : Mem) (hpc : PcOk u) : Met l yX3_countFrauds wsX3_countFrauds ({ frames := 2, cells := 0, slots := 0, locals := 41 } : Room) (va_Pc [.ref (ad 0)] (XB D cy ad u)) (qR (some (.int (fX3_countFrauds u)))) 0 0 noF := by
  refine m_start (cc := cX3_countFrauds) (maxL := 3) (ret := (some .int)) (by decide) rfl (Nat.le_of_ble_eq_true rfl) (fun p e s m below meth c hx hb hr hts hown hml hlk _ hB ls hl => ?_)
  obtain ⟨hP, hK⟩ := hB
  have hown : s.vm.findClass RX3 = some m.cls := hown
  have hl : lv_has ls 3 [(0, .ref (ad 0))] := hl
  have hin_X0 : ∀ w ∈ wsX00, w ∈ wsX3_countFrauds := fun _ h => List.mem_cons_of_mem _ (List.mem_append_right _ (h))
  have hin_X3 : ∀ w ∈ wsX30, w ∈ wsX3_countFrauds := fun _ h => List.mem_cons_of_mem _ (List.mem_append_left _ (List.mem_append_right _ (h)))
  obtain ⟨np, hnp, enp⟩ := id hpc
  refine lv_iconst (v := 0) hx hb dX3_countFrauds_0 (by decide) ?_
  refine lv_istore_n (lv' := [(1, .int 0), (0, .ref (ad 0))]) hx hb dX3_countFrauds_1 rfl hl (by decide) rfl (fun ls hl => ?_)
  refine lv_iconst (v := 0) hx hb dX3_countFrauds_2 (by decide) ?_
  refine lv_istore_n (lv' := [(2, .int 0), (1, .int 0), (0, .ref (ad 0))]) hx hb dX3_countFrauds_3 rfl hl (by decide) rfl (fun ls hl => ?_)
  have lp4 : ∀ (n4 : Nat) (x2 : Int32) (x1 : Int32) (k4 : Nat), (fX3_countFrauds u) = (fX3_countFrauds_c4 u n4 x2 x1) → (x2 = nI k4) → (k4 ≤ np) → (np < k4 + n4) → ∀ ls : Array Slot, lv_has ls 3 [(2, .int x2), (1, .int x1), (0, .ref (ad 0))] → W p l e ({ frames := 2, cells := 0, slots := 0, locals := 41 } : Room) s m ([.ref (ad 0)] : List Value).toArray below meth c s.heap [] 0 0 (MQ below (qR (some (.int (fX3_countFrauds u)))) ([.ref (ad 0)] : List Value).toArray s 0 0 noF) (F0 m 4 ls []) := by
    intro n4
    induction n4 with
    | zero =>
      intro x2 x1 k4 _ e4 hk4 hm4 ls hl
      exfalso; omega
    | succ n4 ih4 =>
      intro x2 x1 k4 hr4 e4 hk4 hm4 ls hl
      refine lv_iload_n hx hb dX3_countFrauds_4 rfl (lv_at hl 0 rfl) ?_
      refine lv_aload_n hx hb dX3_countFrauds_5 rfl (lv_at hl 2 rfl) ?_
      refine zg_X3_prophetCount hx hb hts hin_X3 hown hK hP (hts (Cond.fieldLink RX3 37 "ProphetCover" "prophetCount" "I") (List.mem_of_getElem? (i := 1) rfl)) dX3_countFrauds_6 ?_
      refine lv_icmp_ge (tgt := 37) hx hb dX3_countFrauds_9 (by decide) (fun c1 => ?_) (fun c1 => ?_)
      · refine lv_iload_n hx hb dX3_countFrauds_37 rfl (lv_at hl 1 rfl) ?_
        exact rI hx hb hr hlk dX3_countFrauds_38 (by rw [hr4, fX3_countFrauds_c4, if_pos c1])
      · have hlt4 : k4 < np := cnt_lt enp e4 (by omega) (by omega) c1
        have hv4 : vp_in x2 4 := cnt_in e4 (by omega) (by decide)
        refine lv_aload_n hx hb dX3_countFrauds_12 rfl (lv_at hl 2 rfl) ?_
        refine lv_aload_n hx hb dX3_countFrauds_13 rfl (lv_at hl 2 rfl) ?_
        refine zg_X3_prophets hx hb hts hin_X3 hown hK hP (hts (Cond.fieldLink RX3 23 "ProphetCover" "prophets" "[LProphetCover$Prophet;") (List.mem_of_getElem? (i := 2) rfl)) dX3_countFrauds_14 ?_
        refine lv_iload_n hx hb dX3_countFrauds_17 rfl (lv_at hl 0 rfl) ?_
        refine zl_prophets hx hb hK hP (by assumption) dX3_countFrauds_18 ?_
        refine zg_X0_saidSet (vlt (n := 4) (i := x2) (by assumption)) hx hb hts hin_X0 hown hK hP (hts (Cond.fieldLink RX3 94 "ProphetCover$Prophet" "saidSet" "I") (List.mem_of_getElem? (i := 3) rfl)) dX3_countFrauds_19 ?_
        refine kV (n := 1) (As := [.int (u 4 x2.toNatClampNeg)]) (rest := []) ⟨hx, hb, hml, hown, hts⟩ (kX3_isFraud l D cy ad u (u 4 x2.toNatClampNeg)) gX3_countFrauds_X3_isFraud rfl rfl rfl (by decide +kernel) ⟨Nat.le_of_ble_eq_true rfl, Nat.le_of_ble_eq_true rfl⟩ (recvX hP hK) (XB_of hP hK) XB_bl rfl hl.1 rfl (Nat.le_of_ble_eq_true rfl) dX3_countFrauds_22 ⟨Nat.le_refl _, Nat.le_refl _⟩ ?_
        refine lv_if_eq (tgt := 31) hx hb dX3_countFrauds_25 (by decide) (fun c2 => ?_) (fun c2 => ?_)
        · refine lv_iinc (v := (x2 + 1)) (lv' := [(2, .int (x2 + 1)), (1, .int x1), (0, .ref (ad 0))]) hx hb dX3_countFrauds_31 hl (k := 0) rfl rfl (by decide) rfl (fun ls hl => ?_)
          refine lv_goto (tgt := 4) hx hb dX3_countFrauds_34 (by decide) ?_
          exact ih4 (x2 + 1) x1 (k4 + 1) (by rw [hr4, fX3_countFrauds_c4, if_neg c1, if_pos c2]) (by rw [e4]; exact nI_1 _) hlt4 (by omega) ls (lv_sub hl [0, 1, 2] rfl)
        · refine lv_iinc (v := (x1 + 1)) (lv' := [(1, .int (x1 + 1)), (2, .int x2), (0, .ref (ad 0))]) hx hb dX3_countFrauds_28 hl (k := 1) rfl rfl (by decide) rfl (fun ls hl => ?_)
          refine lv_iinc (v := (x2 + 1)) (lv' := [(2, .int (x2 + 1)), (1, .int (x1 + 1)), (0, .ref (ad 0))]) hx hb dX3_countFrauds_31 hl (k := 1) rfl rfl (by decide) rfl (fun ls hl => ?_)
          refine lv_goto (tgt := 4) hx hb dX3_countFrauds_34 (by decide) ?_
          exact ih4 (x2 + 1) (x1 + 1) (k4 + 1) (by rw [hr4, fX3_countFrauds_c4, if_neg c1, if_neg c2]) (by rw [e4]; exact nI_1 _) hlt4 (by omega) ls (lv_sub hl [0, 1, 2] rfl)
  exact lp4 (5) 0 0 (0) (by rw [fX3_countFrauds]) nI_0.symm (by omega) (by omega) ls (lv_sub hl [0, 1, 2] rfl)
def fX3_many (u : Mem) (p0 : Int32) : Int32 :=
  (if p0 = 0 then (u 0 5) else (if p0 = 1 then (u 0 4) else (if p0 = 2 then (fX3_countFrauds u) else (if p0 = 3 then (u 0 6) else (-2)))))
set_option maxRecDepth 100000 in
set_option maxHeartbeats 4000000 in
theorem kX3_many (l : Launch) (D : va_G) (cy : Nat → ClassId) (ad : Nat → Nat) (u : Mem) (p0 : Int32) (hpc : PcOk u) : Met l yX3_many wsX3_many ({ frames := 3, cells := 0, slots := 0, locals := 63 } : Room) (va_Pc [.ref (ad 0), .int p0] (XB D cy ad u)) (qR (some (.int (fX3_many u p0)))) 0 0 noF := by
  refine m_start (cc := cX3_many) (maxL := 2) (ret := (some .int)) (by decide) rfl (Nat.le_of_ble_eq_true rfl) (fun p e s m below meth c hx hb hr hts hown hml hlk _ hB ls hl => ?_)
  obtain ⟨hP, hK⟩ := hB
  have hown : s.vm.findClass RX3 = some m.cls := hown
  have hl : lv_has ls 2 [(0, .ref (ad 0)), (1, .int p0)] := hl
  have hin_X0 : ∀ w ∈ wsX00, w ∈ wsX3_many := fun _ h => List.mem_cons_of_mem _ (List.mem_append_right _ (h))
  have hin_X3 : ∀ w ∈ wsX30, w ∈ wsX3_many := fun _ h => List.mem_cons_of_mem _ (List.mem_append_left _ (List.mem_append_right _ (h)))
  refine lv_iload_n hx hb dX3_many_0 rfl (lv_at hl 1 rfl) ?_
  by_cases c1 : p0 = 0
  · refine lv_tableIn (off := 31) (tgt := 32) hx hb dX3_many_1 (by rw [c1]; decide) (by rw [c1]; decide) (by rw [c1]; rfl) (by decide) ?_
    refine lv_aload_n hx hb dX3_many_32 rfl (lv_at hl 0 rfl) ?_
    refine zg_X3_prophetCount hx hb hts hin_X3 hown hK hP (hts (Cond.fieldLink RX3 37 "ProphetCover" "prophetCount" "I") (List.mem_of_getElem? (i := 1) rfl)) dX3_many_33 ?_
    exact rI hx hb hr hlk dX3_many_36 (by rw [fX3_many, if_pos c1])
  by_cases c2 : p0 = 1
  · refine lv_tableIn (off := 36) (tgt := 37) hx hb dX3_many_1 (by rw [c2]; decide) (by rw [c2]; decide) (by rw [c2]; rfl) (by decide) ?_
    refine lv_aload_n hx hb dX3_many_37 rfl (lv_at hl 0 rfl) ?_
    refine zg_X3_eventCount hx hb hts hin_X3 hown hK hP (hts (Cond.fieldLink RX3 33 "ProphetCover" "eventCount" "I") (List.mem_of_getElem? (i := 2) rfl)) dX3_many_38 ?_
    exact rI hx hb hr hlk dX3_many_41 (by rw [fX3_many, if_neg c1, if_pos c2])
  by_cases c3 : p0 = 2
  · refine lv_tableIn (off := 41) (tgt := 42) hx hb dX3_many_1 (by rw [c3]; decide) (by rw [c3]; decide) (by rw [c3]; rfl) (by decide) ?_
    refine lv_aload_n hx hb dX3_many_42 rfl (lv_at hl 0 rfl) ?_
    refine kV (n := 0) (As := []) (rest := []) ⟨hx, hb, hml, hown, hts⟩ (kX3_countFrauds l D cy ad u (by first | exact hpc | assumption)) gX3_many_X3_countFrauds rfl rfl rfl (by decide +kernel) ⟨Nat.le_of_ble_eq_true rfl, Nat.le_of_ble_eq_true rfl⟩ (recvX hP hK) (XB_of hP hK) XB_bl rfl hl.1 rfl (Nat.le_of_ble_eq_true rfl) dX3_many_43 ⟨Nat.le_refl _, Nat.le_refl _⟩ ?_
    exact rI hx hb hr hlk dX3_many_46 (by rw [fX3_many, if_neg c1, if_neg c2, if_pos c3])
  by_cases c4 : p0 = 3
  · refine lv_tableIn (off := 46) (tgt := 47) hx hb dX3_many_1 (by rw [c4]; decide) (by rw [c4]; decide) (by rw [c4]; rfl) (by decide) ?_
    refine lv_aload_n hx hb dX3_many_47 rfl (lv_at hl 0 rfl) ?_
    refine zg_X3_readingCount hx hb hts hin_X3 hown hK hP (hts (Cond.fieldLink RX3 40 "ProphetCover" "readingCount" "I") (List.mem_of_getElem? (i := 3) rfl)) dX3_many_48 ?_
    exact rI hx hb hr hlk dX3_many_51 (by rw [fX3_many, if_neg c1, if_neg c2, if_neg c3, if_pos c4])
  refine lv_tableOut (tgt := 52) hx hb dX3_many_1 (tab_out4 c1 c2 c3 c4) (by decide) ?_
  refine lv_bipush (v := (-2)) hx hb dX3_many_52 (by decide) ?_
  exact rI hx hb hr hlk dX3_many_54 (by rw [fX3_many, if_neg c1, if_neg c2, if_neg c3, if_neg c4])
