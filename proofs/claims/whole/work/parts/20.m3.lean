def fX4_chance (v : Mem) (p0 : Int32) : Int32 :=
  (if (fX4_noEvent v p0) = 0 then (v 1 p0.toNatClampNeg) else (-1))
set_option maxRecDepth 100000 in
set_option maxHeartbeats 4000000 in
theorem kX4_chance (l : Launch) (D : va_G) (cz : ClassId) (bd : Nat → Nat) (v : Mem) (p0 : Int32) (hec : EcOkM v) : Met l yX4_chance wsX4_chance ({ frames := 2, cells := 0, slots := 0, locals := 46 } : Room) (va_Pc [.ref (bd 0), .int p0] (MB D cz bd v)) (qR (some (.int (fX4_chance v p0)))) 0 0 noF := by
  refine m_start (cc := cX4_chance) (maxL := 2) (ret := (some .int)) (by decide) rfl (Nat.le_of_ble_eq_true rfl) (fun p e s m below meth c hx hb hr hts hown hml hlk _ hB ls hl => ?_)
  obtain ⟨hP, hK⟩ := hB
  have hown : s.vm.findClass RX4 = some m.cls := hown
  have hl : lv_has ls 2 [(0, .ref (bd 0)), (1, .int p0)] := hl
  have hin_X4 : ∀ w ∈ wsX40, w ∈ wsX4_chance := fun _ h => List.mem_cons_of_mem _ (List.mem_append_right _ (h))
  refine lv_aload_n hx hb dX4_chance_0 rfl (lv_at hl 0 rfl) ?_
  refine lv_iload_n hx hb dX4_chance_1 rfl (lv_at hl 1 rfl) ?_
  refine kV (n := 1) (As := [.int p0]) (rest := []) ⟨hx, hb, hml, hown, hts⟩ (kX4_noEvent l D cz bd v p0) gX4_chance_X4_noEvent rfl rfl rfl (by decide +kernel) ⟨Nat.le_of_ble_eq_true rfl, Nat.le_of_ble_eq_true rfl⟩ (recvM hP hK) (MB_of hP hK) MB_bl rfl hl.1 rfl (Nat.le_of_ble_eq_true rfl) dX4_chance_2 ⟨Nat.le_refl _, Nat.le_refl _⟩ ?_
  refine lv_if_eq (tgt := 12) hx hb dX4_chance_5 (by decide) (fun c1 => ?_) (fun c1 => ?_)
  · have hv1 : vp_in p0 5 := noEvent_in (by first | with_reducible assumption | exact hec) c1
    refine lv_aload_n hx hb dX4_chance_12 rfl (lv_at hl 0 rfl) ?_
    refine zg_X4_chanceOf hx hb hts hin_X4 hown hK hP (hts (Cond.fieldLink RX4 7 "ProphetCoverModel" "chanceOf" "[I") (List.mem_of_getElem? (i := 1) rfl)) dX4_chance_13 ?_
    refine lv_iload_n hx hb dX4_chance_16 rfl (lv_at hl 1 rfl) ?_
    refine zl_M (by decide) (by decide) rfl hx hb hK hP (by assumption) dX4_chance_17 ?_
    exact rI hx hb hr hlk dX4_chance_18 (by rw [fX4_chance, if_pos c1])
  · refine lv_iconst (v := (-1)) hx hb dX4_chance_8 (by decide) ?_
    refine lv_goto (tgt := 18) hx hb dX4_chance_9 (by decide) ?_
    exact rI hx hb hr hlk dX4_chance_18 (by rw [fX4_chance, if_neg c1])
def fX4_fate (v : Mem) (p0 : Int32) (p1 : Int32) : Int32 × Mem :=
  (if (fX4_noEvent v p0) = 0 then (if (fX4_in ((p1).toInt64) 0 9) = 0 then ((-2), v) else ((v 1 p0.toNatClampNeg), (mset v 1 p0.toNatClampNeg p1))) else ((-1), v))
set_option maxRecDepth 100000 in
set_option maxHeartbeats 4000000 in
theorem kX4_fate (l : Launch) (D : va_G) (cz : ClassId) (bd : Nat → Nat) (hI : MI bd) (v : Mem) (p0 : Int32) (p1 : Int32) (hec : EcOkM v) : Met l yX4_fate wsX4_fate ({ frames := 2, cells := 0, slots := 0, locals := 46 } : Room) (va_Pc [.ref (bd 0), .int p0, .int p1] (MB D cz bd v)) (qW (MB D cz bd (fX4_fate v p0 p1).2) (AM bd) (some (.int (fX4_fate v p0 p1).1))) 0 0 (AM bd) := by
  refine m_start (cc := cX4_fate) (maxL := 4) (ret := (some .int)) (by decide) rfl (Nat.le_of_ble_eq_true rfl) (fun p e s m below meth c hx hb hr hts hown hml hlk _ hB ls hl => ?_)
  obtain ⟨hP, hK⟩ := hB
  have hown : s.vm.findClass RX4 = some m.cls := hown
  have hl : lv_has ls 4 [(0, .ref (bd 0)), (1, .int p0), (2, .int p1)] := hl
  have hin_X4 : ∀ w ∈ wsX40, w ∈ wsX4_fate := fun _ h => List.mem_cons_of_mem _ (List.mem_append_right _ (h))
  obtain ⟨H, hH⟩ : ∃ H, H = s.heap := ⟨_, rfl⟩
  obtain ⟨locs, hlo⟩ : ∃ z : List Loc, z = [] := ⟨_, rfl⟩
  have hS : va_S (AM bd) s.heap H locs := by rw [hH, hlo]; exact va_S.rf
  have hP : va_P D vwCl (wM cz bd v) H := by rw [hH]; exact hP
  suffices hgoal : W p l e ({ frames := 2, cells := 0, slots := 0, locals := 46 } : Room) s m ([.ref (bd 0), .int p0, .int p1] : List Value).toArray below meth c H locs 0 0 (MQ below (qW (MB D cz bd (fX4_fate v p0 p1).2) (AM bd) (some (.int (fX4_fate v p0 p1).1))) ([.ref (bd 0), .int p0, .int p1] : List Value).toArray s 0 0 (AM bd)) (F0 m 0 ls []) by rw [hH, hlo] at hgoal; exact hgoal
  clear hH hlo
  refine lv_aload_n hx hb dX4_fate_0 rfl (lv_at hl 0 rfl) ?_
  refine lv_iload_n hx hb dX4_fate_1 rfl (lv_at hl 1 rfl) ?_
  refine kV (n := 1) (As := [.int p0]) (rest := []) ⟨hx, hb, hml, hown, hts⟩ (kX4_noEvent l D cz bd v p0) gX4_fate_X4_noEvent rfl rfl rfl (by decide +kernel) ⟨Nat.le_of_ble_eq_true rfl, Nat.le_of_ble_eq_true rfl⟩ (recvM hP hK) (MB_of hP hK) MB_bl rfl hl.1 rfl (Nat.le_of_ble_eq_true rfl) dX4_fate_2 ⟨Nat.le_refl _, Nat.le_refl _⟩ ?_
  refine lv_if_eq (tgt := 10) hx hb dX4_fate_5 (by decide) (fun c1 => ?_) (fun c1 => ?_)
  · have hv1 : vp_in p0 5 := noEvent_in (by first | with_reducible assumption | exact hec) c1
    refine lv_iload_n hx hb dX4_fate_10 rfl (lv_at hl 2 rfl) ?_
    refine lv_i2l hx hb dX4_fate_11 rfl ?_
    refine lv_lconst (v := 0) hx hb dX4_fate_12 (by decide) ?_
    refine lv_ldc2 hx hb hown (hts (Cond.constantLong RX4 133 (9)) (List.mem_of_getElem? (i := 1) rfl)) dX4_fate_13 ?_
    refine kS (n := 3) (As := [.long (p1).toInt64, .long 0, .long 9]) (rest := []) ⟨hx, hb, hml, hown, hts⟩ (kX4_in l ((p1).toInt64) 0 9) gX4_fate_X4_in rfl rfl rfl (by decide +kernel) ⟨Nat.le_of_ble_eq_true rfl, Nat.le_of_ble_eq_true rfl⟩ (fun _ _ _ => trivial) (fun _ _ _ _ _ => trivial) rfl hl.1 rfl (Nat.le_of_ble_eq_true rfl) dX4_fate_16 ⟨Nat.le_refl _, Nat.le_refl _⟩ ?_
    refine lv_if_ne (tgt := 25) hx hb dX4_fate_19 (by decide) (fun c2 => ?_) (fun c2 => ?_)
    · refine lv_aload_n hx hb dX4_fate_25 rfl (lv_at hl 0 rfl) ?_
      refine zg_X4_chanceOf hx hb hts hin_X4 hown hK hP (hts (Cond.fieldLink RX4 7 "ProphetCoverModel" "chanceOf" "[I") (List.mem_of_getElem? (i := 2) rfl)) dX4_fate_26 ?_
      refine lv_iload_n hx hb dX4_fate_29 rfl (lv_at hl 1 rfl) ?_
      refine zl_M (by decide) (by decide) rfl hx hb hK hP (by assumption) dX4_fate_30 ?_
      refine lv_istore_n (lv' := [(3, .int (v 1 p0.toNatClampNeg)), (0, .ref (bd 0)), (1, .int p0), (2, .int p1)]) hx hb dX4_fate_31 rfl hl (by decide) rfl (fun ls hl => ?_)
      refine lv_aload_n hx hb dX4_fate_32 rfl (lv_at hl 1 rfl) ?_
      refine zg_X4_chanceOf hx hb hts hin_X4 hown hK hP (hts (Cond.fieldLink RX4 7 "ProphetCoverModel" "chanceOf" "[I") (List.mem_of_getElem? (i := 2) rfl)) dX4_fate_33 ?_
      refine lv_iload_n hx hb dX4_fate_36 rfl (lv_at hl 2 rfl) ?_
      refine lv_iload_n hx hb dX4_fate_37 rfl (lv_at hl 3 rfl) ?_
      refine zs_M (by decide) (by decide) rfl hx hb hK hP hI hS (by assumption) dX4_fate_38 (fun H locs hP hS => ?_)
      refine lv_iload_n hx hb dX4_fate_39 rfl (lv_at hl 0 rfl) ?_
      exact rMI hx hb hr hlk hK hP hS dX4_fate_40 (by rw [fX4_fate, if_pos c1, if_neg c2])
    · refine lv_bipush (v := (-2)) hx hb dX4_fate_22 (by decide) ?_
      exact rMI hx hb hr hlk hK hP hS dX4_fate_24 (by rw [fX4_fate, if_pos c1, if_pos c2])
  · refine lv_iconst (v := (-1)) hx hb dX4_fate_8 (by decide) ?_
    exact rMI hx hb hr hlk hK hP hS dX4_fate_9 (by rw [fX4_fate, if_neg c1])
def fX4_paysOf (v : Mem) (p0 : Int32) : Int32 :=
  (if (v 2 p0.toNatClampNeg) = 0 then (v 3 p0.toNatClampNeg) else (if (v 2 p0.toNatClampNeg) = 1 then ((v 3 p0.toNatClampNeg) + 1) else (2 * ((v 3 p0.toNatClampNeg) + 1))))
set_option maxRecDepth 100000 in
set_option maxHeartbeats 4000000 in
theorem kX4_paysOf (l : Launch) (D : va_G) (cz : ClassId) (bd : Nat → Nat) (v : Mem) (p0 : Int32) (hp : vp_in p0 4) : Met l yX4_paysOf wsX4_paysOf ({ frames := 0, cells := 0, slots := 0, locals := 0 } : Room) (va_Pc [.ref (bd 0), .int p0] (MB D cz bd v)) (qR (some (.int (fX4_paysOf v p0)))) 0 0 noF := by
  refine m_start (cc := cX4_paysOf) (maxL := 3) (ret := (some .int)) (by decide) rfl (Nat.le_of_ble_eq_true rfl) (fun p e s m below meth c hx hb hr hts hown hml hlk _ hB ls hl => ?_)
  obtain ⟨hP, hK⟩ := hB
  have hown : s.vm.findClass RX4 = some m.cls := hown
  have hl : lv_has ls 3 [(0, .ref (bd 0)), (1, .int p0)] := hl
  have hin_X4 : ∀ w ∈ wsX40, w ∈ wsX4_paysOf := fun _ h => List.mem_cons_of_mem _ (List.mem_append_right _ (h))
  refine lv_aload_n hx hb dX4_paysOf_0 rfl (lv_at hl 0 rfl) ?_
  refine zg_X4_coverOf hx hb hts hin_X4 hown hK hP (hts (Cond.fieldLink RX4 16 "ProphetCoverModel" "coverOf" "[I") (List.mem_of_getElem? (i := 1) rfl)) dX4_paysOf_1 ?_
  refine lv_iload_n hx hb dX4_paysOf_4 rfl (lv_at hl 1 rfl) ?_
  refine zl_M (by decide) (by decide) rfl hx hb hK hP (by assumption) dX4_paysOf_5 ?_
  refine lv_istore_n (lv' := [(2, .int (v 3 p0.toNatClampNeg)), (0, .ref (bd 0)), (1, .int p0)]) hx hb dX4_paysOf_6 rfl hl (by decide) rfl (fun ls hl => ?_)
  refine lv_aload_n hx hb dX4_paysOf_7 rfl (lv_at hl 1 rfl) ?_
  refine zg_X4_kindOf hx hb hts hin_X4 hown hK hP (hts (Cond.fieldLink RX4 13 "ProphetCoverModel" "kindOf" "[I") (List.mem_of_getElem? (i := 2) rfl)) dX4_paysOf_8 ?_
  refine lv_iload_n hx hb dX4_paysOf_11 rfl (lv_at hl 2 rfl) ?_
  refine zl_M (by decide) (by decide) rfl hx hb hK hP (by assumption) dX4_paysOf_12 ?_
  refine lv_if_ne (tgt := 20) hx hb dX4_paysOf_13 (by decide) (fun c1 => ?_) (fun c1 => ?_)
  · refine lv_aload_n hx hb dX4_paysOf_20 rfl (lv_at hl 1 rfl) ?_
    refine zg_X4_kindOf hx hb hts hin_X4 hown hK hP (hts (Cond.fieldLink RX4 13 "ProphetCoverModel" "kindOf" "[I") (List.mem_of_getElem? (i := 2) rfl)) dX4_paysOf_21 ?_
    refine lv_iload_n hx hb dX4_paysOf_24 rfl (lv_at hl 2 rfl) ?_
    refine zl_M (by decide) (by decide) rfl hx hb hK hP (by assumption) dX4_paysOf_25 ?_
    refine lv_iconst (v := 1) hx hb dX4_paysOf_26 (by decide) ?_
    refine lv_icmp_ne (tgt := 36) hx hb dX4_paysOf_27 (by decide) (fun c2 => ?_) (fun c2 => ?_)
    · refine lv_iconst (v := 2) hx hb dX4_paysOf_36 (by decide) ?_
      refine lv_iload_n hx hb dX4_paysOf_37 rfl (lv_at hl 0 rfl) ?_
      refine lv_iconst (v := 1) hx hb dX4_paysOf_38 (by decide) ?_
      refine lv_iadd hx hb dX4_paysOf_39 ?_
      refine lv_imul hx hb dX4_paysOf_40 ?_
      exact rI hx hb hr hlk dX4_paysOf_41 (by rw [fX4_paysOf, if_neg c1, if_neg c2])
    · refine lv_iload_n hx hb dX4_paysOf_30 rfl (lv_at hl 0 rfl) ?_
      refine lv_iconst (v := 1) hx hb dX4_paysOf_31 (by decide) ?_
      refine lv_iadd hx hb dX4_paysOf_32 ?_
      refine lv_goto (tgt := 41) hx hb dX4_paysOf_33 (by decide) ?_
      exact rI hx hb hr hlk dX4_paysOf_41 (by rw [fX4_paysOf, if_neg c1, if_pos c2])
  · refine lv_iload_n hx hb dX4_paysOf_16 rfl (lv_at hl 0 rfl) ?_
    refine lv_goto (tgt := 41) hx hb dX4_paysOf_17 (by decide) ?_
    exact rI hx hb hr hlk dX4_paysOf_41 (by rw [fX4_paysOf, if_pos c1])
def fX4_isFraud (v : Mem) (p0 : Int32) : Int32 :=
  (if ((v 4 p0.toNatClampNeg) &&& (fX4_allEvents v)) = (fX4_allEvents v) then 1 else 0)
set_option maxRecDepth 100000 in
set_option maxHeartbeats 4000000 in
theorem kX4_isFraud (l : Launch) (D : va_G) (cz : ClassId) (bd : Nat → Nat) (v : Mem) (p0 : Int32) (hp : vp_in p0 4) : Met l yX4_isFraud wsX4_isFraud ({ frames := 1, cells := 0, slots := 0, locals := 20 } : Room) (va_Pc [.ref (bd 0), .int p0] (MB D cz bd v)) (qR (some (.int (fX4_isFraud v p0)))) 0 0 noF := by
  refine m_start (cc := cX4_isFraud) (maxL := 2) (ret := (some .boolean)) (by decide) rfl (Nat.le_of_ble_eq_true rfl) (fun p e s m below meth c hx hb hr hts hown hml hlk _ hB ls hl => ?_)
  obtain ⟨hP, hK⟩ := hB
  have hown : s.vm.findClass RX4 = some m.cls := hown
  have hl : lv_has ls 2 [(0, .ref (bd 0)), (1, .int p0)] := hl
  have hin_X4 : ∀ w ∈ wsX40, w ∈ wsX4_isFraud := fun _ h => List.mem_cons_of_mem _ (List.mem_append_right _ (h))
  refine lv_aload_n hx hb dX4_isFraud_0 rfl (lv_at hl 0 rfl) ?_
  refine zg_X4_saidBy hx hb hts hin_X4 hown hK hP (hts (Cond.fieldLink RX4 19 "ProphetCoverModel" "saidBy" "[I") (List.mem_of_getElem? (i := 1) rfl)) dX4_isFraud_1 ?_
  refine lv_iload_n hx hb dX4_isFraud_4 rfl (lv_at hl 1 rfl) ?_
  refine zl_M (by decide) (by decide) rfl hx hb hK hP (by assumption) dX4_isFraud_5 ?_
  refine lv_aload_n hx hb dX4_isFraud_6 rfl (lv_at hl 0 rfl) ?_
  refine kV (n := 0) (As := []) (rest := [.int (v 4 p0.toNatClampNeg)]) ⟨hx, hb, hml, hown, hts⟩ (kX4_allEvents l D cz bd v) gX4_isFraud_X4_allEvents rfl rfl rfl (by decide +kernel) ⟨Nat.le_of_ble_eq_true rfl, Nat.le_of_ble_eq_true rfl⟩ (recvM hP hK) (MB_of hP hK) MB_bl rfl hl.1 rfl (Nat.le_of_ble_eq_true rfl) dX4_isFraud_7 ⟨Nat.le_refl _, Nat.le_refl _⟩ ?_
  refine lv_iand hx hb dX4_isFraud_10 ?_
  refine lv_aload_n hx hb dX4_isFraud_11 rfl (lv_at hl 0 rfl) ?_
  refine kV (n := 0) (As := []) (rest := [.int ((v 4 p0.toNatClampNeg) &&& (fX4_allEvents v))]) ⟨hx, hb, hml, hown, hts⟩ (kX4_allEvents l D cz bd v) gX4_isFraud_X4_allEvents rfl rfl rfl (by decide +kernel) ⟨Nat.le_of_ble_eq_true rfl, Nat.le_of_ble_eq_true rfl⟩ (recvM hP hK) (MB_of hP hK) MB_bl rfl hl.1 rfl (Nat.le_of_ble_eq_true rfl) dX4_isFraud_12 ⟨Nat.le_refl _, Nat.le_refl _⟩ ?_
  refine lv_icmp_ne (tgt := 22) hx hb dX4_isFraud_15 (by decide) (fun c1 => ?_) (fun c1 => ?_)
  · refine lv_iconst (v := 0) hx hb dX4_isFraud_22 (by decide) ?_
    exact rZ hx hb hr hlk (by rfl) dX4_isFraud_23 (by rw [fX4_isFraud, if_neg c1])
  · refine lv_iconst (v := 1) hx hb dX4_isFraud_18 (by decide) ?_
    refine lv_goto (tgt := 23) hx hb dX4_isFraud_19 (by decide) ?_
    exact rZ hx hb hr hlk (by rfl) dX4_isFraud_23 (by rw [fX4_isFraud, if_pos c1])
def fX4_ofProphet (v : Mem) (p0 : Int32) (p1 : Int32) : Int32 :=
  (if (fX4_noProphet v p0) = 0 then (if p1 = 0 then (v 2 p0.toNatClampNeg) else (if p1 = 1 then (v 3 p0.toNatClampNeg) else (if p1 = 2 then (v 4 p0.toNatClampNeg) else (if p1 = 3 then (fX4_paysOf v p0) else (if p1 = 4 then (if (fX4_isFraud v p0) = 0 then 0 else 1) else (-2)))))) else (-1))
set_option maxRecDepth 100000 in
set_option maxHeartbeats 4000000 in
theorem kX4_ofProphet (l : Launch) (D : va_G) (cz : ClassId) (bd : Nat → Nat) (v : Mem) (p0 : Int32) (p1 : Int32) (hpc : PcOkM v) : Met l yX4_ofProphet wsX4_ofProphet ({ frames := 2, cells := 0, slots := 0, locals := 46 } : Room) (va_Pc [.ref (bd 0), .int p0, .int p1] (MB D cz bd v)) (qR (some (.int (fX4_ofProphet v p0 p1)))) 0 0 noF := by
  refine m_start (cc := cX4_ofProphet) (maxL := 3) (ret := (some .int)) (by decide) rfl (Nat.le_of_ble_eq_true rfl) (fun p e s m below meth c hx hb hr hts hown hml hlk _ hB ls hl => ?_)
  obtain ⟨hP, hK⟩ := hB
  have hown : s.vm.findClass RX4 = some m.cls := hown
  have hl : lv_has ls 3 [(0, .ref (bd 0)), (1, .int p0), (2, .int p1)] := hl
  have hin_X4 : ∀ w ∈ wsX40, w ∈ wsX4_ofProphet := fun _ h => List.mem_cons_of_mem _ (List.mem_append_right _ (h))
  refine lv_aload_n hx hb dX4_ofProphet_0 rfl (lv_at hl 0 rfl) ?_
  refine lv_iload_n hx hb dX4_ofProphet_1 rfl (lv_at hl 1 rfl) ?_
  refine kV (n := 1) (As := [.int p0]) (rest := []) ⟨hx, hb, hml, hown, hts⟩ (kX4_noProphet l D cz bd v p0) gX4_ofProphet_X4_noProphet rfl rfl rfl (by decide +kernel) ⟨Nat.le_of_ble_eq_true rfl, Nat.le_of_ble_eq_true rfl⟩ (recvM hP hK) (MB_of hP hK) MB_bl rfl hl.1 rfl (Nat.le_of_ble_eq_true rfl) dX4_ofProphet_2 ⟨Nat.le_refl _, Nat.le_refl _⟩ ?_
  refine lv_if_eq (tgt := 10) hx hb dX4_ofProphet_5 (by decide) (fun c1 => ?_) (fun c1 => ?_)
  · have hv1 : vp_in p0 4 := noProphet_in (by first | with_reducible assumption | exact hpc) c1
    refine lv_iload_n hx hb dX4_ofProphet_10 rfl (lv_at hl 2 rfl) ?_
    by_cases c2 : p1 = 0
    · refine lv_tableIn (off := 33) (tgt := 44) hx hb dX4_ofProphet_11 (by rw [c2]; decide) (by rw [c2]; decide) (by rw [c2]; rfl) (by decide) ?_
      refine lv_aload_n hx hb dX4_ofProphet_44 rfl (lv_at hl 0 rfl) ?_
      refine zg_X4_kindOf hx hb hts hin_X4 hown hK hP (hts (Cond.fieldLink RX4 13 "ProphetCoverModel" "kindOf" "[I") (List.mem_of_getElem? (i := 1) rfl)) dX4_ofProphet_45 ?_
      refine lv_iload_n hx hb dX4_ofProphet_48 rfl (lv_at hl 1 rfl) ?_
      refine zl_M (by decide) (by decide) rfl hx hb hK hP (by assumption) dX4_ofProphet_49 ?_
      exact rI hx hb hr hlk dX4_ofProphet_50 (by rw [fX4_ofProphet, if_pos c1, if_pos c2])
    by_cases c3 : p1 = 1
    · refine lv_tableIn (off := 40) (tgt := 51) hx hb dX4_ofProphet_11 (by rw [c3]; decide) (by rw [c3]; decide) (by rw [c3]; rfl) (by decide) ?_
      refine lv_aload_n hx hb dX4_ofProphet_51 rfl (lv_at hl 0 rfl) ?_
      refine zg_X4_coverOf hx hb hts hin_X4 hown hK hP (hts (Cond.fieldLink RX4 16 "ProphetCoverModel" "coverOf" "[I") (List.mem_of_getElem? (i := 2) rfl)) dX4_ofProphet_52 ?_
      refine lv_iload_n hx hb dX4_ofProphet_55 rfl (lv_at hl 1 rfl) ?_
      refine zl_M (by decide) (by decide) rfl hx hb hK hP (by assumption) dX4_ofProphet_56 ?_
      exact rI hx hb hr hlk dX4_ofProphet_57 (by rw [fX4_ofProphet, if_pos c1, if_neg c2, if_pos c3])
    by_cases c4 : p1 = 2
    · refine lv_tableIn (off := 47) (tgt := 58) hx hb dX4_ofProphet_11 (by rw [c4]; decide) (by rw [c4]; decide) (by rw [c4]; rfl) (by decide) ?_
      refine lv_aload_n hx hb dX4_ofProphet_58 rfl (lv_at hl 0 rfl) ?_
      refine zg_X4_saidBy hx hb hts hin_X4 hown hK hP (hts (Cond.fieldLink RX4 19 "ProphetCoverModel" "saidBy" "[I") (List.mem_of_getElem? (i := 3) rfl)) dX4_ofProphet_59 ?_
      refine lv_iload_n hx hb dX4_ofProphet_62 rfl (lv_at hl 1 rfl) ?_
      refine zl_M (by decide) (by decide) rfl hx hb hK hP (by assumption) dX4_ofProphet_63 ?_
      exact rI hx hb hr hlk dX4_ofProphet_64 (by rw [fX4_ofProphet, if_pos c1, if_neg c2, if_neg c3, if_pos c4])
    by_cases c5 : p1 = 3
    · refine lv_tableIn (off := 54) (tgt := 65) hx hb dX4_ofProphet_11 (by rw [c5]; decide) (by rw [c5]; decide) (by rw [c5]; rfl) (by decide) ?_
      refine lv_aload_n hx hb dX4_ofProphet_65 rfl (lv_at hl 0 rfl) ?_
      refine lv_iload_n hx hb dX4_ofProphet_66 rfl (lv_at hl 1 rfl) ?_
      refine kV (n := 1) (As := [.int p0]) (rest := []) ⟨hx, hb, hml, hown, hts⟩ (kX4_paysOf l D cz bd v p0 (by assumption)) gX4_ofProphet_X4_paysOf rfl rfl rfl (by decide +kernel) ⟨Nat.le_of_ble_eq_true rfl, Nat.le_of_ble_eq_true rfl⟩ (recvM hP hK) (MB_of hP hK) MB_bl rfl hl.1 rfl (Nat.le_of_ble_eq_true rfl) dX4_ofProphet_67 ⟨Nat.le_refl _, Nat.le_refl _⟩ ?_
      exact rI hx hb hr hlk dX4_ofProphet_70 (by rw [fX4_ofProphet, if_pos c1, if_neg c2, if_neg c3, if_neg c4, if_pos c5])
    by_cases c6 : p1 = 4
    · refine lv_tableIn (off := 60) (tgt := 71) hx hb dX4_ofProphet_11 (by rw [c6]; decide) (by rw [c6]; decide) (by rw [c6]; rfl) (by decide) ?_
      refine lv_aload_n hx hb dX4_ofProphet_71 rfl (lv_at hl 0 rfl) ?_
      refine lv_iload_n hx hb dX4_ofProphet_72 rfl (lv_at hl 1 rfl) ?_
      refine kV (n := 1) (As := [.int p0]) (rest := []) ⟨hx, hb, hml, hown, hts⟩ (kX4_isFraud l D cz bd v p0 (by assumption)) gX4_ofProphet_X4_isFraud rfl rfl rfl (by decide +kernel) ⟨Nat.le_of_ble_eq_true rfl, Nat.le_of_ble_eq_true rfl⟩ (recvM hP hK) (MB_of hP hK) MB_bl rfl hl.1 rfl (Nat.le_of_ble_eq_true rfl) dX4_ofProphet_73 ⟨Nat.le_refl _, Nat.le_refl _⟩ ?_
      refine lv_if_eq (tgt := 83) hx hb dX4_ofProphet_76 (by decide) (fun c7 => ?_) (fun c7 => ?_)
      · refine lv_iconst (v := 0) hx hb dX4_ofProphet_83 (by decide) ?_
        exact rI hx hb hr hlk dX4_ofProphet_84 (by rw [fX4_ofProphet, if_pos c1, if_neg c2, if_neg c3, if_neg c4, if_neg c5, if_pos c6, if_pos c7])
      · refine lv_iconst (v := 1) hx hb dX4_ofProphet_79 (by decide) ?_
        refine lv_goto (tgt := 84) hx hb dX4_ofProphet_80 (by decide) ?_
        exact rI hx hb hr hlk dX4_ofProphet_84 (by rw [fX4_ofProphet, if_pos c1, if_neg c2, if_neg c3, if_neg c4, if_neg c5, if_pos c6, if_neg c7])
    refine lv_tableOut (tgt := 85) hx hb dX4_ofProphet_11 (tab_out5 c2 c3 c4 c5 c6) (by decide) ?_
    refine lv_bipush (v := (-2)) hx hb dX4_ofProphet_85 (by decide) ?_
    exact rI hx hb hr hlk dX4_ofProphet_87 (by rw [fX4_ofProphet, if_pos c1, if_neg c2, if_neg c3, if_neg c4, if_neg c5, if_neg c6])
  · refine lv_iconst (v := (-1)) hx hb dX4_ofProphet_8 (by decide) ?_
    exact rI hx hb hr hlk dX4_ofProphet_9 (by rw [fX4_ofProphet, if_neg c1])
def fX4_say (v : Mem) (p0 : Int32) (p1 : Int32) : Int32 × Mem :=
  (if (fX4_noProphet v p0) = 0 then (if (fX4_in ((p1).toInt64) 0 31) = 0 then ((-2), v) else ((v 4 p0.toNatClampNeg), (mset v 4 p0.toNatClampNeg p1))) else ((-1), v))
set_option maxRecDepth 100000 in
set_option maxHeartbeats 4000000 in
theorem kX4_say (l : Launch) (D : va_G) (cz : ClassId) (bd : Nat → Nat) (hI : MI bd) (v : Mem) (p0 : Int32) (p1 : Int32) (hpc : PcOkM v) : Met l yX4_say wsX4_say ({ frames := 2, cells := 0, slots := 0, locals := 46 } : Room) (va_Pc [.ref (bd 0), .int p0, .int p1] (MB D cz bd v)) (qW (MB D cz bd (fX4_say v p0 p1).2) (AM bd) (some (.int (fX4_say v p0 p1).1))) 0 0 (AM bd) := by
  refine m_start (cc := cX4_say) (maxL := 4) (ret := (some .int)) (by decide) rfl (Nat.le_of_ble_eq_true rfl) (fun p e s m below meth c hx hb hr hts hown hml hlk _ hB ls hl => ?_)
  obtain ⟨hP, hK⟩ := hB
  have hown : s.vm.findClass RX4 = some m.cls := hown
  have hl : lv_has ls 4 [(0, .ref (bd 0)), (1, .int p0), (2, .int p1)] := hl
  have hin_X4 : ∀ w ∈ wsX40, w ∈ wsX4_say := fun _ h => List.mem_cons_of_mem _ (List.mem_append_right _ (h))
  obtain ⟨H, hH⟩ : ∃ H, H = s.heap := ⟨_, rfl⟩
  obtain ⟨locs, hlo⟩ : ∃ z : List Loc, z = [] := ⟨_, rfl⟩
  have hS : va_S (AM bd) s.heap H locs := by rw [hH, hlo]; exact va_S.rf
  have hP : va_P D vwCl (wM cz bd v) H := by rw [hH]; exact hP
  suffices hgoal : W p l e ({ frames := 2, cells := 0, slots := 0, locals := 46 } : Room) s m ([.ref (bd 0), .int p0, .int p1] : List Value).toArray below meth c H locs 0 0 (MQ below (qW (MB D cz bd (fX4_say v p0 p1).2) (AM bd) (some (.int (fX4_say v p0 p1).1))) ([.ref (bd 0), .int p0, .int p1] : List Value).toArray s 0 0 (AM bd)) (F0 m 0 ls []) by rw [hH, hlo] at hgoal; exact hgoal
  clear hH hlo
  refine lv_aload_n hx hb dX4_say_0 rfl (lv_at hl 0 rfl) ?_
  refine lv_iload_n hx hb dX4_say_1 rfl (lv_at hl 1 rfl) ?_
  refine kV (n := 1) (As := [.int p0]) (rest := []) ⟨hx, hb, hml, hown, hts⟩ (kX4_noProphet l D cz bd v p0) gX4_say_X4_noProphet rfl rfl rfl (by decide +kernel) ⟨Nat.le_of_ble_eq_true rfl, Nat.le_of_ble_eq_true rfl⟩ (recvM hP hK) (MB_of hP hK) MB_bl rfl hl.1 rfl (Nat.le_of_ble_eq_true rfl) dX4_say_2 ⟨Nat.le_refl _, Nat.le_refl _⟩ ?_
  refine lv_if_eq (tgt := 10) hx hb dX4_say_5 (by decide) (fun c1 => ?_) (fun c1 => ?_)
  · have hv1 : vp_in p0 4 := noProphet_in (by first | with_reducible assumption | exact hpc) c1
    refine lv_iload_n hx hb dX4_say_10 rfl (lv_at hl 2 rfl) ?_
    refine lv_i2l hx hb dX4_say_11 rfl ?_
    refine lv_lconst (v := 0) hx hb dX4_say_12 (by decide) ?_
    refine lv_ldc2 hx hb hown (hts (Cond.constantLong RX4 144 (31)) (List.mem_of_getElem? (i := 1) rfl)) dX4_say_13 ?_
    refine kS (n := 3) (As := [.long (p1).toInt64, .long 0, .long 31]) (rest := []) ⟨hx, hb, hml, hown, hts⟩ (kX4_in l ((p1).toInt64) 0 31) gX4_say_X4_in rfl rfl rfl (by decide +kernel) ⟨Nat.le_of_ble_eq_true rfl, Nat.le_of_ble_eq_true rfl⟩ (fun _ _ _ => trivial) (fun _ _ _ _ _ => trivial) rfl hl.1 rfl (Nat.le_of_ble_eq_true rfl) dX4_say_16 ⟨Nat.le_refl _, Nat.le_refl _⟩ ?_
    refine lv_if_ne (tgt := 25) hx hb dX4_say_19 (by decide) (fun c2 => ?_) (fun c2 => ?_)
    · refine lv_aload_n hx hb dX4_say_25 rfl (lv_at hl 0 rfl) ?_
      refine zg_X4_saidBy hx hb hts hin_X4 hown hK hP (hts (Cond.fieldLink RX4 19 "ProphetCoverModel" "saidBy" "[I") (List.mem_of_getElem? (i := 2) rfl)) dX4_say_26 ?_
      refine lv_iload_n hx hb dX4_say_29 rfl (lv_at hl 1 rfl) ?_
      refine zl_M (by decide) (by decide) rfl hx hb hK hP (by assumption) dX4_say_30 ?_
      refine lv_istore_n (lv' := [(3, .int (v 4 p0.toNatClampNeg)), (0, .ref (bd 0)), (1, .int p0), (2, .int p1)]) hx hb dX4_say_31 rfl hl (by decide) rfl (fun ls hl => ?_)
      refine lv_aload_n hx hb dX4_say_32 rfl (lv_at hl 1 rfl) ?_
      refine zg_X4_saidBy hx hb hts hin_X4 hown hK hP (hts (Cond.fieldLink RX4 19 "ProphetCoverModel" "saidBy" "[I") (List.mem_of_getElem? (i := 2) rfl)) dX4_say_33 ?_
      refine lv_iload_n hx hb dX4_say_36 rfl (lv_at hl 2 rfl) ?_
      refine lv_iload_n hx hb dX4_say_37 rfl (lv_at hl 3 rfl) ?_
      refine zs_M (by decide) (by decide) rfl hx hb hK hP hI hS (by assumption) dX4_say_38 (fun H locs hP hS => ?_)
      refine lv_iload_n hx hb dX4_say_39 rfl (lv_at hl 0 rfl) ?_
      exact rMI hx hb hr hlk hK hP hS dX4_say_40 (by rw [fX4_say, if_pos c1, if_neg c2])
    · refine lv_bipush (v := (-2)) hx hb dX4_say_22 (by decide) ?_
      exact rMI hx hb hr hlk hK hP hS dX4_say_24 (by rw [fX4_say, if_pos c1, if_pos c2])
  · refine lv_iconst (v := (-1)) hx hb dX4_say_8 (by decide) ?_
    exact rMI hx hb hr hlk hK hP hS dX4_say_9 (by rw [fX4_say, if_neg c1])
def fX4_paidTo (v : Mem) (p0 : Int32) (p1 : Int32) : Int32 :=
  (if (fX4_isFraud v p0) = 0 then ((fX4_paysOf v p0) * (fX4_bits (((v 4 p0.toNatClampNeg) &&& p1) &&& (fX4_allEvents v)))) else 0)
set_option maxRecDepth 100000 in
set_option maxHeartbeats 4000000 in
theorem kX4_paidTo (l : Launch) (D : va_G) (cz : ClassId) (bd : Nat → Nat) (v : Mem) (p0 : Int32) (p1 : Int32) (hp : vp_in p0 4) : Met l yX4_paidTo wsX4_paidTo ({ frames := 2, cells := 0, slots := 0, locals := 41 } : Room) (va_Pc [.ref (bd 0), .int p0, .int p1] (MB D cz bd v)) (qR (some (.int (fX4_paidTo v p0 p1)))) 0 0 noF := by
  refine m_start (cc := cX4_paidTo) (maxL := 3) (ret := (some .int)) (by decide) rfl (Nat.le_of_ble_eq_true rfl) (fun p e s m below meth c hx hb hr hts hown hml hlk _ hB ls hl => ?_)
  obtain ⟨hP, hK⟩ := hB
  have hown : s.vm.findClass RX4 = some m.cls := hown
  have hl : lv_has ls 3 [(0, .ref (bd 0)), (1, .int p0), (2, .int p1)] := hl
  have hin_X4 : ∀ w ∈ wsX40, w ∈ wsX4_paidTo := fun _ h => List.mem_cons_of_mem _ (List.mem_append_right _ (h))
  refine lv_aload_n hx hb dX4_paidTo_0 rfl (lv_at hl 0 rfl) ?_
  refine lv_iload_n hx hb dX4_paidTo_1 rfl (lv_at hl 1 rfl) ?_
  refine kV (n := 1) (As := [.int p0]) (rest := []) ⟨hx, hb, hml, hown, hts⟩ (kX4_isFraud l D cz bd v p0 (by assumption)) gX4_paidTo_X4_isFraud rfl rfl rfl (by decide +kernel) ⟨Nat.le_of_ble_eq_true rfl, Nat.le_of_ble_eq_true rfl⟩ (recvM hP hK) (MB_of hP hK) MB_bl rfl hl.1 rfl (Nat.le_of_ble_eq_true rfl) dX4_paidTo_2 ⟨Nat.le_refl _, Nat.le_refl _⟩ ?_
  refine lv_if_eq (tgt := 12) hx hb dX4_paidTo_5 (by decide) (fun c1 => ?_) (fun c1 => ?_)
  · refine lv_aload_n hx hb dX4_paidTo_12 rfl (lv_at hl 0 rfl) ?_
    refine lv_iload_n hx hb dX4_paidTo_13 rfl (lv_at hl 1 rfl) ?_
    refine kV (n := 1) (As := [.int p0]) (rest := []) ⟨hx, hb, hml, hown, hts⟩ (kX4_paysOf l D cz bd v p0 (by assumption)) gX4_paidTo_X4_paysOf rfl rfl rfl (by decide +kernel) ⟨Nat.le_of_ble_eq_true rfl, Nat.le_of_ble_eq_true rfl⟩ (recvM hP hK) (MB_of hP hK) MB_bl rfl hl.1 rfl (Nat.le_of_ble_eq_true rfl) dX4_paidTo_14 ⟨Nat.le_refl _, Nat.le_refl _⟩ ?_
    refine lv_aload_n hx hb dX4_paidTo_17 rfl (lv_at hl 0 rfl) ?_
    refine zg_X4_saidBy hx hb hts hin_X4 hown hK hP (hts (Cond.fieldLink RX4 19 "ProphetCoverModel" "saidBy" "[I") (List.mem_of_getElem? (i := 1) rfl)) dX4_paidTo_18 ?_
    refine lv_iload_n hx hb dX4_paidTo_21 rfl (lv_at hl 1 rfl) ?_
    refine zl_M (by decide) (by decide) rfl hx hb hK hP (by assumption) dX4_paidTo_22 ?_
    refine lv_iload_n hx hb dX4_paidTo_23 rfl (lv_at hl 2 rfl) ?_
    refine lv_iand hx hb dX4_paidTo_24 ?_
    refine lv_aload_n hx hb dX4_paidTo_25 rfl (lv_at hl 0 rfl) ?_
    refine kV (n := 0) (As := []) (rest := [.int ((v 4 p0.toNatClampNeg) &&& p1), .int (fX4_paysOf v p0)]) ⟨hx, hb, hml, hown, hts⟩ (kX4_allEvents l D cz bd v) gX4_paidTo_X4_allEvents rfl rfl rfl (by decide +kernel) ⟨Nat.le_of_ble_eq_true rfl, Nat.le_of_ble_eq_true rfl⟩ (recvM hP hK) (MB_of hP hK) MB_bl rfl hl.1 rfl (Nat.le_of_ble_eq_true rfl) dX4_paidTo_26 ⟨Nat.le_refl _, Nat.le_refl _⟩ ?_
    refine lv_iand hx hb dX4_paidTo_29 ?_
    refine kS (n := 1) (As := [.int (((v 4 p0.toNatClampNeg) &&& p1) &&& (fX4_allEvents v))]) (rest := [.int (fX4_paysOf v p0)]) ⟨hx, hb, hml, hown, hts⟩ (kX4_bits l (((v 4 p0.toNatClampNeg) &&& p1) &&& (fX4_allEvents v))) gX4_paidTo_X4_bits rfl rfl rfl (by decide +kernel) ⟨Nat.le_of_ble_eq_true rfl, Nat.le_of_ble_eq_true rfl⟩ (fun _ _ _ => trivial) (fun _ _ _ _ _ => trivial) rfl hl.1 rfl (Nat.le_of_ble_eq_true rfl) dX4_paidTo_30 ⟨Nat.le_refl _, Nat.le_refl _⟩ ?_
    refine lv_imul hx hb dX4_paidTo_33 ?_
    exact rI hx hb hr hlk dX4_paidTo_34 (by rw [fX4_paidTo, if_pos c1])
  · refine lv_iconst (v := 0) hx hb dX4_paidTo_8 (by decide) ?_
    refine lv_goto (tgt := 34) hx hb dX4_paidTo_9 (by decide) ?_
    exact rI hx hb hr hlk dX4_paidTo_34 (by rw [fX4_paidTo, if_neg c1])
def fX4_paidToAll_c4 (v : Mem) (p0 : Int32)  : Nat → Int32 → Int32 → Int32
  | 0, x3, x2 => 0
  | n4 + 1, x3, x2 => (if (v 0 3) ≤ x3 then x2 else (fX4_paidToAll_c4 v p0 n4 (x3 + 1) (x2 + (fX4_paidTo v x3 p0))))
def fX4_paidToAll (v : Mem) (p0 : Int32) : Int32 :=
  (fX4_paidToAll_c4 v p0 (5) 0 0)
set_option maxRecDepth 100000 in
set_option maxHeartbeats 4000000 in
theorem kX4_paidToAll (l : Launch) (D : va_G) (cz : ClassId) (bd : Nat → Nat) (v : Mem) (p0 : Int32) (hpc : PcOkM v) : Met l yX4_paidToAll wsX4_paidToAll ({ frames := 3, cells := 0, slots := 0, locals := 63 } : Room) (va_Pc [.ref (bd 0), .int p0] (MB D cz bd v)) (qR (some (.int (fX4_paidToAll v p0)))) 0 0 noF := by
  refine m_start (cc := cX4_paidToAll) (maxL := 4) (ret := (some .int)) (by decide) rfl (Nat.le_of_ble_eq_true rfl) (fun p e s m below meth c hx hb hr hts hown hml hlk _ hB ls hl => ?_)
  obtain ⟨hP, hK⟩ := hB
  have hown : s.vm.findClass RX4 = some m.cls := hown
  have hl : lv_has ls 4 [(0, .ref (bd 0)), (1, .int p0)] := hl
  have hin_X4 : ∀ w ∈ wsX40, w ∈ wsX4_paidToAll := fun _ h => List.mem_cons_of_mem _ (List.mem_append_right _ (h))
  obtain ⟨np, hnp, enp⟩ := id hpc
  refine lv_iconst (v := 0) hx hb dX4_paidToAll_0 (by decide) ?_
  refine lv_istore_n (lv' := [(2, .int 0), (0, .ref (bd 0)), (1, .int p0)]) hx hb dX4_paidToAll_1 rfl hl (by decide) rfl (fun ls hl => ?_)
  refine lv_iconst (v := 0) hx hb dX4_paidToAll_2 (by decide) ?_
  refine lv_istore_n (lv' := [(3, .int 0), (2, .int 0), (0, .ref (bd 0)), (1, .int p0)]) hx hb dX4_paidToAll_3 rfl hl (by decide) rfl (fun ls hl => ?_)
  have lp4 : ∀ (n4 : Nat) (x3 : Int32) (x2 : Int32) (k4 : Nat), (fX4_paidToAll v p0) = (fX4_paidToAll_c4 v p0 n4 x3 x2) → (x3 = nI k4) → (k4 ≤ np) → (np < k4 + n4) → ∀ ls : Array Slot, lv_has ls 4 [(3, .int x3), (2, .int x2), (0, .ref (bd 0)), (1, .int p0)] → W p l e ({ frames := 3, cells := 0, slots := 0, locals := 63 } : Room) s m ([.ref (bd 0), .int p0] : List Value).toArray below meth c s.heap [] 0 0 (MQ below (qR (some (.int (fX4_paidToAll v p0)))) ([.ref (bd 0), .int p0] : List Value).toArray s 0 0 noF) (F0 m 4 ls []) := by
    intro n4
    induction n4 with
    | zero =>
      intro x3 x2 k4 _ e4 hk4 hm4 ls hl
      exfalso; omega
    | succ n4 ih4 =>
      intro x3 x2 k4 hr4 e4 hk4 hm4 ls hl
      refine lv_iload_n hx hb dX4_paidToAll_4 rfl (lv_at hl 0 rfl) ?_
      refine lv_aload_n hx hb dX4_paidToAll_5 rfl (lv_at hl 2 rfl) ?_
      refine zg_X4_prophets hx hb hts hin_X4 hown hK hP (hts (Cond.fieldLink RX4 72 "ProphetCoverModel" "prophets" "I") (List.mem_of_getElem? (i := 1) rfl)) dX4_paidToAll_6 ?_
      refine lv_icmp_ge (tgt := 27) hx hb dX4_paidToAll_9 (by decide) (fun c1 => ?_) (fun c1 => ?_)
      · refine lv_iload_n hx hb dX4_paidToAll_27 rfl (lv_at hl 1 rfl) ?_
        exact rI hx hb hr hlk dX4_paidToAll_28 (by rw [hr4, fX4_paidToAll_c4, if_pos c1])
      · have hlt4 : k4 < np := cnt_lt enp e4 (by omega) (by omega) c1
        have hv4 : vp_in x3 4 := cnt_in e4 (by omega) (by decide)
        refine lv_iload_n hx hb dX4_paidToAll_12 rfl (lv_at hl 1 rfl) ?_
        refine lv_aload_n hx hb dX4_paidToAll_13 rfl (lv_at hl 2 rfl) ?_
        refine lv_iload_n hx hb dX4_paidToAll_14 rfl (lv_at hl 0 rfl) ?_
        refine lv_iload_n hx hb dX4_paidToAll_15 rfl (lv_at hl 3 rfl) ?_
        refine kV (n := 2) (As := [.int x3, .int p0]) (rest := [.int x2]) ⟨hx, hb, hml, hown, hts⟩ (kX4_paidTo l D cz bd v x3 p0 (by assumption)) gX4_paidToAll_X4_paidTo rfl rfl rfl (by decide +kernel) ⟨Nat.le_of_ble_eq_true rfl, Nat.le_of_ble_eq_true rfl⟩ (recvM hP hK) (MB_of hP hK) MB_bl rfl hl.1 rfl (Nat.le_of_ble_eq_true rfl) dX4_paidToAll_16 ⟨Nat.le_refl _, Nat.le_refl _⟩ ?_
        refine lv_iadd hx hb dX4_paidToAll_19 ?_
        refine lv_istore_n (lv' := [(2, .int (x2 + (fX4_paidTo v x3 p0))), (3, .int x3), (0, .ref (bd 0)), (1, .int p0)]) hx hb dX4_paidToAll_20 rfl hl (by decide) rfl (fun ls hl => ?_)
        refine lv_iinc (v := (x3 + 1)) (lv' := [(3, .int (x3 + 1)), (2, .int (x2 + (fX4_paidTo v x3 p0))), (0, .ref (bd 0)), (1, .int p0)]) hx hb dX4_paidToAll_21 hl (k := 1) rfl rfl (by decide) rfl (fun ls hl => ?_)
        refine lv_goto (tgt := 4) hx hb dX4_paidToAll_24 (by decide) ?_
        exact ih4 (x3 + 1) (x2 + (fX4_paidTo v x3 p0)) (k4 + 1) (by rw [hr4, fX4_paidToAll_c4, if_neg c1]) (by rw [e4]; exact nI_1 _) hlt4 (by omega) ls (lv_sub hl [0, 1, 2, 3] rfl)
  exact lp4 (5) 0 0 (0) (by rw [fX4_paidToAll]) nI_0.symm (by omega) (by omega) ls (lv_sub hl [0, 1, 2, 3] rfl)
def fX4_paid (v : Mem) (p0 : Int32) (p1 : Int32) : Int32 :=
  (if (fX4_noProphet v p0) = 0 then (if (fX4_noSet v p1) = 0 then (fX4_paidTo v p0 p1) else (-2)) else (-1))
set_option maxRecDepth 100000 in
set_option maxHeartbeats 4000000 in
theorem kX4_paid (l : Launch) (D : va_G) (cz : ClassId) (bd : Nat → Nat) (v : Mem) (p0 : Int32) (p1 : Int32) (hpc : PcOkM v) : Met l yX4_paid wsX4_paid ({ frames := 3, cells := 0, slots := 0, locals := 63 } : Room) (va_Pc [.ref (bd 0), .int p0, .int p1] (MB D cz bd v)) (qR (some (.int (fX4_paid v p0 p1)))) 0 0 noF := by
  refine m_start (cc := cX4_paid) (maxL := 3) (ret := (some .int)) (by decide) rfl (Nat.le_of_ble_eq_true rfl) (fun p e s m below meth c hx hb hr hts hown hml hlk _ hB ls hl => ?_)
  obtain ⟨hP, hK⟩ := hB
  have hown : s.vm.findClass RX4 = some m.cls := hown
  have hl : lv_has ls 3 [(0, .ref (bd 0)), (1, .int p0), (2, .int p1)] := hl
  have hin_X4 : ∀ w ∈ wsX40, w ∈ wsX4_paid := fun _ h => List.mem_cons_of_mem _ (List.mem_append_right _ (h))
  refine lv_aload_n hx hb dX4_paid_0 rfl (lv_at hl 0 rfl) ?_
  refine lv_iload_n hx hb dX4_paid_1 rfl (lv_at hl 1 rfl) ?_
  refine kV (n := 1) (As := [.int p0]) (rest := []) ⟨hx, hb, hml, hown, hts⟩ (kX4_noProphet l D cz bd v p0) gX4_paid_X4_noProphet rfl rfl rfl (by decide +kernel) ⟨Nat.le_of_ble_eq_true rfl, Nat.le_of_ble_eq_true rfl⟩ (recvM hP hK) (MB_of hP hK) MB_bl rfl hl.1 rfl (Nat.le_of_ble_eq_true rfl) dX4_paid_2 ⟨Nat.le_refl _, Nat.le_refl _⟩ ?_
  refine lv_if_eq (tgt := 10) hx hb dX4_paid_5 (by decide) (fun c1 => ?_) (fun c1 => ?_)
  · have hv1 : vp_in p0 4 := noProphet_in (by first | with_reducible assumption | exact hpc) c1
    refine lv_aload_n hx hb dX4_paid_10 rfl (lv_at hl 0 rfl) ?_
    refine lv_iload_n hx hb dX4_paid_11 rfl (lv_at hl 2 rfl) ?_
    refine kV (n := 1) (As := [.int p1]) (rest := []) ⟨hx, hb, hml, hown, hts⟩ (kX4_noSet l D cz bd v p1) gX4_paid_X4_noSet rfl rfl rfl (by decide +kernel) ⟨Nat.le_of_ble_eq_true rfl, Nat.le_of_ble_eq_true rfl⟩ (recvM hP hK) (MB_of hP hK) MB_bl rfl hl.1 rfl (Nat.le_of_ble_eq_true rfl) dX4_paid_12 ⟨Nat.le_refl _, Nat.le_refl _⟩ ?_
    refine lv_if_eq (tgt := 23) hx hb dX4_paid_15 (by decide) (fun c2 => ?_) (fun c2 => ?_)
    · refine lv_aload_n hx hb dX4_paid_23 rfl (lv_at hl 0 rfl) ?_
      refine lv_iload_n hx hb dX4_paid_24 rfl (lv_at hl 1 rfl) ?_
      refine lv_iload_n hx hb dX4_paid_25 rfl (lv_at hl 2 rfl) ?_
      refine kV (n := 2) (As := [.int p0, .int p1]) (rest := []) ⟨hx, hb, hml, hown, hts⟩ (kX4_paidTo l D cz bd v p0 p1 (by assumption)) gX4_paid_X4_paidTo rfl rfl rfl (by decide +kernel) ⟨Nat.le_of_ble_eq_true rfl, Nat.le_of_ble_eq_true rfl⟩ (recvM hP hK) (MB_of hP hK) MB_bl rfl hl.1 rfl (Nat.le_of_ble_eq_true rfl) dX4_paid_26 ⟨Nat.le_refl _, Nat.le_refl _⟩ ?_
      exact rI hx hb hr hlk dX4_paid_29 (by rw [fX4_paid, if_pos c1, if_pos c2])
    · refine lv_bipush (v := (-2)) hx hb dX4_paid_18 (by decide) ?_
      refine lv_goto (tgt := 29) hx hb dX4_paid_20 (by decide) ?_
      exact rI hx hb hr hlk dX4_paid_29 (by rw [fX4_paid, if_pos c1, if_neg c2])
  · refine lv_iconst (v := (-1)) hx hb dX4_paid_8 (by decide) ?_
    exact rI hx hb hr hlk dX4_paid_9 (by rw [fX4_paid, if_neg c1])
def fX4_total (v : Mem) (p0 : Int32) : Int32 :=
  (if (v 0 3) = 0 then (-3) else (if (fX4_noSet v p0) = 0 then (fX4_paidToAll v p0) else (-2)))
set_option maxRecDepth 100000 in
set_option maxHeartbeats 4000000 in
theorem kX4_total (l : Launch) (D : va_G) (cz : ClassId) (bd : Nat → Nat) (v : Mem) (p0 : Int32) (hpc : PcOkM v) : Met l yX4_total wsX4_total ({ frames := 4, cells := 0, slots := 0, locals := 86 } : Room) (va_Pc [.ref (bd 0), .int p0] (MB D cz bd v)) (qR (some (.int (fX4_total v p0)))) 0 0 noF := by
  refine m_start (cc := cX4_total) (maxL := 2) (ret := (some .int)) (by decide) rfl (Nat.le_of_ble_eq_true rfl) (fun p e s m below meth c hx hb hr hts hown hml hlk _ hB ls hl => ?_)
  obtain ⟨hP, hK⟩ := hB
  have hown : s.vm.findClass RX4 = some m.cls := hown
  have hl : lv_has ls 2 [(0, .ref (bd 0)), (1, .int p0)] := hl
  have hin_X4 : ∀ w ∈ wsX40, w ∈ wsX4_total := fun _ h => List.mem_cons_of_mem _ (List.mem_append_right _ (h))
  refine lv_aload_n hx hb dX4_total_0 rfl (lv_at hl 0 rfl) ?_
  refine zg_X4_prophets hx hb hts hin_X4 hown hK hP (hts (Cond.fieldLink RX4 72 "ProphetCoverModel" "prophets" "I") (List.mem_of_getElem? (i := 1) rfl)) dX4_total_1 ?_
  refine lv_if_ne (tgt := 10) hx hb dX4_total_4 (by decide) (fun c1 => ?_) (fun c1 => ?_)
  · refine lv_aload_n hx hb dX4_total_10 rfl (lv_at hl 0 rfl) ?_
    refine lv_iload_n hx hb dX4_total_11 rfl (lv_at hl 1 rfl) ?_
    refine kV (n := 1) (As := [.int p0]) (rest := []) ⟨hx, hb, hml, hown, hts⟩ (kX4_noSet l D cz bd v p0) gX4_total_X4_noSet rfl rfl rfl (by decide +kernel) ⟨Nat.le_of_ble_eq_true rfl, Nat.le_of_ble_eq_true rfl⟩ (recvM hP hK) (MB_of hP hK) MB_bl rfl hl.1 rfl (Nat.le_of_ble_eq_true rfl) dX4_total_12 ⟨Nat.le_refl _, Nat.le_refl _⟩ ?_
    refine lv_if_eq (tgt := 23) hx hb dX4_total_15 (by decide) (fun c2 => ?_) (fun c2 => ?_)
    · refine lv_aload_n hx hb dX4_total_23 rfl (lv_at hl 0 rfl) ?_
      refine lv_iload_n hx hb dX4_total_24 rfl (lv_at hl 1 rfl) ?_
      refine kV (n := 1) (As := [.int p0]) (rest := []) ⟨hx, hb, hml, hown, hts⟩ (kX4_paidToAll l D cz bd v p0 (by first | exact hpc | assumption)) gX4_total_X4_paidToAll rfl rfl rfl (by decide +kernel) ⟨Nat.le_of_ble_eq_true rfl, Nat.le_of_ble_eq_true rfl⟩ (recvM hP hK) (MB_of hP hK) MB_bl rfl hl.1 rfl (Nat.le_of_ble_eq_true rfl) dX4_total_25 ⟨Nat.le_refl _, Nat.le_refl _⟩ ?_
      exact rI hx hb hr hlk dX4_total_28 (by rw [fX4_total, if_neg c1, if_pos c2])
    · refine lv_bipush (v := (-2)) hx hb dX4_total_18 (by decide) ?_
      refine lv_goto (tgt := 28) hx hb dX4_total_20 (by decide) ?_
      exact rI hx hb hr hlk dX4_total_28 (by rw [fX4_total, if_neg c1, if_neg c2])
  · refine lv_bipush (v := (-3)) hx hb dX4_total_7 (by decide) ?_
    exact rI hx hb hr hlk dX4_total_9 (by rw [fX4_total, if_pos c1])
def fX4_premiumsOf_c4 (v : Mem) (p0 : Int32)  : Nat → Int32 → Int32 → Int32
  | 0, x3, x2 => 0
  | n4 + 1, x3, x2 => (if (v 0 3) ≤ x3 then x2 else (fX4_premiumsOf_c4 v p0 n4 (x3 + 1) (x2 + (p0 * (fX4_bits ((v 4 x3.toNatClampNeg) &&& (fX4_allEvents v)))))))
def fX4_premiumsOf (v : Mem) (p0 : Int32) : Int32 :=
  (fX4_premiumsOf_c4 v p0 (5) 0 0)
set_option maxRecDepth 100000 in
set_option maxHeartbeats 4000000 in
theorem kX4_premiumsOf (l : Launch) (D : va_G) (cz : ClassId) (bd : Nat → Nat) (v : Mem) (p0 : Int32) (hpc : PcOkM v) : Met l yX4_premiumsOf wsX4_premiumsOf ({ frames := 1, cells := 0, slots := 0, locals := 22 } : Room) (va_Pc [.ref (bd 0), .int p0] (MB D cz bd v)) (qR (some (.int (fX4_premiumsOf v p0)))) 0 0 noF := by
  refine m_start (cc := cX4_premiumsOf) (maxL := 4) (ret := (some .int)) (by decide) rfl (Nat.le_of_ble_eq_true rfl) (fun p e s m below meth c hx hb hr hts hown hml hlk _ hB ls hl => ?_)
  obtain ⟨hP, hK⟩ := hB
  have hown : s.vm.findClass RX4 = some m.cls := hown
  have hl : lv_has ls 4 [(0, .ref (bd 0)), (1, .int p0)] := hl
  have hin_X4 : ∀ w ∈ wsX40, w ∈ wsX4_premiumsOf := fun _ h => List.mem_cons_of_mem _ (List.mem_append_right _ (h))
  obtain ⟨np, hnp, enp⟩ := id hpc
  refine lv_iconst (v := 0) hx hb dX4_premiumsOf_0 (by decide) ?_
  refine lv_istore_n (lv' := [(2, .int 0), (0, .ref (bd 0)), (1, .int p0)]) hx hb dX4_premiumsOf_1 rfl hl (by decide) rfl (fun ls hl => ?_)
  refine lv_iconst (v := 0) hx hb dX4_premiumsOf_2 (by decide) ?_
  refine lv_istore_n (lv' := [(3, .int 0), (2, .int 0), (0, .ref (bd 0)), (1, .int p0)]) hx hb dX4_premiumsOf_3 rfl hl (by decide) rfl (fun ls hl => ?_)
  have lp4 : ∀ (n4 : Nat) (x3 : Int32) (x2 : Int32) (k4 : Nat), (fX4_premiumsOf v p0) = (fX4_premiumsOf_c4 v p0 n4 x3 x2) → (x3 = nI k4) → (k4 ≤ np) → (np < k4 + n4) → ∀ ls : Array Slot, lv_has ls 4 [(3, .int x3), (2, .int x2), (0, .ref (bd 0)), (1, .int p0)] → W p l e ({ frames := 1, cells := 0, slots := 0, locals := 22 } : Room) s m ([.ref (bd 0), .int p0] : List Value).toArray below meth c s.heap [] 0 0 (MQ below (qR (some (.int (fX4_premiumsOf v p0)))) ([.ref (bd 0), .int p0] : List Value).toArray s 0 0 noF) (F0 m 4 ls []) := by
    intro n4
    induction n4 with
    | zero =>
      intro x3 x2 k4 _ e4 hk4 hm4 ls hl
      exfalso; omega
    | succ n4 ih4 =>
      intro x3 x2 k4 hr4 e4 hk4 hm4 ls hl
      refine lv_iload_n hx hb dX4_premiumsOf_4 rfl (lv_at hl 0 rfl) ?_
      refine lv_aload_n hx hb dX4_premiumsOf_5 rfl (lv_at hl 2 rfl) ?_
      refine zg_X4_prophets hx hb hts hin_X4 hown hK hP (hts (Cond.fieldLink RX4 72 "ProphetCoverModel" "prophets" "I") (List.mem_of_getElem? (i := 1) rfl)) dX4_premiumsOf_6 ?_
      refine lv_icmp_ge (tgt := 37) hx hb dX4_premiumsOf_9 (by decide) (fun c1 => ?_) (fun c1 => ?_)
      · refine lv_iload_n hx hb dX4_premiumsOf_37 rfl (lv_at hl 1 rfl) ?_
        exact rI hx hb hr hlk dX4_premiumsOf_38 (by rw [hr4, fX4_premiumsOf_c4, if_pos c1])
      · have hlt4 : k4 < np := cnt_lt enp e4 (by omega) (by omega) c1
        have hv4 : vp_in x3 4 := cnt_in e4 (by omega) (by decide)
        refine lv_iload_n hx hb dX4_premiumsOf_12 rfl (lv_at hl 1 rfl) ?_
        refine lv_iload_n hx hb dX4_premiumsOf_13 rfl (lv_at hl 3 rfl) ?_
        refine lv_aload_n hx hb dX4_premiumsOf_14 rfl (lv_at hl 2 rfl) ?_
        refine zg_X4_saidBy hx hb hts hin_X4 hown hK hP (hts (Cond.fieldLink RX4 19 "ProphetCoverModel" "saidBy" "[I") (List.mem_of_getElem? (i := 2) rfl)) dX4_premiumsOf_15 ?_
        refine lv_iload_n hx hb dX4_premiumsOf_18 rfl (lv_at hl 0 rfl) ?_
        refine zl_M (by decide) (by decide) rfl hx hb hK hP (by assumption) dX4_premiumsOf_19 ?_
        refine lv_aload_n hx hb dX4_premiumsOf_20 rfl (lv_at hl 2 rfl) ?_
        refine kV (n := 0) (As := []) (rest := [.int (v 4 x3.toNatClampNeg), .int p0, .int x2]) ⟨hx, hb, hml, hown, hts⟩ (kX4_allEvents l D cz bd v) gX4_premiumsOf_X4_allEvents rfl rfl rfl (by decide +kernel) ⟨Nat.le_of_ble_eq_true rfl, Nat.le_of_ble_eq_true rfl⟩ (recvM hP hK) (MB_of hP hK) MB_bl rfl hl.1 rfl (Nat.le_of_ble_eq_true rfl) dX4_premiumsOf_21 ⟨Nat.le_refl _, Nat.le_refl _⟩ ?_
        refine lv_iand hx hb dX4_premiumsOf_24 ?_
        refine kS (n := 1) (As := [.int ((v 4 x3.toNatClampNeg) &&& (fX4_allEvents v))]) (rest := [.int p0, .int x2]) ⟨hx, hb, hml, hown, hts⟩ (kX4_bits l ((v 4 x3.toNatClampNeg) &&& (fX4_allEvents v))) gX4_premiumsOf_X4_bits rfl rfl rfl (by decide +kernel) ⟨Nat.le_of_ble_eq_true rfl, Nat.le_of_ble_eq_true rfl⟩ (fun _ _ _ => trivial) (fun _ _ _ _ _ => trivial) rfl hl.1 rfl (Nat.le_of_ble_eq_true rfl) dX4_premiumsOf_25 ⟨Nat.le_refl _, Nat.le_refl _⟩ ?_
        refine lv_imul hx hb dX4_premiumsOf_28 ?_
        refine lv_iadd hx hb dX4_premiumsOf_29 ?_
        refine lv_istore_n (lv' := [(2, .int (x2 + (p0 * (fX4_bits ((v 4 x3.toNatClampNeg) &&& (fX4_allEvents v)))))), (3, .int x3), (0, .ref (bd 0)), (1, .int p0)]) hx hb dX4_premiumsOf_30 rfl hl (by decide) rfl (fun ls hl => ?_)
        refine lv_iinc (v := (x3 + 1)) (lv' := [(3, .int (x3 + 1)), (2, .int (x2 + (p0 * (fX4_bits ((v 4 x3.toNatClampNeg) &&& (fX4_allEvents v)))))), (0, .ref (bd 0)), (1, .int p0)]) hx hb dX4_premiumsOf_31 hl (k := 1) rfl rfl (by decide) rfl (fun ls hl => ?_)
        refine lv_goto (tgt := 4) hx hb dX4_premiumsOf_34 (by decide) ?_
        exact ih4 (x3 + 1) (x2 + (p0 * (fX4_bits ((v 4 x3.toNatClampNeg) &&& (fX4_allEvents v))))) (k4 + 1) (by rw [hr4, fX4_premiumsOf_c4, if_neg c1]) (by rw [e4]; exact nI_1 _) hlt4 (by omega) ls (lv_sub hl [0, 1, 2, 3] rfl)
  exact lp4 (5) 0 0 (0) (by rw [fX4_premiumsOf]) nI_0.symm (by omega) (by omega) ls (lv_sub hl [0, 1, 2, 3] rfl)
