def fX4_reading (v : Mem) (p0 : Int32) (p1 : Int32) (p2 : Int32) : Int32 × Mem :=
  (if (fX4_noProphet v p0) = 0 then (if (fX4_noSet v p1) = 0 then (if (fX4_in ((p2).toInt64) 0 999) = 0 then ((-2), v) else (if (v 0 18) = 8 then ((-4), v) else ((((mset (mset (mset (mset v 9 (v 0 18).toNatClampNeg p0) 10 ((mset v 9 (v 0 18).toNatClampNeg p0) 0 18).toNatClampNeg p1) 11 ((mset (mset v 9 (v 0 18).toNatClampNeg p0) 10 ((mset v 9 (v 0 18).toNatClampNeg p0) 0 18).toNatClampNeg p1) 0 18).toNatClampNeg p2) 0 18 (((mset (mset (mset v 9 (v 0 18).toNatClampNeg p0) 10 ((mset v 9 (v 0 18).toNatClampNeg p0) 0 18).toNatClampNeg p1) 11 ((mset (mset v 9 (v 0 18).toNatClampNeg p0) 10 ((mset v 9 (v 0 18).toNatClampNeg p0) 0 18).toNatClampNeg p1) 0 18).toNatClampNeg p2) 0 18) + 1)) 0 18) - 1), (mset (mset (mset (mset v 9 (v 0 18).toNatClampNeg p0) 10 ((mset v 9 (v 0 18).toNatClampNeg p0) 0 18).toNatClampNeg p1) 11 ((mset (mset v 9 (v 0 18).toNatClampNeg p0) 10 ((mset v 9 (v 0 18).toNatClampNeg p0) 0 18).toNatClampNeg p1) 0 18).toNatClampNeg p2) 0 18 (((mset (mset (mset v 9 (v 0 18).toNatClampNeg p0) 10 ((mset v 9 (v 0 18).toNatClampNeg p0) 0 18).toNatClampNeg p1) 11 ((mset (mset v 9 (v 0 18).toNatClampNeg p0) 10 ((mset v 9 (v 0 18).toNatClampNeg p0) 0 18).toNatClampNeg p1) 0 18).toNatClampNeg p2) 0 18) + 1))))) else ((-2), v)) else ((-1), v))
set_option maxRecDepth 100000 in
set_option maxHeartbeats 4000000 in
theorem kX4_reading (l : Launch) (D : va_G) (cz : ClassId) (bd : Nat → Nat) (hI : MI bd) (v : Mem) (p0 : Int32) (p1 : Int32) (p2 : Int32) (hpc : PcOkM v) (hrc : RcOkM v) : Met l yX4_reading wsX4_reading ({ frames := 2, cells := 0, slots := 0, locals := 46 } : Room) (va_Pc [.ref (bd 0), .int p0, .int p1, .int p2] (MB D cz bd v)) (qW (MB D cz bd (fX4_reading v p0 p1 p2).2) (AM bd) (some (.int (fX4_reading v p0 p1 p2).1))) 0 0 (AM bd) := by
  refine m_start (cc := cX4_reading) (maxL := 4) (ret := (some .int)) (by decide) rfl (Nat.le_of_ble_eq_true rfl) (fun p e s m below meth c hx hb hr hts hown hml hlk _ hB ls hl => ?_)
  obtain ⟨hP, hK⟩ := hB
  have hown : s.vm.findClass RX4 = some m.cls := hown
  have hl : lv_has ls 4 [(0, .ref (bd 0)), (1, .int p0), (2, .int p1), (3, .int p2)] := hl
  have hin_X4 : ∀ w ∈ wsX40, w ∈ wsX4_reading := fun _ h => List.mem_cons_of_mem _ (List.mem_append_right _ (h))
  obtain ⟨H, hH⟩ : ∃ H, H = s.heap := ⟨_, rfl⟩
  obtain ⟨locs, hlo⟩ : ∃ z : List Loc, z = [] := ⟨_, rfl⟩
  have hS : va_S (AM bd) s.heap H locs := by rw [hH, hlo]; exact va_S.rf
  have hP : va_P D vwCl (wM cz bd v) H := by rw [hH]; exact hP
  suffices hgoal : W p l e ({ frames := 2, cells := 0, slots := 0, locals := 46 } : Room) s m ([.ref (bd 0), .int p0, .int p1, .int p2] : List Value).toArray below meth c H locs 0 0 (MQ below (qW (MB D cz bd (fX4_reading v p0 p1 p2).2) (AM bd) (some (.int (fX4_reading v p0 p1 p2).1))) ([.ref (bd 0), .int p0, .int p1, .int p2] : List Value).toArray s 0 0 (AM bd)) (F0 m 0 ls []) by rw [hH, hlo] at hgoal; exact hgoal
  clear hH hlo
  obtain ⟨nr, hnr, enr⟩ := id hrc
  refine lv_aload_n hx hb dX4_reading_0 rfl (lv_at hl 0 rfl) ?_
  refine lv_iload_n hx hb dX4_reading_1 rfl (lv_at hl 1 rfl) ?_
  refine kV (n := 1) (As := [.int p0]) (rest := []) ⟨hx, hb, hml, hown, hts⟩ (kX4_noProphet l D cz bd v p0) gX4_reading_X4_noProphet rfl rfl rfl (by decide +kernel) ⟨Nat.le_of_ble_eq_true rfl, Nat.le_of_ble_eq_true rfl⟩ (recvM hP hK) (MB_of hP hK) MB_bl rfl hl.1 rfl (Nat.le_of_ble_eq_true rfl) dX4_reading_2 ⟨Nat.le_refl _, Nat.le_refl _⟩ ?_
  refine lv_if_eq (tgt := 10) hx hb dX4_reading_5 (by decide) (fun c1 => ?_) (fun c1 => ?_)
  · have hv1 : vp_in p0 4 := noProphet_in (by first | with_reducible assumption | exact hpc) c1
    refine lv_aload_n hx hb dX4_reading_10 rfl (lv_at hl 0 rfl) ?_
    refine lv_iload_n hx hb dX4_reading_11 rfl (lv_at hl 2 rfl) ?_
    refine kV (n := 1) (As := [.int p1]) (rest := []) ⟨hx, hb, hml, hown, hts⟩ (kX4_noSet l D cz bd v p1) gX4_reading_X4_noSet rfl rfl rfl (by decide +kernel) ⟨Nat.le_of_ble_eq_true rfl, Nat.le_of_ble_eq_true rfl⟩ (recvM hP hK) (MB_of hP hK) MB_bl rfl hl.1 rfl (Nat.le_of_ble_eq_true rfl) dX4_reading_12 ⟨Nat.le_refl _, Nat.le_refl _⟩ ?_
    refine lv_if_ne (tgt := 30) hx hb dX4_reading_15 (by decide) (fun c2 => ?_) (fun c2 => ?_)
    · refine lv_bipush (v := (-2)) hx hb dX4_reading_30 (by decide) ?_
      exact rMI hx hb hr hlk hK hP hS dX4_reading_32 (by rw [fX4_reading, if_pos c1, if_neg c2])
    · refine lv_iload_n hx hb dX4_reading_18 rfl (lv_at hl 3 rfl) ?_
      refine lv_i2l hx hb dX4_reading_19 rfl ?_
      refine lv_lconst (v := 0) hx hb dX4_reading_20 (by decide) ?_
      refine lv_ldc2 hx hb hown (hts (Cond.constantLong RX4 205 (999)) (List.mem_of_getElem? (i := 1) rfl)) dX4_reading_21 ?_
      refine kS (n := 3) (As := [.long (p2).toInt64, .long 0, .long 999]) (rest := []) ⟨hx, hb, hml, hown, hts⟩ (kX4_in l ((p2).toInt64) 0 999) gX4_reading_X4_in rfl rfl rfl (by decide +kernel) ⟨Nat.le_of_ble_eq_true rfl, Nat.le_of_ble_eq_true rfl⟩ (fun _ _ _ => trivial) (fun _ _ _ _ _ => trivial) rfl hl.1 rfl (Nat.le_of_ble_eq_true rfl) dX4_reading_24 ⟨Nat.le_refl _, Nat.le_refl _⟩ ?_
      refine lv_if_ne (tgt := 33) hx hb dX4_reading_27 (by decide) (fun c3 => ?_) (fun c3 => ?_)
      · refine lv_aload_n hx hb dX4_reading_33 rfl (lv_at hl 0 rfl) ?_
        refine zg_X4_readings hx hb hts hin_X4 hown hK hP (hts (Cond.fieldLink RX4 127 "ProphetCoverModel" "readings" "I") (List.mem_of_getElem? (i := 2) rfl)) dX4_reading_34 ?_
        refine lv_bipush (v := 8) hx hb dX4_reading_37 (by decide) ?_
        refine lv_icmp_ne (tgt := 45) hx hb dX4_reading_39 (by decide) (fun c4 => ?_) (fun c4 => ?_)
        · have hv8 : vp_in (v 0 18) 8 := ne_in8 hrc c4
          refine lv_aload_n hx hb dX4_reading_45 rfl (lv_at hl 0 rfl) ?_
          refine zg_X4_readingOf hx hb hts hin_X4 hown hK hP (hts (Cond.fieldLink RX4 34 "ProphetCoverModel" "readingOf" "[I") (List.mem_of_getElem? (i := 3) rfl)) dX4_reading_46 ?_
          refine lv_aload_n hx hb dX4_reading_49 rfl (lv_at hl 0 rfl) ?_
          refine zg_X4_readings hx hb hts hin_X4 hown hK hP (hts (Cond.fieldLink RX4 127 "ProphetCoverModel" "readings" "I") (List.mem_of_getElem? (i := 2) rfl)) dX4_reading_50 ?_
          refine lv_iload_n hx hb dX4_reading_53 rfl (lv_at hl 1 rfl) ?_
          refine zs_M (by decide) (by decide) rfl hx hb hK hP hI hS (by assumption) dX4_reading_54 (fun H locs hP hS => ?_)
          refine lv_aload_n hx hb dX4_reading_55 rfl (lv_at hl 0 rfl) ?_
          refine zg_X4_readingBy hx hb hts hin_X4 hown hK hP (hts (Cond.fieldLink RX4 37 "ProphetCoverModel" "readingBy" "[I") (List.mem_of_getElem? (i := 4) rfl)) dX4_reading_56 ?_
          refine lv_aload_n hx hb dX4_reading_59 rfl (lv_at hl 0 rfl) ?_
          refine zg_X4_readings hx hb hts hin_X4 hown hK hP (hts (Cond.fieldLink RX4 127 "ProphetCoverModel" "readings" "I") (List.mem_of_getElem? (i := 2) rfl)) dX4_reading_60 ?_
          refine lv_iload_n hx hb dX4_reading_63 rfl (lv_at hl 2 rfl) ?_
          refine zs_M (by decide) (by decide) rfl hx hb hK hP hI hS (by assumption) dX4_reading_64 (fun H locs hP hS => ?_)
          refine lv_aload_n hx hb dX4_reading_65 rfl (lv_at hl 0 rfl) ?_
          refine zg_X4_readingWas hx hb hts hin_X4 hown hK hP (hts (Cond.fieldLink RX4 40 "ProphetCoverModel" "readingWas" "[I") (List.mem_of_getElem? (i := 5) rfl)) dX4_reading_66 ?_
          refine lv_aload_n hx hb dX4_reading_69 rfl (lv_at hl 0 rfl) ?_
          refine zg_X4_readings hx hb hts hin_X4 hown hK hP (hts (Cond.fieldLink RX4 127 "ProphetCoverModel" "readings" "I") (List.mem_of_getElem? (i := 2) rfl)) dX4_reading_70 ?_
          refine lv_iload_n hx hb dX4_reading_73 rfl (lv_at hl 3 rfl) ?_
          refine zs_M (by decide) (by decide) rfl hx hb hK hP hI hS (by assumption) dX4_reading_74 (fun H locs hP hS => ?_)
          refine lv_aload_n hx hb dX4_reading_75 rfl (lv_at hl 0 rfl) ?_
          refine lv_dup hx hb dX4_reading_76 rfl ?_
          refine zg_X4_readings hx hb hts hin_X4 hown hK hP (hts (Cond.fieldLink RX4 127 "ProphetCoverModel" "readings" "I") (List.mem_of_getElem? (i := 2) rfl)) dX4_reading_77 ?_
          refine lv_iconst (v := 1) hx hb dX4_reading_80 (by decide) ?_
          refine lv_iadd hx hb dX4_reading_81 ?_
          refine zp_X4_readings hx hb hts hin_X4 hown hK hP hI hS (hts (Cond.fieldLink RX4 127 "ProphetCoverModel" "readings" "I") (List.mem_of_getElem? (i := 2) rfl)) dX4_reading_82 (fun H locs hP hS => ?_)
          refine lv_aload_n hx hb dX4_reading_85 rfl (lv_at hl 0 rfl) ?_
          refine zg_X4_readings hx hb hts hin_X4 hown hK hP (hts (Cond.fieldLink RX4 127 "ProphetCoverModel" "readings" "I") (List.mem_of_getElem? (i := 2) rfl)) dX4_reading_86 ?_
          refine lv_iconst (v := 1) hx hb dX4_reading_89 (by decide) ?_
          refine lv_isub hx hb dX4_reading_90 ?_
          exact rMI hx hb hr hlk hK hP hS dX4_reading_91 (by rw [fX4_reading, if_pos c1, if_pos c2, if_neg c3, if_neg c4])
        · refine lv_bipush (v := (-4)) hx hb dX4_reading_42 (by decide) ?_
          exact rMI hx hb hr hlk hK hP hS dX4_reading_44 (by rw [fX4_reading, if_pos c1, if_pos c2, if_neg c3, if_pos c4])
      · refine lv_bipush (v := (-2)) hx hb dX4_reading_30 (by decide) ?_
        exact rMI hx hb hr hlk hK hP hS dX4_reading_32 (by rw [fX4_reading, if_pos c1, if_pos c2, if_pos c3])
  · refine lv_iconst (v := (-1)) hx hb dX4_reading_8 (by decide) ?_
    exact rMI hx hb hr hlk hK hP hS dX4_reading_9 (by rw [fX4_reading, if_neg c1])
def fX4_back (v : Mem) (p0 : Int32) : Int32 × Mem :=
  (if (fX4_in ((p0).toInt64) 0 (((v 0 18)).toInt64)) = 0 then ((-2), v) else (((mset v 0 18 ((v 0 18) - p0)) 0 18), (mset v 0 18 ((v 0 18) - p0))))
set_option maxRecDepth 100000 in
set_option maxHeartbeats 4000000 in
theorem kX4_back (l : Launch) (D : va_G) (cz : ClassId) (bd : Nat → Nat) (hI : MI bd) (v : Mem) (p0 : Int32)  : Met l yX4_back wsX4_back ({ frames := 1, cells := 0, slots := 0, locals := 25 } : Room) (va_Pc [.ref (bd 0), .int p0] (MB D cz bd v)) (qW (MB D cz bd (fX4_back v p0).2) (AM bd) (some (.int (fX4_back v p0).1))) 0 0 (AM bd) := by
  refine m_start (cc := cX4_back) (maxL := 2) (ret := (some .int)) (by decide) rfl (Nat.le_of_ble_eq_true rfl) (fun p e s m below meth c hx hb hr hts hown hml hlk _ hB ls hl => ?_)
  obtain ⟨hP, hK⟩ := hB
  have hown : s.vm.findClass RX4 = some m.cls := hown
  have hl : lv_has ls 2 [(0, .ref (bd 0)), (1, .int p0)] := hl
  have hin_X4 : ∀ w ∈ wsX40, w ∈ wsX4_back := fun _ h => List.mem_cons_of_mem _ (List.mem_append_right _ (h))
  obtain ⟨H, hH⟩ : ∃ H, H = s.heap := ⟨_, rfl⟩
  obtain ⟨locs, hlo⟩ : ∃ z : List Loc, z = [] := ⟨_, rfl⟩
  have hS : va_S (AM bd) s.heap H locs := by rw [hH, hlo]; exact va_S.rf
  have hP : va_P D vwCl (wM cz bd v) H := by rw [hH]; exact hP
  suffices hgoal : W p l e ({ frames := 1, cells := 0, slots := 0, locals := 25 } : Room) s m ([.ref (bd 0), .int p0] : List Value).toArray below meth c H locs 0 0 (MQ below (qW (MB D cz bd (fX4_back v p0).2) (AM bd) (some (.int (fX4_back v p0).1))) ([.ref (bd 0), .int p0] : List Value).toArray s 0 0 (AM bd)) (F0 m 0 ls []) by rw [hH, hlo] at hgoal; exact hgoal
  clear hH hlo
  refine lv_iload_n hx hb dX4_back_0 rfl (lv_at hl 1 rfl) ?_
  refine lv_i2l hx hb dX4_back_1 rfl ?_
  refine lv_lconst (v := 0) hx hb dX4_back_2 (by decide) ?_
  refine lv_aload_n hx hb dX4_back_3 rfl (lv_at hl 0 rfl) ?_
  refine zg_X4_readings hx hb hts hin_X4 hown hK hP (hts (Cond.fieldLink RX4 127 "ProphetCoverModel" "readings" "I") (List.mem_of_getElem? (i := 1) rfl)) dX4_back_4 ?_
  refine lv_i2l hx hb dX4_back_7 rfl ?_
  refine kS (n := 3) (As := [.long (p0).toInt64, .long 0, .long ((v 0 18)).toInt64]) (rest := []) ⟨hx, hb, hml, hown, hts⟩ (kX4_in l ((p0).toInt64) 0 (((v 0 18)).toInt64)) gX4_back_X4_in rfl rfl rfl (by decide +kernel) ⟨Nat.le_of_ble_eq_true rfl, Nat.le_of_ble_eq_true rfl⟩ (fun _ _ _ => trivial) (fun _ _ _ _ _ => trivial) rfl hl.1 rfl (Nat.le_of_ble_eq_true rfl) dX4_back_8 ⟨Nat.le_refl _, Nat.le_refl _⟩ ?_
  refine lv_if_ne (tgt := 17) hx hb dX4_back_11 (by decide) (fun c1 => ?_) (fun c1 => ?_)
  · refine lv_aload_n hx hb dX4_back_17 rfl (lv_at hl 0 rfl) ?_
    refine lv_dup hx hb dX4_back_18 rfl ?_
    refine zg_X4_readings hx hb hts hin_X4 hown hK hP (hts (Cond.fieldLink RX4 127 "ProphetCoverModel" "readings" "I") (List.mem_of_getElem? (i := 1) rfl)) dX4_back_19 ?_
    refine lv_iload_n hx hb dX4_back_22 rfl (lv_at hl 1 rfl) ?_
    refine lv_isub hx hb dX4_back_23 ?_
    refine zp_X4_readings hx hb hts hin_X4 hown hK hP hI hS (hts (Cond.fieldLink RX4 127 "ProphetCoverModel" "readings" "I") (List.mem_of_getElem? (i := 1) rfl)) dX4_back_24 (fun H locs hP hS => ?_)
    refine lv_aload_n hx hb dX4_back_27 rfl (lv_at hl 0 rfl) ?_
    refine zg_X4_readings hx hb hts hin_X4 hown hK hP (hts (Cond.fieldLink RX4 127 "ProphetCoverModel" "readings" "I") (List.mem_of_getElem? (i := 1) rfl)) dX4_back_28 ?_
    exact rMI hx hb hr hlk hK hP hS dX4_back_31 (by rw [fX4_back, if_neg c1])
  · refine lv_bipush (v := (-2)) hx hb dX4_back_14 (by decide) ?_
    exact rMI hx hb hr hlk hK hP hS dX4_back_16 (by rw [fX4_back, if_pos c1])
def fX4_areSo_c4 (v : Mem)  : Nat → Int32 → Int32 → Int32
  | 0, x2, x1 => 0
  | n4 + 1, x2, x1 => (if (v 0 18) ≤ x2 then x1 else (if x1 = 0 then (fX4_areSo_c4 v n4 (x2 + 1) 0) else (if (fX4_paidTo v (v 9 x2.toNatClampNeg) (v 10 x2.toNatClampNeg)) = (v 11 x2.toNatClampNeg) then (fX4_areSo_c4 v n4 (x2 + 1) 1) else (fX4_areSo_c4 v n4 (x2 + 1) 0))))
def fX4_areSo (v : Mem) : Int32 :=
  (fX4_areSo_c4 v (9) 0 1)
set_option maxRecDepth 100000 in
set_option maxHeartbeats 4000000 in
theorem kX4_areSo (l : Launch) (D : va_G) (cz : ClassId) (bd : Nat → Nat) (v : Mem) (hrc : RcOkM v) (hrp : RpOkM v) : Met l yX4_areSo wsX4_areSo ({ frames := 3, cells := 0, slots := 0, locals := 63 } : Room) (va_Pc [.ref (bd 0)] (MB D cz bd v)) (qR (some (.int (fX4_areSo v)))) 0 0 noF := by
  refine m_start (cc := cX4_areSo) (maxL := 3) (ret := (some .boolean)) (by decide) rfl (Nat.le_of_ble_eq_true rfl) (fun p e s m below meth c hx hb hr hts hown hml hlk _ hB ls hl => ?_)
  obtain ⟨hP, hK⟩ := hB
  have hown : s.vm.findClass RX4 = some m.cls := hown
  have hl : lv_has ls 3 [(0, .ref (bd 0))] := hl
  have hin_X4 : ∀ w ∈ wsX40, w ∈ wsX4_areSo := fun _ h => List.mem_cons_of_mem _ (List.mem_append_right _ (h))
  obtain ⟨nr, hnr, enr⟩ := id hrc
  refine lv_iconst (v := 1) hx hb dX4_areSo_0 (by decide) ?_
  refine lv_istore_n (lv' := [(1, .int 1), (0, .ref (bd 0))]) hx hb dX4_areSo_1 rfl hl (by decide) rfl (fun ls hl => ?_)
  refine lv_iconst (v := 0) hx hb dX4_areSo_2 (by decide) ?_
  refine lv_istore_n (lv' := [(2, .int 0), (1, .int 1), (0, .ref (bd 0))]) hx hb dX4_areSo_3 rfl hl (by decide) rfl (fun ls hl => ?_)
  have lp4 : ∀ (n4 : Nat) (x2 : Int32) (x1 : Int32) (k4 : Nat), (fX4_areSo v) = (fX4_areSo_c4 v n4 x2 x1) → (x2 = nI k4) → (k4 ≤ nr) → (nr < k4 + n4) → (x1 = 0 ∨ x1 = 1) → ∀ ls : Array Slot, lv_has ls 3 [(2, .int x2), (1, .int x1), (0, .ref (bd 0))] → W p l e ({ frames := 3, cells := 0, slots := 0, locals := 63 } : Room) s m ([.ref (bd 0)] : List Value).toArray below meth c s.heap [] 0 0 (MQ below (qR (some (.int (fX4_areSo v)))) ([.ref (bd 0)] : List Value).toArray s 0 0 noF) (F0 m 4 ls []) := by
    intro n4
    induction n4 with
    | zero =>
      intro x2 x1 k4 _ e4 hk4 hm4 b4 ls hl
      exfalso; omega
    | succ n4 ih4 =>
      intro x2 x1 k4 hr4 e4 hk4 hm4 b4 ls hl
      refine lv_iload_n hx hb dX4_areSo_4 rfl (lv_at hl 0 rfl) ?_
      refine lv_aload_n hx hb dX4_areSo_5 rfl (lv_at hl 2 rfl) ?_
      refine zg_X4_readings hx hb hts hin_X4 hown hK hP (hts (Cond.fieldLink RX4 127 "ProphetCoverModel" "readings" "I") (List.mem_of_getElem? (i := 1) rfl)) dX4_areSo_6 ?_
      refine lv_icmp_ge (tgt := 53) hx hb dX4_areSo_9 (by decide) (fun c1 => ?_) (fun c1 => ?_)
      · refine lv_iload_n hx hb dX4_areSo_53 rfl (lv_at hl 1 rfl) ?_
        exact rZ hx hb hr hlk (by first | assumption | exact nb_isDigit _ _ | exact nb_isWithin _ _ | exact nb01 (by assumption)) dX4_areSo_54 (by rw [hr4, fX4_areSo_c4, if_pos c1])
      · have hlt4 : k4 < nr := cnt_lt enr e4 (by omega) (by omega) c1
        have hv4 : vp_in x2 8 := cnt_in e4 (by omega) (by decide)
        have hvq : vp_in (v 9 x2.toNatClampNeg) 4 := hrp _ (vlt hv4)
        refine lv_iload_n hx hb dX4_areSo_12 rfl (lv_at hl 1 rfl) ?_
        refine lv_if_eq (tgt := 45) hx hb dX4_areSo_13 (by decide) (fun c2 => ?_) (fun c2 => ?_)
        · refine lv_iconst (v := 0) hx hb dX4_areSo_45 (by decide) ?_
          refine lv_istore_n (lv' := [(1, .int 0), (2, .int x2), (0, .ref (bd 0))]) hx hb dX4_areSo_46 rfl hl (by decide) rfl (fun ls hl => ?_)
          refine lv_iinc (v := (x2 + 1)) (lv' := [(2, .int (x2 + 1)), (1, .int 0), (0, .ref (bd 0))]) hx hb dX4_areSo_47 hl (k := 1) rfl rfl (by decide) rfl (fun ls hl => ?_)
          refine lv_goto (tgt := 4) hx hb dX4_areSo_50 (by decide) ?_
          exact ih4 (x2 + 1) 0 (k4 + 1) (by rw [hr4, fX4_areSo_c4, if_neg c1, if_pos c2]) (by rw [e4]; exact nI_1 _) hlt4 (by omega) (by first | exact Or.inl rfl | exact Or.inr rfl) ls (lv_sub hl [0, 1, 2] rfl)
        · refine lv_aload_n hx hb dX4_areSo_16 rfl (lv_at hl 2 rfl) ?_
          refine lv_aload_n hx hb dX4_areSo_17 rfl (lv_at hl 2 rfl) ?_
          refine zg_X4_readingOf hx hb hts hin_X4 hown hK hP (hts (Cond.fieldLink RX4 34 "ProphetCoverModel" "readingOf" "[I") (List.mem_of_getElem? (i := 2) rfl)) dX4_areSo_18 ?_
          refine lv_iload_n hx hb dX4_areSo_21 rfl (lv_at hl 0 rfl) ?_
          refine zl_M (by decide) (by decide) rfl hx hb hK hP (by assumption) dX4_areSo_22 ?_
          refine lv_aload_n hx hb dX4_areSo_23 rfl (lv_at hl 2 rfl) ?_
          refine zg_X4_readingBy hx hb hts hin_X4 hown hK hP (hts (Cond.fieldLink RX4 37 "ProphetCoverModel" "readingBy" "[I") (List.mem_of_getElem? (i := 3) rfl)) dX4_areSo_24 ?_
          refine lv_iload_n hx hb dX4_areSo_27 rfl (lv_at hl 0 rfl) ?_
          refine zl_M (by decide) (by decide) rfl hx hb hK hP (by assumption) dX4_areSo_28 ?_
          refine kV (n := 2) (As := [.int (v 9 x2.toNatClampNeg), .int (v 10 x2.toNatClampNeg)]) (rest := []) ⟨hx, hb, hml, hown, hts⟩ (kX4_paidTo l D cz bd v (v 9 x2.toNatClampNeg) (v 10 x2.toNatClampNeg) (by assumption)) gX4_areSo_X4_paidTo rfl rfl rfl (by decide +kernel) ⟨Nat.le_of_ble_eq_true rfl, Nat.le_of_ble_eq_true rfl⟩ (recvM hP hK) (MB_of hP hK) MB_bl rfl hl.1 rfl (Nat.le_of_ble_eq_true rfl) dX4_areSo_29 ⟨Nat.le_refl _, Nat.le_refl _⟩ ?_
          refine lv_aload_n hx hb dX4_areSo_32 rfl (lv_at hl 2 rfl) ?_
          refine zg_X4_readingWas hx hb hts hin_X4 hown hK hP (hts (Cond.fieldLink RX4 40 "ProphetCoverModel" "readingWas" "[I") (List.mem_of_getElem? (i := 4) rfl)) dX4_areSo_33 ?_
          refine lv_iload_n hx hb dX4_areSo_36 rfl (lv_at hl 0 rfl) ?_
          refine zl_M (by decide) (by decide) rfl hx hb hK hP (by assumption) dX4_areSo_37 ?_
          refine lv_icmp_ne (tgt := 45) hx hb dX4_areSo_38 (by decide) (fun c3 => ?_) (fun c3 => ?_)
          · refine lv_iconst (v := 0) hx hb dX4_areSo_45 (by decide) ?_
            refine lv_istore_n (lv' := [(1, .int 0), (2, .int x2), (0, .ref (bd 0))]) hx hb dX4_areSo_46 rfl hl (by decide) rfl (fun ls hl => ?_)
            refine lv_iinc (v := (x2 + 1)) (lv' := [(2, .int (x2 + 1)), (1, .int 0), (0, .ref (bd 0))]) hx hb dX4_areSo_47 hl (k := 1) rfl rfl (by decide) rfl (fun ls hl => ?_)
            refine lv_goto (tgt := 4) hx hb dX4_areSo_50 (by decide) ?_
            exact ih4 (x2 + 1) 0 (k4 + 1) (by rw [hr4, fX4_areSo_c4, if_neg c1, if_neg c2, if_neg c3]) (by rw [e4]; exact nI_1 _) hlt4 (by omega) (by first | exact Or.inl rfl | exact Or.inr rfl) ls (lv_sub hl [0, 1, 2] rfl)
          · refine lv_iconst (v := 1) hx hb dX4_areSo_41 (by decide) ?_
            refine lv_goto (tgt := 46) hx hb dX4_areSo_42 (by decide) ?_
            refine lv_istore_n (lv' := [(1, .int 1), (2, .int x2), (0, .ref (bd 0))]) hx hb dX4_areSo_46 rfl hl (by decide) rfl (fun ls hl => ?_)
            refine lv_iinc (v := (x2 + 1)) (lv' := [(2, .int (x2 + 1)), (1, .int 1), (0, .ref (bd 0))]) hx hb dX4_areSo_47 hl (k := 1) rfl rfl (by decide) rfl (fun ls hl => ?_)
            refine lv_goto (tgt := 4) hx hb dX4_areSo_50 (by decide) ?_
            exact ih4 (x2 + 1) 1 (k4 + 1) (by rw [hr4, fX4_areSo_c4, if_neg c1, if_neg c2, if_pos c3]) (by rw [e4]; exact nI_1 _) hlt4 (by omega) (by first | exact Or.inl rfl | exact Or.inr rfl) ls (lv_sub hl [0, 1, 2] rfl)
  exact lp4 (9) 0 1 (0) (by rw [fX4_areSo]) nI_0.symm (by omega) (by omega) (Or.inr rfl) ls (lv_sub hl [0, 1, 2] rfl)
def fX4_covers_c22 (v : Mem) (p0 : Int32)  : Nat → Mem → Int32 → Int32 → Int32 → Int32 × Mem
  | 0, w22, x4, x3, x2 => (0, w22)
  | n22 + 1, w22, x4, x3, x2 => (if 10 ≤ x4 then (x3, (mset w22 3 p0.toNatClampNeg x2)) else (if (fX4_areSo (mset w22 3 p0.toNatClampNeg x4)) = 0 then (fX4_covers_c22 v p0 n22 (mset w22 3 p0.toNatClampNeg x4) (x4 + 1) (x3 ||| 0) x2) else (fX4_covers_c22 v p0 n22 (mset w22 3 p0.toNatClampNeg x4) (x4 + 1) (x3 ||| ((1 : Int32) <<< (x4 &&& 31))) x2)))
def fX4_covers (v : Mem) (p0 : Int32) : Int32 × Mem :=
  (if (fX4_noProphet v p0) = 0 then (fX4_covers_c22 v p0 (11) v 0 0 (v 3 p0.toNatClampNeg)) else ((-1), v))
set_option maxRecDepth 100000 in
set_option maxHeartbeats 4000000 in
theorem kX4_covers (l : Launch) (D : va_G) (cz : ClassId) (bd : Nat → Nat) (hI : MI bd) (v : Mem) (p0 : Int32) (hpc : PcOkM v) (hrc : RcOkM v) (hrp : RpOkM v) : Met l yX4_covers wsX4_covers ({ frames := 4, cells := 0, slots := 0, locals := 85 } : Room) (va_Pc [.ref (bd 0), .int p0] (MB D cz bd v)) (qW (MB D cz bd (fX4_covers v p0).2) (AM bd) (some (.int (fX4_covers v p0).1))) 0 0 (AM bd) := by
  refine m_start (cc := cX4_covers) (maxL := 5) (ret := (some .int)) (by decide) rfl (Nat.le_of_ble_eq_true rfl) (fun p e s m below meth c hx hb hr hts hown hml hlk _ hB ls hl => ?_)
  obtain ⟨hP, hK⟩ := hB
  have hown : s.vm.findClass RX4 = some m.cls := hown
  have hl : lv_has ls 5 [(0, .ref (bd 0)), (1, .int p0)] := hl
  have hin_X4 : ∀ w ∈ wsX40, w ∈ wsX4_covers := fun _ h => List.mem_cons_of_mem _ (List.mem_append_right _ (h))
  obtain ⟨H, hH⟩ : ∃ H, H = s.heap := ⟨_, rfl⟩
  obtain ⟨locs, hlo⟩ : ∃ z : List Loc, z = [] := ⟨_, rfl⟩
  have hS : va_S (AM bd) s.heap H locs := by rw [hH, hlo]; exact va_S.rf
  have hP : va_P D vwCl (wM cz bd v) H := by rw [hH]; exact hP
  suffices hgoal : W p l e ({ frames := 4, cells := 0, slots := 0, locals := 85 } : Room) s m ([.ref (bd 0), .int p0] : List Value).toArray below meth c H locs 0 0 (MQ below (qW (MB D cz bd (fX4_covers v p0).2) (AM bd) (some (.int (fX4_covers v p0).1))) ([.ref (bd 0), .int p0] : List Value).toArray s 0 0 (AM bd)) (F0 m 0 ls []) by rw [hH, hlo] at hgoal; exact hgoal
  clear hH hlo
  refine lv_aload_n hx hb dX4_covers_0 rfl (lv_at hl 0 rfl) ?_
  refine lv_iload_n hx hb dX4_covers_1 rfl (lv_at hl 1 rfl) ?_
  refine kV (n := 1) (As := [.int p0]) (rest := []) ⟨hx, hb, hml, hown, hts⟩ (kX4_noProphet l D cz bd v p0) gX4_covers_X4_noProphet rfl rfl rfl (by decide +kernel) ⟨Nat.le_of_ble_eq_true rfl, Nat.le_of_ble_eq_true rfl⟩ (recvM hP hK) (MB_of hP hK) MB_bl rfl hl.1 rfl (Nat.le_of_ble_eq_true rfl) dX4_covers_2 ⟨Nat.le_refl _, Nat.le_refl _⟩ ?_
  refine lv_if_eq (tgt := 10) hx hb dX4_covers_5 (by decide) (fun c1 => ?_) (fun c1 => ?_)
  · have hv1 : vp_in p0 4 := noProphet_in (by first | with_reducible assumption | exact hpc) c1
    refine lv_aload_n hx hb dX4_covers_10 rfl (lv_at hl 0 rfl) ?_
    refine zg_X4_coverOf hx hb hts hin_X4 hown hK hP (hts (Cond.fieldLink RX4 16 "ProphetCoverModel" "coverOf" "[I") (List.mem_of_getElem? (i := 1) rfl)) dX4_covers_11 ?_
    refine lv_iload_n hx hb dX4_covers_14 rfl (lv_at hl 1 rfl) ?_
    refine zl_M (by decide) (by decide) rfl hx hb hK hP (by assumption) dX4_covers_15 ?_
    refine lv_istore_n (lv' := [(2, .int (v 3 p0.toNatClampNeg)), (0, .ref (bd 0)), (1, .int p0)]) hx hb dX4_covers_16 rfl hl (by decide) rfl (fun ls hl => ?_)
    refine lv_iconst (v := 0) hx hb dX4_covers_17 (by decide) ?_
    refine lv_istore_n (lv' := [(3, .int 0), (2, .int (v 3 p0.toNatClampNeg)), (0, .ref (bd 0)), (1, .int p0)]) hx hb dX4_covers_18 rfl hl (by decide) rfl (fun ls hl => ?_)
    refine lv_iconst (v := 0) hx hb dX4_covers_19 (by decide) ?_
    refine lv_istore (lv' := [(4, .int 0), (3, .int 0), (2, .int (v 3 p0.toNatClampNeg)), (0, .ref (bd 0)), (1, .int p0)]) hx hb dX4_covers_20 hl (by decide) rfl (fun ls hl => ?_)
    have lp22 : ∀ (n22 : Nat) (w22 : Mem) (x4 : Int32) (x3 : Int32) (x2 : Int32) (k22 : Nat), (fX4_covers v p0) = (fX4_covers_c22 v p0 n22 w22 x4 x3 x2) → (x4 = nI k22) → (k22 ≤ 10) → (10 < k22 + n22) → (RcOkM w22) → (RpOkM w22) → ∀ (H : Heap) (locs : List Loc), va_P D vwCl (wM cz bd w22) H → va_S (AM bd) s.heap H locs → ∀ ls : Array Slot, lv_has ls 5 [(4, .int x4), (3, .int x3), (2, .int x2), (0, .ref (bd 0)), (1, .int p0)] → W p l e ({ frames := 4, cells := 0, slots := 0, locals := 85 } : Room) s m ([.ref (bd 0), .int p0] : List Value).toArray below meth c H locs 0 0 (MQ below (qW (MB D cz bd (fX4_covers v p0).2) (AM bd) (some (.int (fX4_covers v p0).1))) ([.ref (bd 0), .int p0] : List Value).toArray s 0 0 (AM bd)) (F0 m 22 ls []) := by
      intro n22
      induction n22 with
      | zero =>
        intro w22 x4 x3 x2 k22 _ e22 hk22 hm22 r22 s22 H locs hP hS ls hl
        exfalso; omega
      | succ n22 ih22 =>
        intro w22 x4 x3 x2 k22 hr22 e22 hk22 hm22 r22 s22 H locs hP hS ls hl
        refine lv_iload hx hb dX4_covers_22 (lv_at hl 0 rfl) ?_
        refine lv_bipush (v := 10) hx hb dX4_covers_24 (by decide) ?_
        refine lv_icmp_ge (tgt := 61) hx hb dX4_covers_26 (by decide) (fun c2 => ?_) (fun c2 => ?_)
        · refine lv_aload_n hx hb dX4_covers_61 rfl (lv_at hl 3 rfl) ?_
          refine zg_X4_coverOf hx hb hts hin_X4 hown hK hP (hts (Cond.fieldLink RX4 16 "ProphetCoverModel" "coverOf" "[I") (List.mem_of_getElem? (i := 1) rfl)) dX4_covers_62 ?_
          refine lv_iload_n hx hb dX4_covers_65 rfl (lv_at hl 4 rfl) ?_
          refine lv_iload_n hx hb dX4_covers_66 rfl (lv_at hl 2 rfl) ?_
          refine zs_M (by decide) (by decide) rfl hx hb hK hP hI hS (by assumption) dX4_covers_67 (fun H locs hP hS => ?_)
          refine lv_iload_n hx hb dX4_covers_68 rfl (lv_at hl 1 rfl) ?_
          exact rMI hx hb hr hlk hK hP hS dX4_covers_69 (by rw [hr22, fX4_covers_c22, if_pos c2])
        · have hlt22 : k22 < 10 := cnt_lt (show (10 : Int32) = nI 10 from rfl) e22 (by omega) (by omega) c2
          refine lv_aload_n hx hb dX4_covers_29 rfl (lv_at hl 3 rfl) ?_
          refine zg_X4_coverOf hx hb hts hin_X4 hown hK hP (hts (Cond.fieldLink RX4 16 "ProphetCoverModel" "coverOf" "[I") (List.mem_of_getElem? (i := 1) rfl)) dX4_covers_30 ?_
          refine lv_iload_n hx hb dX4_covers_33 rfl (lv_at hl 4 rfl) ?_
          refine lv_iload hx hb dX4_covers_34 (lv_at hl 0 rfl) ?_
          refine zs_M (by decide) (by decide) rfl hx hb hK hP hI hS (by assumption) dX4_covers_36 (fun H locs hP hS => ?_)
          refine lv_iload_n hx hb dX4_covers_37 rfl (lv_at hl 1 rfl) ?_
          have hrcU : RcOkM (mset w22 3 p0.toNatClampNeg x4) := r22
          have hrpU : RpOkM (mset w22 3 p0.toNatClampNeg x4) := s22
          refine lv_aload_n hx hb dX4_covers_38 rfl (lv_at hl 3 rfl) ?_
          refine kV (n := 0) (As := []) (rest := [.int x3]) ⟨hx, hb, hml, hown, hts⟩ (kX4_areSo l D cz bd (mset w22 3 p0.toNatClampNeg x4) (by first | exact hrc | assumption) (by first | exact hrp | assumption)) gX4_covers_X4_areSo rfl rfl rfl (by decide +kernel) ⟨Nat.le_of_ble_eq_true rfl, Nat.le_of_ble_eq_true rfl⟩ (recvM hP hK) (MB_of hP hK) MB_bl rfl hl.1 rfl (Nat.le_of_ble_eq_true rfl) dX4_covers_39 ⟨Nat.le_refl _, Nat.le_refl _⟩ ?_
          refine lv_if_eq (tgt := 52) hx hb dX4_covers_42 (by decide) (fun c3 => ?_) (fun c3 => ?_)
          · refine lv_iconst (v := 0) hx hb dX4_covers_52 (by decide) ?_
            refine lv_ior hx hb dX4_covers_53 ?_
            refine lv_istore_n (lv' := [(3, .int (x3 ||| 0)), (4, .int x4), (2, .int x2), (0, .ref (bd 0)), (1, .int p0)]) hx hb dX4_covers_54 rfl hl (by decide) rfl (fun ls hl => ?_)
            refine lv_iinc (v := (x4 + 1)) (lv' := [(4, .int (x4 + 1)), (3, .int (x3 ||| 0)), (2, .int x2), (0, .ref (bd 0)), (1, .int p0)]) hx hb dX4_covers_55 hl (k := 1) rfl rfl (by decide) rfl (fun ls hl => ?_)
            refine lv_goto (tgt := 22) hx hb dX4_covers_58 (by decide) ?_
            exact ih22 (mset w22 3 p0.toNatClampNeg x4) (x4 + 1) (x3 ||| 0) x2 (k22 + 1) (by rw [hr22, fX4_covers_c22, if_neg c2, if_pos c3]) (by rw [e22]; exact nI_1 _) hlt22 (by omega) r22 s22 H locs hP hS ls (lv_sub hl [0, 1, 2, 3, 4] rfl)
          · refine lv_iconst (v := 1) hx hb dX4_covers_45 (by decide) ?_
            refine lv_iload hx hb dX4_covers_46 (lv_at hl 0 rfl) ?_
            refine lv_ishl hx hb dX4_covers_48 ?_
            refine lv_goto (tgt := 53) hx hb dX4_covers_49 (by decide) ?_
            refine lv_ior hx hb dX4_covers_53 ?_
            refine lv_istore_n (lv' := [(3, .int (x3 ||| ((1 : Int32) <<< (x4 &&& 31)))), (4, .int x4), (2, .int x2), (0, .ref (bd 0)), (1, .int p0)]) hx hb dX4_covers_54 rfl hl (by decide) rfl (fun ls hl => ?_)
            refine lv_iinc (v := (x4 + 1)) (lv' := [(4, .int (x4 + 1)), (3, .int (x3 ||| ((1 : Int32) <<< (x4 &&& 31)))), (2, .int x2), (0, .ref (bd 0)), (1, .int p0)]) hx hb dX4_covers_55 hl (k := 1) rfl rfl (by decide) rfl (fun ls hl => ?_)
            refine lv_goto (tgt := 22) hx hb dX4_covers_58 (by decide) ?_
            exact ih22 (mset w22 3 p0.toNatClampNeg x4) (x4 + 1) (x3 ||| ((1 : Int32) <<< (x4 &&& 31))) x2 (k22 + 1) (by rw [hr22, fX4_covers_c22, if_neg c2, if_neg c3]) (by rw [e22]; exact nI_1 _) hlt22 (by omega) r22 s22 H locs hP hS ls (lv_sub hl [0, 1, 2, 3, 4] rfl)
    exact lp22 (11) v 0 0 (v 3 p0.toNatClampNeg) (0) (by rw [fX4_covers, if_pos c1]) nI_0.symm (by omega) (by omega) hrc hrp H locs hP hS ls (lv_sub hl [0, 1, 2, 3, 4] rfl)
  · refine lv_iconst (v := (-1)) hx hb dX4_covers_8 (by decide) ?_
    exact rMI hx hb hr hlk hK hP hS dX4_covers_9 (by rw [fX4_covers, if_neg c1])
def fX4_kinds_c22 (v : Mem) (p0 : Int32)  : Nat → Mem → Int32 → Int32 → Int32 → Int32 × Mem
  | 0, w22, x4, x3, x2 => (0, w22)
  | n22 + 1, w22, x4, x3, x2 => (if 3 ≤ x4 then (x3, (mset w22 2 p0.toNatClampNeg x2)) else (if (fX4_areSo (mset w22 2 p0.toNatClampNeg x4)) = 0 then (fX4_kinds_c22 v p0 n22 (mset w22 2 p0.toNatClampNeg x4) (x4 + 1) (x3 ||| 0) x2) else (fX4_kinds_c22 v p0 n22 (mset w22 2 p0.toNatClampNeg x4) (x4 + 1) (x3 ||| ((1 : Int32) <<< (x4 &&& 31))) x2)))
def fX4_kinds (v : Mem) (p0 : Int32) : Int32 × Mem :=
  (if (fX4_noProphet v p0) = 0 then (fX4_kinds_c22 v p0 (4) v 0 0 (v 2 p0.toNatClampNeg)) else ((-1), v))
set_option maxRecDepth 100000 in
set_option maxHeartbeats 4000000 in
theorem kX4_kinds (l : Launch) (D : va_G) (cz : ClassId) (bd : Nat → Nat) (hI : MI bd) (v : Mem) (p0 : Int32) (hpc : PcOkM v) (hrc : RcOkM v) (hrp : RpOkM v) : Met l yX4_kinds wsX4_kinds ({ frames := 4, cells := 0, slots := 0, locals := 85 } : Room) (va_Pc [.ref (bd 0), .int p0] (MB D cz bd v)) (qW (MB D cz bd (fX4_kinds v p0).2) (AM bd) (some (.int (fX4_kinds v p0).1))) 0 0 (AM bd) := by
  refine m_start (cc := cX4_kinds) (maxL := 5) (ret := (some .int)) (by decide) rfl (Nat.le_of_ble_eq_true rfl) (fun p e s m below meth c hx hb hr hts hown hml hlk _ hB ls hl => ?_)
  obtain ⟨hP, hK⟩ := hB
  have hown : s.vm.findClass RX4 = some m.cls := hown
  have hl : lv_has ls 5 [(0, .ref (bd 0)), (1, .int p0)] := hl
  have hin_X4 : ∀ w ∈ wsX40, w ∈ wsX4_kinds := fun _ h => List.mem_cons_of_mem _ (List.mem_append_right _ (h))
  obtain ⟨H, hH⟩ : ∃ H, H = s.heap := ⟨_, rfl⟩
  obtain ⟨locs, hlo⟩ : ∃ z : List Loc, z = [] := ⟨_, rfl⟩
  have hS : va_S (AM bd) s.heap H locs := by rw [hH, hlo]; exact va_S.rf
  have hP : va_P D vwCl (wM cz bd v) H := by rw [hH]; exact hP
  suffices hgoal : W p l e ({ frames := 4, cells := 0, slots := 0, locals := 85 } : Room) s m ([.ref (bd 0), .int p0] : List Value).toArray below meth c H locs 0 0 (MQ below (qW (MB D cz bd (fX4_kinds v p0).2) (AM bd) (some (.int (fX4_kinds v p0).1))) ([.ref (bd 0), .int p0] : List Value).toArray s 0 0 (AM bd)) (F0 m 0 ls []) by rw [hH, hlo] at hgoal; exact hgoal
  clear hH hlo
  refine lv_aload_n hx hb dX4_kinds_0 rfl (lv_at hl 0 rfl) ?_
  refine lv_iload_n hx hb dX4_kinds_1 rfl (lv_at hl 1 rfl) ?_
  refine kV (n := 1) (As := [.int p0]) (rest := []) ⟨hx, hb, hml, hown, hts⟩ (kX4_noProphet l D cz bd v p0) gX4_kinds_X4_noProphet rfl rfl rfl (by decide +kernel) ⟨Nat.le_of_ble_eq_true rfl, Nat.le_of_ble_eq_true rfl⟩ (recvM hP hK) (MB_of hP hK) MB_bl rfl hl.1 rfl (Nat.le_of_ble_eq_true rfl) dX4_kinds_2 ⟨Nat.le_refl _, Nat.le_refl _⟩ ?_
  refine lv_if_eq (tgt := 10) hx hb dX4_kinds_5 (by decide) (fun c1 => ?_) (fun c1 => ?_)
  · have hv1 : vp_in p0 4 := noProphet_in (by first | with_reducible assumption | exact hpc) c1
    refine lv_aload_n hx hb dX4_kinds_10 rfl (lv_at hl 0 rfl) ?_
    refine zg_X4_kindOf hx hb hts hin_X4 hown hK hP (hts (Cond.fieldLink RX4 13 "ProphetCoverModel" "kindOf" "[I") (List.mem_of_getElem? (i := 1) rfl)) dX4_kinds_11 ?_
    refine lv_iload_n hx hb dX4_kinds_14 rfl (lv_at hl 1 rfl) ?_
    refine zl_M (by decide) (by decide) rfl hx hb hK hP (by assumption) dX4_kinds_15 ?_
    refine lv_istore_n (lv' := [(2, .int (v 2 p0.toNatClampNeg)), (0, .ref (bd 0)), (1, .int p0)]) hx hb dX4_kinds_16 rfl hl (by decide) rfl (fun ls hl => ?_)
    refine lv_iconst (v := 0) hx hb dX4_kinds_17 (by decide) ?_
    refine lv_istore_n (lv' := [(3, .int 0), (2, .int (v 2 p0.toNatClampNeg)), (0, .ref (bd 0)), (1, .int p0)]) hx hb dX4_kinds_18 rfl hl (by decide) rfl (fun ls hl => ?_)
    refine lv_iconst (v := 0) hx hb dX4_kinds_19 (by decide) ?_
    refine lv_istore (lv' := [(4, .int 0), (3, .int 0), (2, .int (v 2 p0.toNatClampNeg)), (0, .ref (bd 0)), (1, .int p0)]) hx hb dX4_kinds_20 hl (by decide) rfl (fun ls hl => ?_)
    have lp22 : ∀ (n22 : Nat) (w22 : Mem) (x4 : Int32) (x3 : Int32) (x2 : Int32) (k22 : Nat), (fX4_kinds v p0) = (fX4_kinds_c22 v p0 n22 w22 x4 x3 x2) → (x4 = nI k22) → (k22 ≤ 3) → (3 < k22 + n22) → (RcOkM w22) → (RpOkM w22) → ∀ (H : Heap) (locs : List Loc), va_P D vwCl (wM cz bd w22) H → va_S (AM bd) s.heap H locs → ∀ ls : Array Slot, lv_has ls 5 [(4, .int x4), (3, .int x3), (2, .int x2), (0, .ref (bd 0)), (1, .int p0)] → W p l e ({ frames := 4, cells := 0, slots := 0, locals := 85 } : Room) s m ([.ref (bd 0), .int p0] : List Value).toArray below meth c H locs 0 0 (MQ below (qW (MB D cz bd (fX4_kinds v p0).2) (AM bd) (some (.int (fX4_kinds v p0).1))) ([.ref (bd 0), .int p0] : List Value).toArray s 0 0 (AM bd)) (F0 m 22 ls []) := by
      intro n22
      induction n22 with
      | zero =>
        intro w22 x4 x3 x2 k22 _ e22 hk22 hm22 r22 s22 H locs hP hS ls hl
        exfalso; omega
      | succ n22 ih22 =>
        intro w22 x4 x3 x2 k22 hr22 e22 hk22 hm22 r22 s22 H locs hP hS ls hl
        refine lv_iload hx hb dX4_kinds_22 (lv_at hl 0 rfl) ?_
        refine lv_iconst (v := 3) hx hb dX4_kinds_24 (by decide) ?_
        refine lv_icmp_ge (tgt := 60) hx hb dX4_kinds_25 (by decide) (fun c2 => ?_) (fun c2 => ?_)
        · refine lv_aload_n hx hb dX4_kinds_60 rfl (lv_at hl 3 rfl) ?_
          refine zg_X4_kindOf hx hb hts hin_X4 hown hK hP (hts (Cond.fieldLink RX4 13 "ProphetCoverModel" "kindOf" "[I") (List.mem_of_getElem? (i := 1) rfl)) dX4_kinds_61 ?_
          refine lv_iload_n hx hb dX4_kinds_64 rfl (lv_at hl 4 rfl) ?_
          refine lv_iload_n hx hb dX4_kinds_65 rfl (lv_at hl 2 rfl) ?_
          refine zs_M (by decide) (by decide) rfl hx hb hK hP hI hS (by assumption) dX4_kinds_66 (fun H locs hP hS => ?_)
          refine lv_iload_n hx hb dX4_kinds_67 rfl (lv_at hl 1 rfl) ?_
          exact rMI hx hb hr hlk hK hP hS dX4_kinds_68 (by rw [hr22, fX4_kinds_c22, if_pos c2])
        · have hlt22 : k22 < 3 := cnt_lt (show (3 : Int32) = nI 3 from rfl) e22 (by omega) (by omega) c2
          refine lv_aload_n hx hb dX4_kinds_28 rfl (lv_at hl 3 rfl) ?_
          refine zg_X4_kindOf hx hb hts hin_X4 hown hK hP (hts (Cond.fieldLink RX4 13 "ProphetCoverModel" "kindOf" "[I") (List.mem_of_getElem? (i := 1) rfl)) dX4_kinds_29 ?_
          refine lv_iload_n hx hb dX4_kinds_32 rfl (lv_at hl 4 rfl) ?_
          refine lv_iload hx hb dX4_kinds_33 (lv_at hl 0 rfl) ?_
          refine zs_M (by decide) (by decide) rfl hx hb hK hP hI hS (by assumption) dX4_kinds_35 (fun H locs hP hS => ?_)
          refine lv_iload_n hx hb dX4_kinds_36 rfl (lv_at hl 1 rfl) ?_
          have hrcU : RcOkM (mset w22 2 p0.toNatClampNeg x4) := r22
          have hrpU : RpOkM (mset w22 2 p0.toNatClampNeg x4) := s22
          refine lv_aload_n hx hb dX4_kinds_37 rfl (lv_at hl 3 rfl) ?_
          refine kV (n := 0) (As := []) (rest := [.int x3]) ⟨hx, hb, hml, hown, hts⟩ (kX4_areSo l D cz bd (mset w22 2 p0.toNatClampNeg x4) (by first | exact hrc | assumption) (by first | exact hrp | assumption)) gX4_kinds_X4_areSo rfl rfl rfl (by decide +kernel) ⟨Nat.le_of_ble_eq_true rfl, Nat.le_of_ble_eq_true rfl⟩ (recvM hP hK) (MB_of hP hK) MB_bl rfl hl.1 rfl (Nat.le_of_ble_eq_true rfl) dX4_kinds_38 ⟨Nat.le_refl _, Nat.le_refl _⟩ ?_
          refine lv_if_eq (tgt := 51) hx hb dX4_kinds_41 (by decide) (fun c3 => ?_) (fun c3 => ?_)
          · refine lv_iconst (v := 0) hx hb dX4_kinds_51 (by decide) ?_
            refine lv_ior hx hb dX4_kinds_52 ?_
            refine lv_istore_n (lv' := [(3, .int (x3 ||| 0)), (4, .int x4), (2, .int x2), (0, .ref (bd 0)), (1, .int p0)]) hx hb dX4_kinds_53 rfl hl (by decide) rfl (fun ls hl => ?_)
            refine lv_iinc (v := (x4 + 1)) (lv' := [(4, .int (x4 + 1)), (3, .int (x3 ||| 0)), (2, .int x2), (0, .ref (bd 0)), (1, .int p0)]) hx hb dX4_kinds_54 hl (k := 1) rfl rfl (by decide) rfl (fun ls hl => ?_)
            refine lv_goto (tgt := 22) hx hb dX4_kinds_57 (by decide) ?_
            exact ih22 (mset w22 2 p0.toNatClampNeg x4) (x4 + 1) (x3 ||| 0) x2 (k22 + 1) (by rw [hr22, fX4_kinds_c22, if_neg c2, if_pos c3]) (by rw [e22]; exact nI_1 _) hlt22 (by omega) r22 s22 H locs hP hS ls (lv_sub hl [0, 1, 2, 3, 4] rfl)
          · refine lv_iconst (v := 1) hx hb dX4_kinds_44 (by decide) ?_
            refine lv_iload hx hb dX4_kinds_45 (lv_at hl 0 rfl) ?_
            refine lv_ishl hx hb dX4_kinds_47 ?_
            refine lv_goto (tgt := 52) hx hb dX4_kinds_48 (by decide) ?_
            refine lv_ior hx hb dX4_kinds_52 ?_
            refine lv_istore_n (lv' := [(3, .int (x3 ||| ((1 : Int32) <<< (x4 &&& 31)))), (4, .int x4), (2, .int x2), (0, .ref (bd 0)), (1, .int p0)]) hx hb dX4_kinds_53 rfl hl (by decide) rfl (fun ls hl => ?_)
            refine lv_iinc (v := (x4 + 1)) (lv' := [(4, .int (x4 + 1)), (3, .int (x3 ||| ((1 : Int32) <<< (x4 &&& 31)))), (2, .int x2), (0, .ref (bd 0)), (1, .int p0)]) hx hb dX4_kinds_54 hl (k := 1) rfl rfl (by decide) rfl (fun ls hl => ?_)
            refine lv_goto (tgt := 22) hx hb dX4_kinds_57 (by decide) ?_
            exact ih22 (mset w22 2 p0.toNatClampNeg x4) (x4 + 1) (x3 ||| ((1 : Int32) <<< (x4 &&& 31))) x2 (k22 + 1) (by rw [hr22, fX4_kinds_c22, if_neg c2, if_neg c3]) (by rw [e22]; exact nI_1 _) hlt22 (by omega) r22 s22 H locs hP hS ls (lv_sub hl [0, 1, 2, 3, 4] rfl)
    exact lp22 (4) v 0 0 (v 2 p0.toNatClampNeg) (0) (by rw [fX4_kinds, if_pos c1]) nI_0.symm (by omega) (by omega) hrc hrp H locs hP hS ls (lv_sub hl [0, 1, 2, 3, 4] rfl)
  · refine lv_iconst (v := (-1)) hx hb dX4_kinds_8 (by decide) ?_
    exact rMI hx hb hr hlk hK hP hS dX4_kinds_9 (by rw [fX4_kinds, if_neg c1])
def fX4_sayings_c31 (v : Mem) (p0 : Int32) (p1 : Int32)  : Nat → Mem → Int32 → Int32 → Int32 → Int32 × Mem
  | 0, w31, x5, x4, x3 => (0, w31)
  | n31 + 1, w31, x5, x4, x3 => (if 2 ≤ x5 then (x4, (mset w31 4 p0.toNatClampNeg x3)) else (if (fX4_areSo (mset w31 4 p0.toNatClampNeg ((x3 &&& (((1 : Int32) <<< (p1 &&& 31)) ^^^ (-1))) ||| (x5 <<< (p1 &&& 31))))) = 0 then (fX4_sayings_c31 v p0 p1 n31 (mset w31 4 p0.toNatClampNeg ((x3 &&& (((1 : Int32) <<< (p1 &&& 31)) ^^^ (-1))) ||| (x5 <<< (p1 &&& 31)))) (x5 + 1) (x4 ||| 0) x3) else (fX4_sayings_c31 v p0 p1 n31 (mset w31 4 p0.toNatClampNeg ((x3 &&& (((1 : Int32) <<< (p1 &&& 31)) ^^^ (-1))) ||| (x5 <<< (p1 &&& 31)))) (x5 + 1) (x4 ||| ((1 : Int32) <<< (x5 &&& 31))) x3)))
def fX4_sayings (v : Mem) (p0 : Int32) (p1 : Int32) : Int32 × Mem :=
  (if (fX4_noProphet v p0) = 0 then (if (fX4_noEvent v p1) = 0 then (fX4_sayings_c31 v p0 p1 (3) v 0 0 (v 4 p0.toNatClampNeg)) else ((-1), v)) else ((-1), v))
set_option maxRecDepth 100000 in
set_option maxHeartbeats 4000000 in
theorem kX4_sayings (l : Launch) (D : va_G) (cz : ClassId) (bd : Nat → Nat) (hI : MI bd) (v : Mem) (p0 : Int32) (p1 : Int32) (hpc : PcOkM v) (hec : EcOkM v) (hrc : RcOkM v) (hrp : RpOkM v) : Met l yX4_sayings wsX4_sayings ({ frames := 4, cells := 0, slots := 0, locals := 85 } : Room) (va_Pc [.ref (bd 0), .int p0, .int p1] (MB D cz bd v)) (qW (MB D cz bd (fX4_sayings v p0 p1).2) (AM bd) (some (.int (fX4_sayings v p0 p1).1))) 0 0 (AM bd) := by
  refine m_start (cc := cX4_sayings) (maxL := 6) (ret := (some .int)) (by decide) rfl (Nat.le_of_ble_eq_true rfl) (fun p e s m below meth c hx hb hr hts hown hml hlk _ hB ls hl => ?_)
  obtain ⟨hP, hK⟩ := hB
  have hown : s.vm.findClass RX4 = some m.cls := hown
  have hl : lv_has ls 6 [(0, .ref (bd 0)), (1, .int p0), (2, .int p1)] := hl
  have hin_X4 : ∀ w ∈ wsX40, w ∈ wsX4_sayings := fun _ h => List.mem_cons_of_mem _ (List.mem_append_right _ (h))
  obtain ⟨H, hH⟩ : ∃ H, H = s.heap := ⟨_, rfl⟩
  obtain ⟨locs, hlo⟩ : ∃ z : List Loc, z = [] := ⟨_, rfl⟩
  have hS : va_S (AM bd) s.heap H locs := by rw [hH, hlo]; exact va_S.rf
  have hP : va_P D vwCl (wM cz bd v) H := by rw [hH]; exact hP
  suffices hgoal : W p l e ({ frames := 4, cells := 0, slots := 0, locals := 85 } : Room) s m ([.ref (bd 0), .int p0, .int p1] : List Value).toArray below meth c H locs 0 0 (MQ below (qW (MB D cz bd (fX4_sayings v p0 p1).2) (AM bd) (some (.int (fX4_sayings v p0 p1).1))) ([.ref (bd 0), .int p0, .int p1] : List Value).toArray s 0 0 (AM bd)) (F0 m 0 ls []) by rw [hH, hlo] at hgoal; exact hgoal
  clear hH hlo
  refine lv_aload_n hx hb dX4_sayings_0 rfl (lv_at hl 0 rfl) ?_
  refine lv_iload_n hx hb dX4_sayings_1 rfl (lv_at hl 1 rfl) ?_
  refine kV (n := 1) (As := [.int p0]) (rest := []) ⟨hx, hb, hml, hown, hts⟩ (kX4_noProphet l D cz bd v p0) gX4_sayings_X4_noProphet rfl rfl rfl (by decide +kernel) ⟨Nat.le_of_ble_eq_true rfl, Nat.le_of_ble_eq_true rfl⟩ (recvM hP hK) (MB_of hP hK) MB_bl rfl hl.1 rfl (Nat.le_of_ble_eq_true rfl) dX4_sayings_2 ⟨Nat.le_refl _, Nat.le_refl _⟩ ?_
  refine lv_if_ne (tgt := 16) hx hb dX4_sayings_5 (by decide) (fun c1 => ?_) (fun c1 => ?_)
  · refine lv_iconst (v := (-1)) hx hb dX4_sayings_16 (by decide) ?_
    exact rMI hx hb hr hlk hK hP hS dX4_sayings_17 (by rw [fX4_sayings, if_neg c1])
  · have hv1 : vp_in p0 4 := noProphet_in (by first | with_reducible assumption | exact hpc) c1
    refine lv_aload_n hx hb dX4_sayings_8 rfl (lv_at hl 0 rfl) ?_
    refine lv_iload_n hx hb dX4_sayings_9 rfl (lv_at hl 2 rfl) ?_
    refine kV (n := 1) (As := [.int p1]) (rest := []) ⟨hx, hb, hml, hown, hts⟩ (kX4_noEvent l D cz bd v p1) gX4_sayings_X4_noEvent rfl rfl rfl (by decide +kernel) ⟨Nat.le_of_ble_eq_true rfl, Nat.le_of_ble_eq_true rfl⟩ (recvM hP hK) (MB_of hP hK) MB_bl rfl hl.1 rfl (Nat.le_of_ble_eq_true rfl) dX4_sayings_10 ⟨Nat.le_refl _, Nat.le_refl _⟩ ?_
    refine lv_if_eq (tgt := 18) hx hb dX4_sayings_13 (by decide) (fun c2 => ?_) (fun c2 => ?_)
    · have hv2 : vp_in p1 5 := noEvent_in (by first | with_reducible assumption | exact hec) c2
      refine lv_aload_n hx hb dX4_sayings_18 rfl (lv_at hl 0 rfl) ?_
      refine zg_X4_saidBy hx hb hts hin_X4 hown hK hP (hts (Cond.fieldLink RX4 19 "ProphetCoverModel" "saidBy" "[I") (List.mem_of_getElem? (i := 1) rfl)) dX4_sayings_19 ?_
      refine lv_iload_n hx hb dX4_sayings_22 rfl (lv_at hl 1 rfl) ?_
      refine zl_M (by decide) (by decide) rfl hx hb hK hP (by assumption) dX4_sayings_23 ?_
      refine lv_istore_n (lv' := [(3, .int (v 4 p0.toNatClampNeg)), (0, .ref (bd 0)), (1, .int p0), (2, .int p1)]) hx hb dX4_sayings_24 rfl hl (by decide) rfl (fun ls hl => ?_)
      refine lv_iconst (v := 0) hx hb dX4_sayings_25 (by decide) ?_
      refine lv_istore (lv' := [(4, .int 0), (3, .int (v 4 p0.toNatClampNeg)), (0, .ref (bd 0)), (1, .int p0), (2, .int p1)]) hx hb dX4_sayings_26 hl (by decide) rfl (fun ls hl => ?_)
      refine lv_iconst (v := 0) hx hb dX4_sayings_28 (by decide) ?_
      refine lv_istore (lv' := [(5, .int 0), (4, .int 0), (3, .int (v 4 p0.toNatClampNeg)), (0, .ref (bd 0)), (1, .int p0), (2, .int p1)]) hx hb dX4_sayings_29 hl (by decide) rfl (fun ls hl => ?_)
      have lp31 : ∀ (n31 : Nat) (w31 : Mem) (x5 : Int32) (x4 : Int32) (x3 : Int32) (k31 : Nat), (fX4_sayings v p0 p1) = (fX4_sayings_c31 v p0 p1 n31 w31 x5 x4 x3) → (x5 = nI k31) → (k31 ≤ 2) → (2 < k31 + n31) → (RcOkM w31) → (RpOkM w31) → ∀ (H : Heap) (locs : List Loc), va_P D vwCl (wM cz bd w31) H → va_S (AM bd) s.heap H locs → ∀ ls : Array Slot, lv_has ls 6 [(5, .int x5), (4, .int x4), (3, .int x3), (0, .ref (bd 0)), (1, .int p0), (2, .int p1)] → W p l e ({ frames := 4, cells := 0, slots := 0, locals := 85 } : Room) s m ([.ref (bd 0), .int p0, .int p1] : List Value).toArray below meth c H locs 0 0 (MQ below (qW (MB D cz bd (fX4_sayings v p0 p1).2) (AM bd) (some (.int (fX4_sayings v p0 p1).1))) ([.ref (bd 0), .int p0, .int p1] : List Value).toArray s 0 0 (AM bd)) (F0 m 31 ls []) := by
        intro n31
        induction n31 with
        | zero =>
          intro w31 x5 x4 x3 k31 _ e31 hk31 hm31 r31 s31 H locs hP hS ls hl
          exfalso; omega
        | succ n31 ih31 =>
          intro w31 x5 x4 x3 k31 hr31 e31 hk31 hm31 r31 s31 H locs hP hS ls hl
          refine lv_iload hx hb dX4_sayings_31 (lv_at hl 0 rfl) ?_
          refine lv_iconst (v := 2) hx hb dX4_sayings_33 (by decide) ?_
          refine lv_icmp_ge (tgt := 81) hx hb dX4_sayings_34 (by decide) (fun c3 => ?_) (fun c3 => ?_)
          · refine lv_aload_n hx hb dX4_sayings_81 rfl (lv_at hl 3 rfl) ?_
            refine zg_X4_saidBy hx hb hts hin_X4 hown hK hP (hts (Cond.fieldLink RX4 19 "ProphetCoverModel" "saidBy" "[I") (List.mem_of_getElem? (i := 1) rfl)) dX4_sayings_82 ?_
            refine lv_iload_n hx hb dX4_sayings_85 rfl (lv_at hl 4 rfl) ?_
            refine lv_iload_n hx hb dX4_sayings_86 rfl (lv_at hl 2 rfl) ?_
            refine zs_M (by decide) (by decide) rfl hx hb hK hP hI hS (by assumption) dX4_sayings_87 (fun H locs hP hS => ?_)
            refine lv_iload hx hb dX4_sayings_88 (lv_at hl 1 rfl) ?_
            exact rMI hx hb hr hlk hK hP hS dX4_sayings_90 (by rw [hr31, fX4_sayings_c31, if_pos c3])
          · have hlt31 : k31 < 2 := cnt_lt (show (2 : Int32) = nI 2 from rfl) e31 (by omega) (by omega) c3
            refine lv_aload_n hx hb dX4_sayings_37 rfl (lv_at hl 3 rfl) ?_
            refine zg_X4_saidBy hx hb hts hin_X4 hown hK hP (hts (Cond.fieldLink RX4 19 "ProphetCoverModel" "saidBy" "[I") (List.mem_of_getElem? (i := 1) rfl)) dX4_sayings_38 ?_
            refine lv_iload_n hx hb dX4_sayings_41 rfl (lv_at hl 4 rfl) ?_
            refine lv_iload_n hx hb dX4_sayings_42 rfl (lv_at hl 2 rfl) ?_
            refine lv_iconst (v := 1) hx hb dX4_sayings_43 (by decide) ?_
            refine lv_iload_n hx hb dX4_sayings_44 rfl (lv_at hl 5 rfl) ?_
            refine lv_ishl hx hb dX4_sayings_45 ?_
            refine lv_iconst (v := (-1)) hx hb dX4_sayings_46 (by decide) ?_
            refine lv_ixor hx hb dX4_sayings_47 ?_
            refine lv_iand hx hb dX4_sayings_48 ?_
            refine lv_iload hx hb dX4_sayings_49 (lv_at hl 0 rfl) ?_
            refine lv_iload_n hx hb dX4_sayings_51 rfl (lv_at hl 5 rfl) ?_
            refine lv_ishl hx hb dX4_sayings_52 ?_
            refine lv_ior hx hb dX4_sayings_53 ?_
            refine zs_M (by decide) (by decide) rfl hx hb hK hP hI hS (by assumption) dX4_sayings_54 (fun H locs hP hS => ?_)
            refine lv_iload hx hb dX4_sayings_55 (lv_at hl 1 rfl) ?_
            have hrcU : RcOkM (mset w31 4 p0.toNatClampNeg ((x3 &&& (((1 : Int32) <<< (p1 &&& 31)) ^^^ (-1))) ||| (x5 <<< (p1 &&& 31)))) := r31
            have hrpU : RpOkM (mset w31 4 p0.toNatClampNeg ((x3 &&& (((1 : Int32) <<< (p1 &&& 31)) ^^^ (-1))) ||| (x5 <<< (p1 &&& 31)))) := s31
            refine lv_aload_n hx hb dX4_sayings_57 rfl (lv_at hl 3 rfl) ?_
            refine kV (n := 0) (As := []) (rest := [.int x4]) ⟨hx, hb, hml, hown, hts⟩ (kX4_areSo l D cz bd (mset w31 4 p0.toNatClampNeg ((x3 &&& (((1 : Int32) <<< (p1 &&& 31)) ^^^ (-1))) ||| (x5 <<< (p1 &&& 31)))) (by first | exact hrc | assumption) (by first | exact hrp | assumption)) gX4_sayings_X4_areSo rfl rfl rfl (by decide +kernel) ⟨Nat.le_of_ble_eq_true rfl, Nat.le_of_ble_eq_true rfl⟩ (recvM hP hK) (MB_of hP hK) MB_bl rfl hl.1 rfl (Nat.le_of_ble_eq_true rfl) dX4_sayings_58 ⟨Nat.le_refl _, Nat.le_refl _⟩ ?_
            refine lv_if_eq (tgt := 71) hx hb dX4_sayings_61 (by decide) (fun c4 => ?_) (fun c4 => ?_)
            · refine lv_iconst (v := 0) hx hb dX4_sayings_71 (by decide) ?_
              refine lv_ior hx hb dX4_sayings_72 ?_
              refine lv_istore (lv' := [(4, .int (x4 ||| 0)), (5, .int x5), (3, .int x3), (0, .ref (bd 0)), (1, .int p0), (2, .int p1)]) hx hb dX4_sayings_73 hl (by decide) rfl (fun ls hl => ?_)
              refine lv_iinc (v := (x5 + 1)) (lv' := [(5, .int (x5 + 1)), (4, .int (x4 ||| 0)), (3, .int x3), (0, .ref (bd 0)), (1, .int p0), (2, .int p1)]) hx hb dX4_sayings_75 hl (k := 1) rfl rfl (by decide) rfl (fun ls hl => ?_)
              refine lv_goto (tgt := 31) hx hb dX4_sayings_78 (by decide) ?_
              exact ih31 (mset w31 4 p0.toNatClampNeg ((x3 &&& (((1 : Int32) <<< (p1 &&& 31)) ^^^ (-1))) ||| (x5 <<< (p1 &&& 31)))) (x5 + 1) (x4 ||| 0) x3 (k31 + 1) (by rw [hr31, fX4_sayings_c31, if_neg c3, if_pos c4]) (by rw [e31]; exact nI_1 _) hlt31 (by omega) r31 s31 H locs hP hS ls (lv_sub hl [0, 1, 2, 3, 4, 5] rfl)
            · refine lv_iconst (v := 1) hx hb dX4_sayings_64 (by decide) ?_
              refine lv_iload hx hb dX4_sayings_65 (lv_at hl 0 rfl) ?_
              refine lv_ishl hx hb dX4_sayings_67 ?_
              refine lv_goto (tgt := 72) hx hb dX4_sayings_68 (by decide) ?_
              refine lv_ior hx hb dX4_sayings_72 ?_
              refine lv_istore (lv' := [(4, .int (x4 ||| ((1 : Int32) <<< (x5 &&& 31)))), (5, .int x5), (3, .int x3), (0, .ref (bd 0)), (1, .int p0), (2, .int p1)]) hx hb dX4_sayings_73 hl (by decide) rfl (fun ls hl => ?_)
              refine lv_iinc (v := (x5 + 1)) (lv' := [(5, .int (x5 + 1)), (4, .int (x4 ||| ((1 : Int32) <<< (x5 &&& 31)))), (3, .int x3), (0, .ref (bd 0)), (1, .int p0), (2, .int p1)]) hx hb dX4_sayings_75 hl (k := 1) rfl rfl (by decide) rfl (fun ls hl => ?_)
              refine lv_goto (tgt := 31) hx hb dX4_sayings_78 (by decide) ?_
              exact ih31 (mset w31 4 p0.toNatClampNeg ((x3 &&& (((1 : Int32) <<< (p1 &&& 31)) ^^^ (-1))) ||| (x5 <<< (p1 &&& 31)))) (x5 + 1) (x4 ||| ((1 : Int32) <<< (x5 &&& 31))) x3 (k31 + 1) (by rw [hr31, fX4_sayings_c31, if_neg c3, if_neg c4]) (by rw [e31]; exact nI_1 _) hlt31 (by omega) r31 s31 H locs hP hS ls (lv_sub hl [0, 1, 2, 3, 4, 5] rfl)
      exact lp31 (3) v 0 0 (v 4 p0.toNatClampNeg) (0) (by rw [fX4_sayings, if_pos c1, if_pos c2]) nI_0.symm (by omega) (by omega) hrc hrp H locs hP hS ls (lv_sub hl [0, 1, 2, 3, 4, 5] rfl)
    · refine lv_iconst (v := (-1)) hx hb dX4_sayings_16 (by decide) ?_
      exact rMI hx hb hr hlk hK hP hS dX4_sayings_17 (by rw [fX4_sayings, if_pos c1, if_neg c2])
def fX4_odds (v : Mem) (p0 : Int32) (p1 : Int32) : Int64 :=
  (if (v 0 3) = 0 then fX4_lost else (if (fX4_in ((p0).toInt64) 0 999) = 0 then fX4_lost else (if (fX4_in ((p1).toInt64) 0 1) = 0 then fX4_lost else (fX4_share (fX4_weightFrom v p0) (fX4_weightOfAll v) p1))))
set_option maxRecDepth 100000 in
set_option maxHeartbeats 4000000 in
theorem kX4_odds (l : Launch) (D : va_G) (cz : ClassId) (bd : Nat → Nat) (v : Mem) (p0 : Int32) (p1 : Int32) (hpc : PcOkM v) (hec : EcOkM v) : Met l yX4_odds wsX4_odds ({ frames := 5, cells := 0, slots := 0, locals := 110 } : Room) (va_Pc [.ref (bd 0), .int p0, .int p1] (MB D cz bd v)) (qR (some (.long (fX4_odds v p0 p1)))) 0 0 noF := by
  refine m_start (cc := cX4_odds) (maxL := 3) (ret := (some .long)) (by decide) rfl (Nat.le_of_ble_eq_true rfl) (fun p e s m below meth c hx hb hr hts hown hml hlk _ hB ls hl => ?_)
  obtain ⟨hP, hK⟩ := hB
  have hown : s.vm.findClass RX4 = some m.cls := hown
  have hl : lv_has ls 3 [(0, .ref (bd 0)), (1, .int p0), (2, .int p1)] := hl
  have hin_X4 : ∀ w ∈ wsX40, w ∈ wsX4_odds := fun _ h => List.mem_cons_of_mem _ (List.mem_append_right _ (h))
  have hwo := woaM_ne hec
  refine lv_aload_n hx hb dX4_odds_0 rfl (lv_at hl 0 rfl) ?_
  refine zg_X4_prophets hx hb hts hin_X4 hown hK hP (hts (Cond.fieldLink RX4 72 "ProphetCoverModel" "prophets" "I") (List.mem_of_getElem? (i := 1) rfl)) dX4_odds_1 ?_
  refine lv_if_eq (tgt := 29) hx hb dX4_odds_4 (by decide) (fun c1 => ?_) (fun c1 => ?_)
  · refine kS (n := 0) (As := []) (rest := []) ⟨hx, hb, hml, hown, hts⟩ (kX4_lost l) gX4_odds_X4_lost rfl rfl rfl (by decide +kernel) ⟨Nat.le_of_ble_eq_true rfl, Nat.le_of_ble_eq_true rfl⟩ (fun _ _ _ => trivial) (fun _ _ _ _ _ => trivial) rfl hl.1 rfl (Nat.le_of_ble_eq_true rfl) dX4_odds_29 ⟨Nat.le_refl _, Nat.le_refl _⟩ ?_
    exact rL hx hb hr hlk dX4_odds_32 (by rw [fX4_odds, if_pos c1])
  · refine lv_iload_n hx hb dX4_odds_7 rfl (lv_at hl 1 rfl) ?_
    refine lv_i2l hx hb dX4_odds_8 rfl ?_
    refine lv_lconst (v := 0) hx hb dX4_odds_9 (by decide) ?_
    refine lv_ldc2 hx hb hown (hts (Cond.constantLong RX4 205 (999)) (List.mem_of_getElem? (i := 2) rfl)) dX4_odds_10 ?_
    refine kS (n := 3) (As := [.long (p0).toInt64, .long 0, .long 999]) (rest := []) ⟨hx, hb, hml, hown, hts⟩ (kX4_in l ((p0).toInt64) 0 999) gX4_odds_X4_in rfl rfl rfl (by decide +kernel) ⟨Nat.le_of_ble_eq_true rfl, Nat.le_of_ble_eq_true rfl⟩ (fun _ _ _ => trivial) (fun _ _ _ _ _ => trivial) rfl hl.1 rfl (Nat.le_of_ble_eq_true rfl) dX4_odds_13 ⟨Nat.le_refl _, Nat.le_refl _⟩ ?_
    refine lv_if_eq (tgt := 29) hx hb dX4_odds_16 (by decide) (fun c2 => ?_) (fun c2 => ?_)
    · refine kS (n := 0) (As := []) (rest := []) ⟨hx, hb, hml, hown, hts⟩ (kX4_lost l) gX4_odds_X4_lost rfl rfl rfl (by decide +kernel) ⟨Nat.le_of_ble_eq_true rfl, Nat.le_of_ble_eq_true rfl⟩ (fun _ _ _ => trivial) (fun _ _ _ _ _ => trivial) rfl hl.1 rfl (Nat.le_of_ble_eq_true rfl) dX4_odds_29 ⟨Nat.le_refl _, Nat.le_refl _⟩ ?_
      exact rL hx hb hr hlk dX4_odds_32 (by rw [fX4_odds, if_neg c1, if_pos c2])
    · refine lv_iload_n hx hb dX4_odds_19 rfl (lv_at hl 2 rfl) ?_
      refine lv_i2l hx hb dX4_odds_20 rfl ?_
      refine lv_lconst (v := 0) hx hb dX4_odds_21 (by decide) ?_
      refine lv_lconst (v := 1) hx hb dX4_odds_22 (by decide) ?_
      refine kS (n := 3) (As := [.long (p1).toInt64, .long 0, .long 1]) (rest := []) ⟨hx, hb, hml, hown, hts⟩ (kX4_in l ((p1).toInt64) 0 1) gX4_odds_X4_in rfl rfl rfl (by decide +kernel) ⟨Nat.le_of_ble_eq_true rfl, Nat.le_of_ble_eq_true rfl⟩ (fun _ _ _ => trivial) (fun _ _ _ _ _ => trivial) rfl hl.1 rfl (Nat.le_of_ble_eq_true rfl) dX4_odds_23 ⟨Nat.le_refl _, Nat.le_refl _⟩ ?_
      refine lv_if_ne (tgt := 33) hx hb dX4_odds_26 (by decide) (fun c3 => ?_) (fun c3 => ?_)
      · refine lv_aload_n hx hb dX4_odds_33 rfl (lv_at hl 0 rfl) ?_
        refine lv_iload_n hx hb dX4_odds_34 rfl (lv_at hl 1 rfl) ?_
        refine kV (n := 1) (As := [.int p0]) (rest := []) ⟨hx, hb, hml, hown, hts⟩ (kX4_weightFrom l D cz bd v p0 (by first | exact hpc | assumption) (by first | exact hec | assumption)) gX4_odds_X4_weightFrom rfl rfl rfl (by decide +kernel) ⟨Nat.le_of_ble_eq_true rfl, Nat.le_of_ble_eq_true rfl⟩ (recvM hP hK) (MB_of hP hK) MB_bl rfl hl.1 rfl (Nat.le_of_ble_eq_true rfl) dX4_odds_35 ⟨Nat.le_refl _, Nat.le_refl _⟩ ?_
        refine lv_aload_n hx hb dX4_odds_38 rfl (lv_at hl 0 rfl) ?_
        refine kV (n := 0) (As := []) (rest := [.long (fX4_weightFrom v p0)]) ⟨hx, hb, hml, hown, hts⟩ (kX4_weightOfAll l D cz bd v (by first | exact hec | assumption)) gX4_odds_X4_weightOfAll rfl rfl rfl (by decide +kernel) ⟨Nat.le_of_ble_eq_true rfl, Nat.le_of_ble_eq_true rfl⟩ (recvM hP hK) (MB_of hP hK) MB_bl rfl hl.1 rfl (Nat.le_of_ble_eq_true rfl) dX4_odds_39 ⟨Nat.le_refl _, Nat.le_refl _⟩ ?_
        refine lv_iload_n hx hb dX4_odds_42 rfl (lv_at hl 2 rfl) ?_
        refine kS (n := 3) (As := [.long (fX4_weightFrom v p0), .long (fX4_weightOfAll v), .int p1]) (rest := []) ⟨hx, hb, hml, hown, hts⟩ (kX4_share l (fX4_weightFrom v p0) (fX4_weightOfAll v) p1 (by assumption)) gX4_odds_X4_share rfl rfl rfl (by decide +kernel) ⟨Nat.le_of_ble_eq_true rfl, Nat.le_of_ble_eq_true rfl⟩ (fun _ _ _ => trivial) (fun _ _ _ _ _ => trivial) rfl hl.1 rfl (Nat.le_of_ble_eq_true rfl) dX4_odds_43 ⟨Nat.le_refl _, Nat.le_refl _⟩ ?_
        exact rL hx hb hr hlk dX4_odds_46 (by rw [fX4_odds, if_neg c1, if_neg c2, if_neg c3])
      · refine kS (n := 0) (As := []) (rest := []) ⟨hx, hb, hml, hown, hts⟩ (kX4_lost l) gX4_odds_X4_lost rfl rfl rfl (by decide +kernel) ⟨Nat.le_of_ble_eq_true rfl, Nat.le_of_ble_eq_true rfl⟩ (fun _ _ _ => trivial) (fun _ _ _ _ _ => trivial) rfl hl.1 rfl (Nat.le_of_ble_eq_true rfl) dX4_odds_29 ⟨Nat.le_refl _, Nat.le_refl _⟩ ?_
        exact rL hx hb hr hlk dX4_odds_32 (by rw [fX4_odds, if_neg c1, if_neg c2, if_pos c3])
