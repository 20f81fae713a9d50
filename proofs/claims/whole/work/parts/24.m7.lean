def fX4_sheet_c65 (v : Mem) (p0 : Int32) (p1 : Int32) (p2 : Int32)  : Nat → Mem → Int32 → Int32 × Mem
  | 0, w65, x4 => (0, w65)
  | n65 + 1, w65, x4 => (if p2 ≤ x4 then ((fX4_refused w65 1).1, (fX4_refused w65 1).2) else (fX4_sheet_c65 v p0 p1 p2 n65 (mset w65 14 ((60 * p0) + x4).toNatClampNeg 0) (x4 + 1)))
def fX4_sheet (v : Mem) (p0 : Int32) (p1 : Int32) (p2 : Int32) : Int32 × Mem :=
  (if (fX4_noSheet p0) = 0 then (if (fX4_in ((p1).toInt64) 0 2) = 0 then ((fX4_refused v (-2)).1, (fX4_refused v (-2)).2) else (if p2 ≤ 60 then (if 0 ≤ p2 then (fX4_sheet_c65 v p0 p1 p2 (61) (mset (mset v 12 p0.toNatClampNeg p2) 13 p0.toNatClampNeg p1) 0) else ((fX4_failed v 4).1, (fX4_failed v 4).2)) else ((fX4_refused v (-2)).1, (fX4_refused v (-2)).2))) else ((fX4_refused v (-1)).1, (fX4_refused v (-1)).2))
set_option maxRecDepth 100000 in
set_option maxHeartbeats 4000000 in
theorem kX4_sheet (l : Launch) (D : va_G) (cz : ClassId) (bd : Nat → Nat) (hI : MI bd) (v : Mem) (p0 : Int32) (p1 : Int32) (p2 : Int32)  : Met l yX4_sheet wsX4_sheet ({ frames := 2, cells := 0, slots := 0, locals := 45 } : Room) (va_Pc [.ref (bd 0), .int p0, .int p1, .int p2] (MB D cz bd v)) (qW (MB D cz bd (fX4_sheet v p0 p1 p2).2) (AM bd) (some (.int (fX4_sheet v p0 p1 p2).1))) 0 0 (AM bd) := by
  refine m_start (cc := cX4_sheet) (maxL := 5) (ret := (some .int)) (by decide) rfl (Nat.le_of_ble_eq_true rfl) (fun p e s m below meth c hx hb hr hts hown hml hlk _ hB ls hl => ?_)
  obtain ⟨hP, hK⟩ := hB
  have hown : s.vm.findClass RX4 = some m.cls := hown
  have hl : lv_has ls 5 [(0, .ref (bd 0)), (1, .int p0), (2, .int p1), (3, .int p2)] := hl
  have hin_X4 : ∀ w ∈ wsX40, w ∈ wsX4_sheet := fun _ h => List.mem_cons_of_mem _ (List.mem_append_right _ (h))
  obtain ⟨H, hH⟩ : ∃ H, H = s.heap := ⟨_, rfl⟩
  obtain ⟨locs, hlo⟩ : ∃ z : List Loc, z = [] := ⟨_, rfl⟩
  have hS : va_S (AM bd) s.heap H locs := by rw [hH, hlo]; exact va_S.rf
  have hP : va_P D vwCl (wM cz bd v) H := by rw [hH]; exact hP
  suffices hgoal : W p l e ({ frames := 2, cells := 0, slots := 0, locals := 45 } : Room) s m ([.ref (bd 0), .int p0, .int p1, .int p2] : List Value).toArray below meth c H locs 0 0 (MQ below (qW (MB D cz bd (fX4_sheet v p0 p1 p2).2) (AM bd) (some (.int (fX4_sheet v p0 p1 p2).1))) ([.ref (bd 0), .int p0, .int p1, .int p2] : List Value).toArray s 0 0 (AM bd)) (F0 m 0 ls []) by rw [hH, hlo] at hgoal; exact hgoal
  clear hH hlo
  refine lv_iload_n hx hb dX4_sheet_0 rfl (lv_at hl 1 rfl) ?_
  refine kS (n := 1) (As := [.int p0]) (rest := []) ⟨hx, hb, hml, hown, hts⟩ (kX4_noSheet l p0) gX4_sheet_X4_noSheet rfl rfl rfl (by decide +kernel) ⟨Nat.le_of_ble_eq_true rfl, Nat.le_of_ble_eq_true rfl⟩ (fun _ _ _ => trivial) (fun _ _ _ _ _ => trivial) rfl hl.1 rfl (Nat.le_of_ble_eq_true rfl) dX4_sheet_1 ⟨Nat.le_refl _, Nat.le_refl _⟩ ?_
  refine lv_if_eq (tgt := 13) hx hb dX4_sheet_4 (by decide) (fun c1 => ?_) (fun c1 => ?_)
  · have hv1 : vp_in p0 4 := noSheet_in c1
    refine lv_iload_n hx hb dX4_sheet_13 rfl (lv_at hl 2 rfl) ?_
    refine lv_i2l hx hb dX4_sheet_14 rfl ?_
    refine lv_lconst (v := 0) hx hb dX4_sheet_15 (by decide) ?_
    refine lv_ldc2 hx hb hown (hts (Cond.constantLong RX4 118 (2)) (List.mem_of_getElem? (i := 1) rfl)) dX4_sheet_16 ?_
    refine kS (n := 3) (As := [.long (p1).toInt64, .long 0, .long 2]) (rest := []) ⟨hx, hb, hml, hown, hts⟩ (kX4_in l ((p1).toInt64) 0 2) gX4_sheet_X4_in rfl rfl rfl (by decide +kernel) ⟨Nat.le_of_ble_eq_true rfl, Nat.le_of_ble_eq_true rfl⟩ (fun _ _ _ => trivial) (fun _ _ _ _ _ => trivial) rfl hl.1 rfl (Nat.le_of_ble_eq_true rfl) dX4_sheet_19 ⟨Nat.le_refl _, Nat.le_refl _⟩ ?_
    refine lv_if_eq (tgt := 31) hx hb dX4_sheet_22 (by decide) (fun c2 => ?_) (fun c2 => ?_)
    · refine lv_aload_n hx hb dX4_sheet_31 rfl (lv_at hl 0 rfl) ?_
      refine lv_bipush (v := (-2)) hx hb dX4_sheet_32 (by decide) ?_
      refine kWM (n := 1) (As := [.int (-2)]) (rest := []) ⟨hx, hb, hml, hown, hts⟩ (kX4_refused l D cz bd hI v (-2)) gX4_sheet_X4_refused rfl rfl rfl (by decide +kernel) ⟨Nat.le_of_ble_eq_true rfl, Nat.le_of_ble_eq_true rfl⟩ (recvM hP hK) hP hK hS rfl hl.1 rfl (Nat.le_of_ble_eq_true rfl) dX4_sheet_34 ⟨Nat.le_refl _, Nat.le_refl _⟩ (fun H locs hP hS => ?_)
      exact rMI hx hb hr hlk hK hP hS dX4_sheet_37 (by rw [fX4_sheet, if_pos c1, if_pos c2])
    · refine lv_iload_n hx hb dX4_sheet_25 rfl (lv_at hl 3 rfl) ?_
      refine lv_bipush (v := 60) hx hb dX4_sheet_26 (by decide) ?_
      refine lv_icmp_le (tgt := 38) hx hb dX4_sheet_28 (by decide) (fun c3 => ?_) (fun c3 => ?_)
      · refine lv_iload_n hx hb dX4_sheet_38 rfl (lv_at hl 3 rfl) ?_
        refine lv_if_ge (tgt := 48) hx hb dX4_sheet_39 (by decide) (fun c4 => ?_) (fun c4 => ?_)
        · obtain ⟨nn, hnn, enn⟩ := sz_ex (by assumption) (by assumption)
          refine lv_aload_n hx hb dX4_sheet_48 rfl (lv_at hl 0 rfl) ?_
          refine zg_X4_sheetSize hx hb hts hin_X4 hown hK hP (hts (Cond.fieldLink RX4 43 "ProphetCoverModel" "sheetSize" "[I") (List.mem_of_getElem? (i := 2) rfl)) dX4_sheet_49 ?_
          refine lv_iload_n hx hb dX4_sheet_52 rfl (lv_at hl 1 rfl) ?_
          refine lv_iload_n hx hb dX4_sheet_53 rfl (lv_at hl 3 rfl) ?_
          refine zs_M (by decide) (by decide) rfl hx hb hK hP hI hS (by assumption) dX4_sheet_54 (fun H locs hP hS => ?_)
          refine lv_aload_n hx hb dX4_sheet_55 rfl (lv_at hl 0 rfl) ?_
          refine zg_X4_sheetLane hx hb hts hin_X4 hown hK hP (hts (Cond.fieldLink RX4 46 "ProphetCoverModel" "sheetLane" "[I") (List.mem_of_getElem? (i := 3) rfl)) dX4_sheet_56 ?_
          refine lv_iload_n hx hb dX4_sheet_59 rfl (lv_at hl 1 rfl) ?_
          refine lv_iload_n hx hb dX4_sheet_60 rfl (lv_at hl 2 rfl) ?_
          refine zs_M (by decide) (by decide) rfl hx hb hK hP hI hS (by assumption) dX4_sheet_61 (fun H locs hP hS => ?_)
          refine lv_iconst (v := 0) hx hb dX4_sheet_62 (by decide) ?_
          refine lv_istore (lv' := [(4, .int 0), (0, .ref (bd 0)), (1, .int p0), (2, .int p1), (3, .int p2)]) hx hb dX4_sheet_63 hl (by decide) rfl (fun ls hl => ?_)
          have lp65 : ∀ (n65 : Nat) (w65 : Mem) (x4 : Int32) (k65 : Nat), (fX4_sheet v p0 p1 p2) = (fX4_sheet_c65 v p0 p1 p2 n65 w65 x4) → (x4 = nI k65) → (k65 ≤ nn) → (nn < k65 + n65) → ∀ (H : Heap) (locs : List Loc), va_P D vwCl (wM cz bd w65) H → va_S (AM bd) s.heap H locs → ∀ ls : Array Slot, lv_has ls 5 [(4, .int x4), (0, .ref (bd 0)), (1, .int p0), (3, .int p2)] → W p l e ({ frames := 2, cells := 0, slots := 0, locals := 45 } : Room) s m ([.ref (bd 0), .int p0, .int p1, .int p2] : List Value).toArray below meth c H locs 0 0 (MQ below (qW (MB D cz bd (fX4_sheet v p0 p1 p2).2) (AM bd) (some (.int (fX4_sheet v p0 p1 p2).1))) ([.ref (bd 0), .int p0, .int p1, .int p2] : List Value).toArray s 0 0 (AM bd)) (F0 m 65 ls []) := by
            intro n65
            induction n65 with
            | zero =>
              intro w65 x4 k65 _ e65 hk65 hm65 H locs hP hS ls hl
              exfalso; omega
            | succ n65 ih65 =>
              intro w65 x4 k65 hr65 e65 hk65 hm65 H locs hP hS ls hl
              refine lv_iload hx hb dX4_sheet_65 (lv_at hl 0 rfl) ?_
              refine lv_iload_n hx hb dX4_sheet_67 rfl (lv_at hl 3 rfl) ?_
              refine lv_icmp_ge (tgt := 90) hx hb dX4_sheet_68 (by decide) (fun c5 => ?_) (fun c5 => ?_)
              · refine lv_aload_n hx hb dX4_sheet_90 rfl (lv_at hl 1 rfl) ?_
                refine lv_iconst (v := 1) hx hb dX4_sheet_91 (by decide) ?_
                refine kWM (n := 1) (As := [.int 1]) (rest := []) ⟨hx, hb, hml, hown, hts⟩ (kX4_refused l D cz bd hI w65 1) gX4_sheet_X4_refused rfl rfl rfl (by decide +kernel) ⟨Nat.le_of_ble_eq_true rfl, Nat.le_of_ble_eq_true rfl⟩ (recvM hP hK) hP hK hS rfl hl.1 rfl (Nat.le_of_ble_eq_true rfl) dX4_sheet_92 ⟨Nat.le_refl _, Nat.le_refl _⟩ (fun H locs hP hS => ?_)
                exact rMI hx hb hr hlk hK hP hS dX4_sheet_95 (by rw [hr65, fX4_sheet_c65, if_pos c5])
              · have hlt65 : k65 < nn := cnt_lt enn e65 (by omega) (by omega) c5
                have hv65 : vp_in (60 * p0 + x4) 240 := ix240 (by assumption) e65 (by omega)
                refine lv_aload_n hx hb dX4_sheet_71 rfl (lv_at hl 1 rfl) ?_
                refine zg_X4_sheet hx hb hts hin_X4 hown hK hP (hts (Cond.fieldLink RX4 49 "ProphetCoverModel" "sheet" "[I") (List.mem_of_getElem? (i := 4) rfl)) dX4_sheet_72 ?_
                refine lv_bipush (v := 60) hx hb dX4_sheet_75 (by decide) ?_
                refine lv_iload_n hx hb dX4_sheet_77 rfl (lv_at hl 2 rfl) ?_
                refine lv_imul hx hb dX4_sheet_78 ?_
                refine lv_iload hx hb dX4_sheet_79 (lv_at hl 0 rfl) ?_
                refine lv_iadd hx hb dX4_sheet_81 ?_
                refine lv_iconst (v := 0) hx hb dX4_sheet_82 (by decide) ?_
                refine zs_M (by decide) (by decide) rfl hx hb hK hP hI hS (by assumption) dX4_sheet_83 (fun H locs hP hS => ?_)
                refine lv_iinc (v := (x4 + 1)) (lv' := [(4, .int (x4 + 1)), (0, .ref (bd 0)), (1, .int p0), (3, .int p2)]) hx hb dX4_sheet_84 hl (k := 0) rfl rfl (by decide) rfl (fun ls hl => ?_)
                refine lv_goto (tgt := 65) hx hb dX4_sheet_87 (by decide) ?_
                exact ih65 (mset w65 14 ((60 * p0) + x4).toNatClampNeg 0) (x4 + 1) (k65 + 1) (by rw [hr65, fX4_sheet_c65, if_neg c5]) (by rw [e65]; exact nI_1 _) hlt65 (by omega) H locs hP hS ls (lv_sub hl [0, 1, 2, 3] rfl)
          exact lp65 (61) (mset (mset v 12 p0.toNatClampNeg p2) 13 p0.toNatClampNeg p1) 0 (0) (by rw [fX4_sheet, if_pos c1, if_neg c2, if_pos c3, if_pos c4]) nI_0.symm (by omega) (by omega) H locs hP hS ls (lv_sub hl [0, 1, 2, 4] rfl)
        · refine lv_aload_n hx hb dX4_sheet_42 rfl (lv_at hl 0 rfl) ?_
          refine lv_iconst (v := 4) hx hb dX4_sheet_43 (by decide) ?_
          refine kWM (n := 1) (As := [.int 4]) (rest := []) ⟨hx, hb, hml, hown, hts⟩ (kX4_failed l D cz bd hI v 4) gX4_sheet_X4_failed rfl rfl rfl (by decide +kernel) ⟨Nat.le_of_ble_eq_true rfl, Nat.le_of_ble_eq_true rfl⟩ (recvM hP hK) hP hK hS rfl hl.1 rfl (Nat.le_of_ble_eq_true rfl) dX4_sheet_44 ⟨Nat.le_refl _, Nat.le_refl _⟩ (fun H locs hP hS => ?_)
          exact rMI hx hb hr hlk hK hP hS dX4_sheet_47 (by rw [fX4_sheet, if_pos c1, if_neg c2, if_pos c3, if_neg c4])
      · refine lv_aload_n hx hb dX4_sheet_31 rfl (lv_at hl 0 rfl) ?_
        refine lv_bipush (v := (-2)) hx hb dX4_sheet_32 (by decide) ?_
        refine kWM (n := 1) (As := [.int (-2)]) (rest := []) ⟨hx, hb, hml, hown, hts⟩ (kX4_refused l D cz bd hI v (-2)) gX4_sheet_X4_refused rfl rfl rfl (by decide +kernel) ⟨Nat.le_of_ble_eq_true rfl, Nat.le_of_ble_eq_true rfl⟩ (recvM hP hK) hP hK hS rfl hl.1 rfl (Nat.le_of_ble_eq_true rfl) dX4_sheet_34 ⟨Nat.le_refl _, Nat.le_refl _⟩ (fun H locs hP hS => ?_)
        exact rMI hx hb hr hlk hK hP hS dX4_sheet_37 (by rw [fX4_sheet, if_pos c1, if_neg c2, if_neg c3])
  · refine lv_aload_n hx hb dX4_sheet_7 rfl (lv_at hl 0 rfl) ?_
    refine lv_iconst (v := (-1)) hx hb dX4_sheet_8 (by decide) ?_
    refine kWM (n := 1) (As := [.int (-1)]) (rest := []) ⟨hx, hb, hml, hown, hts⟩ (kX4_refused l D cz bd hI v (-1)) gX4_sheet_X4_refused rfl rfl rfl (by decide +kernel) ⟨Nat.le_of_ble_eq_true rfl, Nat.le_of_ble_eq_true rfl⟩ (recvM hP hK) hP hK hS rfl hl.1 rfl (Nat.le_of_ble_eq_true rfl) dX4_sheet_9 ⟨Nat.le_refl _, Nat.le_refl _⟩ (fun H locs hP hS => ?_)
    exact rMI hx hb hr hlk hK hP hS dX4_sheet_12 (by rw [fX4_sheet, if_neg c1])
def fX4_lose (v : Mem) (p0 : Int32) : Int32 × Mem :=
  (if (fX4_noSheet p0) = 0 then (if 0 ≤ (v 12 p0.toNatClampNeg) then (1, (mset v 12 p0.toNatClampNeg (-1))) else (0, (mset v 12 p0.toNatClampNeg (-1)))) else ((-1), v))
set_option maxRecDepth 100000 in
set_option maxHeartbeats 4000000 in
theorem kX4_lose (l : Launch) (D : va_G) (cz : ClassId) (bd : Nat → Nat) (hI : MI bd) (v : Mem) (p0 : Int32)  : Met l yX4_lose wsX4_lose ({ frames := 2, cells := 0, slots := 0, locals := 45 } : Room) (va_Pc [.ref (bd 0), .int p0] (MB D cz bd v)) (qW (MB D cz bd (fX4_lose v p0).2) (AM bd) (some (.int (fX4_lose v p0).1))) 0 0 (AM bd) := by
  refine m_start (cc := cX4_lose) (maxL := 3) (ret := (some .int)) (by decide) rfl (Nat.le_of_ble_eq_true rfl) (fun p e s m below meth c hx hb hr hts hown hml hlk _ hB ls hl => ?_)
  obtain ⟨hP, hK⟩ := hB
  have hown : s.vm.findClass RX4 = some m.cls := hown
  have hl : lv_has ls 3 [(0, .ref (bd 0)), (1, .int p0)] := hl
  have hin_X4 : ∀ w ∈ wsX40, w ∈ wsX4_lose := fun _ h => List.mem_cons_of_mem _ (List.mem_append_right _ (h))
  obtain ⟨H, hH⟩ : ∃ H, H = s.heap := ⟨_, rfl⟩
  obtain ⟨locs, hlo⟩ : ∃ z : List Loc, z = [] := ⟨_, rfl⟩
  have hS : va_S (AM bd) s.heap H locs := by rw [hH, hlo]; exact va_S.rf
  have hP : va_P D vwCl (wM cz bd v) H := by rw [hH]; exact hP
  suffices hgoal : W p l e ({ frames := 2, cells := 0, slots := 0, locals := 45 } : Room) s m ([.ref (bd 0), .int p0] : List Value).toArray below meth c H locs 0 0 (MQ below (qW (MB D cz bd (fX4_lose v p0).2) (AM bd) (some (.int (fX4_lose v p0).1))) ([.ref (bd 0), .int p0] : List Value).toArray s 0 0 (AM bd)) (F0 m 0 ls []) by rw [hH, hlo] at hgoal; exact hgoal
  clear hH hlo
  refine lv_iload_n hx hb dX4_lose_0 rfl (lv_at hl 1 rfl) ?_
  refine kS (n := 1) (As := [.int p0]) (rest := []) ⟨hx, hb, hml, hown, hts⟩ (kX4_noSheet l p0) gX4_lose_X4_noSheet rfl rfl rfl (by decide +kernel) ⟨Nat.le_of_ble_eq_true rfl, Nat.le_of_ble_eq_true rfl⟩ (fun _ _ _ => trivial) (fun _ _ _ _ _ => trivial) rfl hl.1 rfl (Nat.le_of_ble_eq_true rfl) dX4_lose_1 ⟨Nat.le_refl _, Nat.le_refl _⟩ ?_
  refine lv_if_eq (tgt := 9) hx hb dX4_lose_4 (by decide) (fun c1 => ?_) (fun c1 => ?_)
  · have hv1 : vp_in p0 4 := noSheet_in c1
    refine lv_aload_n hx hb dX4_lose_9 rfl (lv_at hl 0 rfl) ?_
    refine zg_X4_sheetSize hx hb hts hin_X4 hown hK hP (hts (Cond.fieldLink RX4 43 "ProphetCoverModel" "sheetSize" "[I") (List.mem_of_getElem? (i := 1) rfl)) dX4_lose_10 ?_
    refine lv_iload_n hx hb dX4_lose_13 rfl (lv_at hl 1 rfl) ?_
    refine zl_M (by decide) (by decide) rfl hx hb hK hP (by assumption) dX4_lose_14 ?_
    refine lv_if_ge (tgt := 22) hx hb dX4_lose_15 (by decide) (fun c2 => ?_) (fun c2 => ?_)
    · refine lv_iconst (v := 1) hx hb dX4_lose_22 (by decide) ?_
      refine lv_istore_n (lv' := [(2, .int 1), (0, .ref (bd 0)), (1, .int p0)]) hx hb dX4_lose_23 rfl hl (by decide) rfl (fun ls hl => ?_)
      refine lv_aload_n hx hb dX4_lose_24 rfl (lv_at hl 1 rfl) ?_
      refine zg_X4_sheetSize hx hb hts hin_X4 hown hK hP (hts (Cond.fieldLink RX4 43 "ProphetCoverModel" "sheetSize" "[I") (List.mem_of_getElem? (i := 1) rfl)) dX4_lose_25 ?_
      refine lv_iload_n hx hb dX4_lose_28 rfl (lv_at hl 2 rfl) ?_
      refine lv_iconst (v := (-1)) hx hb dX4_lose_29 (by decide) ?_
      refine zs_M (by decide) (by decide) rfl hx hb hK hP hI hS (by assumption) dX4_lose_30 (fun H locs hP hS => ?_)
      refine lv_iload_n hx hb dX4_lose_31 rfl (lv_at hl 0 rfl) ?_
      exact rMI hx hb hr hlk hK hP hS dX4_lose_32 (by rw [fX4_lose, if_pos c1, if_pos c2])
    · refine lv_iconst (v := 0) hx hb dX4_lose_18 (by decide) ?_
      refine lv_goto (tgt := 23) hx hb dX4_lose_19 (by decide) ?_
      refine lv_istore_n (lv' := [(2, .int 0), (0, .ref (bd 0)), (1, .int p0)]) hx hb dX4_lose_23 rfl hl (by decide) rfl (fun ls hl => ?_)
      refine lv_aload_n hx hb dX4_lose_24 rfl (lv_at hl 1 rfl) ?_
      refine zg_X4_sheetSize hx hb hts hin_X4 hown hK hP (hts (Cond.fieldLink RX4 43 "ProphetCoverModel" "sheetSize" "[I") (List.mem_of_getElem? (i := 1) rfl)) dX4_lose_25 ?_
      refine lv_iload_n hx hb dX4_lose_28 rfl (lv_at hl 2 rfl) ?_
      refine lv_iconst (v := (-1)) hx hb dX4_lose_29 (by decide) ?_
      refine zs_M (by decide) (by decide) rfl hx hb hK hP hI hS (by assumption) dX4_lose_30 (fun H locs hP hS => ?_)
      refine lv_iload_n hx hb dX4_lose_31 rfl (lv_at hl 0 rfl) ?_
      exact rMI hx hb hr hlk hK hP hS dX4_lose_32 (by rw [fX4_lose, if_pos c1, if_neg c2])
  · refine lv_iconst (v := (-1)) hx hb dX4_lose_7 (by decide) ?_
    exact rMI hx hb hr hlk hK hP hS dX4_lose_8 (by rw [fX4_lose, if_neg c1])
def fX4_noCell (v : Mem) (p0 : Int32) (p1 : Int32) : Int32 :=
  (if 0 ≤ (v 12 p0.toNatClampNeg) then (if (fX4_in ((p1).toInt64) 0 (((v 12 p0.toNatClampNeg)).toInt64 - 1)) = 0 then 3 else 0) else 1)
set_option maxRecDepth 100000 in
set_option maxHeartbeats 4000000 in
theorem kX4_noCell (l : Launch) (D : va_G) (cz : ClassId) (bd : Nat → Nat) (v : Mem) (p0 : Int32) (p1 : Int32) (hp : vp_in p0 4) : Met l yX4_noCell wsX4_noCell ({ frames := 1, cells := 0, slots := 0, locals := 25 } : Room) (va_Pc [.ref (bd 0), .int p0, .int p1] (MB D cz bd v)) (qR (some (.int (fX4_noCell v p0 p1)))) 0 0 noF := by
  refine m_start (cc := cX4_noCell) (maxL := 3) (ret := (some .int)) (by decide) rfl (Nat.le_of_ble_eq_true rfl) (fun p e s m below meth c hx hb hr hts hown hml hlk _ hB ls hl => ?_)
  obtain ⟨hP, hK⟩ := hB
  have hown : s.vm.findClass RX4 = some m.cls := hown
  have hl : lv_has ls 3 [(0, .ref (bd 0)), (1, .int p0), (2, .int p1)] := hl
  have hin_X4 : ∀ w ∈ wsX40, w ∈ wsX4_noCell := fun _ h => List.mem_cons_of_mem _ (List.mem_append_right _ (h))
  refine lv_aload_n hx hb dX4_noCell_0 rfl (lv_at hl 0 rfl) ?_
  refine zg_X4_sheetSize hx hb hts hin_X4 hown hK hP (hts (Cond.fieldLink RX4 43 "ProphetCoverModel" "sheetSize" "[I") (List.mem_of_getElem? (i := 1) rfl)) dX4_noCell_1 ?_
  refine lv_iload_n hx hb dX4_noCell_4 rfl (lv_at hl 1 rfl) ?_
  refine zl_M (by decide) (by decide) rfl hx hb hK hP (by assumption) dX4_noCell_5 ?_
  refine lv_if_ge (tgt := 13) hx hb dX4_noCell_6 (by decide) (fun c1 => ?_) (fun c1 => ?_)
  · refine lv_iload_n hx hb dX4_noCell_13 rfl (lv_at hl 2 rfl) ?_
    refine lv_i2l hx hb dX4_noCell_14 rfl ?_
    refine lv_lconst (v := 0) hx hb dX4_noCell_15 (by decide) ?_
    refine lv_aload_n hx hb dX4_noCell_16 rfl (lv_at hl 0 rfl) ?_
    refine zg_X4_sheetSize hx hb hts hin_X4 hown hK hP (hts (Cond.fieldLink RX4 43 "ProphetCoverModel" "sheetSize" "[I") (List.mem_of_getElem? (i := 1) rfl)) dX4_noCell_17 ?_
    refine lv_iload_n hx hb dX4_noCell_20 rfl (lv_at hl 1 rfl) ?_
    refine zl_M (by decide) (by decide) rfl hx hb hK hP (by assumption) dX4_noCell_21 ?_
    refine lv_i2l hx hb dX4_noCell_22 rfl ?_
    refine lv_lconst (v := 1) hx hb dX4_noCell_23 (by decide) ?_
    refine lv_lsub hx hb dX4_noCell_24 ?_
    refine kS (n := 3) (As := [.long (p1).toInt64, .long 0, .long (((v 12 p0.toNatClampNeg)).toInt64 - 1)]) (rest := []) ⟨hx, hb, hml, hown, hts⟩ (kX4_in l ((p1).toInt64) 0 (((v 12 p0.toNatClampNeg)).toInt64 - 1)) gX4_noCell_X4_in rfl rfl rfl (by decide +kernel) ⟨Nat.le_of_ble_eq_true rfl, Nat.le_of_ble_eq_true rfl⟩ (fun _ _ _ => trivial) (fun _ _ _ _ _ => trivial) rfl hl.1 rfl (Nat.le_of_ble_eq_true rfl) dX4_noCell_25 ⟨Nat.le_refl _, Nat.le_refl _⟩ ?_
    refine lv_if_eq (tgt := 35) hx hb dX4_noCell_28 (by decide) (fun c2 => ?_) (fun c2 => ?_)
    · refine lv_iconst (v := 3) hx hb dX4_noCell_35 (by decide) ?_
      exact rI hx hb hr hlk dX4_noCell_36 (by rw [fX4_noCell, if_pos c1, if_pos c2])
    · refine lv_iconst (v := 0) hx hb dX4_noCell_31 (by decide) ?_
      refine lv_goto (tgt := 36) hx hb dX4_noCell_32 (by decide) ?_
      exact rI hx hb hr hlk dX4_noCell_36 (by rw [fX4_noCell, if_pos c1, if_neg c2])
  · refine lv_iconst (v := 1) hx hb dX4_noCell_9 (by decide) ?_
    refine lv_goto (tgt := 36) hx hb dX4_noCell_10 (by decide) ?_
    exact rI hx hb hr hlk dX4_noCell_36 (by rw [fX4_noCell, if_neg c1])
theorem nc_in {v : Mem} {k i : Int32} (h : SzOkM v) (hv : vp_in k 4) (c : fX4_noCell v k i ≤ 0) : vp_in (60 * k + i) 240 := by
  unfold fX4_noCell at c
  by_cases c1 : 0 ≤ v 12 k.toNatClampNeg
  · rw [if_pos c1] at c
    by_cases c2 : fX4_in i.toInt64 0 ((v 12 k.toNatClampNeg).toInt64 - 1) = 0
    · rw [if_pos c2] at c; exact absurd c (by decide)
    have h2 := (in_spec _ _ _).mp c2
    have h3 : 0 ≤ (v 12 k.toNatClampNeg).toInt := Int32.le_iff_toInt_le.mp c1
    rcases h _ (vlt hv) with e | ⟨q, hq, e⟩
    · rw [e] at h3; exact absurd h3 (by decide)
    rw [e, sub1_64 (by omega), i64_32, show (0 : Int64).toInt = 0 from rfl] at h2
    obtain ⟨ii, e1, e2, -⟩ := int_ex h2.1
    exact ix240 hv e1 (by omega)
  · rw [if_neg c1] at c; exact absurd c (by decide)
def fX4_put (v : Mem) (p0 : Int32) (p1 : Int32) (p2 : Int32) : Int32 × Mem :=
  (if (fX4_noSheet p0) = 0 then (if (fX4_noCell v p0 p1) ≤ 0 then (if (v 13 p0.toNatClampNeg) = 0 then ((fX4_refused (mset v 14 ((60 * p0) + p1).toNatClampNeg (p2).toInt8.toInt32) 1).1, (fX4_refused (mset v 14 ((60 * p0) + p1).toNatClampNeg (p2).toInt8.toInt32) 1).2) else (if (v 13 p0.toNatClampNeg) = 1 then ((fX4_refused (mset v 14 ((60 * p0) + p1).toNatClampNeg (p2).toInt16.toInt32) 1).1, (fX4_refused (mset v 14 ((60 * p0) + p1).toNatClampNeg (p2).toInt16.toInt32) 1).2) else ((fX4_refused (mset v 14 ((60 * p0) + p1).toNatClampNeg p2) 1).1, (fX4_refused (mset v 14 ((60 * p0) + p1).toNatClampNeg p2) 1).2))) else ((fX4_failed v (fX4_noCell v p0 p1)).1, (fX4_failed v (fX4_noCell v p0 p1)).2)) else ((fX4_refused v (-1)).1, (fX4_refused v (-1)).2))
set_option maxRecDepth 100000 in
set_option maxHeartbeats 4000000 in
theorem kX4_put (l : Launch) (D : va_G) (cz : ClassId) (bd : Nat → Nat) (hI : MI bd) (v : Mem) (p0 : Int32) (p1 : Int32) (p2 : Int32) (hsz : SzOkM v) : Met l yX4_put wsX4_put ({ frames := 2, cells := 0, slots := 0, locals := 47 } : Room) (va_Pc [.ref (bd 0), .int p0, .int p1, .int p2] (MB D cz bd v)) (qW (MB D cz bd (fX4_put v p0 p1 p2).2) (AM bd) (some (.int (fX4_put v p0 p1 p2).1))) 0 0 (AM bd) := by
  refine m_start (cc := cX4_put) (maxL := 4) (ret := (some .int)) (by decide) rfl (Nat.le_of_ble_eq_true rfl) (fun p e s m below meth c hx hb hr hts hown hml hlk _ hB ls hl => ?_)
  obtain ⟨hP, hK⟩ := hB
  have hown : s.vm.findClass RX4 = some m.cls := hown
  have hl : lv_has ls 4 [(0, .ref (bd 0)), (1, .int p0), (2, .int p1), (3, .int p2)] := hl
  have hin_X4 : ∀ w ∈ wsX40, w ∈ wsX4_put := fun _ h => List.mem_cons_of_mem _ (List.mem_append_right _ (h))
  obtain ⟨H, hH⟩ : ∃ H, H = s.heap := ⟨_, rfl⟩
  obtain ⟨locs, hlo⟩ : ∃ z : List Loc, z = [] := ⟨_, rfl⟩
  have hS : va_S (AM bd) s.heap H locs := by rw [hH, hlo]; exact va_S.rf
  have hP : va_P D vwCl (wM cz bd v) H := by rw [hH]; exact hP
  suffices hgoal : W p l e ({ frames := 2, cells := 0, slots := 0, locals := 47 } : Room) s m ([.ref (bd 0), .int p0, .int p1, .int p2] : List Value).toArray below meth c H locs 0 0 (MQ below (qW (MB D cz bd (fX4_put v p0 p1 p2).2) (AM bd) (some (.int (fX4_put v p0 p1 p2).1))) ([.ref (bd 0), .int p0, .int p1, .int p2] : List Value).toArray s 0 0 (AM bd)) (F0 m 0 ls []) by rw [hH, hlo] at hgoal; exact hgoal
  clear hH hlo
  refine lv_iload_n hx hb dX4_put_0 rfl (lv_at hl 1 rfl) ?_
  refine kS (n := 1) (As := [.int p0]) (rest := []) ⟨hx, hb, hml, hown, hts⟩ (kX4_noSheet l p0) gX4_put_X4_noSheet rfl rfl rfl (by decide +kernel) ⟨Nat.le_of_ble_eq_true rfl, Nat.le_of_ble_eq_true rfl⟩ (fun _ _ _ => trivial) (fun _ _ _ _ _ => trivial) rfl hl.1 rfl (Nat.le_of_ble_eq_true rfl) dX4_put_1 ⟨Nat.le_refl _, Nat.le_refl _⟩ ?_
  refine lv_if_eq (tgt := 13) hx hb dX4_put_4 (by decide) (fun c1 => ?_) (fun c1 => ?_)
  · have hv1 : vp_in p0 4 := noSheet_in c1
    refine lv_aload_n hx hb dX4_put_13 rfl (lv_at hl 0 rfl) ?_
    refine lv_iload_n hx hb dX4_put_14 rfl (lv_at hl 1 rfl) ?_
    refine lv_iload_n hx hb dX4_put_15 rfl (lv_at hl 2 rfl) ?_
    refine kV (n := 2) (As := [.int p0, .int p1]) (rest := []) ⟨hx, hb, hml, hown, hts⟩ (kX4_noCell l D cz bd v p0 p1 (by assumption)) gX4_put_X4_noCell rfl rfl rfl (by decide +kernel) ⟨Nat.le_of_ble_eq_true rfl, Nat.le_of_ble_eq_true rfl⟩ (recvM hP hK) (MB_of hP hK) MB_bl rfl hl.1 rfl (Nat.le_of_ble_eq_true rfl) dX4_put_16 ⟨Nat.le_refl _, Nat.le_refl _⟩ ?_
    refine lv_if_le (tgt := 33) hx hb dX4_put_19 (by decide) (fun c2 => ?_) (fun c2 => ?_)
    · have hvc : vp_in (60 * p0 + p1) 240 := nc_in hsz (by assumption) c2
      refine lv_aload_n hx hb dX4_put_33 rfl (lv_at hl 0 rfl) ?_
      refine zg_X4_sheet hx hb hts hin_X4 hown hK hP (hts (Cond.fieldLink RX4 49 "ProphetCoverModel" "sheet" "[I") (List.mem_of_getElem? (i := 1) rfl)) dX4_put_34 ?_
      refine lv_bipush (v := 60) hx hb dX4_put_37 (by decide) ?_
      refine lv_iload_n hx hb dX4_put_39 rfl (lv_at hl 1 rfl) ?_
      refine lv_imul hx hb dX4_put_40 ?_
      refine lv_iload_n hx hb dX4_put_41 rfl (lv_at hl 2 rfl) ?_
      refine lv_iadd hx hb dX4_put_42 ?_
      refine lv_aload_n hx hb dX4_put_43 rfl (lv_at hl 0 rfl) ?_
      refine zg_X4_sheetLane hx hb hts hin_X4 hown hK hP (hts (Cond.fieldLink RX4 46 "ProphetCoverModel" "sheetLane" "[I") (List.mem_of_getElem? (i := 2) rfl)) dX4_put_44 ?_
      refine lv_iload_n hx hb dX4_put_47 rfl (lv_at hl 1 rfl) ?_
      refine zl_M (by decide) (by decide) rfl hx hb hK hP (by assumption) dX4_put_48 ?_
      refine lv_if_ne (tgt := 57) hx hb dX4_put_49 (by decide) (fun c3 => ?_) (fun c3 => ?_)
      · refine lv_aload_n hx hb dX4_put_57 rfl (lv_at hl 0 rfl) ?_
        refine zg_X4_sheetLane hx hb hts hin_X4 hown hK hP (hts (Cond.fieldLink RX4 46 "ProphetCoverModel" "sheetLane" "[I") (List.mem_of_getElem? (i := 2) rfl)) dX4_put_58 ?_
        refine lv_iload_n hx hb dX4_put_61 rfl (lv_at hl 1 rfl) ?_
        refine zl_M (by decide) (by decide) rfl hx hb hK hP (by assumption) dX4_put_62 ?_
        refine lv_iconst (v := 1) hx hb dX4_put_63 (by decide) ?_
        refine lv_icmp_ne (tgt := 72) hx hb dX4_put_64 (by decide) (fun c4 => ?_) (fun c4 => ?_)
        · refine lv_iload_n hx hb dX4_put_72 rfl (lv_at hl 3 rfl) ?_
          refine zs_M (by decide) (by decide) rfl hx hb hK hP hI hS (by assumption) dX4_put_73 (fun H locs hP hS => ?_)
          refine lv_aload_n hx hb dX4_put_74 rfl (lv_at hl 0 rfl) ?_
          refine lv_iconst (v := 1) hx hb dX4_put_75 (by decide) ?_
          refine kWM (n := 1) (As := [.int 1]) (rest := []) ⟨hx, hb, hml, hown, hts⟩ (kX4_refused l D cz bd hI (mset v 14 ((60 * p0) + p1).toNatClampNeg p2) 1) gX4_put_X4_refused rfl rfl rfl (by decide +kernel) ⟨Nat.le_of_ble_eq_true rfl, Nat.le_of_ble_eq_true rfl⟩ (recvM hP hK) hP hK hS rfl hl.1 rfl (Nat.le_of_ble_eq_true rfl) dX4_put_76 ⟨Nat.le_refl _, Nat.le_refl _⟩ (fun H locs hP hS => ?_)
          exact rMI hx hb hr hlk hK hP hS dX4_put_79 (by rw [fX4_put, if_pos c1, if_pos c2, if_neg c3, if_neg c4])
        · refine lv_iload_n hx hb dX4_put_67 rfl (lv_at hl 3 rfl) ?_
          refine lv_i2s hx hb dX4_put_68 rfl ?_
          refine lv_goto (tgt := 73) hx hb dX4_put_69 (by decide) ?_
          refine zs_M (by decide) (by decide) rfl hx hb hK hP hI hS (by assumption) dX4_put_73 (fun H locs hP hS => ?_)
          refine lv_aload_n hx hb dX4_put_74 rfl (lv_at hl 0 rfl) ?_
          refine lv_iconst (v := 1) hx hb dX4_put_75 (by decide) ?_
          refine kWM (n := 1) (As := [.int 1]) (rest := []) ⟨hx, hb, hml, hown, hts⟩ (kX4_refused l D cz bd hI (mset v 14 ((60 * p0) + p1).toNatClampNeg (p2).toInt16.toInt32) 1) gX4_put_X4_refused rfl rfl rfl (by decide +kernel) ⟨Nat.le_of_ble_eq_true rfl, Nat.le_of_ble_eq_true rfl⟩ (recvM hP hK) hP hK hS rfl hl.1 rfl (Nat.le_of_ble_eq_true rfl) dX4_put_76 ⟨Nat.le_refl _, Nat.le_refl _⟩ (fun H locs hP hS => ?_)
          exact rMI hx hb hr hlk hK hP hS dX4_put_79 (by rw [fX4_put, if_pos c1, if_pos c2, if_neg c3, if_pos c4])
      · refine lv_iload_n hx hb dX4_put_52 rfl (lv_at hl 3 rfl) ?_
        refine lv_i2b hx hb dX4_put_53 rfl ?_
        refine lv_goto (tgt := 73) hx hb dX4_put_54 (by decide) ?_
        refine zs_M (by decide) (by decide) rfl hx hb hK hP hI hS (by assumption) dX4_put_73 (fun H locs hP hS => ?_)
        refine lv_aload_n hx hb dX4_put_74 rfl (lv_at hl 0 rfl) ?_
        refine lv_iconst (v := 1) hx hb dX4_put_75 (by decide) ?_
        refine kWM (n := 1) (As := [.int 1]) (rest := []) ⟨hx, hb, hml, hown, hts⟩ (kX4_refused l D cz bd hI (mset v 14 ((60 * p0) + p1).toNatClampNeg (p2).toInt8.toInt32) 1) gX4_put_X4_refused rfl rfl rfl (by decide +kernel) ⟨Nat.le_of_ble_eq_true rfl, Nat.le_of_ble_eq_true rfl⟩ (recvM hP hK) hP hK hS rfl hl.1 rfl (Nat.le_of_ble_eq_true rfl) dX4_put_76 ⟨Nat.le_refl _, Nat.le_refl _⟩ (fun H locs hP hS => ?_)
        exact rMI hx hb hr hlk hK hP hS dX4_put_79 (by rw [fX4_put, if_pos c1, if_pos c2, if_pos c3])
    · refine lv_aload_n hx hb dX4_put_22 rfl (lv_at hl 0 rfl) ?_
      refine lv_aload_n hx hb dX4_put_23 rfl (lv_at hl 0 rfl) ?_
      refine lv_iload_n hx hb dX4_put_24 rfl (lv_at hl 1 rfl) ?_
      refine lv_iload_n hx hb dX4_put_25 rfl (lv_at hl 2 rfl) ?_
      refine kV (n := 2) (As := [.int p0, .int p1]) (rest := [.ref (bd 0)]) ⟨hx, hb, hml, hown, hts⟩ (kX4_noCell l D cz bd v p0 p1 (by assumption)) gX4_put_X4_noCell rfl rfl rfl (by decide +kernel) ⟨Nat.le_of_ble_eq_true rfl, Nat.le_of_ble_eq_true rfl⟩ (recvM hP hK) (MB_of hP hK) MB_bl rfl hl.1 rfl (Nat.le_of_ble_eq_true rfl) dX4_put_26 ⟨Nat.le_refl _, Nat.le_refl _⟩ ?_
      refine kWM (n := 1) (As := [.int (fX4_noCell v p0 p1)]) (rest := []) ⟨hx, hb, hml, hown, hts⟩ (kX4_failed l D cz bd hI v (fX4_noCell v p0 p1)) gX4_put_X4_failed rfl rfl rfl (by decide +kernel) ⟨Nat.le_of_ble_eq_true rfl, Nat.le_of_ble_eq_true rfl⟩ (recvM hP hK) hP hK hS rfl hl.1 rfl (Nat.le_of_ble_eq_true rfl) dX4_put_29 ⟨Nat.le_refl _, Nat.le_refl _⟩ (fun H locs hP hS => ?_)
      exact rMI hx hb hr hlk hK hP hS dX4_put_32 (by rw [fX4_put, if_pos c1, if_neg c2])
  · refine lv_aload_n hx hb dX4_put_7 rfl (lv_at hl 0 rfl) ?_
    refine lv_iconst (v := (-1)) hx hb dX4_put_8 (by decide) ?_
    refine kWM (n := 1) (As := [.int (-1)]) (rest := []) ⟨hx, hb, hml, hown, hts⟩ (kX4_refused l D cz bd hI v (-1)) gX4_put_X4_refused rfl rfl rfl (by decide +kernel) ⟨Nat.le_of_ble_eq_true rfl, Nat.le_of_ble_eq_true rfl⟩ (recvM hP hK) hP hK hS rfl hl.1 rfl (Nat.le_of_ble_eq_true rfl) dX4_put_9 ⟨Nat.le_refl _, Nat.le_refl _⟩ (fun H locs hP hS => ?_)
    exact rMI hx hb hr hlk hK hP hS dX4_put_12 (by rw [fX4_put, if_neg c1])
def fX4_cell (v : Mem) (p0 : Int32) (p1 : Int32) (p2 : Int32) : Int64 × Mem :=
  (if (fX4_noSheet p0) = 0 then (if (fX4_in ((p2).toInt64) 0 2) = 0 then (fX4_lost, (mset v 0 0 0)) else (if ((mset v 0 0 0) 12 p0.toNatClampNeg) < 0 then (if (fX4_noCell (mset v 0 0 0) p0 p1) ≤ 0 then ((((mset v 0 0 0) 14 ((60 * p0) + p1).toNatClampNeg)).toInt64, (mset v 0 0 0)) else ((fX4_failedLong (mset v 0 0 0) (fX4_noCell (mset v 0 0 0) p0 p1)).1, (fX4_failedLong (mset v 0 0 0) (fX4_noCell (mset v 0 0 0) p0 p1)).2)) else (if ((mset v 0 0 0) 13 p0.toNatClampNeg) = p2 then (if (fX4_noCell (mset v 0 0 0) p0 p1) ≤ 0 then ((((mset v 0 0 0) 14 ((60 * p0) + p1).toNatClampNeg)).toInt64, (mset v 0 0 0)) else ((fX4_failedLong (mset v 0 0 0) (fX4_noCell (mset v 0 0 0) p0 p1)).1, (fX4_failedLong (mset v 0 0 0) (fX4_noCell (mset v 0 0 0) p0 p1)).2)) else ((fX4_failedLong (mset v 0 0 0) 2).1, (fX4_failedLong (mset v 0 0 0) 2).2)))) else (fX4_lost, (mset v 0 0 0)))
set_option maxRecDepth 100000 in
set_option maxHeartbeats 4000000 in
theorem kX4_cell (l : Launch) (D : va_G) (cz : ClassId) (bd : Nat → Nat) (hI : MI bd) (v : Mem) (p0 : Int32) (p1 : Int32) (p2 : Int32) (hsz : SzOkM v) : Met l yX4_cell wsX4_cell ({ frames := 2, cells := 0, slots := 0, locals := 47 } : Room) (va_Pc [.ref (bd 0), .int p0, .int p1, .int p2] (MB D cz bd v)) (qW (MB D cz bd (fX4_cell v p0 p1 p2).2) (AM bd) (some (.long (fX4_cell v p0 p1 p2).1))) 0 0 (AM bd) := by
  refine m_start (cc := cX4_cell) (maxL := 4) (ret := (some .long)) (by decide) rfl (Nat.le_of_ble_eq_true rfl) (fun p e s m below meth c hx hb hr hts hown hml hlk _ hB ls hl => ?_)
  obtain ⟨hP, hK⟩ := hB
  have hown : s.vm.findClass RX4 = some m.cls := hown
  have hl : lv_has ls 4 [(0, .ref (bd 0)), (1, .int p0), (2, .int p1), (3, .int p2)] := hl
  have hin_X4 : ∀ w ∈ wsX40, w ∈ wsX4_cell := fun _ h => List.mem_cons_of_mem _ (List.mem_append_right _ (h))
  obtain ⟨H, hH⟩ : ∃ H, H = s.heap := ⟨_, rfl⟩
  obtain ⟨locs, hlo⟩ : ∃ z : List Loc, z = [] := ⟨_, rfl⟩
  have hS : va_S (AM bd) s.heap H locs := by rw [hH, hlo]; exact va_S.rf
  have hP : va_P D vwCl (wM cz bd v) H := by rw [hH]; exact hP
  suffices hgoal : W p l e ({ frames := 2, cells := 0, slots := 0, locals := 47 } : Room) s m ([.ref (bd 0), .int p0, .int p1, .int p2] : List Value).toArray below meth c H locs 0 0 (MQ below (qW (MB D cz bd (fX4_cell v p0 p1 p2).2) (AM bd) (some (.long (fX4_cell v p0 p1 p2).1))) ([.ref (bd 0), .int p0, .int p1, .int p2] : List Value).toArray s 0 0 (AM bd)) (F0 m 0 ls []) by rw [hH, hlo] at hgoal; exact hgoal
  clear hH hlo
  refine lv_aload_n hx hb dX4_cell_0 rfl (lv_at hl 0 rfl) ?_
  refine lv_iconst (v := 0) hx hb dX4_cell_1 (by decide) ?_
  refine zp_X4_fault hx hb hts hin_X4 hown hK hP hI hS (hts (Cond.fieldLink RX4 57 "ProphetCoverModel" "fault" "I") (List.mem_of_getElem? (i := 1) rfl)) dX4_cell_2 (fun H locs hP hS => ?_)
  refine lv_iload_n hx hb dX4_cell_5 rfl (lv_at hl 1 rfl) ?_
  refine kS (n := 1) (As := [.int p0]) (rest := []) ⟨hx, hb, hml, hown, hts⟩ (kX4_noSheet l p0) gX4_cell_X4_noSheet rfl rfl rfl (by decide +kernel) ⟨Nat.le_of_ble_eq_true rfl, Nat.le_of_ble_eq_true rfl⟩ (fun _ _ _ => trivial) (fun _ _ _ _ _ => trivial) rfl hl.1 rfl (Nat.le_of_ble_eq_true rfl) dX4_cell_6 ⟨Nat.le_refl _, Nat.le_refl _⟩ ?_
  refine lv_if_ne (tgt := 24) hx hb dX4_cell_9 (by decide) (fun c1 => ?_) (fun c1 => ?_)
  · refine kS (n := 0) (As := []) (rest := []) ⟨hx, hb, hml, hown, hts⟩ (kX4_lost l) gX4_cell_X4_lost rfl rfl rfl (by decide +kernel) ⟨Nat.le_of_ble_eq_true rfl, Nat.le_of_ble_eq_true rfl⟩ (fun _ _ _ => trivial) (fun _ _ _ _ _ => trivial) rfl hl.1 rfl (Nat.le_of_ble_eq_true rfl) dX4_cell_24 ⟨Nat.le_refl _, Nat.le_refl _⟩ ?_
    exact rML hx hb hr hlk hK hP hS dX4_cell_27 (by rw [fX4_cell, if_neg c1])
  · have hv1 : vp_in p0 4 := noSheet_in c1
    refine lv_iload_n hx hb dX4_cell_12 rfl (lv_at hl 3 rfl) ?_
    refine lv_i2l hx hb dX4_cell_13 rfl ?_
    refine lv_lconst (v := 0) hx hb dX4_cell_14 (by decide) ?_
    refine lv_ldc2 hx hb hown (hts (Cond.constantLong RX4 118 (2)) (List.mem_of_getElem? (i := 2) rfl)) dX4_cell_15 ?_
    refine kS (n := 3) (As := [.long (p2).toInt64, .long 0, .long 2]) (rest := []) ⟨hx, hb, hml, hown, hts⟩ (kX4_in l ((p2).toInt64) 0 2) gX4_cell_X4_in rfl rfl rfl (by decide +kernel) ⟨Nat.le_of_ble_eq_true rfl, Nat.le_of_ble_eq_true rfl⟩ (fun _ _ _ => trivial) (fun _ _ _ _ _ => trivial) rfl hl.1 rfl (Nat.le_of_ble_eq_true rfl) dX4_cell_18 ⟨Nat.le_refl _, Nat.le_refl _⟩ ?_
    refine lv_if_ne (tgt := 28) hx hb dX4_cell_21 (by decide) (fun c2 => ?_) (fun c2 => ?_)
    · refine lv_aload_n hx hb dX4_cell_28 rfl (lv_at hl 0 rfl) ?_
      refine zg_X4_sheetSize hx hb hts hin_X4 hown hK hP (hts (Cond.fieldLink RX4 43 "ProphetCoverModel" "sheetSize" "[I") (List.mem_of_getElem? (i := 3) rfl)) dX4_cell_29 ?_
      refine lv_iload_n hx hb dX4_cell_32 rfl (lv_at hl 1 rfl) ?_
      refine zl_M (by decide) (by decide) rfl hx hb hK hP (by assumption) dX4_cell_33 ?_
      refine lv_if_lt (tgt := 53) hx hb dX4_cell_34 (by decide) (fun c3 => ?_) (fun c3 => ?_)
      · refine lv_aload_n hx hb dX4_cell_53 rfl (lv_at hl 0 rfl) ?_
        refine lv_iload_n hx hb dX4_cell_54 rfl (lv_at hl 1 rfl) ?_
        refine lv_iload_n hx hb dX4_cell_55 rfl (lv_at hl 2 rfl) ?_
        refine kV (n := 2) (As := [.int p0, .int p1]) (rest := []) ⟨hx, hb, hml, hown, hts⟩ (kX4_noCell l D cz bd (mset v 0 0 0) p0 p1 (by assumption)) gX4_cell_X4_noCell rfl rfl rfl (by decide +kernel) ⟨Nat.le_of_ble_eq_true rfl, Nat.le_of_ble_eq_true rfl⟩ (recvM hP hK) (MB_of hP hK) MB_bl rfl hl.1 rfl (Nat.le_of_ble_eq_true rfl) dX4_cell_56 ⟨Nat.le_refl _, Nat.le_refl _⟩ ?_
        refine lv_if_le (tgt := 75) hx hb dX4_cell_59 (by decide) (fun c4 => ?_) (fun c4 => ?_)
        · have hvc : vp_in (60 * p0 + p1) 240 := nc_in (v := (mset v 0 0 0)) hsz (by assumption) c4
          refine lv_aload_n hx hb dX4_cell_75 rfl (lv_at hl 0 rfl) ?_
          refine zg_X4_sheet hx hb hts hin_X4 hown hK hP (hts (Cond.fieldLink RX4 49 "ProphetCoverModel" "sheet" "[I") (List.mem_of_getElem? (i := 5) rfl)) dX4_cell_76 ?_
          refine lv_bipush (v := 60) hx hb dX4_cell_79 (by decide) ?_
          refine lv_iload_n hx hb dX4_cell_81 rfl (lv_at hl 1 rfl) ?_
          refine lv_imul hx hb dX4_cell_82 ?_
          refine lv_iload_n hx hb dX4_cell_83 rfl (lv_at hl 2 rfl) ?_
          refine lv_iadd hx hb dX4_cell_84 ?_
          refine zl_M (by decide) (by decide) rfl hx hb hK hP (by assumption) dX4_cell_85 ?_
          refine lv_i2l hx hb dX4_cell_86 rfl ?_
          exact rML hx hb hr hlk hK hP hS dX4_cell_87 (by rw [fX4_cell, if_pos c1, if_neg c2, if_pos c3, if_pos c4])
        · refine lv_aload_n hx hb dX4_cell_62 rfl (lv_at hl 0 rfl) ?_
          refine lv_aload_n hx hb dX4_cell_63 rfl (lv_at hl 0 rfl) ?_
          refine lv_iload_n hx hb dX4_cell_64 rfl (lv_at hl 1 rfl) ?_
          refine lv_iload_n hx hb dX4_cell_65 rfl (lv_at hl 2 rfl) ?_
          refine kV (n := 2) (As := [.int p0, .int p1]) (rest := [.ref (bd 0)]) ⟨hx, hb, hml, hown, hts⟩ (kX4_noCell l D cz bd (mset v 0 0 0) p0 p1 (by assumption)) gX4_cell_X4_noCell rfl rfl rfl (by decide +kernel) ⟨Nat.le_of_ble_eq_true rfl, Nat.le_of_ble_eq_true rfl⟩ (recvM hP hK) (MB_of hP hK) MB_bl rfl hl.1 rfl (Nat.le_of_ble_eq_true rfl) dX4_cell_66 ⟨Nat.le_refl _, Nat.le_refl _⟩ ?_
          refine kWM (n := 1) (As := [.int (fX4_noCell (mset v 0 0 0) p0 p1)]) (rest := []) ⟨hx, hb, hml, hown, hts⟩ (kX4_failedLong l D cz bd hI (mset v 0 0 0) (fX4_noCell (mset v 0 0 0) p0 p1)) gX4_cell_X4_failedLong rfl rfl rfl (by decide +kernel) ⟨Nat.le_of_ble_eq_true rfl, Nat.le_of_ble_eq_true rfl⟩ (recvM hP hK) hP hK hS rfl hl.1 rfl (Nat.le_of_ble_eq_true rfl) dX4_cell_69 ⟨Nat.le_refl _, Nat.le_refl _⟩ (fun H locs hP hS => ?_)
          refine lv_goto (tgt := 87) hx hb dX4_cell_72 (by decide) ?_
          exact rML hx hb hr hlk hK hP hS dX4_cell_87 (by rw [fX4_cell, if_pos c1, if_neg c2, if_pos c3, if_neg c4])
      · refine lv_aload_n hx hb dX4_cell_37 rfl (lv_at hl 0 rfl) ?_
        refine zg_X4_sheetLane hx hb hts hin_X4 hown hK hP (hts (Cond.fieldLink RX4 46 "ProphetCoverModel" "sheetLane" "[I") (List.mem_of_getElem? (i := 4) rfl)) dX4_cell_38 ?_
        refine lv_iload_n hx hb dX4_cell_41 rfl (lv_at hl 1 rfl) ?_
        refine zl_M (by decide) (by decide) rfl hx hb hK hP (by assumption) dX4_cell_42 ?_
        refine lv_iload_n hx hb dX4_cell_43 rfl (lv_at hl 3 rfl) ?_
        refine lv_icmp_eq (tgt := 53) hx hb dX4_cell_44 (by decide) (fun c5 => ?_) (fun c5 => ?_)
        · refine lv_aload_n hx hb dX4_cell_53 rfl (lv_at hl 0 rfl) ?_
          refine lv_iload_n hx hb dX4_cell_54 rfl (lv_at hl 1 rfl) ?_
          refine lv_iload_n hx hb dX4_cell_55 rfl (lv_at hl 2 rfl) ?_
          refine kV (n := 2) (As := [.int p0, .int p1]) (rest := []) ⟨hx, hb, hml, hown, hts⟩ (kX4_noCell l D cz bd (mset v 0 0 0) p0 p1 (by assumption)) gX4_cell_X4_noCell rfl rfl rfl (by decide +kernel) ⟨Nat.le_of_ble_eq_true rfl, Nat.le_of_ble_eq_true rfl⟩ (recvM hP hK) (MB_of hP hK) MB_bl rfl hl.1 rfl (Nat.le_of_ble_eq_true rfl) dX4_cell_56 ⟨Nat.le_refl _, Nat.le_refl _⟩ ?_
          refine lv_if_le (tgt := 75) hx hb dX4_cell_59 (by decide) (fun c6 => ?_) (fun c6 => ?_)
          · have hvc : vp_in (60 * p0 + p1) 240 := nc_in (v := (mset v 0 0 0)) hsz (by assumption) c6
            refine lv_aload_n hx hb dX4_cell_75 rfl (lv_at hl 0 rfl) ?_
            refine zg_X4_sheet hx hb hts hin_X4 hown hK hP (hts (Cond.fieldLink RX4 49 "ProphetCoverModel" "sheet" "[I") (List.mem_of_getElem? (i := 5) rfl)) dX4_cell_76 ?_
            refine lv_bipush (v := 60) hx hb dX4_cell_79 (by decide) ?_
            refine lv_iload_n hx hb dX4_cell_81 rfl (lv_at hl 1 rfl) ?_
            refine lv_imul hx hb dX4_cell_82 ?_
            refine lv_iload_n hx hb dX4_cell_83 rfl (lv_at hl 2 rfl) ?_
            refine lv_iadd hx hb dX4_cell_84 ?_
            refine zl_M (by decide) (by decide) rfl hx hb hK hP (by assumption) dX4_cell_85 ?_
            refine lv_i2l hx hb dX4_cell_86 rfl ?_
            exact rML hx hb hr hlk hK hP hS dX4_cell_87 (by rw [fX4_cell, if_pos c1, if_neg c2, if_neg c3, if_pos c5, if_pos c6])
          · refine lv_aload_n hx hb dX4_cell_62 rfl (lv_at hl 0 rfl) ?_
            refine lv_aload_n hx hb dX4_cell_63 rfl (lv_at hl 0 rfl) ?_
            refine lv_iload_n hx hb dX4_cell_64 rfl (lv_at hl 1 rfl) ?_
            refine lv_iload_n hx hb dX4_cell_65 rfl (lv_at hl 2 rfl) ?_
            refine kV (n := 2) (As := [.int p0, .int p1]) (rest := [.ref (bd 0)]) ⟨hx, hb, hml, hown, hts⟩ (kX4_noCell l D cz bd (mset v 0 0 0) p0 p1 (by assumption)) gX4_cell_X4_noCell rfl rfl rfl (by decide +kernel) ⟨Nat.le_of_ble_eq_true rfl, Nat.le_of_ble_eq_true rfl⟩ (recvM hP hK) (MB_of hP hK) MB_bl rfl hl.1 rfl (Nat.le_of_ble_eq_true rfl) dX4_cell_66 ⟨Nat.le_refl _, Nat.le_refl _⟩ ?_
            refine kWM (n := 1) (As := [.int (fX4_noCell (mset v 0 0 0) p0 p1)]) (rest := []) ⟨hx, hb, hml, hown, hts⟩ (kX4_failedLong l D cz bd hI (mset v 0 0 0) (fX4_noCell (mset v 0 0 0) p0 p1)) gX4_cell_X4_failedLong rfl rfl rfl (by decide +kernel) ⟨Nat.le_of_ble_eq_true rfl, Nat.le_of_ble_eq_true rfl⟩ (recvM hP hK) hP hK hS rfl hl.1 rfl (Nat.le_of_ble_eq_true rfl) dX4_cell_69 ⟨Nat.le_refl _, Nat.le_refl _⟩ (fun H locs hP hS => ?_)
            refine lv_goto (tgt := 87) hx hb dX4_cell_72 (by decide) ?_
            exact rML hx hb hr hlk hK hP hS dX4_cell_87 (by rw [fX4_cell, if_pos c1, if_neg c2, if_neg c3, if_pos c5, if_neg c6])
        · refine lv_aload_n hx hb dX4_cell_47 rfl (lv_at hl 0 rfl) ?_
          refine lv_iconst (v := 2) hx hb dX4_cell_48 (by decide) ?_
          refine kWM (n := 1) (As := [.int 2]) (rest := []) ⟨hx, hb, hml, hown, hts⟩ (kX4_failedLong l D cz bd hI (mset v 0 0 0) 2) gX4_cell_X4_failedLong rfl rfl rfl (by decide +kernel) ⟨Nat.le_of_ble_eq_true rfl, Nat.le_of_ble_eq_true rfl⟩ (recvM hP hK) hP hK hS rfl hl.1 rfl (Nat.le_of_ble_eq_true rfl) dX4_cell_49 ⟨Nat.le_refl _, Nat.le_refl _⟩ (fun H locs hP hS => ?_)
          exact rML hx hb hr hlk hK hP hS dX4_cell_52 (by rw [fX4_cell, if_pos c1, if_neg c2, if_neg c3, if_neg c5])
    · refine kS (n := 0) (As := []) (rest := []) ⟨hx, hb, hml, hown, hts⟩ (kX4_lost l) gX4_cell_X4_lost rfl rfl rfl (by decide +kernel) ⟨Nat.le_of_ble_eq_true rfl, Nat.le_of_ble_eq_true rfl⟩ (fun _ _ _ => trivial) (fun _ _ _ _ _ => trivial) rfl hl.1 rfl (Nat.le_of_ble_eq_true rfl) dX4_cell_24 ⟨Nat.le_refl _, Nat.le_refl _⟩ ?_
      exact rML hx hb hr hlk hK hP hS dX4_cell_27 (by rw [fX4_cell, if_pos c1, if_pos c2])
def fX4_copy_c144 (v : Mem) (p0 : Int32) (p1 : Int32) (p2 : Int32) (p3 : Int32) (p4 : Int32)  : Nat → Mem → Int32 → Int32 × Mem
  | 0, w144, x6 => (0, w144)
  | n144 + 1, w144, x6 => (if p4 ≤ x6 then ((fX4_refused w144 p4).1, (fX4_refused w144 p4).2) else (fX4_copy_c144 v p0 p1 p2 p3 p4 n144 (mset w144 14 (((60 * p2) + p3) + x6).toNatClampNeg (w144 15 x6.toNatClampNeg)) (x6 + 1)))
def fX4_copy_c107 (v : Mem) (p0 : Int32) (p1 : Int32) (p2 : Int32) (p3 : Int32) (p4 : Int32)  : Nat → Mem → Int32 → Int32 × Mem
  | 0, w107, x6 => (0, w107)
  | n107 + 1, w107, x6 => (if p4 ≤ x6 then (fX4_copy_c144 v p0 p1 p2 p3 p4 (61) w107 0) else (fX4_copy_c107 v p0 p1 p2 p3 p4 n107 (mset w107 15 x6.toNatClampNeg (w107 14 (((60 * p0) + p1) + x6).toNatClampNeg)) (x6 + 1)))
def fX4_copy (v : Mem) (p0 : Int32) (p1 : Int32) (p2 : Int32) (p3 : Int32) (p4 : Int32) : Int32 × Mem :=
  (if (fX4_noSheet p0) = 0 then (if (fX4_noSheet p2) = 0 then (if (v 12 p0.toNatClampNeg) < 0 then ((fX4_failed v 1).1, (fX4_failed v 1).2) else (if 0 ≤ (v 12 p2.toNatClampNeg) then (if (v 13 p0.toNatClampNeg) = (v 13 p2.toNatClampNeg) then (if (fX4_isBeyond p1 ((p4).toInt64) (v 12 p0.toNatClampNeg)) = 0 then (if (fX4_isBeyond p3 ((p4).toInt64) (v 12 p2.toNatClampNeg)) = 0 then (fX4_copy_c107 v p0 p1 p2 p3 p4 (61) v 0) else ((fX4_failed v 3).1, (fX4_failed v 3).2)) else ((fX4_failed v 3).1, (fX4_failed v 3).2)) else ((fX4_failed v 2).1, (fX4_failed v 2).2)) else ((fX4_failed v 1).1, (fX4_failed v 1).2))) else ((fX4_refused v (-1)).1, (fX4_refused v (-1)).2)) else ((fX4_refused v (-1)).1, (fX4_refused v (-1)).2))
set_option maxRecDepth 100000 in
set_option maxHeartbeats 4000000 in
theorem kX4_copy (l : Launch) (D : va_G) (cz : ClassId) (bd : Nat → Nat) (hI : MI bd) (v : Mem) (p0 : Int32) (p1 : Int32) (p2 : Int32) (p3 : Int32) (p4 : Int32) (hsz : SzOkM v) : Met l yX4_copy wsX4_copy ({ frames := 2, cells := 0, slots := 0, locals := 45 } : Room) (va_Pc [.ref (bd 0), .int p0, .int p1, .int p2, .int p3, .int p4] (MB D cz bd v)) (qW (MB D cz bd (fX4_copy v p0 p1 p2 p3 p4).2) (AM bd) (some (.int (fX4_copy v p0 p1 p2 p3 p4).1))) 0 0 (AM bd) := by
  refine m_start (cc := cX4_copy) (maxL := 7) (ret := (some .int)) (by decide) rfl (Nat.le_of_ble_eq_true rfl) (fun p e s m below meth c hx hb hr hts hown hml hlk _ hB ls hl => ?_)
  obtain ⟨hP, hK⟩ := hB
  have hown : s.vm.findClass RX4 = some m.cls := hown
  have hl : lv_has ls 7 [(0, .ref (bd 0)), (1, .int p0), (2, .int p1), (3, .int p2), (4, .int p3), (5, .int p4)] := hl
  have hin_X4 : ∀ w ∈ wsX40, w ∈ wsX4_copy := fun _ h => List.mem_cons_of_mem _ (List.mem_append_right _ (h))
  obtain ⟨H, hH⟩ : ∃ H, H = s.heap := ⟨_, rfl⟩
  obtain ⟨locs, hlo⟩ : ∃ z : List Loc, z = [] := ⟨_, rfl⟩
  have hS : va_S (AM bd) s.heap H locs := by rw [hH, hlo]; exact va_S.rf
  have hP : va_P D vwCl (wM cz bd v) H := by rw [hH]; exact hP
  suffices hgoal : W p l e ({ frames := 2, cells := 0, slots := 0, locals := 45 } : Room) s m ([.ref (bd 0), .int p0, .int p1, .int p2, .int p3, .int p4] : List Value).toArray below meth c H locs 0 0 (MQ below (qW (MB D cz bd (fX4_copy v p0 p1 p2 p3 p4).2) (AM bd) (some (.int (fX4_copy v p0 p1 p2 p3 p4).1))) ([.ref (bd 0), .int p0, .int p1, .int p2, .int p3, .int p4] : List Value).toArray s 0 0 (AM bd)) (F0 m 0 ls []) by rw [hH, hlo] at hgoal; exact hgoal
  clear hH hlo
  refine lv_iload_n hx hb dX4_copy_0 rfl (lv_at hl 1 rfl) ?_
  refine kS (n := 1) (As := [.int p0]) (rest := []) ⟨hx, hb, hml, hown, hts⟩ (kX4_noSheet l p0) gX4_copy_X4_noSheet rfl rfl rfl (by decide +kernel) ⟨Nat.le_of_ble_eq_true rfl, Nat.le_of_ble_eq_true rfl⟩ (fun _ _ _ => trivial) (fun _ _ _ _ _ => trivial) rfl hl.1 rfl (Nat.le_of_ble_eq_true rfl) dX4_copy_1 ⟨Nat.le_refl _, Nat.le_refl _⟩ ?_
  refine lv_if_ne (tgt := 14) hx hb dX4_copy_4 (by decide) (fun c1 => ?_) (fun c1 => ?_)
  · refine lv_aload_n hx hb dX4_copy_14 rfl (lv_at hl 0 rfl) ?_
    refine lv_iconst (v := (-1)) hx hb dX4_copy_15 (by decide) ?_
    refine kWM (n := 1) (As := [.int (-1)]) (rest := []) ⟨hx, hb, hml, hown, hts⟩ (kX4_refused l D cz bd hI v (-1)) gX4_copy_X4_refused rfl rfl rfl (by decide +kernel) ⟨Nat.le_of_ble_eq_true rfl, Nat.le_of_ble_eq_true rfl⟩ (recvM hP hK) hP hK hS rfl hl.1 rfl (Nat.le_of_ble_eq_true rfl) dX4_copy_16 ⟨Nat.le_refl _, Nat.le_refl _⟩ (fun H locs hP hS => ?_)
    exact rMI hx hb hr hlk hK hP hS dX4_copy_19 (by rw [fX4_copy, if_neg c1])
  · have hv1 : vp_in p0 4 := noSheet_in c1
    refine lv_iload_n hx hb dX4_copy_7 rfl (lv_at hl 3 rfl) ?_
    refine kS (n := 1) (As := [.int p2]) (rest := []) ⟨hx, hb, hml, hown, hts⟩ (kX4_noSheet l p2) gX4_copy_X4_noSheet rfl rfl rfl (by decide +kernel) ⟨Nat.le_of_ble_eq_true rfl, Nat.le_of_ble_eq_true rfl⟩ (fun _ _ _ => trivial) (fun _ _ _ _ _ => trivial) rfl hl.1 rfl (Nat.le_of_ble_eq_true rfl) dX4_copy_8 ⟨Nat.le_refl _, Nat.le_refl _⟩ ?_
    refine lv_if_eq (tgt := 20) hx hb dX4_copy_11 (by decide) (fun c2 => ?_) (fun c2 => ?_)
    · have hv2 : vp_in p2 4 := noSheet_in c2
      refine lv_aload_n hx hb dX4_copy_20 rfl (lv_at hl 0 rfl) ?_
      refine zg_X4_sheetSize hx hb hts hin_X4 hown hK hP (hts (Cond.fieldLink RX4 43 "ProphetCoverModel" "sheetSize" "[I") (List.mem_of_getElem? (i := 1) rfl)) dX4_copy_21 ?_
      refine lv_iload_n hx hb dX4_copy_24 rfl (lv_at hl 1 rfl) ?_
      refine zl_M (by decide) (by decide) rfl hx hb hK hP (by assumption) dX4_copy_25 ?_
      refine lv_if_lt (tgt := 38) hx hb dX4_copy_26 (by decide) (fun c3 => ?_) (fun c3 => ?_)
      · refine lv_aload_n hx hb dX4_copy_38 rfl (lv_at hl 0 rfl) ?_
        refine lv_iconst (v := 1) hx hb dX4_copy_39 (by decide) ?_
        refine kWM (n := 1) (As := [.int 1]) (rest := []) ⟨hx, hb, hml, hown, hts⟩ (kX4_failed l D cz bd hI v 1) gX4_copy_X4_failed rfl rfl rfl (by decide +kernel) ⟨Nat.le_of_ble_eq_true rfl, Nat.le_of_ble_eq_true rfl⟩ (recvM hP hK) hP hK hS rfl hl.1 rfl (Nat.le_of_ble_eq_true rfl) dX4_copy_40 ⟨Nat.le_refl _, Nat.le_refl _⟩ (fun H locs hP hS => ?_)
        exact rMI hx hb hr hlk hK hP hS dX4_copy_43 (by rw [fX4_copy, if_pos c1, if_pos c2, if_pos c3])
      · refine lv_aload_n hx hb dX4_copy_29 rfl (lv_at hl 0 rfl) ?_
        refine zg_X4_sheetSize hx hb hts hin_X4 hown hK hP (hts (Cond.fieldLink RX4 43 "ProphetCoverModel" "sheetSize" "[I") (List.mem_of_getElem? (i := 1) rfl)) dX4_copy_30 ?_
        refine lv_iload_n hx hb dX4_copy_33 rfl (lv_at hl 3 rfl) ?_
        refine zl_M (by decide) (by decide) rfl hx hb hK hP (by assumption) dX4_copy_34 ?_
        refine lv_if_ge (tgt := 44) hx hb dX4_copy_35 (by decide) (fun c4 => ?_) (fun c4 => ?_)
        · refine lv_aload_n hx hb dX4_copy_44 rfl (lv_at hl 0 rfl) ?_
          refine zg_X4_sheetLane hx hb hts hin_X4 hown hK hP (hts (Cond.fieldLink RX4 46 "ProphetCoverModel" "sheetLane" "[I") (List.mem_of_getElem? (i := 2) rfl)) dX4_copy_45 ?_
          refine lv_iload_n hx hb dX4_copy_48 rfl (lv_at hl 1 rfl) ?_
          refine zl_M (by decide) (by decide) rfl hx hb hK hP (by assumption) dX4_copy_49 ?_
          refine lv_aload_n hx hb dX4_copy_50 rfl (lv_at hl 0 rfl) ?_
          refine zg_X4_sheetLane hx hb hts hin_X4 hown hK hP (hts (Cond.fieldLink RX4 46 "ProphetCoverModel" "sheetLane" "[I") (List.mem_of_getElem? (i := 2) rfl)) dX4_copy_51 ?_
          refine lv_iload_n hx hb dX4_copy_54 rfl (lv_at hl 3 rfl) ?_
          refine zl_M (by decide) (by decide) rfl hx hb hK hP (by assumption) dX4_copy_55 ?_
          refine lv_icmp_eq (tgt := 65) hx hb dX4_copy_56 (by decide) (fun c5 => ?_) (fun c5 => ?_)
          · refine lv_iload_n hx hb dX4_copy_65 rfl (lv_at hl 2 rfl) ?_
            refine lv_iload hx hb dX4_copy_66 (lv_at hl 5 rfl) ?_
            refine lv_i2l hx hb dX4_copy_68 rfl ?_
            refine lv_aload_n hx hb dX4_copy_69 rfl (lv_at hl 0 rfl) ?_
            refine zg_X4_sheetSize hx hb hts hin_X4 hown hK hP (hts (Cond.fieldLink RX4 43 "ProphetCoverModel" "sheetSize" "[I") (List.mem_of_getElem? (i := 1) rfl)) dX4_copy_70 ?_
            refine lv_iload_n hx hb dX4_copy_73 rfl (lv_at hl 1 rfl) ?_
            refine zl_M (by decide) (by decide) rfl hx hb hK hP (by assumption) dX4_copy_74 ?_
            refine kS (n := 3) (As := [.int p1, .long (p4).toInt64, .int (v 12 p0.toNatClampNeg)]) (rest := []) ⟨hx, hb, hml, hown, hts⟩ (kX4_isBeyond l p1 ((p4).toInt64) (v 12 p0.toNatClampNeg)) gX4_copy_X4_isBeyond rfl rfl rfl (by decide +kernel) ⟨Nat.le_of_ble_eq_true rfl, Nat.le_of_ble_eq_true rfl⟩ (fun _ _ _ => trivial) (fun _ _ _ _ _ => trivial) rfl hl.1 rfl (Nat.le_of_ble_eq_true rfl) dX4_copy_75 ⟨Nat.le_refl _, Nat.le_refl _⟩ ?_
            refine lv_if_ne (tgt := 98) hx hb dX4_copy_78 (by decide) (fun c6 => ?_) (fun c6 => ?_)
            · refine lv_aload_n hx hb dX4_copy_98 rfl (lv_at hl 0 rfl) ?_
              refine lv_iconst (v := 3) hx hb dX4_copy_99 (by decide) ?_
              refine kWM (n := 1) (As := [.int 3]) (rest := []) ⟨hx, hb, hml, hown, hts⟩ (kX4_failed l D cz bd hI v 3) gX4_copy_X4_failed rfl rfl rfl (by decide +kernel) ⟨Nat.le_of_ble_eq_true rfl, Nat.le_of_ble_eq_true rfl⟩ (recvM hP hK) hP hK hS rfl hl.1 rfl (Nat.le_of_ble_eq_true rfl) dX4_copy_100 ⟨Nat.le_refl _, Nat.le_refl _⟩ (fun H locs hP hS => ?_)
              exact rMI hx hb hr hlk hK hP hS dX4_copy_103 (by rw [fX4_copy, if_pos c1, if_pos c2, if_neg c3, if_pos c4, if_pos c5, if_neg c6])
            · refine lv_iload hx hb dX4_copy_81 (lv_at hl 4 rfl) ?_
              refine lv_iload hx hb dX4_copy_83 (lv_at hl 5 rfl) ?_
              refine lv_i2l hx hb dX4_copy_85 rfl ?_
              refine lv_aload_n hx hb dX4_copy_86 rfl (lv_at hl 0 rfl) ?_
              refine zg_X4_sheetSize hx hb hts hin_X4 hown hK hP (hts (Cond.fieldLink RX4 43 "ProphetCoverModel" "sheetSize" "[I") (List.mem_of_getElem? (i := 1) rfl)) dX4_copy_87 ?_
              refine lv_iload_n hx hb dX4_copy_90 rfl (lv_at hl 3 rfl) ?_
              refine zl_M (by decide) (by decide) rfl hx hb hK hP (by assumption) dX4_copy_91 ?_
              refine kS (n := 3) (As := [.int p3, .long (p4).toInt64, .int (v 12 p2.toNatClampNeg)]) (rest := []) ⟨hx, hb, hml, hown, hts⟩ (kX4_isBeyond l p3 ((p4).toInt64) (v 12 p2.toNatClampNeg)) gX4_copy_X4_isBeyond rfl rfl rfl (by decide +kernel) ⟨Nat.le_of_ble_eq_true rfl, Nat.le_of_ble_eq_true rfl⟩ (fun _ _ _ => trivial) (fun _ _ _ _ _ => trivial) rfl hl.1 rfl (Nat.le_of_ble_eq_true rfl) dX4_copy_92 ⟨Nat.le_refl _, Nat.le_refl _⟩ ?_
              refine lv_if_eq (tgt := 104) hx hb dX4_copy_95 (by decide) (fun c7 => ?_) (fun c7 => ?_)
              · obtain ⟨ii, nn, ei, enn, hin⟩ := ib_ok hsz (vlt (i := p0) (by assumption)) (by assumption)
                obtain ⟨jj, nn2, ej, enn2, hjn⟩ := ib_ok hsz (vlt (i := p2) (by assumption)) (by assumption)
                have hnn : nn2 = nn := (nI_eq (by omega) (by omega)).mp (enn2.symm.trans enn)
                refine lv_iconst (v := 0) hx hb dX4_copy_104 (by decide) ?_
                refine lv_istore (lv' := [(6, .int 0), (0, .ref (bd 0)), (1, .int p0), (2, .int p1), (3, .int p2), (4, .int p3), (5, .int p4)]) hx hb dX4_copy_105 hl (by decide) rfl (fun ls hl => ?_)
                have lp107 : ∀ (n107 : Nat) (w107 : Mem) (x6 : Int32) (k107 : Nat), (fX4_copy v p0 p1 p2 p3 p4) = (fX4_copy_c107 v p0 p1 p2 p3 p4 n107 w107 x6) → (x6 = nI k107) → (k107 ≤ nn) → (nn < k107 + n107) → ∀ (H : Heap) (locs : List Loc), va_P D vwCl (wM cz bd w107) H → va_S (AM bd) s.heap H locs → ∀ ls : Array Slot, lv_has ls 7 [(6, .int x6), (0, .ref (bd 0)), (1, .int p0), (2, .int p1), (3, .int p2), (4, .int p3), (5, .int p4)] → W p l e ({ frames := 2, cells := 0, slots := 0, locals := 45 } : Room) s m ([.ref (bd 0), .int p0, .int p1, .int p2, .int p3, .int p4] : List Value).toArray below meth c H locs 0 0 (MQ below (qW (MB D cz bd (fX4_copy v p0 p1 p2 p3 p4).2) (AM bd) (some (.int (fX4_copy v p0 p1 p2 p3 p4).1))) ([.ref (bd 0), .int p0, .int p1, .int p2, .int p3, .int p4] : List Value).toArray s 0 0 (AM bd)) (F0 m 107 ls []) := by
                  intro n107
                  induction n107 with
                  | zero =>
                    intro w107 x6 k107 _ e107 hk107 hm107 H locs hP hS ls hl
                    exfalso; omega
                  | succ n107 ih107 =>
                    intro w107 x6 k107 hr107 e107 hk107 hm107 H locs hP hS ls hl
                    refine lv_iload hx hb dX4_copy_107 (lv_at hl 0 rfl) ?_
                    refine lv_iload hx hb dX4_copy_109 (lv_at hl 6 rfl) ?_
                    refine lv_icmp_ge (tgt := 141) hx hb dX4_copy_111 (by decide) (fun c8 => ?_) (fun c8 => ?_)
                    · refine lv_iconst (v := 0) hx hb dX4_copy_141 (by decide) ?_
                      refine lv_istore (lv' := [(6, .int 0), (0, .ref (bd 0)), (1, .int p0), (2, .int p1), (3, .int p2), (4, .int p3), (5, .int p4)]) hx hb dX4_copy_142 hl (by decide) rfl (fun ls hl => ?_)
                      have lp144 : ∀ (n144 : Nat) (w144 : Mem) (x6 : Int32) (k144 : Nat), (fX4_copy v p0 p1 p2 p3 p4) = (fX4_copy_c144 v p0 p1 p2 p3 p4 n144 w144 x6) → (x6 = nI k144) → (k144 ≤ nn) → (nn < k144 + n144) → ∀ (H : Heap) (locs : List Loc), va_P D vwCl (wM cz bd w144) H → va_S (AM bd) s.heap H locs → ∀ ls : Array Slot, lv_has ls 7 [(6, .int x6), (0, .ref (bd 0)), (3, .int p2), (4, .int p3), (5, .int p4)] → W p l e ({ frames := 2, cells := 0, slots := 0, locals := 45 } : Room) s m ([.ref (bd 0), .int p0, .int p1, .int p2, .int p3, .int p4] : List Value).toArray below meth c H locs 0 0 (MQ below (qW (MB D cz bd (fX4_copy v p0 p1 p2 p3 p4).2) (AM bd) (some (.int (fX4_copy v p0 p1 p2 p3 p4).1))) ([.ref (bd 0), .int p0, .int p1, .int p2, .int p3, .int p4] : List Value).toArray s 0 0 (AM bd)) (F0 m 144 ls []) := by
                        intro n144
                        induction n144 with
                        | zero =>
                          intro w144 x6 k144 _ e144 hk144 hm144 H locs hP hS ls hl
                          exfalso; omega
                        | succ n144 ih144 =>
                          intro w144 x6 k144 hr144 e144 hk144 hm144 H locs hP hS ls hl
                          refine lv_iload hx hb dX4_copy_144 (lv_at hl 0 rfl) ?_
                          refine lv_iload hx hb dX4_copy_146 (lv_at hl 4 rfl) ?_
                          refine lv_icmp_ge (tgt := 179) hx hb dX4_copy_148 (by decide) (fun c9 => ?_) (fun c9 => ?_)
                          · refine lv_aload_n hx hb dX4_copy_179 rfl (lv_at hl 1 rfl) ?_
                            refine lv_iload hx hb dX4_copy_180 (lv_at hl 4 rfl) ?_
                            refine kWM (n := 1) (As := [.int p4]) (rest := []) ⟨hx, hb, hml, hown, hts⟩ (kX4_refused l D cz bd hI w144 p4) gX4_copy_X4_refused rfl rfl rfl (by decide +kernel) ⟨Nat.le_of_ble_eq_true rfl, Nat.le_of_ble_eq_true rfl⟩ (recvM hP hK) hP hK hS rfl hl.1 rfl (Nat.le_of_ble_eq_true rfl) dX4_copy_182 ⟨Nat.le_refl _, Nat.le_refl _⟩ (fun H locs hP hS => ?_)
                            exact rMI hx hb hr hlk hK hP hS dX4_copy_185 (by rw [hr144, fX4_copy_c144, if_pos c9])
                          · have hlt144 : k144 < nn := cnt_lt enn e144 (by omega) (by omega) c9
                            have hv144 : vp_in x6 60 := cnt_in e144 (by omega) (by decide)
                            have hv144b : vp_in ((60 * p2 + p3) + x6) 240 := ix240b (by assumption) ej e144 (by omega)
                            refine lv_aload_n hx hb dX4_copy_151 rfl (lv_at hl 1 rfl) ?_
                            refine zg_X4_sheet hx hb hts hin_X4 hown hK hP (hts (Cond.fieldLink RX4 49 "ProphetCoverModel" "sheet" "[I") (List.mem_of_getElem? (i := 4) rfl)) dX4_copy_152 ?_
                            refine lv_bipush (v := 60) hx hb dX4_copy_155 (by decide) ?_
                            refine lv_iload_n hx hb dX4_copy_157 rfl (lv_at hl 2 rfl) ?_
                            refine lv_imul hx hb dX4_copy_158 ?_
                            refine lv_iload hx hb dX4_copy_159 (lv_at hl 3 rfl) ?_
                            refine lv_iadd hx hb dX4_copy_161 ?_
                            refine lv_iload hx hb dX4_copy_162 (lv_at hl 0 rfl) ?_
                            refine lv_iadd hx hb dX4_copy_164 ?_
                            refine lv_aload_n hx hb dX4_copy_165 rfl (lv_at hl 1 rfl) ?_
                            refine zg_X4_hands hx hb hts hin_X4 hown hK hP (hts (Cond.fieldLink RX4 52 "ProphetCoverModel" "hands" "[I") (List.mem_of_getElem? (i := 3) rfl)) dX4_copy_166 ?_
                            refine lv_iload hx hb dX4_copy_169 (lv_at hl 0 rfl) ?_
                            refine zl_M (by decide) (by decide) rfl hx hb hK hP (by assumption) dX4_copy_171 ?_
                            refine zs_M (by decide) (by decide) rfl hx hb hK hP hI hS (by assumption) dX4_copy_172 (fun H locs hP hS => ?_)
                            refine lv_iinc (v := (x6 + 1)) (lv' := [(6, .int (x6 + 1)), (0, .ref (bd 0)), (3, .int p2), (4, .int p3), (5, .int p4)]) hx hb dX4_copy_173 hl (k := 0) rfl rfl (by decide) rfl (fun ls hl => ?_)
                            refine lv_goto (tgt := 144) hx hb dX4_copy_176 (by decide) ?_
                            exact ih144 (mset w144 14 (((60 * p2) + p3) + x6).toNatClampNeg (w144 15 x6.toNatClampNeg)) (x6 + 1) (k144 + 1) (by rw [hr144, fX4_copy_c144, if_neg c9]) (by rw [e144]; exact nI_1 _) hlt144 (by omega) H locs hP hS ls (lv_sub hl [0, 1, 2, 3, 4] rfl)
                      exact lp144 (61) w107 0 (0) (by rw [hr107, fX4_copy_c107, if_pos c8]) nI_0.symm (by omega) (by omega) H locs hP hS ls (lv_sub hl [0, 1, 4, 5, 6] rfl)
                    · have hlt107 : k107 < nn := cnt_lt enn e107 (by omega) (by omega) c8
                      have hv107 : vp_in x6 60 := cnt_in e107 (by omega) (by decide)
                      have hv107b : vp_in ((60 * p0 + p1) + x6) 240 := ix240b (by assumption) ei e107 (by omega)
                      refine lv_aload_n hx hb dX4_copy_114 rfl (lv_at hl 1 rfl) ?_
                      refine zg_X4_hands hx hb hts hin_X4 hown hK hP (hts (Cond.fieldLink RX4 52 "ProphetCoverModel" "hands" "[I") (List.mem_of_getElem? (i := 3) rfl)) dX4_copy_115 ?_
                      refine lv_iload hx hb dX4_copy_118 (lv_at hl 0 rfl) ?_
                      refine lv_aload_n hx hb dX4_copy_120 rfl (lv_at hl 1 rfl) ?_
                      refine zg_X4_sheet hx hb hts hin_X4 hown hK hP (hts (Cond.fieldLink RX4 49 "ProphetCoverModel" "sheet" "[I") (List.mem_of_getElem? (i := 4) rfl)) dX4_copy_121 ?_
                      refine lv_bipush (v := 60) hx hb dX4_copy_124 (by decide) ?_
                      refine lv_iload_n hx hb dX4_copy_126 rfl (lv_at hl 2 rfl) ?_
                      refine lv_imul hx hb dX4_copy_127 ?_
                      refine lv_iload_n hx hb dX4_copy_128 rfl (lv_at hl 3 rfl) ?_
                      refine lv_iadd hx hb dX4_copy_129 ?_
                      refine lv_iload hx hb dX4_copy_130 (lv_at hl 0 rfl) ?_
                      refine lv_iadd hx hb dX4_copy_132 ?_
                      refine zl_M (by decide) (by decide) rfl hx hb hK hP (by assumption) dX4_copy_133 ?_
                      refine zs_M (by decide) (by decide) rfl hx hb hK hP hI hS (by assumption) dX4_copy_134 (fun H locs hP hS => ?_)
                      refine lv_iinc (v := (x6 + 1)) (lv' := [(6, .int (x6 + 1)), (0, .ref (bd 0)), (1, .int p0), (2, .int p1), (3, .int p2), (4, .int p3), (5, .int p4)]) hx hb dX4_copy_135 hl (k := 0) rfl rfl (by decide) rfl (fun ls hl => ?_)
                      refine lv_goto (tgt := 107) hx hb dX4_copy_138 (by decide) ?_
                      exact ih107 (mset w107 15 x6.toNatClampNeg (w107 14 (((60 * p0) + p1) + x6).toNatClampNeg)) (x6 + 1) (k107 + 1) (by rw [hr107, fX4_copy_c107, if_neg c8]) (by rw [e107]; exact nI_1 _) hlt107 (by omega) H locs hP hS ls (lv_sub hl [0, 1, 2, 3, 4, 5, 6] rfl)
                exact lp107 (61) v 0 (0) (by rw [fX4_copy, if_pos c1, if_pos c2, if_neg c3, if_pos c4, if_pos c5, if_pos c6, if_pos c7]) nI_0.symm (by omega) (by omega) H locs hP hS ls (lv_sub hl [0, 1, 2, 3, 4, 5, 6] rfl)
              · refine lv_aload_n hx hb dX4_copy_98 rfl (lv_at hl 0 rfl) ?_
                refine lv_iconst (v := 3) hx hb dX4_copy_99 (by decide) ?_
                refine kWM (n := 1) (As := [.int 3]) (rest := []) ⟨hx, hb, hml, hown, hts⟩ (kX4_failed l D cz bd hI v 3) gX4_copy_X4_failed rfl rfl rfl (by decide +kernel) ⟨Nat.le_of_ble_eq_true rfl, Nat.le_of_ble_eq_true rfl⟩ (recvM hP hK) hP hK hS rfl hl.1 rfl (Nat.le_of_ble_eq_true rfl) dX4_copy_100 ⟨Nat.le_refl _, Nat.le_refl _⟩ (fun H locs hP hS => ?_)
                exact rMI hx hb hr hlk hK hP hS dX4_copy_103 (by rw [fX4_copy, if_pos c1, if_pos c2, if_neg c3, if_pos c4, if_pos c5, if_pos c6, if_neg c7])
          · refine lv_aload_n hx hb dX4_copy_59 rfl (lv_at hl 0 rfl) ?_
            refine lv_iconst (v := 2) hx hb dX4_copy_60 (by decide) ?_
            refine kWM (n := 1) (As := [.int 2]) (rest := []) ⟨hx, hb, hml, hown, hts⟩ (kX4_failed l D cz bd hI v 2) gX4_copy_X4_failed rfl rfl rfl (by decide +kernel) ⟨Nat.le_of_ble_eq_true rfl, Nat.le_of_ble_eq_true rfl⟩ (recvM hP hK) hP hK hS rfl hl.1 rfl (Nat.le_of_ble_eq_true rfl) dX4_copy_61 ⟨Nat.le_refl _, Nat.le_refl _⟩ (fun H locs hP hS => ?_)
            exact rMI hx hb hr hlk hK hP hS dX4_copy_64 (by rw [fX4_copy, if_pos c1, if_pos c2, if_neg c3, if_pos c4, if_neg c5])
        · refine lv_aload_n hx hb dX4_copy_38 rfl (lv_at hl 0 rfl) ?_
          refine lv_iconst (v := 1) hx hb dX4_copy_39 (by decide) ?_
          refine kWM (n := 1) (As := [.int 1]) (rest := []) ⟨hx, hb, hml, hown, hts⟩ (kX4_failed l D cz bd hI v 1) gX4_copy_X4_failed rfl rfl rfl (by decide +kernel) ⟨Nat.le_of_ble_eq_true rfl, Nat.le_of_ble_eq_true rfl⟩ (recvM hP hK) hP hK hS rfl hl.1 rfl (Nat.le_of_ble_eq_true rfl) dX4_copy_40 ⟨Nat.le_refl _, Nat.le_refl _⟩ (fun H locs hP hS => ?_)
          exact rMI hx hb hr hlk hK hP hS dX4_copy_43 (by rw [fX4_copy, if_pos c1, if_pos c2, if_neg c3, if_neg c4])
    · refine lv_aload_n hx hb dX4_copy_14 rfl (lv_at hl 0 rfl) ?_
      refine lv_iconst (v := (-1)) hx hb dX4_copy_15 (by decide) ?_
      refine kWM (n := 1) (As := [.int (-1)]) (rest := []) ⟨hx, hb, hml, hown, hts⟩ (kX4_refused l D cz bd hI v (-1)) gX4_copy_X4_refused rfl rfl rfl (by decide +kernel) ⟨Nat.le_of_ble_eq_true rfl, Nat.le_of_ble_eq_true rfl⟩ (recvM hP hK) hP hK hS rfl hl.1 rfl (Nat.le_of_ble_eq_true rfl) dX4_copy_16 ⟨Nat.le_refl _, Nat.le_refl _⟩ (fun H locs hP hS => ?_)
      exact rMI hx hb hr hlk hK hP hS dX4_copy_19 (by rw [fX4_copy, if_pos c1, if_neg c2])
def fX4_traced (v : Mem) (p0 : Int32) : Mem :=
  (mset v 0 26 ((31 * (v 0 26)) + p0))
set_option maxRecDepth 100000 in
set_option maxHeartbeats 4000000 in
theorem kX4_traced (l : Launch) (D : va_G) (cz : ClassId) (bd : Nat → Nat) (hI : MI bd) (v : Mem) (p0 : Int32)  : Met l yX4_traced wsX4_traced ({ frames := 0, cells := 0, slots := 0, locals := 0 } : Room) (va_Pc [.ref (bd 0), .int p0] (MB D cz bd v)) (qW (MB D cz bd (fX4_traced v p0)) (AM bd) none) 0 0 (AM bd) := by
  refine m_start (cc := cX4_traced) (maxL := 2) (ret := none) (by decide) rfl (Nat.le_of_ble_eq_true rfl) (fun p e s m below meth c hx hb hr hts hown hml hlk _ hB ls hl => ?_)
  obtain ⟨hP, hK⟩ := hB
  have hown : s.vm.findClass RX4 = some m.cls := hown
  have hl : lv_has ls 2 [(0, .ref (bd 0)), (1, .int p0)] := hl
  have hin_X4 : ∀ w ∈ wsX40, w ∈ wsX4_traced := fun _ h => List.mem_cons_of_mem _ (List.mem_append_right _ (h))
  obtain ⟨H, hH⟩ : ∃ H, H = s.heap := ⟨_, rfl⟩
  obtain ⟨locs, hlo⟩ : ∃ z : List Loc, z = [] := ⟨_, rfl⟩
  have hS : va_S (AM bd) s.heap H locs := by rw [hH, hlo]; exact va_S.rf
  have hP : va_P D vwCl (wM cz bd v) H := by rw [hH]; exact hP
  suffices hgoal : W p l e ({ frames := 0, cells := 0, slots := 0, locals := 0 } : Room) s m ([.ref (bd 0), .int p0] : List Value).toArray below meth c H locs 0 0 (MQ below (qW (MB D cz bd (fX4_traced v p0)) (AM bd) none) ([.ref (bd 0), .int p0] : List Value).toArray s 0 0 (AM bd)) (F0 m 0 ls []) by rw [hH, hlo] at hgoal; exact hgoal
  clear hH hlo
  refine lv_aload_n hx hb dX4_traced_0 rfl (lv_at hl 0 rfl) ?_
  refine lv_bipush (v := 31) hx hb dX4_traced_1 (by decide) ?_
  refine lv_aload_n hx hb dX4_traced_3 rfl (lv_at hl 0 rfl) ?_
  refine zg_X4_traceNow hx hb hts hin_X4 hown hK hP (hts (Cond.fieldLink RX4 217 "ProphetCoverModel" "traceNow" "I") (List.mem_of_getElem? (i := 1) rfl)) dX4_traced_4 ?_
  refine lv_imul hx hb dX4_traced_7 ?_
  refine lv_iload_n hx hb dX4_traced_8 rfl (lv_at hl 1 rfl) ?_
  refine lv_iadd hx hb dX4_traced_9 ?_
  refine zp_X4_traceNow hx hb hts hin_X4 hown hK hP hI hS (hts (Cond.fieldLink RX4 217 "ProphetCoverModel" "traceNow" "I") (List.mem_of_getElem? (i := 1) rfl)) dX4_traced_10 (fun H locs hP hS => ?_)
  exact rMV hx hb hr hlk hK hP hS dX4_traced_13 (by rw [fX4_traced])
def fX4_tell (v : Mem) (p0 : Int32) : Int32 × Mem :=
  (if (fX4_noProphet v p0) = 0 then (if (v 2 p0.toNatClampNeg) = 2 then (if (v 2 p0.toNatClampNeg) ≤ 0 then (if (v 2 p0.toNatClampNeg) = 2 then (if (v 2 p0.toNatClampNeg) = 0 then (((fX4_traced (fX4_traced (fX4_traced v 3) 1) 1) 3 p0.toNatClampNeg), (fX4_traced (fX4_traced (fX4_traced v 3) 1) 1)) else (if (v 2 p0.toNatClampNeg) = 1 then ((((fX4_traced (fX4_traced (fX4_traced v 3) 1) 1) 3 p0.toNatClampNeg) + 100), (fX4_traced (fX4_traced (fX4_traced v 3) 1) 1)) else (((2 * ((fX4_traced (fX4_traced (fX4_traced v 3) 1) 1) 3 p0.toNatClampNeg)) + 100), (fX4_traced (fX4_traced (fX4_traced v 3) 1) 1)))) else (if (v 2 p0.toNatClampNeg) = 0 then (((fX4_traced (fX4_traced v 3) 1) 3 p0.toNatClampNeg), (fX4_traced (fX4_traced v 3) 1)) else (if (v 2 p0.toNatClampNeg) = 1 then ((((fX4_traced (fX4_traced v 3) 1) 3 p0.toNatClampNeg) + 100), (fX4_traced (fX4_traced v 3) 1)) else (((2 * ((fX4_traced (fX4_traced v 3) 1) 3 p0.toNatClampNeg)) + 100), (fX4_traced (fX4_traced v 3) 1))))) else (if (v 2 p0.toNatClampNeg) = 2 then (if (v 2 p0.toNatClampNeg) = 0 then (((fX4_traced (fX4_traced (fX4_traced (fX4_traced v 3) 2) 1) 1) 3 p0.toNatClampNeg), (fX4_traced (fX4_traced (fX4_traced (fX4_traced v 3) 2) 1) 1)) else (if (v 2 p0.toNatClampNeg) = 1 then ((((fX4_traced (fX4_traced (fX4_traced (fX4_traced v 3) 2) 1) 1) 3 p0.toNatClampNeg) + 100), (fX4_traced (fX4_traced (fX4_traced (fX4_traced v 3) 2) 1) 1)) else (((2 * ((fX4_traced (fX4_traced (fX4_traced (fX4_traced v 3) 2) 1) 1) 3 p0.toNatClampNeg)) + 100), (fX4_traced (fX4_traced (fX4_traced (fX4_traced v 3) 2) 1) 1)))) else (if (v 2 p0.toNatClampNeg) = 0 then (((fX4_traced (fX4_traced (fX4_traced v 3) 2) 1) 3 p0.toNatClampNeg), (fX4_traced (fX4_traced (fX4_traced v 3) 2) 1)) else (if (v 2 p0.toNatClampNeg) = 1 then ((((fX4_traced (fX4_traced (fX4_traced v 3) 2) 1) 3 p0.toNatClampNeg) + 100), (fX4_traced (fX4_traced (fX4_traced v 3) 2) 1)) else (((2 * ((fX4_traced (fX4_traced (fX4_traced v 3) 2) 1) 3 p0.toNatClampNeg)) + 100), (fX4_traced (fX4_traced (fX4_traced v 3) 2) 1)))))) else (if (v 2 p0.toNatClampNeg) ≤ 0 then (if (v 2 p0.toNatClampNeg) = 2 then (if (v 2 p0.toNatClampNeg) = 0 then (((fX4_traced (fX4_traced v 1) 1) 3 p0.toNatClampNeg), (fX4_traced (fX4_traced v 1) 1)) else (if (v 2 p0.toNatClampNeg) = 1 then ((((fX4_traced (fX4_traced v 1) 1) 3 p0.toNatClampNeg) + 100), (fX4_traced (fX4_traced v 1) 1)) else (((2 * ((fX4_traced (fX4_traced v 1) 1) 3 p0.toNatClampNeg)) + 100), (fX4_traced (fX4_traced v 1) 1)))) else (if (v 2 p0.toNatClampNeg) = 0 then (((fX4_traced v 1) 3 p0.toNatClampNeg), (fX4_traced v 1)) else (if (v 2 p0.toNatClampNeg) = 1 then ((((fX4_traced v 1) 3 p0.toNatClampNeg) + 100), (fX4_traced v 1)) else (((2 * ((fX4_traced v 1) 3 p0.toNatClampNeg)) + 100), (fX4_traced v 1))))) else (if (v 2 p0.toNatClampNeg) = 2 then (if (v 2 p0.toNatClampNeg) = 0 then (((fX4_traced (fX4_traced (fX4_traced v 2) 1) 1) 3 p0.toNatClampNeg), (fX4_traced (fX4_traced (fX4_traced v 2) 1) 1)) else (if (v 2 p0.toNatClampNeg) = 1 then ((((fX4_traced (fX4_traced (fX4_traced v 2) 1) 1) 3 p0.toNatClampNeg) + 100), (fX4_traced (fX4_traced (fX4_traced v 2) 1) 1)) else (((2 * ((fX4_traced (fX4_traced (fX4_traced v 2) 1) 1) 3 p0.toNatClampNeg)) + 100), (fX4_traced (fX4_traced (fX4_traced v 2) 1) 1)))) else (if (v 2 p0.toNatClampNeg) = 0 then (((fX4_traced (fX4_traced v 2) 1) 3 p0.toNatClampNeg), (fX4_traced (fX4_traced v 2) 1)) else (if (v 2 p0.toNatClampNeg) = 1 then ((((fX4_traced (fX4_traced v 2) 1) 3 p0.toNatClampNeg) + 100), (fX4_traced (fX4_traced v 2) 1)) else (((2 * ((fX4_traced (fX4_traced v 2) 1) 3 p0.toNatClampNeg)) + 100), (fX4_traced (fX4_traced v 2) 1))))))) else ((-1), v))
set_option maxRecDepth 100000 in
set_option maxHeartbeats 4000000 in
theorem kX4_tell (l : Launch) (D : va_G) (cz : ClassId) (bd : Nat → Nat) (hI : MI bd) (v : Mem) (p0 : Int32) (hpc : PcOkM v) : Met l yX4_tell wsX4_tell ({ frames := 2, cells := 0, slots := 0, locals := 46 } : Room) (va_Pc [.ref (bd 0), .int p0] (MB D cz bd v)) (qW (MB D cz bd (fX4_tell v p0).2) (AM bd) (some (.int (fX4_tell v p0).1))) 0 0 (AM bd) := by
  refine m_start (cc := cX4_tell) (maxL := 4) (ret := (some .int)) (by decide) rfl (Nat.le_of_ble_eq_true rfl) (fun p e s m below meth c hx hb hr hts hown hml hlk _ hB ls hl => ?_)
  obtain ⟨hP, hK⟩ := hB
  have hown : s.vm.findClass RX4 = some m.cls := hown
  have hl : lv_has ls 4 [(0, .ref (bd 0)), (1, .int p0)] := hl
  have hin_X4 : ∀ w ∈ wsX40, w ∈ wsX4_tell := fun _ h => List.mem_cons_of_mem _ (List.mem_append_right _ (h))
  obtain ⟨H, hH⟩ : ∃ H, H = s.heap := ⟨_, rfl⟩
  obtain ⟨locs, hlo⟩ : ∃ z : List Loc, z = [] := ⟨_, rfl⟩
  have hS : va_S (AM bd) s.heap H locs := by rw [hH, hlo]; exact va_S.rf
  have hP : va_P D vwCl (wM cz bd v) H := by rw [hH]; exact hP
  suffices hgoal : W p l e ({ frames := 2, cells := 0, slots := 0, locals := 46 } : Room) s m ([.ref (bd 0), .int p0] : List Value).toArray below meth c H locs 0 0 (MQ below (qW (MB D cz bd (fX4_tell v p0).2) (AM bd) (some (.int (fX4_tell v p0).1))) ([.ref (bd 0), .int p0] : List Value).toArray s 0 0 (AM bd)) (F0 m 0 ls []) by rw [hH, hlo] at hgoal; exact hgoal
  clear hH hlo
  refine lv_aload_n hx hb dX4_tell_0 rfl (lv_at hl 0 rfl) ?_
  refine lv_iload_n hx hb dX4_tell_1 rfl (lv_at hl 1 rfl) ?_
  refine kV (n := 1) (As := [.int p0]) (rest := []) ⟨hx, hb, hml, hown, hts⟩ (kX4_noProphet l D cz bd v p0) gX4_tell_X4_noProphet rfl rfl rfl (by decide +kernel) ⟨Nat.le_of_ble_eq_true rfl, Nat.le_of_ble_eq_true rfl⟩ (recvM hP hK) (MB_of hP hK) MB_bl rfl hl.1 rfl (Nat.le_of_ble_eq_true rfl) dX4_tell_2 ⟨Nat.le_refl _, Nat.le_refl _⟩ ?_
  refine lv_if_eq (tgt := 10) hx hb dX4_tell_5 (by decide) (fun c1 => ?_) (fun c1 => ?_)
  · have hv1 : vp_in p0 4 := noProphet_in (by first | with_reducible assumption | exact hpc) c1
    refine lv_aload_n hx hb dX4_tell_10 rfl (lv_at hl 0 rfl) ?_
    refine zg_X4_kindOf hx hb hts hin_X4 hown hK hP (hts (Cond.fieldLink RX4 13 "ProphetCoverModel" "kindOf" "[I") (List.mem_of_getElem? (i := 1) rfl)) dX4_tell_11 ?_
    refine lv_iload_n hx hb dX4_tell_14 rfl (lv_at hl 1 rfl) ?_
    refine zl_M (by decide) (by decide) rfl hx hb hK hP (by assumption) dX4_tell_15 ?_
    refine lv_istore_n (lv' := [(2, .int (v 2 p0.toNatClampNeg)), (0, .ref (bd 0)), (1, .int p0)]) hx hb dX4_tell_16 rfl hl (by decide) rfl (fun ls hl => ?_)
    refine lv_iload_n hx hb dX4_tell_17 rfl (lv_at hl 0 rfl) ?_
    refine lv_iconst (v := 2) hx hb dX4_tell_18 (by decide) ?_
    refine lv_icmp_ne (tgt := 27) hx hb dX4_tell_19 (by decide) (fun c2 => ?_) (fun c2 => ?_)
    · refine lv_iload_n hx hb dX4_tell_27 rfl (lv_at hl 0 rfl) ?_
      refine lv_if_le (tgt := 36) hx hb dX4_tell_28 (by decide) (fun c3 => ?_) (fun c3 => ?_)
      · refine lv_aload_n hx hb dX4_tell_36 rfl (lv_at hl 1 rfl) ?_
        refine lv_iconst (v := 1) hx hb dX4_tell_37 (by decide) ?_
        refine kWMv (n := 1) (As := [.int 1]) (rest := []) ⟨hx, hb, hml, hown, hts⟩ (kX4_traced l D cz bd hI v 1) gX4_tell_X4_traced rfl rfl rfl (by decide +kernel) ⟨Nat.le_of_ble_eq_true rfl, Nat.le_of_ble_eq_true rfl⟩ (recvM hP hK) hP hK hS rfl hl.1 rfl (Nat.le_of_ble_eq_true rfl) dX4_tell_38 ⟨Nat.le_refl _, Nat.le_refl _⟩ (fun H locs hP hS => ?_)
        refine lv_iload_n hx hb dX4_tell_41 rfl (lv_at hl 0 rfl) ?_
        refine lv_iconst (v := 2) hx hb dX4_tell_42 (by decide) ?_
        refine lv_icmp_ne (tgt := 51) hx hb dX4_tell_43 (by decide) (fun c4 => ?_) (fun c4 => ?_)
        · refine lv_aload_n hx hb dX4_tell_51 rfl (lv_at hl 1 rfl) ?_
          refine zg_X4_coverOf hx hb hts hin_X4 hown hK hP (hts (Cond.fieldLink RX4 16 "ProphetCoverModel" "coverOf" "[I") (List.mem_of_getElem? (i := 2) rfl)) dX4_tell_52 ?_
          refine lv_iload_n hx hb dX4_tell_55 rfl (lv_at hl 2 rfl) ?_
          refine zl_M (by decide) (by decide) rfl hx hb hK hP (by assumption) dX4_tell_56 ?_
          refine lv_istore_n (lv' := [(3, .int ((fX4_traced v 1) 3 p0.toNatClampNeg)), (2, .int (v 2 p0.toNatClampNeg)), (0, .ref (bd 0)), (1, .int p0)]) hx hb dX4_tell_57 rfl hl (by decide) rfl (fun ls hl => ?_)
          refine lv_iload_n hx hb dX4_tell_58 rfl (lv_at hl 1 rfl) ?_
          refine lv_if_ne (tgt := 66) hx hb dX4_tell_59 (by decide) (fun c5 => ?_) (fun c5 => ?_)
          · refine lv_iload_n hx hb dX4_tell_66 rfl (lv_at hl 1 rfl) ?_
            refine lv_iconst (v := 1) hx hb dX4_tell_67 (by decide) ?_
            refine lv_icmp_ne (tgt := 78) hx hb dX4_tell_68 (by decide) (fun c6 => ?_) (fun c6 => ?_)
            · refine lv_iconst (v := 2) hx hb dX4_tell_78 (by decide) ?_
              refine lv_iload_n hx hb dX4_tell_79 rfl (lv_at hl 0 rfl) ?_
              refine lv_imul hx hb dX4_tell_80 ?_
              refine lv_bipush (v := 100) hx hb dX4_tell_81 (by decide) ?_
              refine lv_iadd hx hb dX4_tell_83 ?_
              exact rMI hx hb hr hlk hK hP hS dX4_tell_84 (by rw [fX4_tell, if_pos c1, if_neg c2, if_pos c3, if_neg c4, if_neg c5, if_neg c6])
            · refine lv_iload_n hx hb dX4_tell_71 rfl (lv_at hl 0 rfl) ?_
              refine lv_bipush (v := 100) hx hb dX4_tell_72 (by decide) ?_
              refine lv_iadd hx hb dX4_tell_74 ?_
              refine lv_goto (tgt := 84) hx hb dX4_tell_75 (by decide) ?_
              exact rMI hx hb hr hlk hK hP hS dX4_tell_84 (by rw [fX4_tell, if_pos c1, if_neg c2, if_pos c3, if_neg c4, if_neg c5, if_pos c6])
          · refine lv_iload_n hx hb dX4_tell_62 rfl (lv_at hl 0 rfl) ?_
            refine lv_goto (tgt := 84) hx hb dX4_tell_63 (by decide) ?_
            exact rMI hx hb hr hlk hK hP hS dX4_tell_84 (by rw [fX4_tell, if_pos c1, if_neg c2, if_pos c3, if_neg c4, if_pos c5])
        · refine lv_aload_n hx hb dX4_tell_46 rfl (lv_at hl 1 rfl) ?_
          refine lv_iconst (v := 1) hx hb dX4_tell_47 (by decide) ?_
          refine kWMv (n := 1) (As := [.int 1]) (rest := []) ⟨hx, hb, hml, hown, hts⟩ (kX4_traced l D cz bd hI (fX4_traced v 1) 1) gX4_tell_X4_traced rfl rfl rfl (by decide +kernel) ⟨Nat.le_of_ble_eq_true rfl, Nat.le_of_ble_eq_true rfl⟩ (recvM hP hK) hP hK hS rfl hl.1 rfl (Nat.le_of_ble_eq_true rfl) dX4_tell_48 ⟨Nat.le_refl _, Nat.le_refl _⟩ (fun H locs hP hS => ?_)
          refine lv_aload_n hx hb dX4_tell_51 rfl (lv_at hl 1 rfl) ?_
          refine zg_X4_coverOf hx hb hts hin_X4 hown hK hP (hts (Cond.fieldLink RX4 16 "ProphetCoverModel" "coverOf" "[I") (List.mem_of_getElem? (i := 2) rfl)) dX4_tell_52 ?_
          refine lv_iload_n hx hb dX4_tell_55 rfl (lv_at hl 2 rfl) ?_
          refine zl_M (by decide) (by decide) rfl hx hb hK hP (by assumption) dX4_tell_56 ?_
          refine lv_istore_n (lv' := [(3, .int ((fX4_traced (fX4_traced v 1) 1) 3 p0.toNatClampNeg)), (2, .int (v 2 p0.toNatClampNeg)), (0, .ref (bd 0)), (1, .int p0)]) hx hb dX4_tell_57 rfl hl (by decide) rfl (fun ls hl => ?_)
          refine lv_iload_n hx hb dX4_tell_58 rfl (lv_at hl 1 rfl) ?_
          refine lv_if_ne (tgt := 66) hx hb dX4_tell_59 (by decide) (fun c7 => ?_) (fun c7 => ?_)
          · refine lv_iload_n hx hb dX4_tell_66 rfl (lv_at hl 1 rfl) ?_
            refine lv_iconst (v := 1) hx hb dX4_tell_67 (by decide) ?_
            refine lv_icmp_ne (tgt := 78) hx hb dX4_tell_68 (by decide) (fun c8 => ?_) (fun c8 => ?_)
            · refine lv_iconst (v := 2) hx hb dX4_tell_78 (by decide) ?_
              refine lv_iload_n hx hb dX4_tell_79 rfl (lv_at hl 0 rfl) ?_
              refine lv_imul hx hb dX4_tell_80 ?_
              refine lv_bipush (v := 100) hx hb dX4_tell_81 (by decide) ?_
              refine lv_iadd hx hb dX4_tell_83 ?_
              exact rMI hx hb hr hlk hK hP hS dX4_tell_84 (by rw [fX4_tell, if_pos c1, if_neg c2, if_pos c3, if_pos c4, if_neg c7, if_neg c8])
            · refine lv_iload_n hx hb dX4_tell_71 rfl (lv_at hl 0 rfl) ?_
              refine lv_bipush (v := 100) hx hb dX4_tell_72 (by decide) ?_
              refine lv_iadd hx hb dX4_tell_74 ?_
              refine lv_goto (tgt := 84) hx hb dX4_tell_75 (by decide) ?_
              exact rMI hx hb hr hlk hK hP hS dX4_tell_84 (by rw [fX4_tell, if_pos c1, if_neg c2, if_pos c3, if_pos c4, if_neg c7, if_pos c8])
          · refine lv_iload_n hx hb dX4_tell_62 rfl (lv_at hl 0 rfl) ?_
            refine lv_goto (tgt := 84) hx hb dX4_tell_63 (by decide) ?_
            exact rMI hx hb hr hlk hK hP hS dX4_tell_84 (by rw [fX4_tell, if_pos c1, if_neg c2, if_pos c3, if_pos c4, if_pos c7])
      · refine lv_aload_n hx hb dX4_tell_31 rfl (lv_at hl 1 rfl) ?_
        refine lv_iconst (v := 2) hx hb dX4_tell_32 (by decide) ?_
        refine kWMv (n := 1) (As := [.int 2]) (rest := []) ⟨hx, hb, hml, hown, hts⟩ (kX4_traced l D cz bd hI v 2) gX4_tell_X4_traced rfl rfl rfl (by decide +kernel) ⟨Nat.le_of_ble_eq_true rfl, Nat.le_of_ble_eq_true rfl⟩ (recvM hP hK) hP hK hS rfl hl.1 rfl (Nat.le_of_ble_eq_true rfl) dX4_tell_33 ⟨Nat.le_refl _, Nat.le_refl _⟩ (fun H locs hP hS => ?_)
        refine lv_aload_n hx hb dX4_tell_36 rfl (lv_at hl 1 rfl) ?_
        refine lv_iconst (v := 1) hx hb dX4_tell_37 (by decide) ?_
        refine kWMv (n := 1) (As := [.int 1]) (rest := []) ⟨hx, hb, hml, hown, hts⟩ (kX4_traced l D cz bd hI (fX4_traced v 2) 1) gX4_tell_X4_traced rfl rfl rfl (by decide +kernel) ⟨Nat.le_of_ble_eq_true rfl, Nat.le_of_ble_eq_true rfl⟩ (recvM hP hK) hP hK hS rfl hl.1 rfl (Nat.le_of_ble_eq_true rfl) dX4_tell_38 ⟨Nat.le_refl _, Nat.le_refl _⟩ (fun H locs hP hS => ?_)
        refine lv_iload_n hx hb dX4_tell_41 rfl (lv_at hl 0 rfl) ?_
        refine lv_iconst (v := 2) hx hb dX4_tell_42 (by decide) ?_
        refine lv_icmp_ne (tgt := 51) hx hb dX4_tell_43 (by decide) (fun c9 => ?_) (fun c9 => ?_)
        · refine lv_aload_n hx hb dX4_tell_51 rfl (lv_at hl 1 rfl) ?_
          refine zg_X4_coverOf hx hb hts hin_X4 hown hK hP (hts (Cond.fieldLink RX4 16 "ProphetCoverModel" "coverOf" "[I") (List.mem_of_getElem? (i := 2) rfl)) dX4_tell_52 ?_
          refine lv_iload_n hx hb dX4_tell_55 rfl (lv_at hl 2 rfl) ?_
          refine zl_M (by decide) (by decide) rfl hx hb hK hP (by assumption) dX4_tell_56 ?_
          refine lv_istore_n (lv' := [(3, .int ((fX4_traced (fX4_traced v 2) 1) 3 p0.toNatClampNeg)), (2, .int (v 2 p0.toNatClampNeg)), (0, .ref (bd 0)), (1, .int p0)]) hx hb dX4_tell_57 rfl hl (by decide) rfl (fun ls hl => ?_)
          refine lv_iload_n hx hb dX4_tell_58 rfl (lv_at hl 1 rfl) ?_
          refine lv_if_ne (tgt := 66) hx hb dX4_tell_59 (by decide) (fun c10 => ?_) (fun c10 => ?_)
          · refine lv_iload_n hx hb dX4_tell_66 rfl (lv_at hl 1 rfl) ?_
            refine lv_iconst (v := 1) hx hb dX4_tell_67 (by decide) ?_
            refine lv_icmp_ne (tgt := 78) hx hb dX4_tell_68 (by decide) (fun c11 => ?_) (fun c11 => ?_)
            · refine lv_iconst (v := 2) hx hb dX4_tell_78 (by decide) ?_
              refine lv_iload_n hx hb dX4_tell_79 rfl (lv_at hl 0 rfl) ?_
              refine lv_imul hx hb dX4_tell_80 ?_
              refine lv_bipush (v := 100) hx hb dX4_tell_81 (by decide) ?_
              refine lv_iadd hx hb dX4_tell_83 ?_
              exact rMI hx hb hr hlk hK hP hS dX4_tell_84 (by rw [fX4_tell, if_pos c1, if_neg c2, if_neg c3, if_neg c9, if_neg c10, if_neg c11])
            · refine lv_iload_n hx hb dX4_tell_71 rfl (lv_at hl 0 rfl) ?_
              refine lv_bipush (v := 100) hx hb dX4_tell_72 (by decide) ?_
              refine lv_iadd hx hb dX4_tell_74 ?_
              refine lv_goto (tgt := 84) hx hb dX4_tell_75 (by decide) ?_
              exact rMI hx hb hr hlk hK hP hS dX4_tell_84 (by rw [fX4_tell, if_pos c1, if_neg c2, if_neg c3, if_neg c9, if_neg c10, if_pos c11])
          · refine lv_iload_n hx hb dX4_tell_62 rfl (lv_at hl 0 rfl) ?_
            refine lv_goto (tgt := 84) hx hb dX4_tell_63 (by decide) ?_
            exact rMI hx hb hr hlk hK hP hS dX4_tell_84 (by rw [fX4_tell, if_pos c1, if_neg c2, if_neg c3, if_neg c9, if_pos c10])
        · refine lv_aload_n hx hb dX4_tell_46 rfl (lv_at hl 1 rfl) ?_
          refine lv_iconst (v := 1) hx hb dX4_tell_47 (by decide) ?_
          refine kWMv (n := 1) (As := [.int 1]) (rest := []) ⟨hx, hb, hml, hown, hts⟩ (kX4_traced l D cz bd hI (fX4_traced (fX4_traced v 2) 1) 1) gX4_tell_X4_traced rfl rfl rfl (by decide +kernel) ⟨Nat.le_of_ble_eq_true rfl, Nat.le_of_ble_eq_true rfl⟩ (recvM hP hK) hP hK hS rfl hl.1 rfl (Nat.le_of_ble_eq_true rfl) dX4_tell_48 ⟨Nat.le_refl _, Nat.le_refl _⟩ (fun H locs hP hS => ?_)
          refine lv_aload_n hx hb dX4_tell_51 rfl (lv_at hl 1 rfl) ?_
          refine zg_X4_coverOf hx hb hts hin_X4 hown hK hP (hts (Cond.fieldLink RX4 16 "ProphetCoverModel" "coverOf" "[I") (List.mem_of_getElem? (i := 2) rfl)) dX4_tell_52 ?_
          refine lv_iload_n hx hb dX4_tell_55 rfl (lv_at hl 2 rfl) ?_
          refine zl_M (by decide) (by decide) rfl hx hb hK hP (by assumption) dX4_tell_56 ?_
          refine lv_istore_n (lv' := [(3, .int ((fX4_traced (fX4_traced (fX4_traced v 2) 1) 1) 3 p0.toNatClampNeg)), (2, .int (v 2 p0.toNatClampNeg)), (0, .ref (bd 0)), (1, .int p0)]) hx hb dX4_tell_57 rfl hl (by decide) rfl (fun ls hl => ?_)
          refine lv_iload_n hx hb dX4_tell_58 rfl (lv_at hl 1 rfl) ?_
          refine lv_if_ne (tgt := 66) hx hb dX4_tell_59 (by decide) (fun c12 => ?_) (fun c12 => ?_)
          · refine lv_iload_n hx hb dX4_tell_66 rfl (lv_at hl 1 rfl) ?_
            refine lv_iconst (v := 1) hx hb dX4_tell_67 (by decide) ?_
            refine lv_icmp_ne (tgt := 78) hx hb dX4_tell_68 (by decide) (fun c13 => ?_) (fun c13 => ?_)
            · refine lv_iconst (v := 2) hx hb dX4_tell_78 (by decide) ?_
              refine lv_iload_n hx hb dX4_tell_79 rfl (lv_at hl 0 rfl) ?_
              refine lv_imul hx hb dX4_tell_80 ?_
              refine lv_bipush (v := 100) hx hb dX4_tell_81 (by decide) ?_
              refine lv_iadd hx hb dX4_tell_83 ?_
              exact rMI hx hb hr hlk hK hP hS dX4_tell_84 (by rw [fX4_tell, if_pos c1, if_neg c2, if_neg c3, if_pos c9, if_neg c12, if_neg c13])
            · refine lv_iload_n hx hb dX4_tell_71 rfl (lv_at hl 0 rfl) ?_
              refine lv_bipush (v := 100) hx hb dX4_tell_72 (by decide) ?_
              refine lv_iadd hx hb dX4_tell_74 ?_
              refine lv_goto (tgt := 84) hx hb dX4_tell_75 (by decide) ?_
              exact rMI hx hb hr hlk hK hP hS dX4_tell_84 (by rw [fX4_tell, if_pos c1, if_neg c2, if_neg c3, if_pos c9, if_neg c12, if_pos c13])
          · refine lv_iload_n hx hb dX4_tell_62 rfl (lv_at hl 0 rfl) ?_
            refine lv_goto (tgt := 84) hx hb dX4_tell_63 (by decide) ?_
            exact rMI hx hb hr hlk hK hP hS dX4_tell_84 (by rw [fX4_tell, if_pos c1, if_neg c2, if_neg c3, if_pos c9, if_pos c12])
    · refine lv_aload_n hx hb dX4_tell_22 rfl (lv_at hl 1 rfl) ?_
      refine lv_iconst (v := 3) hx hb dX4_tell_23 (by decide) ?_
      refine kWMv (n := 1) (As := [.int 3]) (rest := []) ⟨hx, hb, hml, hown, hts⟩ (kX4_traced l D cz bd hI v 3) gX4_tell_X4_traced rfl rfl rfl (by decide +kernel) ⟨Nat.le_of_ble_eq_true rfl, Nat.le_of_ble_eq_true rfl⟩ (recvM hP hK) hP hK hS rfl hl.1 rfl (Nat.le_of_ble_eq_true rfl) dX4_tell_24 ⟨Nat.le_refl _, Nat.le_refl _⟩ (fun H locs hP hS => ?_)
      refine lv_iload_n hx hb dX4_tell_27 rfl (lv_at hl 0 rfl) ?_
      refine lv_if_le (tgt := 36) hx hb dX4_tell_28 (by decide) (fun c14 => ?_) (fun c14 => ?_)
      · refine lv_aload_n hx hb dX4_tell_36 rfl (lv_at hl 1 rfl) ?_
        refine lv_iconst (v := 1) hx hb dX4_tell_37 (by decide) ?_
        refine kWMv (n := 1) (As := [.int 1]) (rest := []) ⟨hx, hb, hml, hown, hts⟩ (kX4_traced l D cz bd hI (fX4_traced v 3) 1) gX4_tell_X4_traced rfl rfl rfl (by decide +kernel) ⟨Nat.le_of_ble_eq_true rfl, Nat.le_of_ble_eq_true rfl⟩ (recvM hP hK) hP hK hS rfl hl.1 rfl (Nat.le_of_ble_eq_true rfl) dX4_tell_38 ⟨Nat.le_refl _, Nat.le_refl _⟩ (fun H locs hP hS => ?_)
        refine lv_iload_n hx hb dX4_tell_41 rfl (lv_at hl 0 rfl) ?_
        refine lv_iconst (v := 2) hx hb dX4_tell_42 (by decide) ?_
        refine lv_icmp_ne (tgt := 51) hx hb dX4_tell_43 (by decide) (fun c15 => ?_) (fun c15 => ?_)
        · refine lv_aload_n hx hb dX4_tell_51 rfl (lv_at hl 1 rfl) ?_
          refine zg_X4_coverOf hx hb hts hin_X4 hown hK hP (hts (Cond.fieldLink RX4 16 "ProphetCoverModel" "coverOf" "[I") (List.mem_of_getElem? (i := 2) rfl)) dX4_tell_52 ?_
          refine lv_iload_n hx hb dX4_tell_55 rfl (lv_at hl 2 rfl) ?_
          refine zl_M (by decide) (by decide) rfl hx hb hK hP (by assumption) dX4_tell_56 ?_
          refine lv_istore_n (lv' := [(3, .int ((fX4_traced (fX4_traced v 3) 1) 3 p0.toNatClampNeg)), (2, .int (v 2 p0.toNatClampNeg)), (0, .ref (bd 0)), (1, .int p0)]) hx hb dX4_tell_57 rfl hl (by decide) rfl (fun ls hl => ?_)
          refine lv_iload_n hx hb dX4_tell_58 rfl (lv_at hl 1 rfl) ?_
          refine lv_if_ne (tgt := 66) hx hb dX4_tell_59 (by decide) (fun c16 => ?_) (fun c16 => ?_)
          · refine lv_iload_n hx hb dX4_tell_66 rfl (lv_at hl 1 rfl) ?_
            refine lv_iconst (v := 1) hx hb dX4_tell_67 (by decide) ?_
            refine lv_icmp_ne (tgt := 78) hx hb dX4_tell_68 (by decide) (fun c17 => ?_) (fun c17 => ?_)
            · refine lv_iconst (v := 2) hx hb dX4_tell_78 (by decide) ?_
              refine lv_iload_n hx hb dX4_tell_79 rfl (lv_at hl 0 rfl) ?_
              refine lv_imul hx hb dX4_tell_80 ?_
              refine lv_bipush (v := 100) hx hb dX4_tell_81 (by decide) ?_
              refine lv_iadd hx hb dX4_tell_83 ?_
              exact rMI hx hb hr hlk hK hP hS dX4_tell_84 (by rw [fX4_tell, if_pos c1, if_pos c2, if_pos c14, if_neg c15, if_neg c16, if_neg c17])
            · refine lv_iload_n hx hb dX4_tell_71 rfl (lv_at hl 0 rfl) ?_
              refine lv_bipush (v := 100) hx hb dX4_tell_72 (by decide) ?_
              refine lv_iadd hx hb dX4_tell_74 ?_
              refine lv_goto (tgt := 84) hx hb dX4_tell_75 (by decide) ?_
              exact rMI hx hb hr hlk hK hP hS dX4_tell_84 (by rw [fX4_tell, if_pos c1, if_pos c2, if_pos c14, if_neg c15, if_neg c16, if_pos c17])
          · refine lv_iload_n hx hb dX4_tell_62 rfl (lv_at hl 0 rfl) ?_
            refine lv_goto (tgt := 84) hx hb dX4_tell_63 (by decide) ?_
            exact rMI hx hb hr hlk hK hP hS dX4_tell_84 (by rw [fX4_tell, if_pos c1, if_pos c2, if_pos c14, if_neg c15, if_pos c16])
        · refine lv_aload_n hx hb dX4_tell_46 rfl (lv_at hl 1 rfl) ?_
          refine lv_iconst (v := 1) hx hb dX4_tell_47 (by decide) ?_
          refine kWMv (n := 1) (As := [.int 1]) (rest := []) ⟨hx, hb, hml, hown, hts⟩ (kX4_traced l D cz bd hI (fX4_traced (fX4_traced v 3) 1) 1) gX4_tell_X4_traced rfl rfl rfl (by decide +kernel) ⟨Nat.le_of_ble_eq_true rfl, Nat.le_of_ble_eq_true rfl⟩ (recvM hP hK) hP hK hS rfl hl.1 rfl (Nat.le_of_ble_eq_true rfl) dX4_tell_48 ⟨Nat.le_refl _, Nat.le_refl _⟩ (fun H locs hP hS => ?_)
          refine lv_aload_n hx hb dX4_tell_51 rfl (lv_at hl 1 rfl) ?_
          refine zg_X4_coverOf hx hb hts hin_X4 hown hK hP (hts (Cond.fieldLink RX4 16 "ProphetCoverModel" "coverOf" "[I") (List.mem_of_getElem? (i := 2) rfl)) dX4_tell_52 ?_
          refine lv_iload_n hx hb dX4_tell_55 rfl (lv_at hl 2 rfl) ?_
          refine zl_M (by decide) (by decide) rfl hx hb hK hP (by assumption) dX4_tell_56 ?_
          refine lv_istore_n (lv' := [(3, .int ((fX4_traced (fX4_traced (fX4_traced v 3) 1) 1) 3 p0.toNatClampNeg)), (2, .int (v 2 p0.toNatClampNeg)), (0, .ref (bd 0)), (1, .int p0)]) hx hb dX4_tell_57 rfl hl (by decide) rfl (fun ls hl => ?_)
          refine lv_iload_n hx hb dX4_tell_58 rfl (lv_at hl 1 rfl) ?_
          refine lv_if_ne (tgt := 66) hx hb dX4_tell_59 (by decide) (fun c18 => ?_) (fun c18 => ?_)
          · refine lv_iload_n hx hb dX4_tell_66 rfl (lv_at hl 1 rfl) ?_
            refine lv_iconst (v := 1) hx hb dX4_tell_67 (by decide) ?_
            refine lv_icmp_ne (tgt := 78) hx hb dX4_tell_68 (by decide) (fun c19 => ?_) (fun c19 => ?_)
            · refine lv_iconst (v := 2) hx hb dX4_tell_78 (by decide) ?_
              refine lv_iload_n hx hb dX4_tell_79 rfl (lv_at hl 0 rfl) ?_
              refine lv_imul hx hb dX4_tell_80 ?_
              refine lv_bipush (v := 100) hx hb dX4_tell_81 (by decide) ?_
              refine lv_iadd hx hb dX4_tell_83 ?_
              exact rMI hx hb hr hlk hK hP hS dX4_tell_84 (by rw [fX4_tell, if_pos c1, if_pos c2, if_pos c14, if_pos c15, if_neg c18, if_neg c19])
            · refine lv_iload_n hx hb dX4_tell_71 rfl (lv_at hl 0 rfl) ?_
              refine lv_bipush (v := 100) hx hb dX4_tell_72 (by decide) ?_
              refine lv_iadd hx hb dX4_tell_74 ?_
              refine lv_goto (tgt := 84) hx hb dX4_tell_75 (by decide) ?_
              exact rMI hx hb hr hlk hK hP hS dX4_tell_84 (by rw [fX4_tell, if_pos c1, if_pos c2, if_pos c14, if_pos c15, if_neg c18, if_pos c19])
          · refine lv_iload_n hx hb dX4_tell_62 rfl (lv_at hl 0 rfl) ?_
            refine lv_goto (tgt := 84) hx hb dX4_tell_63 (by decide) ?_
            exact rMI hx hb hr hlk hK hP hS dX4_tell_84 (by rw [fX4_tell, if_pos c1, if_pos c2, if_pos c14, if_pos c15, if_pos c18])
      · refine lv_aload_n hx hb dX4_tell_31 rfl (lv_at hl 1 rfl) ?_
        refine lv_iconst (v := 2) hx hb dX4_tell_32 (by decide) ?_
        refine kWMv (n := 1) (As := [.int 2]) (rest := []) ⟨hx, hb, hml, hown, hts⟩ (kX4_traced l D cz bd hI (fX4_traced v 3) 2) gX4_tell_X4_traced rfl rfl rfl (by decide +kernel) ⟨Nat.le_of_ble_eq_true rfl, Nat.le_of_ble_eq_true rfl⟩ (recvM hP hK) hP hK hS rfl hl.1 rfl (Nat.le_of_ble_eq_true rfl) dX4_tell_33 ⟨Nat.le_refl _, Nat.le_refl _⟩ (fun H locs hP hS => ?_)
        refine lv_aload_n hx hb dX4_tell_36 rfl (lv_at hl 1 rfl) ?_
        refine lv_iconst (v := 1) hx hb dX4_tell_37 (by decide) ?_
        refine kWMv (n := 1) (As := [.int 1]) (rest := []) ⟨hx, hb, hml, hown, hts⟩ (kX4_traced l D cz bd hI (fX4_traced (fX4_traced v 3) 2) 1) gX4_tell_X4_traced rfl rfl rfl (by decide +kernel) ⟨Nat.le_of_ble_eq_true rfl, Nat.le_of_ble_eq_true rfl⟩ (recvM hP hK) hP hK hS rfl hl.1 rfl (Nat.le_of_ble_eq_true rfl) dX4_tell_38 ⟨Nat.le_refl _, Nat.le_refl _⟩ (fun H locs hP hS => ?_)
        refine lv_iload_n hx hb dX4_tell_41 rfl (lv_at hl 0 rfl) ?_
        refine lv_iconst (v := 2) hx hb dX4_tell_42 (by decide) ?_
        refine lv_icmp_ne (tgt := 51) hx hb dX4_tell_43 (by decide) (fun c20 => ?_) (fun c20 => ?_)
        · refine lv_aload_n hx hb dX4_tell_51 rfl (lv_at hl 1 rfl) ?_
          refine zg_X4_coverOf hx hb hts hin_X4 hown hK hP (hts (Cond.fieldLink RX4 16 "ProphetCoverModel" "coverOf" "[I") (List.mem_of_getElem? (i := 2) rfl)) dX4_tell_52 ?_
          refine lv_iload_n hx hb dX4_tell_55 rfl (lv_at hl 2 rfl) ?_
          refine zl_M (by decide) (by decide) rfl hx hb hK hP (by assumption) dX4_tell_56 ?_
          refine lv_istore_n (lv' := [(3, .int ((fX4_traced (fX4_traced (fX4_traced v 3) 2) 1) 3 p0.toNatClampNeg)), (2, .int (v 2 p0.toNatClampNeg)), (0, .ref (bd 0)), (1, .int p0)]) hx hb dX4_tell_57 rfl hl (by decide) rfl (fun ls hl => ?_)
          refine lv_iload_n hx hb dX4_tell_58 rfl (lv_at hl 1 rfl) ?_
          refine lv_if_ne (tgt := 66) hx hb dX4_tell_59 (by decide) (fun c21 => ?_) (fun c21 => ?_)
          · refine lv_iload_n hx hb dX4_tell_66 rfl (lv_at hl 1 rfl) ?_
            refine lv_iconst (v := 1) hx hb dX4_tell_67 (by decide) ?_
            refine lv_icmp_ne (tgt := 78) hx hb dX4_tell_68 (by decide) (fun c22 => ?_) (fun c22 => ?_)
            · refine lv_iconst (v := 2) hx hb dX4_tell_78 (by decide) ?_
              refine lv_iload_n hx hb dX4_tell_79 rfl (lv_at hl 0 rfl) ?_
              refine lv_imul hx hb dX4_tell_80 ?_
              refine lv_bipush (v := 100) hx hb dX4_tell_81 (by decide) ?_
              refine lv_iadd hx hb dX4_tell_83 ?_
              exact rMI hx hb hr hlk hK hP hS dX4_tell_84 (by rw [fX4_tell, if_pos c1, if_pos c2, if_neg c14, if_neg c20, if_neg c21, if_neg c22])
            · refine lv_iload_n hx hb dX4_tell_71 rfl (lv_at hl 0 rfl) ?_
              refine lv_bipush (v := 100) hx hb dX4_tell_72 (by decide) ?_
              refine lv_iadd hx hb dX4_tell_74 ?_
              refine lv_goto (tgt := 84) hx hb dX4_tell_75 (by decide) ?_
              exact rMI hx hb hr hlk hK hP hS dX4_tell_84 (by rw [fX4_tell, if_pos c1, if_pos c2, if_neg c14, if_neg c20, if_neg c21, if_pos c22])
          · refine lv_iload_n hx hb dX4_tell_62 rfl (lv_at hl 0 rfl) ?_
            refine lv_goto (tgt := 84) hx hb dX4_tell_63 (by decide) ?_
            exact rMI hx hb hr hlk hK hP hS dX4_tell_84 (by rw [fX4_tell, if_pos c1, if_pos c2, if_neg c14, if_neg c20, if_pos c21])
        · refine lv_aload_n hx hb dX4_tell_46 rfl (lv_at hl 1 rfl) ?_
          refine lv_iconst (v := 1) hx hb dX4_tell_47 (by decide) ?_
          refine kWMv (n := 1) (As := [.int 1]) (rest := []) ⟨hx, hb, hml, hown, hts⟩ (kX4_traced l D cz bd hI (fX4_traced (fX4_traced (fX4_traced v 3) 2) 1) 1) gX4_tell_X4_traced rfl rfl rfl (by decide +kernel) ⟨Nat.le_of_ble_eq_true rfl, Nat.le_of_ble_eq_true rfl⟩ (recvM hP hK) hP hK hS rfl hl.1 rfl (Nat.le_of_ble_eq_true rfl) dX4_tell_48 ⟨Nat.le_refl _, Nat.le_refl _⟩ (fun H locs hP hS => ?_)
          refine lv_aload_n hx hb dX4_tell_51 rfl (lv_at hl 1 rfl) ?_
          refine zg_X4_coverOf hx hb hts hin_X4 hown hK hP (hts (Cond.fieldLink RX4 16 "ProphetCoverModel" "coverOf" "[I") (List.mem_of_getElem? (i := 2) rfl)) dX4_tell_52 ?_
          refine lv_iload_n hx hb dX4_tell_55 rfl (lv_at hl 2 rfl) ?_
          refine zl_M (by decide) (by decide) rfl hx hb hK hP (by assumption) dX4_tell_56 ?_
          refine lv_istore_n (lv' := [(3, .int ((fX4_traced (fX4_traced (fX4_traced (fX4_traced v 3) 2) 1) 1) 3 p0.toNatClampNeg)), (2, .int (v 2 p0.toNatClampNeg)), (0, .ref (bd 0)), (1, .int p0)]) hx hb dX4_tell_57 rfl hl (by decide) rfl (fun ls hl => ?_)
          refine lv_iload_n hx hb dX4_tell_58 rfl (lv_at hl 1 rfl) ?_
          refine lv_if_ne (tgt := 66) hx hb dX4_tell_59 (by decide) (fun c23 => ?_) (fun c23 => ?_)
          · refine lv_iload_n hx hb dX4_tell_66 rfl (lv_at hl 1 rfl) ?_
            refine lv_iconst (v := 1) hx hb dX4_tell_67 (by decide) ?_
            refine lv_icmp_ne (tgt := 78) hx hb dX4_tell_68 (by decide) (fun c24 => ?_) (fun c24 => ?_)
            · refine lv_iconst (v := 2) hx hb dX4_tell_78 (by decide) ?_
              refine lv_iload_n hx hb dX4_tell_79 rfl (lv_at hl 0 rfl) ?_
              refine lv_imul hx hb dX4_tell_80 ?_
              refine lv_bipush (v := 100) hx hb dX4_tell_81 (by decide) ?_
              refine lv_iadd hx hb dX4_tell_83 ?_
              exact rMI hx hb hr hlk hK hP hS dX4_tell_84 (by rw [fX4_tell, if_pos c1, if_pos c2, if_neg c14, if_pos c20, if_neg c23, if_neg c24])
            · refine lv_iload_n hx hb dX4_tell_71 rfl (lv_at hl 0 rfl) ?_
              refine lv_bipush (v := 100) hx hb dX4_tell_72 (by decide) ?_
              refine lv_iadd hx hb dX4_tell_74 ?_
              refine lv_goto (tgt := 84) hx hb dX4_tell_75 (by decide) ?_
              exact rMI hx hb hr hlk hK hP hS dX4_tell_84 (by rw [fX4_tell, if_pos c1, if_pos c2, if_neg c14, if_pos c20, if_neg c23, if_pos c24])
          · refine lv_iload_n hx hb dX4_tell_62 rfl (lv_at hl 0 rfl) ?_
            refine lv_goto (tgt := 84) hx hb dX4_tell_63 (by decide) ?_
            exact rMI hx hb hr hlk hK hP hS dX4_tell_84 (by rw [fX4_tell, if_pos c1, if_pos c2, if_neg c14, if_pos c20, if_pos c23])
  · refine lv_iconst (v := (-1)) hx hb dX4_tell_8 (by decide) ?_
    exact rMI hx hb hr hlk hK hP hS dX4_tell_9 (by rw [fX4_tell, if_neg c1])
def fX4_hear (v : Mem) (p0 : Int32) : Int32 × Mem :=
  (if (fX4_noProphet v p0) = 0 then (if (v 2 p0.toNatClampNeg) = 2 then (if ((fX4_traced v 5) 2 p0.toNatClampNeg) = 2 then (20, (fX4_traced v 5)) else (p0, (fX4_traced v 5))) else (if ((fX4_traced v 4) 2 p0.toNatClampNeg) = 2 then (20, (fX4_traced v 4)) else (p0, (fX4_traced v 4)))) else ((-1), v))
set_option maxRecDepth 100000 in
set_option maxHeartbeats 4000000 in
theorem kX4_hear (l : Launch) (D : va_G) (cz : ClassId) (bd : Nat → Nat) (hI : MI bd) (v : Mem) (p0 : Int32) (hpc : PcOkM v) : Met l yX4_hear wsX4_hear ({ frames := 2, cells := 0, slots := 0, locals := 46 } : Room) (va_Pc [.ref (bd 0), .int p0] (MB D cz bd v)) (qW (MB D cz bd (fX4_hear v p0).2) (AM bd) (some (.int (fX4_hear v p0).1))) 0 0 (AM bd) := by
  refine m_start (cc := cX4_hear) (maxL := 2) (ret := (some .int)) (by decide) rfl (Nat.le_of_ble_eq_true rfl) (fun p e s m below meth c hx hb hr hts hown hml hlk _ hB ls hl => ?_)
  obtain ⟨hP, hK⟩ := hB
  have hown : s.vm.findClass RX4 = some m.cls := hown
  have hl : lv_has ls 2 [(0, .ref (bd 0)), (1, .int p0)] := hl
  have hin_X4 : ∀ w ∈ wsX40, w ∈ wsX4_hear := fun _ h => List.mem_cons_of_mem _ (List.mem_append_right _ (h))
  obtain ⟨H, hH⟩ : ∃ H, H = s.heap := ⟨_, rfl⟩
  obtain ⟨locs, hlo⟩ : ∃ z : List Loc, z = [] := ⟨_, rfl⟩
  have hS : va_S (AM bd) s.heap H locs := by rw [hH, hlo]; exact va_S.rf
  have hP : va_P D vwCl (wM cz bd v) H := by rw [hH]; exact hP
  suffices hgoal : W p l e ({ frames := 2, cells := 0, slots := 0, locals := 46 } : Room) s m ([.ref (bd 0), .int p0] : List Value).toArray below meth c H locs 0 0 (MQ below (qW (MB D cz bd (fX4_hear v p0).2) (AM bd) (some (.int (fX4_hear v p0).1))) ([.ref (bd 0), .int p0] : List Value).toArray s 0 0 (AM bd)) (F0 m 0 ls []) by rw [hH, hlo] at hgoal; exact hgoal
  clear hH hlo
  refine lv_aload_n hx hb dX4_hear_0 rfl (lv_at hl 0 rfl) ?_
  refine lv_iload_n hx hb dX4_hear_1 rfl (lv_at hl 1 rfl) ?_
  refine kV (n := 1) (As := [.int p0]) (rest := []) ⟨hx, hb, hml, hown, hts⟩ (kX4_noProphet l D cz bd v p0) gX4_hear_X4_noProphet rfl rfl rfl (by decide +kernel) ⟨Nat.le_of_ble_eq_true rfl, Nat.le_of_ble_eq_true rfl⟩ (recvM hP hK) (MB_of hP hK) MB_bl rfl hl.1 rfl (Nat.le_of_ble_eq_true rfl) dX4_hear_2 ⟨Nat.le_refl _, Nat.le_refl _⟩ ?_
  refine lv_if_eq (tgt := 10) hx hb dX4_hear_5 (by decide) (fun c1 => ?_) (fun c1 => ?_)
  · have hv1 : vp_in p0 4 := noProphet_in (by first | with_reducible assumption | exact hpc) c1
    refine lv_aload_n hx hb dX4_hear_10 rfl (lv_at hl 0 rfl) ?_
    refine lv_aload_n hx hb dX4_hear_11 rfl (lv_at hl 0 rfl) ?_
    refine zg_X4_kindOf hx hb hts hin_X4 hown hK hP (hts (Cond.fieldLink RX4 13 "ProphetCoverModel" "kindOf" "[I") (List.mem_of_getElem? (i := 1) rfl)) dX4_hear_12 ?_
    refine lv_iload_n hx hb dX4_hear_15 rfl (lv_at hl 1 rfl) ?_
    refine zl_M (by decide) (by decide) rfl hx hb hK hP (by assumption) dX4_hear_16 ?_
    refine lv_iconst (v := 2) hx hb dX4_hear_17 (by decide) ?_
    refine lv_icmp_ne (tgt := 25) hx hb dX4_hear_18 (by decide) (fun c2 => ?_) (fun c2 => ?_)
    · refine lv_iconst (v := 4) hx hb dX4_hear_25 (by decide) ?_
      refine kWMv (n := 1) (As := [.int 4]) (rest := []) ⟨hx, hb, hml, hown, hts⟩ (kX4_traced l D cz bd hI v 4) gX4_hear_X4_traced rfl rfl rfl (by decide +kernel) ⟨Nat.le_of_ble_eq_true rfl, Nat.le_of_ble_eq_true rfl⟩ (recvM hP hK) hP hK hS rfl hl.1 rfl (Nat.le_of_ble_eq_true rfl) dX4_hear_26 ⟨Nat.le_refl _, Nat.le_refl _⟩ (fun H locs hP hS => ?_)
      refine lv_aload_n hx hb dX4_hear_29 rfl (lv_at hl 0 rfl) ?_
      refine zg_X4_kindOf hx hb hts hin_X4 hown hK hP (hts (Cond.fieldLink RX4 13 "ProphetCoverModel" "kindOf" "[I") (List.mem_of_getElem? (i := 1) rfl)) dX4_hear_30 ?_
      refine lv_iload_n hx hb dX4_hear_33 rfl (lv_at hl 1 rfl) ?_
      refine zl_M (by decide) (by decide) rfl hx hb hK hP (by assumption) dX4_hear_34 ?_
      refine lv_iconst (v := 2) hx hb dX4_hear_35 (by decide) ?_
      refine lv_icmp_ne (tgt := 44) hx hb dX4_hear_36 (by decide) (fun c3 => ?_) (fun c3 => ?_)
      · refine lv_iload_n hx hb dX4_hear_44 rfl (lv_at hl 1 rfl) ?_
        exact rMI hx hb hr hlk hK hP hS dX4_hear_45 (by rw [fX4_hear, if_pos c1, if_neg c2, if_neg c3])
      · refine lv_bipush (v := 20) hx hb dX4_hear_39 (by decide) ?_
        refine lv_goto (tgt := 45) hx hb dX4_hear_41 (by decide) ?_
        exact rMI hx hb hr hlk hK hP hS dX4_hear_45 (by rw [fX4_hear, if_pos c1, if_neg c2, if_pos c3])
    · refine lv_iconst (v := 5) hx hb dX4_hear_21 (by decide) ?_
      refine lv_goto (tgt := 26) hx hb dX4_hear_22 (by decide) ?_
      refine kWMv (n := 1) (As := [.int 5]) (rest := []) ⟨hx, hb, hml, hown, hts⟩ (kX4_traced l D cz bd hI v 5) gX4_hear_X4_traced rfl rfl rfl (by decide +kernel) ⟨Nat.le_of_ble_eq_true rfl, Nat.le_of_ble_eq_true rfl⟩ (recvM hP hK) hP hK hS rfl hl.1 rfl (Nat.le_of_ble_eq_true rfl) dX4_hear_26 ⟨Nat.le_refl _, Nat.le_refl _⟩ (fun H locs hP hS => ?_)
      refine lv_aload_n hx hb dX4_hear_29 rfl (lv_at hl 0 rfl) ?_
      refine zg_X4_kindOf hx hb hts hin_X4 hown hK hP (hts (Cond.fieldLink RX4 13 "ProphetCoverModel" "kindOf" "[I") (List.mem_of_getElem? (i := 1) rfl)) dX4_hear_30 ?_
      refine lv_iload_n hx hb dX4_hear_33 rfl (lv_at hl 1 rfl) ?_
      refine zl_M (by decide) (by decide) rfl hx hb hK hP (by assumption) dX4_hear_34 ?_
      refine lv_iconst (v := 2) hx hb dX4_hear_35 (by decide) ?_
      refine lv_icmp_ne (tgt := 44) hx hb dX4_hear_36 (by decide) (fun c4 => ?_) (fun c4 => ?_)
      · refine lv_iload_n hx hb dX4_hear_44 rfl (lv_at hl 1 rfl) ?_
        exact rMI hx hb hr hlk hK hP hS dX4_hear_45 (by rw [fX4_hear, if_pos c1, if_pos c2, if_neg c4])
      · refine lv_bipush (v := 20) hx hb dX4_hear_39 (by decide) ?_
        refine lv_goto (tgt := 45) hx hb dX4_hear_41 (by decide) ?_
        exact rMI hx hb hr hlk hK hP hS dX4_hear_45 (by rw [fX4_hear, if_pos c1, if_pos c2, if_pos c4])
  · refine lv_iconst (v := (-1)) hx hb dX4_hear_8 (by decide) ?_
    exact rMI hx hb hr hlk hK hP hS dX4_hear_9 (by rw [fX4_hear, if_neg c1])
def fX4_as (v : Mem) (p0 : Int32) (p1 : Int32) : Int32 × Mem :=
  (if (fX4_noProphet v p0) = 0 then (if (fX4_in ((p1).toInt64) 0 2) = 0 then ((fX4_refused v (-2)).1, (fX4_refused v (-2)).2) else (if (v 2 p0.toNatClampNeg) < p1 then ((fX4_failed v 2).1, (fX4_failed v 2).2) else ((fX4_refused v 1).1, (fX4_refused v 1).2))) else ((fX4_refused v (-1)).1, (fX4_refused v (-1)).2))
set_option maxRecDepth 100000 in
set_option maxHeartbeats 4000000 in
theorem kX4_as (l : Launch) (D : va_G) (cz : ClassId) (bd : Nat → Nat) (hI : MI bd) (v : Mem) (p0 : Int32) (p1 : Int32) (hpc : PcOkM v) : Met l yX4_as wsX4_as ({ frames := 2, cells := 0, slots := 0, locals := 46 } : Room) (va_Pc [.ref (bd 0), .int p0, .int p1] (MB D cz bd v)) (qW (MB D cz bd (fX4_as v p0 p1).2) (AM bd) (some (.int (fX4_as v p0 p1).1))) 0 0 (AM bd) := by
  refine m_start (cc := cX4_as) (maxL := 3) (ret := (some .int)) (by decide) rfl (Nat.le_of_ble_eq_true rfl) (fun p e s m below meth c hx hb hr hts hown hml hlk _ hB ls hl => ?_)
  obtain ⟨hP, hK⟩ := hB
  have hown : s.vm.findClass RX4 = some m.cls := hown
  have hl : lv_has ls 3 [(0, .ref (bd 0)), (1, .int p0), (2, .int p1)] := hl
  have hin_X4 : ∀ w ∈ wsX40, w ∈ wsX4_as := fun _ h => List.mem_cons_of_mem _ (List.mem_append_right _ (h))
  obtain ⟨H, hH⟩ : ∃ H, H = s.heap := ⟨_, rfl⟩
  obtain ⟨locs, hlo⟩ : ∃ z : List Loc, z = [] := ⟨_, rfl⟩
  have hS : va_S (AM bd) s.heap H locs := by rw [hH, hlo]; exact va_S.rf
  have hP : va_P D vwCl (wM cz bd v) H := by rw [hH]; exact hP
  suffices hgoal : W p l e ({ frames := 2, cells := 0, slots := 0, locals := 46 } : Room) s m ([.ref (bd 0), .int p0, .int p1] : List Value).toArray below meth c H locs 0 0 (MQ below (qW (MB D cz bd (fX4_as v p0 p1).2) (AM bd) (some (.int (fX4_as v p0 p1).1))) ([.ref (bd 0), .int p0, .int p1] : List Value).toArray s 0 0 (AM bd)) (F0 m 0 ls []) by rw [hH, hlo] at hgoal; exact hgoal
  clear hH hlo
  refine lv_aload_n hx hb dX4_as_0 rfl (lv_at hl 0 rfl) ?_
  refine lv_iload_n hx hb dX4_as_1 rfl (lv_at hl 1 rfl) ?_
  refine kV (n := 1) (As := [.int p0]) (rest := []) ⟨hx, hb, hml, hown, hts⟩ (kX4_noProphet l D cz bd v p0) gX4_as_X4_noProphet rfl rfl rfl (by decide +kernel) ⟨Nat.le_of_ble_eq_true rfl, Nat.le_of_ble_eq_true rfl⟩ (recvM hP hK) (MB_of hP hK) MB_bl rfl hl.1 rfl (Nat.le_of_ble_eq_true rfl) dX4_as_2 ⟨Nat.le_refl _, Nat.le_refl _⟩ ?_
  refine lv_if_eq (tgt := 14) hx hb dX4_as_5 (by decide) (fun c1 => ?_) (fun c1 => ?_)
  · have hv1 : vp_in p0 4 := noProphet_in (by first | with_reducible assumption | exact hpc) c1
    refine lv_iload_n hx hb dX4_as_14 rfl (lv_at hl 2 rfl) ?_
    refine lv_i2l hx hb dX4_as_15 rfl ?_
    refine lv_lconst (v := 0) hx hb dX4_as_16 (by decide) ?_
    refine lv_ldc2 hx hb hown (hts (Cond.constantLong RX4 118 (2)) (List.mem_of_getElem? (i := 1) rfl)) dX4_as_17 ?_
    refine kS (n := 3) (As := [.long (p1).toInt64, .long 0, .long 2]) (rest := []) ⟨hx, hb, hml, hown, hts⟩ (kX4_in l ((p1).toInt64) 0 2) gX4_as_X4_in rfl rfl rfl (by decide +kernel) ⟨Nat.le_of_ble_eq_true rfl, Nat.le_of_ble_eq_true rfl⟩ (fun _ _ _ => trivial) (fun _ _ _ _ _ => trivial) rfl hl.1 rfl (Nat.le_of_ble_eq_true rfl) dX4_as_20 ⟨Nat.le_refl _, Nat.le_refl _⟩ ?_
    refine lv_if_ne (tgt := 33) hx hb dX4_as_23 (by decide) (fun c2 => ?_) (fun c2 => ?_)
    · refine lv_aload_n hx hb dX4_as_33 rfl (lv_at hl 0 rfl) ?_
      refine zg_X4_kindOf hx hb hts hin_X4 hown hK hP (hts (Cond.fieldLink RX4 13 "ProphetCoverModel" "kindOf" "[I") (List.mem_of_getElem? (i := 2) rfl)) dX4_as_34 ?_
      refine lv_iload_n hx hb dX4_as_37 rfl (lv_at hl 1 rfl) ?_
      refine zl_M (by decide) (by decide) rfl hx hb hK hP (by assumption) dX4_as_38 ?_
      refine lv_iload_n hx hb dX4_as_39 rfl (lv_at hl 2 rfl) ?_
      refine lv_icmp_lt (tgt := 51) hx hb dX4_as_40 (by decide) (fun c3 => ?_) (fun c3 => ?_)
      · refine lv_aload_n hx hb dX4_as_51 rfl (lv_at hl 0 rfl) ?_
        refine lv_iconst (v := 2) hx hb dX4_as_52 (by decide) ?_
        refine kWM (n := 1) (As := [.int 2]) (rest := []) ⟨hx, hb, hml, hown, hts⟩ (kX4_failed l D cz bd hI v 2) gX4_as_X4_failed rfl rfl rfl (by decide +kernel) ⟨Nat.le_of_ble_eq_true rfl, Nat.le_of_ble_eq_true rfl⟩ (recvM hP hK) hP hK hS rfl hl.1 rfl (Nat.le_of_ble_eq_true rfl) dX4_as_53 ⟨Nat.le_refl _, Nat.le_refl _⟩ (fun H locs hP hS => ?_)
        exact rMI hx hb hr hlk hK hP hS dX4_as_56 (by rw [fX4_as, if_pos c1, if_neg c2, if_pos c3])
      · refine lv_aload_n hx hb dX4_as_43 rfl (lv_at hl 0 rfl) ?_
        refine lv_iconst (v := 1) hx hb dX4_as_44 (by decide) ?_
        refine kWM (n := 1) (As := [.int 1]) (rest := []) ⟨hx, hb, hml, hown, hts⟩ (kX4_refused l D cz bd hI v 1) gX4_as_X4_refused rfl rfl rfl (by decide +kernel) ⟨Nat.le_of_ble_eq_true rfl, Nat.le_of_ble_eq_true rfl⟩ (recvM hP hK) hP hK hS rfl hl.1 rfl (Nat.le_of_ble_eq_true rfl) dX4_as_45 ⟨Nat.le_refl _, Nat.le_refl _⟩ (fun H locs hP hS => ?_)
        refine lv_goto (tgt := 56) hx hb dX4_as_48 (by decide) ?_
        exact rMI hx hb hr hlk hK hP hS dX4_as_56 (by rw [fX4_as, if_pos c1, if_neg c2, if_neg c3])
    · refine lv_aload_n hx hb dX4_as_26 rfl (lv_at hl 0 rfl) ?_
      refine lv_bipush (v := (-2)) hx hb dX4_as_27 (by decide) ?_
      refine kWM (n := 1) (As := [.int (-2)]) (rest := []) ⟨hx, hb, hml, hown, hts⟩ (kX4_refused l D cz bd hI v (-2)) gX4_as_X4_refused rfl rfl rfl (by decide +kernel) ⟨Nat.le_of_ble_eq_true rfl, Nat.le_of_ble_eq_true rfl⟩ (recvM hP hK) hP hK hS rfl hl.1 rfl (Nat.le_of_ble_eq_true rfl) dX4_as_29 ⟨Nat.le_refl _, Nat.le_refl _⟩ (fun H locs hP hS => ?_)
      exact rMI hx hb hr hlk hK hP hS dX4_as_32 (by rw [fX4_as, if_pos c1, if_pos c2])
  · refine lv_aload_n hx hb dX4_as_8 rfl (lv_at hl 0 rfl) ?_
    refine lv_iconst (v := (-1)) hx hb dX4_as_9 (by decide) ?_
    refine kWM (n := 1) (As := [.int (-1)]) (rest := []) ⟨hx, hb, hml, hown, hts⟩ (kX4_refused l D cz bd hI v (-1)) gX4_as_X4_refused rfl rfl rfl (by decide +kernel) ⟨Nat.le_of_ble_eq_true rfl, Nat.le_of_ble_eq_true rfl⟩ (recvM hP hK) hP hK hS rfl hl.1 rfl (Nat.le_of_ble_eq_true rfl) dX4_as_10 ⟨Nat.le_refl _, Nat.le_refl _⟩ (fun H locs hP hS => ?_)
    exact rMI hx hb hr hlk hK hP hS dX4_as_13 (by rw [fX4_as, if_neg c1])
def fX4_trace (v : Mem) : Int32 :=
  (v 0 26)
set_option maxRecDepth 100000 in
set_option maxHeartbeats 4000000 in
theorem kX4_trace (l : Launch) (D : va_G) (cz : ClassId) (bd : Nat → Nat) (v : Mem)  : Met l yX4_trace wsX4_trace ({ frames := 0, cells := 0, slots := 0, locals := 0 } : Room) (va_Pc [.ref (bd 0)] (MB D cz bd v)) (qR (some (.int (fX4_trace v)))) 0 0 noF := by
  refine m_start (cc := cX4_trace) (maxL := 1) (ret := (some .int)) (by decide) rfl (Nat.le_of_ble_eq_true rfl) (fun p e s m below meth c hx hb hr hts hown hml hlk _ hB ls hl => ?_)
  obtain ⟨hP, hK⟩ := hB
  have hown : s.vm.findClass RX4 = some m.cls := hown
  have hl : lv_has ls 1 [(0, .ref (bd 0))] := hl
  have hin_X4 : ∀ w ∈ wsX40, w ∈ wsX4_trace := fun _ h => List.mem_cons_of_mem _ (List.mem_append_right _ (h))
  refine lv_aload_n hx hb dX4_trace_0 rfl (lv_at hl 0 rfl) ?_
  refine zg_X4_traceNow hx hb hts hin_X4 hown hK hP (hts (Cond.fieldLink RX4 217 "ProphetCoverModel" "traceNow" "I") (List.mem_of_getElem? (i := 1) rfl)) dX4_trace_1 ?_
  exact rI hx hb hr hlk dX4_trace_4 (by rw [fX4_trace])
def fX4_fault (v : Mem) : Int32 :=
  (v 0 0)
set_option maxRecDepth 100000 in
set_option maxHeartbeats 4000000 in
theorem kX4_fault (l : Launch) (D : va_G) (cz : ClassId) (bd : Nat → Nat) (v : Mem)  : Met l yX4_fault wsX4_fault ({ frames := 0, cells := 0, slots := 0, locals := 0 } : Room) (va_Pc [.ref (bd 0)] (MB D cz bd v)) (qR (some (.int (fX4_fault v)))) 0 0 noF := by
  refine m_start (cc := cX4_fault) (maxL := 1) (ret := (some .int)) (by decide) rfl (Nat.le_of_ble_eq_true rfl) (fun p e s m below meth c hx hb hr hts hown hml hlk _ hB ls hl => ?_)
  obtain ⟨hP, hK⟩ := hB
  have hown : s.vm.findClass RX4 = some m.cls := hown
  have hl : lv_has ls 1 [(0, .ref (bd 0))] := hl
  have hin_X4 : ∀ w ∈ wsX40, w ∈ wsX4_fault := fun _ h => List.mem_cons_of_mem _ (List.mem_append_right _ (h))
  refine lv_aload_n hx hb dX4_fault_0 rfl (lv_at hl 0 rfl) ?_
  refine zg_X4_fault hx hb hts hin_X4 hown hK hP (hts (Cond.fieldLink RX4 57 "ProphetCoverModel" "fault" "I") (List.mem_of_getElem? (i := 1) rfl)) dX4_fault_1 ?_
  exact rI hx hb hr hlk dX4_fault_4 (by rw [fX4_fault])
def fX4_fraudsNow_c4 (v : Mem)  : Nat → Int32 → Int32 → Int32
  | 0, x2, x1 => 0
  | n4 + 1, x2, x1 => (if (v 0 3) ≤ x2 then x1 else (if (fX4_isFraud v x2) = 0 then (fX4_fraudsNow_c4 v n4 (x2 + 1) (x1 + 0)) else (fX4_fraudsNow_c4 v n4 (x2 + 1) (x1 + 1))))
def fX4_fraudsNow (v : Mem) : Int32 :=
  (fX4_fraudsNow_c4 v (5) 0 0)
set_option maxRecDepth 100000 in
set_option maxHeartbeats 4000000 in
theorem kX4_fraudsNow (l : Launch) (D : va_G) (cz : ClassId) (bd : Nat → Nat) (v : Mem) (hpc : PcOkM v) : Met l yX4_fraudsNow wsX4_fraudsNow ({ frames := 2, cells := 0, slots := 0, locals := 41 } : Room) (va_Pc [.ref (bd 0)] (MB D cz bd v)) (qR (some (.int (fX4_fraudsNow v)))) 0 0 noF := by
  refine m_start (cc := cX4_fraudsNow) (maxL := 3) (ret := (some .int)) (by decide) rfl (Nat.le_of_ble_eq_true rfl) (fun p e s m below meth c hx hb hr hts hown hml hlk _ hB ls hl => ?_)
  obtain ⟨hP, hK⟩ := hB
  have hown : s.vm.findClass RX4 = some m.cls := hown
  have hl : lv_has ls 3 [(0, .ref (bd 0))] := hl
  have hin_X4 : ∀ w ∈ wsX40, w ∈ wsX4_fraudsNow := fun _ h => List.mem_cons_of_mem _ (List.mem_append_right _ (h))
  obtain ⟨np, hnp, enp⟩ := id hpc
  refine lv_iconst (v := 0) hx hb dX4_fraudsNow_0 (by decide) ?_
  refine lv_istore_n (lv' := [(1, .int 0), (0, .ref (bd 0))]) hx hb dX4_fraudsNow_1 rfl hl (by decide) rfl (fun ls hl => ?_)
  refine lv_iconst (v := 0) hx hb dX4_fraudsNow_2 (by decide) ?_
  refine lv_istore_n (lv' := [(2, .int 0), (1, .int 0), (0, .ref (bd 0))]) hx hb dX4_fraudsNow_3 rfl hl (by decide) rfl (fun ls hl => ?_)
  have lp4 : ∀ (n4 : Nat) (x2 : Int32) (x1 : Int32) (k4 : Nat), (fX4_fraudsNow v) = (fX4_fraudsNow_c4 v n4 x2 x1) → (x2 = nI k4) → (k4 ≤ np) → (np < k4 + n4) → ∀ ls : Array Slot, lv_has ls 3 [(2, .int x2), (1, .int x1), (0, .ref (bd 0))] → W p l e ({ frames := 2, cells := 0, slots := 0, locals := 41 } : Room) s m ([.ref (bd 0)] : List Value).toArray below meth c s.heap [] 0 0 (MQ below (qR (some (.int (fX4_fraudsNow v)))) ([.ref (bd 0)] : List Value).toArray s 0 0 noF) (F0 m 4 ls []) := by
    intro n4
    induction n4 with
    | zero =>
      intro x2 x1 k4 _ e4 hk4 hm4 ls hl
      exfalso; omega
    | succ n4 ih4 =>
      intro x2 x1 k4 hr4 e4 hk4 hm4 ls hl
      refine lv_iload_n hx hb dX4_fraudsNow_4 rfl (lv_at hl 0 rfl) ?_
      refine lv_aload_n hx hb dX4_fraudsNow_5 rfl (lv_at hl 2 rfl) ?_
      refine zg_X4_prophets hx hb hts hin_X4 hown hK hP (hts (Cond.fieldLink RX4 72 "ProphetCoverModel" "prophets" "I") (List.mem_of_getElem? (i := 1) rfl)) dX4_fraudsNow_6 ?_
      refine lv_icmp_ge (tgt := 34) hx hb dX4_fraudsNow_9 (by decide) (fun c1 => ?_) (fun c1 => ?_)
      · refine lv_iload_n hx hb dX4_fraudsNow_34 rfl (lv_at hl 1 rfl) ?_
        exact rI hx hb hr hlk dX4_fraudsNow_35 (by rw [hr4, fX4_fraudsNow_c4, if_pos c1])
      · have hlt4 : k4 < np := cnt_lt enp e4 (by omega) (by omega) c1
        have hv4 : vp_in x2 4 := cnt_in e4 (by omega) (by decide)
        refine lv_iload_n hx hb dX4_fraudsNow_12 rfl (lv_at hl 1 rfl) ?_
        refine lv_aload_n hx hb dX4_fraudsNow_13 rfl (lv_at hl 2 rfl) ?_
        refine lv_iload_n hx hb dX4_fraudsNow_14 rfl (lv_at hl 0 rfl) ?_
        refine kV (n := 1) (As := [.int x2]) (rest := [.int x1]) ⟨hx, hb, hml, hown, hts⟩ (kX4_isFraud l D cz bd v x2 (by assumption)) gX4_fraudsNow_X4_isFraud rfl rfl rfl (by decide +kernel) ⟨Nat.le_of_ble_eq_true rfl, Nat.le_of_ble_eq_true rfl⟩ (recvM hP hK) (MB_of hP hK) MB_bl rfl hl.1 rfl (Nat.le_of_ble_eq_true rfl) dX4_fraudsNow_15 ⟨Nat.le_refl _, Nat.le_refl _⟩ ?_
        refine lv_if_eq (tgt := 25) hx hb dX4_fraudsNow_18 (by decide) (fun c2 => ?_) (fun c2 => ?_)
        · refine lv_iconst (v := 0) hx hb dX4_fraudsNow_25 (by decide) ?_
          refine lv_iadd hx hb dX4_fraudsNow_26 ?_
          refine lv_istore_n (lv' := [(1, .int (x1 + 0)), (2, .int x2), (0, .ref (bd 0))]) hx hb dX4_fraudsNow_27 rfl hl (by decide) rfl (fun ls hl => ?_)
          refine lv_iinc (v := (x2 + 1)) (lv' := [(2, .int (x2 + 1)), (1, .int (x1 + 0)), (0, .ref (bd 0))]) hx hb dX4_fraudsNow_28 hl (k := 1) rfl rfl (by decide) rfl (fun ls hl => ?_)
          refine lv_goto (tgt := 4) hx hb dX4_fraudsNow_31 (by decide) ?_
          exact ih4 (x2 + 1) (x1 + 0) (k4 + 1) (by rw [hr4, fX4_fraudsNow_c4, if_neg c1, if_pos c2]) (by rw [e4]; exact nI_1 _) hlt4 (by omega) ls (lv_sub hl [0, 1, 2] rfl)
        · refine lv_iconst (v := 1) hx hb dX4_fraudsNow_21 (by decide) ?_
          refine lv_goto (tgt := 26) hx hb dX4_fraudsNow_22 (by decide) ?_
          refine lv_iadd hx hb dX4_fraudsNow_26 ?_
          refine lv_istore_n (lv' := [(1, .int (x1 + 1)), (2, .int x2), (0, .ref (bd 0))]) hx hb dX4_fraudsNow_27 rfl hl (by decide) rfl (fun ls hl => ?_)
          refine lv_iinc (v := (x2 + 1)) (lv' := [(2, .int (x2 + 1)), (1, .int (x1 + 1)), (0, .ref (bd 0))]) hx hb dX4_fraudsNow_28 hl (k := 1) rfl rfl (by decide) rfl (fun ls hl => ?_)
          refine lv_goto (tgt := 4) hx hb dX4_fraudsNow_31 (by decide) ?_
          exact ih4 (x2 + 1) (x1 + 1) (k4 + 1) (by rw [hr4, fX4_fraudsNow_c4, if_neg c1, if_neg c2]) (by rw [e4]; exact nI_1 _) hlt4 (by omega) ls (lv_sub hl [0, 1, 2] rfl)
  exact lp4 (5) 0 0 (0) (by rw [fX4_fraudsNow]) nI_0.symm (by omega) (by omega) ls (lv_sub hl [0, 1, 2] rfl)
def fX4_many (v : Mem) (p0 : Int32) : Int32 :=
  (if p0 = 0 then (v 0 3) else (if p0 = 1 then (v 0 1) else (if p0 = 2 then (fX4_fraudsNow v) else (if p0 = 3 then (v 0 18) else (-2)))))
set_option maxRecDepth 100000 in
set_option maxHeartbeats 4000000 in
theorem kX4_many (l : Launch) (D : va_G) (cz : ClassId) (bd : Nat → Nat) (v : Mem) (p0 : Int32) (hpc : PcOkM v) : Met l yX4_many wsX4_many ({ frames := 3, cells := 0, slots := 0, locals := 63 } : Room) (va_Pc [.ref (bd 0), .int p0] (MB D cz bd v)) (qR (some (.int (fX4_many v p0)))) 0 0 noF := by
  refine m_start (cc := cX4_many) (maxL := 2) (ret := (some .int)) (by decide) rfl (Nat.le_of_ble_eq_true rfl) (fun p e s m below meth c hx hb hr hts hown hml hlk _ hB ls hl => ?_)
  obtain ⟨hP, hK⟩ := hB
  have hown : s.vm.findClass RX4 = some m.cls := hown
  have hl : lv_has ls 2 [(0, .ref (bd 0)), (1, .int p0)] := hl
  have hin_X4 : ∀ w ∈ wsX40, w ∈ wsX4_many := fun _ h => List.mem_cons_of_mem _ (List.mem_append_right _ (h))
  refine lv_iload_n hx hb dX4_many_0 rfl (lv_at hl 1 rfl) ?_
  by_cases c1 : p0 = 0
  · refine lv_tableIn (off := 31) (tgt := 32) hx hb dX4_many_1 (by rw [c1]; decide) (by rw [c1]; decide) (by rw [c1]; rfl) (by decide) ?_
    refine lv_aload_n hx hb dX4_many_32 rfl (lv_at hl 0 rfl) ?_
    refine zg_X4_prophets hx hb hts hin_X4 hown hK hP (hts (Cond.fieldLink RX4 72 "ProphetCoverModel" "prophets" "I") (List.mem_of_getElem? (i := 1) rfl)) dX4_many_33 ?_
    exact rI hx hb hr hlk dX4_many_36 (by rw [fX4_many, if_pos c1])
  by_cases c2 : p0 = 1
  · refine lv_tableIn (off := 36) (tgt := 37) hx hb dX4_many_1 (by rw [c2]; decide) (by rw [c2]; decide) (by rw [c2]; rfl) (by decide) ?_
    refine lv_aload_n hx hb dX4_many_37 rfl (lv_at hl 0 rfl) ?_
    refine zg_X4_events hx hb hts hin_X4 hown hK hP (hts (Cond.fieldLink RX4 65 "ProphetCoverModel" "events" "I") (List.mem_of_getElem? (i := 2) rfl)) dX4_many_38 ?_
    exact rI hx hb hr hlk dX4_many_41 (by rw [fX4_many, if_neg c1, if_pos c2])
  by_cases c3 : p0 = 2
  · refine lv_tableIn (off := 41) (tgt := 42) hx hb dX4_many_1 (by rw [c3]; decide) (by rw [c3]; decide) (by rw [c3]; rfl) (by decide) ?_
    refine lv_aload_n hx hb dX4_many_42 rfl (lv_at hl 0 rfl) ?_
    refine kV (n := 0) (As := []) (rest := []) ⟨hx, hb, hml, hown, hts⟩ (kX4_fraudsNow l D cz bd v (by first | exact hpc | assumption)) gX4_many_X4_fraudsNow rfl rfl rfl (by decide +kernel) ⟨Nat.le_of_ble_eq_true rfl, Nat.le_of_ble_eq_true rfl⟩ (recvM hP hK) (MB_of hP hK) MB_bl rfl hl.1 rfl (Nat.le_of_ble_eq_true rfl) dX4_many_43 ⟨Nat.le_refl _, Nat.le_refl _⟩ ?_
    exact rI hx hb hr hlk dX4_many_46 (by rw [fX4_many, if_neg c1, if_neg c2, if_pos c3])
  by_cases c4 : p0 = 3
  · refine lv_tableIn (off := 46) (tgt := 47) hx hb dX4_many_1 (by rw [c4]; decide) (by rw [c4]; decide) (by rw [c4]; rfl) (by decide) ?_
    refine lv_aload_n hx hb dX4_many_47 rfl (lv_at hl 0 rfl) ?_
    refine zg_X4_readings hx hb hts hin_X4 hown hK hP (hts (Cond.fieldLink RX4 127 "ProphetCoverModel" "readings" "I") (List.mem_of_getElem? (i := 3) rfl)) dX4_many_48 ?_
    exact rI hx hb hr hlk dX4_many_51 (by rw [fX4_many, if_neg c1, if_neg c2, if_neg c3, if_pos c4])
  refine lv_tableOut (tgt := 52) hx hb dX4_many_1 (tab_out4 c1 c2 c3 c4) (by decide) ?_
  refine lv_bipush (v := (-2)) hx hb dX4_many_52 (by decide) ?_
  exact rI hx hb hr hlk dX4_many_54 (by rw [fX4_many, if_neg c1, if_neg c2, if_neg c3, if_neg c4])
