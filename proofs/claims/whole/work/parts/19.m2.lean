def fX4_isBeyond (p0 : Int32) (p1 : Int64) (p2 : Int32) : Int32 :=
  (if p0 < 0 then 1 else (if (lg_cmp p1 0) < 0 then 1 else (if (lg_cmp ((p0).toInt64 + p1) (p2).toInt64) ≤ 0 then 0 else 1)))
set_option maxRecDepth 100000 in
set_option maxHeartbeats 4000000 in
theorem kX4_isBeyond (l : Launch)  (p0 : Int32) (p1 : Int64) (p2 : Int32)  : Met l yX4_isBeyond wsX4_isBeyond ({ frames := 0, cells := 0, slots := 0, locals := 0 } : Room) (va_Pc [.int p0, .long p1, .int p2] (fun _ => True)) (qR (some (.int (fX4_isBeyond p0 p1 p2)))) 0 0 noF := by
  refine m_start (cc := cX4_isBeyond) (maxL := 4) (ret := (some .boolean)) (by decide) rfl (Nat.le_of_ble_eq_true rfl) (fun p e s m below meth c hx hb hr hts hown hml hlk _ hB ls hl => ?_)
  have hown : s.vm.findClass RX4 = some m.cls := hown
  have hl : lv_has ls 4 [(0, .int p0), (1, .long p1), (3, .int p2)] := hl
  refine lv_iload_n hx hb dX4_isBeyond_0 rfl (lv_at hl 0 rfl) ?_
  refine lv_if_lt (tgt := 20) hx hb dX4_isBeyond_1 (by decide) (fun c1 => ?_) (fun c1 => ?_)
  · refine lv_iconst (v := 1) hx hb dX4_isBeyond_20 (by decide) ?_
    refine lv_goto (tgt := 25) hx hb dX4_isBeyond_21 (by decide) ?_
    exact rZ hx hb hr hlk (by rfl) dX4_isBeyond_25 (by rw [fX4_isBeyond, if_pos c1])
  · refine lv_lload_n hx hb dX4_isBeyond_4 rfl (lv_at hl 1 rfl) ?_
    refine lv_lconst (v := 0) hx hb dX4_isBeyond_5 (by decide) ?_
    refine W.lcmp hx hb dX4_isBeyond_6 ?_
    refine lv_if_lt (tgt := 20) hx hb dX4_isBeyond_7 (by decide) (fun c2 => ?_) (fun c2 => ?_)
    · refine lv_iconst (v := 1) hx hb dX4_isBeyond_20 (by decide) ?_
      refine lv_goto (tgt := 25) hx hb dX4_isBeyond_21 (by decide) ?_
      exact rZ hx hb hr hlk (by rfl) dX4_isBeyond_25 (by rw [fX4_isBeyond, if_neg c1, if_pos c2])
    · refine lv_iload_n hx hb dX4_isBeyond_10 rfl (lv_at hl 0 rfl) ?_
      refine lv_i2l hx hb dX4_isBeyond_11 rfl ?_
      refine lv_lload_n hx hb dX4_isBeyond_12 rfl (lv_at hl 1 rfl) ?_
      refine lv_ladd hx hb dX4_isBeyond_13 ?_
      refine lv_iload_n hx hb dX4_isBeyond_14 rfl (lv_at hl 2 rfl) ?_
      refine lv_i2l hx hb dX4_isBeyond_15 rfl ?_
      refine W.lcmp hx hb dX4_isBeyond_16 ?_
      refine lv_if_le (tgt := 24) hx hb dX4_isBeyond_17 (by decide) (fun c3 => ?_) (fun c3 => ?_)
      · refine lv_iconst (v := 0) hx hb dX4_isBeyond_24 (by decide) ?_
        exact rZ hx hb hr hlk (by rfl) dX4_isBeyond_25 (by rw [fX4_isBeyond, if_neg c1, if_neg c2, if_pos c3])
      · refine lv_iconst (v := 1) hx hb dX4_isBeyond_20 (by decide) ?_
        refine lv_goto (tgt := 25) hx hb dX4_isBeyond_21 (by decide) ?_
        exact rZ hx hb hr hlk (by rfl) dX4_isBeyond_25 (by rw [fX4_isBeyond, if_neg c1, if_neg c2, if_neg c3])
theorem ib_spec {i n sz : Int32} (c : fX4_isBeyond i n.toInt64 sz = 0) : 0 ≤ i.toInt ∧ 0 ≤ n.toInt ∧ i.toInt + n.toInt ≤ sz.toInt := by
  unfold fX4_isBeyond at c
  by_cases c1 : i < 0
  · rw [if_pos c1] at c; exact absurd c (by decide)
  rw [if_neg c1] at c
  by_cases c2 : lg_cmp n.toInt64 0 < 0
  · rw [if_pos c2] at c; exact absurd c (by decide)
  rw [if_neg c2] at c
  by_cases c3 : lg_cmp (i.toInt64 + n.toInt64) sz.toInt64 ≤ 0
  · have h1 := ge_of c1
    have h2 : ¬ n.toInt64.toInt < (0 : Int64).toInt := fun q => c2 (lg_lt.mpr q)
    rw [i64_32, show (0 : Int64).toInt = 0 from rfl] at h2
    have h3 := lg_le.mp c3
    have hi := Int32.toInt_lt i
    have hn := Int32.toInt_lt n
    rw [Int64.toInt_add, i64_32, i64_32, i64_32, Int.bmod_eq_of_le (by omega) (by omega)] at h3
    exact ⟨h1, by omega, h3⟩
  · rw [if_neg c3] at c; exact absurd c (by decide)
theorem sz_le {v : Mem} {k : Nat} (h : SzOkM v) (hk : k < 4) : (v 12 k).toInt ≤ 60 := by
  rcases h k hk with e | ⟨q, hq, e⟩
  · rw [e]; decide
  · rw [e, nI_int (by omega)]; omega
theorem ib_ok {v : Mem} {k : Nat} {i n : Int32} (h : SzOkM v) (hk : k < 4) (c : fX4_isBeyond i n.toInt64 (v 12 k) = 0) : ∃ ii nn : Nat, i = nI ii ∧ n = nI nn ∧ ii + nn ≤ 60 := by
  obtain ⟨h1, h2, h3⟩ := ib_spec c
  have h4 := sz_le h hk
  obtain ⟨ii, e1, e2, -⟩ := int_ex h1
  obtain ⟨nn, e3, e4, -⟩ := int_ex h2
  exact ⟨ii, nn, e1, e3, by omega⟩
theorem ix240b {p i x : Int32} {ii k : Nat} (hv : vp_in p 4) (ei : i = nI ii) (e : x = nI k) (h : ii + k < 60) : vp_in ((60 * p + i) + x) 240 := by
  obtain ⟨j, hj, ej⟩ := vp_in_of hv (by decide)
  rw [ej, ei, e, show (60 : Int32) = nI 60 from rfl, pk_mul, nI_add, nI_add]
  exact vp_in_nI (by omega) (by decide)
theorem ix240 {p x : Int32} {k : Nat} (hv : vp_in p 4) (e : x = nI k) (h : k < 60) : vp_in (60 * p + x) 240 := by
  obtain ⟨j, hj, ej⟩ := vp_in_of hv (by decide)
  rw [ej, e, show (60 : Int32) = nI 60 from rfl, pk_mul, nI_add]
  exact vp_in_nI (by omega) (by decide)
theorem sz_ex {p : Int32} (c1 : p ≤ 60) (c2 : 0 ≤ p) : ∃ nn : Nat, nn ≤ 60 ∧ p = nI nn := by
  have h1 := Int32.le_iff_toInt_le.mp c1
  have h2 := Int32.le_iff_toInt_le.mp c2
  rw [show (60 : Int32).toInt = 60 from rfl] at h1
  rw [show (0 : Int32).toInt = 0 from rfl] at h2
  obtain ⟨nn, e1, e2, -⟩ := int_ex h2
  exact ⟨nn, by omega, e1⟩
def fX4_cellsBarred (v : Mem) (p0 : Int32) (p1 : Int32) (p2 : Int32) (p3 : Int64) : Int32 × Mem :=
  (if (v 12 p0.toNatClampNeg) < 0 then (if 0 ≤ (v 12 p0.toNatClampNeg) then (if 0 ≤ (lg_cmp p3 0) then (if (fX4_isBeyond p2 p3 (v 12 p0.toNatClampNeg)) = 0 then (0, v) else ((fX4_failed v 3).1, (fX4_failed v 3).2)) else ((fX4_failed v 4).1, (fX4_failed v 4).2)) else ((fX4_failed v 1).1, (fX4_failed v 1).2)) else (if (v 13 p0.toNatClampNeg) = p1 then (if 0 ≤ (v 12 p0.toNatClampNeg) then (if 0 ≤ (lg_cmp p3 0) then (if (fX4_isBeyond p2 p3 (v 12 p0.toNatClampNeg)) = 0 then (0, v) else ((fX4_failed v 3).1, (fX4_failed v 3).2)) else ((fX4_failed v 4).1, (fX4_failed v 4).2)) else ((fX4_failed v 1).1, (fX4_failed v 1).2)) else ((fX4_failed v 2).1, (fX4_failed v 2).2)))
set_option maxRecDepth 100000 in
set_option maxHeartbeats 4000000 in
theorem kX4_cellsBarred (l : Launch) (D : va_G) (cz : ClassId) (bd : Nat → Nat) (hI : MI bd) (v : Mem) (p0 : Int32) (p1 : Int32) (p2 : Int32) (p3 : Int64) (hp : vp_in p0 4) : Met l yX4_cellsBarred wsX4_cellsBarred ({ frames := 1, cells := 0, slots := 0, locals := 23 } : Room) (va_Pc [.ref (bd 0), .int p0, .int p1, .int p2, .long p3] (MB D cz bd v)) (qW (MB D cz bd (fX4_cellsBarred v p0 p1 p2 p3).2) (AM bd) (some (.int (fX4_cellsBarred v p0 p1 p2 p3).1))) 0 0 (AM bd) := by
  refine m_start (cc := cX4_cellsBarred) (maxL := 6) (ret := (some .int)) (by decide) rfl (Nat.le_of_ble_eq_true rfl) (fun p e s m below meth c hx hb hr hts hown hml hlk _ hB ls hl => ?_)
  obtain ⟨hP, hK⟩ := hB
  have hown : s.vm.findClass RX4 = some m.cls := hown
  have hl : lv_has ls 6 [(0, .ref (bd 0)), (1, .int p0), (2, .int p1), (3, .int p2), (4, .long p3)] := hl
  have hin_X4 : ∀ w ∈ wsX40, w ∈ wsX4_cellsBarred := fun _ h => List.mem_cons_of_mem _ (List.mem_append_right _ (h))
  obtain ⟨H, hH⟩ : ∃ H, H = s.heap := ⟨_, rfl⟩
  obtain ⟨locs, hlo⟩ : ∃ z : List Loc, z = [] := ⟨_, rfl⟩
  have hS : va_S (AM bd) s.heap H locs := by rw [hH, hlo]; exact va_S.rf
  have hP : va_P D vwCl (wM cz bd v) H := by rw [hH]; exact hP
  suffices hgoal : W p l e ({ frames := 1, cells := 0, slots := 0, locals := 23 } : Room) s m ([.ref (bd 0), .int p0, .int p1, .int p2, .long p3] : List Value).toArray below meth c H locs 0 0 (MQ below (qW (MB D cz bd (fX4_cellsBarred v p0 p1 p2 p3).2) (AM bd) (some (.int (fX4_cellsBarred v p0 p1 p2 p3).1))) ([.ref (bd 0), .int p0, .int p1, .int p2, .long p3] : List Value).toArray s 0 0 (AM bd)) (F0 m 0 ls []) by rw [hH, hlo] at hgoal; exact hgoal
  clear hH hlo
  refine lv_aload_n hx hb dX4_cellsBarred_0 rfl (lv_at hl 0 rfl) ?_
  refine zg_X4_sheetSize hx hb hts hin_X4 hown hK hP (hts (Cond.fieldLink RX4 43 "ProphetCoverModel" "sheetSize" "[I") (List.mem_of_getElem? (i := 1) rfl)) dX4_cellsBarred_1 ?_
  refine lv_iload_n hx hb dX4_cellsBarred_4 rfl (lv_at hl 1 rfl) ?_
  refine zl_M (by decide) (by decide) rfl hx hb hK hP (by assumption) dX4_cellsBarred_5 ?_
  refine lv_if_lt (tgt := 25) hx hb dX4_cellsBarred_6 (by decide) (fun c1 => ?_) (fun c1 => ?_)
  · refine lv_aload_n hx hb dX4_cellsBarred_25 rfl (lv_at hl 0 rfl) ?_
    refine zg_X4_sheetSize hx hb hts hin_X4 hown hK hP (hts (Cond.fieldLink RX4 43 "ProphetCoverModel" "sheetSize" "[I") (List.mem_of_getElem? (i := 1) rfl)) dX4_cellsBarred_26 ?_
    refine lv_iload_n hx hb dX4_cellsBarred_29 rfl (lv_at hl 1 rfl) ?_
    refine zl_M (by decide) (by decide) rfl hx hb hK hP (by assumption) dX4_cellsBarred_30 ?_
    refine lv_if_ge (tgt := 40) hx hb dX4_cellsBarred_31 (by decide) (fun c2 => ?_) (fun c2 => ?_)
    · refine lv_lload hx hb dX4_cellsBarred_40 (lv_at hl 4 rfl) ?_
      refine lv_lconst (v := 0) hx hb dX4_cellsBarred_42 (by decide) ?_
      refine W.lcmp hx hb dX4_cellsBarred_43 ?_
      refine lv_if_ge (tgt := 53) hx hb dX4_cellsBarred_44 (by decide) (fun c3 => ?_) (fun c3 => ?_)
      · refine lv_iload_n hx hb dX4_cellsBarred_53 rfl (lv_at hl 3 rfl) ?_
        refine lv_lload hx hb dX4_cellsBarred_54 (lv_at hl 4 rfl) ?_
        refine lv_aload_n hx hb dX4_cellsBarred_56 rfl (lv_at hl 0 rfl) ?_
        refine zg_X4_sheetSize hx hb hts hin_X4 hown hK hP (hts (Cond.fieldLink RX4 43 "ProphetCoverModel" "sheetSize" "[I") (List.mem_of_getElem? (i := 1) rfl)) dX4_cellsBarred_57 ?_
        refine lv_iload_n hx hb dX4_cellsBarred_60 rfl (lv_at hl 1 rfl) ?_
        refine zl_M (by decide) (by decide) rfl hx hb hK hP (by assumption) dX4_cellsBarred_61 ?_
        refine kS (n := 3) (As := [.int p2, .long p3, .int (v 12 p0.toNatClampNeg)]) (rest := []) ⟨hx, hb, hml, hown, hts⟩ (kX4_isBeyond l p2 p3 (v 12 p0.toNatClampNeg)) gX4_cellsBarred_X4_isBeyond rfl rfl rfl (by decide +kernel) ⟨Nat.le_of_ble_eq_true rfl, Nat.le_of_ble_eq_true rfl⟩ (fun _ _ _ => trivial) (fun _ _ _ _ _ => trivial) rfl hl.1 rfl (Nat.le_of_ble_eq_true rfl) dX4_cellsBarred_62 ⟨Nat.le_refl _, Nat.le_refl _⟩ ?_
        refine lv_if_eq (tgt := 76) hx hb dX4_cellsBarred_65 (by decide) (fun c4 => ?_) (fun c4 => ?_)
        · refine lv_iconst (v := 0) hx hb dX4_cellsBarred_76 (by decide) ?_
          exact rMI hx hb hr hlk hK hP hS dX4_cellsBarred_77 (by rw [fX4_cellsBarred, if_pos c1, if_pos c2, if_pos c3, if_pos c4])
        · refine lv_aload_n hx hb dX4_cellsBarred_68 rfl (lv_at hl 0 rfl) ?_
          refine lv_iconst (v := 3) hx hb dX4_cellsBarred_69 (by decide) ?_
          refine kWM (n := 1) (As := [.int 3]) (rest := []) ⟨hx, hb, hml, hown, hts⟩ (kX4_failed l D cz bd hI v 3) gX4_cellsBarred_X4_failed rfl rfl rfl (by decide +kernel) ⟨Nat.le_of_ble_eq_true rfl, Nat.le_of_ble_eq_true rfl⟩ (recvM hP hK) hP hK hS rfl hl.1 rfl (Nat.le_of_ble_eq_true rfl) dX4_cellsBarred_70 ⟨Nat.le_refl _, Nat.le_refl _⟩ (fun H locs hP hS => ?_)
          refine lv_goto (tgt := 77) hx hb dX4_cellsBarred_73 (by decide) ?_
          exact rMI hx hb hr hlk hK hP hS dX4_cellsBarred_77 (by rw [fX4_cellsBarred, if_pos c1, if_pos c2, if_pos c3, if_neg c4])
      · refine lv_aload_n hx hb dX4_cellsBarred_47 rfl (lv_at hl 0 rfl) ?_
        refine lv_iconst (v := 4) hx hb dX4_cellsBarred_48 (by decide) ?_
        refine kWM (n := 1) (As := [.int 4]) (rest := []) ⟨hx, hb, hml, hown, hts⟩ (kX4_failed l D cz bd hI v 4) gX4_cellsBarred_X4_failed rfl rfl rfl (by decide +kernel) ⟨Nat.le_of_ble_eq_true rfl, Nat.le_of_ble_eq_true rfl⟩ (recvM hP hK) hP hK hS rfl hl.1 rfl (Nat.le_of_ble_eq_true rfl) dX4_cellsBarred_49 ⟨Nat.le_refl _, Nat.le_refl _⟩ (fun H locs hP hS => ?_)
        exact rMI hx hb hr hlk hK hP hS dX4_cellsBarred_52 (by rw [fX4_cellsBarred, if_pos c1, if_pos c2, if_neg c3])
    · refine lv_aload_n hx hb dX4_cellsBarred_34 rfl (lv_at hl 0 rfl) ?_
      refine lv_iconst (v := 1) hx hb dX4_cellsBarred_35 (by decide) ?_
      refine kWM (n := 1) (As := [.int 1]) (rest := []) ⟨hx, hb, hml, hown, hts⟩ (kX4_failed l D cz bd hI v 1) gX4_cellsBarred_X4_failed rfl rfl rfl (by decide +kernel) ⟨Nat.le_of_ble_eq_true rfl, Nat.le_of_ble_eq_true rfl⟩ (recvM hP hK) hP hK hS rfl hl.1 rfl (Nat.le_of_ble_eq_true rfl) dX4_cellsBarred_36 ⟨Nat.le_refl _, Nat.le_refl _⟩ (fun H locs hP hS => ?_)
      exact rMI hx hb hr hlk hK hP hS dX4_cellsBarred_39 (by rw [fX4_cellsBarred, if_pos c1, if_neg c2])
  · refine lv_aload_n hx hb dX4_cellsBarred_9 rfl (lv_at hl 0 rfl) ?_
    refine zg_X4_sheetLane hx hb hts hin_X4 hown hK hP (hts (Cond.fieldLink RX4 46 "ProphetCoverModel" "sheetLane" "[I") (List.mem_of_getElem? (i := 2) rfl)) dX4_cellsBarred_10 ?_
    refine lv_iload_n hx hb dX4_cellsBarred_13 rfl (lv_at hl 1 rfl) ?_
    refine zl_M (by decide) (by decide) rfl hx hb hK hP (by assumption) dX4_cellsBarred_14 ?_
    refine lv_iload_n hx hb dX4_cellsBarred_15 rfl (lv_at hl 2 rfl) ?_
    refine lv_icmp_eq (tgt := 25) hx hb dX4_cellsBarred_16 (by decide) (fun c5 => ?_) (fun c5 => ?_)
    · refine lv_aload_n hx hb dX4_cellsBarred_25 rfl (lv_at hl 0 rfl) ?_
      refine zg_X4_sheetSize hx hb hts hin_X4 hown hK hP (hts (Cond.fieldLink RX4 43 "ProphetCoverModel" "sheetSize" "[I") (List.mem_of_getElem? (i := 1) rfl)) dX4_cellsBarred_26 ?_
      refine lv_iload_n hx hb dX4_cellsBarred_29 rfl (lv_at hl 1 rfl) ?_
      refine zl_M (by decide) (by decide) rfl hx hb hK hP (by assumption) dX4_cellsBarred_30 ?_
      refine lv_if_ge (tgt := 40) hx hb dX4_cellsBarred_31 (by decide) (fun c6 => ?_) (fun c6 => ?_)
      · refine lv_lload hx hb dX4_cellsBarred_40 (lv_at hl 4 rfl) ?_
        refine lv_lconst (v := 0) hx hb dX4_cellsBarred_42 (by decide) ?_
        refine W.lcmp hx hb dX4_cellsBarred_43 ?_
        refine lv_if_ge (tgt := 53) hx hb dX4_cellsBarred_44 (by decide) (fun c7 => ?_) (fun c7 => ?_)
        · refine lv_iload_n hx hb dX4_cellsBarred_53 rfl (lv_at hl 3 rfl) ?_
          refine lv_lload hx hb dX4_cellsBarred_54 (lv_at hl 4 rfl) ?_
          refine lv_aload_n hx hb dX4_cellsBarred_56 rfl (lv_at hl 0 rfl) ?_
          refine zg_X4_sheetSize hx hb hts hin_X4 hown hK hP (hts (Cond.fieldLink RX4 43 "ProphetCoverModel" "sheetSize" "[I") (List.mem_of_getElem? (i := 1) rfl)) dX4_cellsBarred_57 ?_
          refine lv_iload_n hx hb dX4_cellsBarred_60 rfl (lv_at hl 1 rfl) ?_
          refine zl_M (by decide) (by decide) rfl hx hb hK hP (by assumption) dX4_cellsBarred_61 ?_
          refine kS (n := 3) (As := [.int p2, .long p3, .int (v 12 p0.toNatClampNeg)]) (rest := []) ⟨hx, hb, hml, hown, hts⟩ (kX4_isBeyond l p2 p3 (v 12 p0.toNatClampNeg)) gX4_cellsBarred_X4_isBeyond rfl rfl rfl (by decide +kernel) ⟨Nat.le_of_ble_eq_true rfl, Nat.le_of_ble_eq_true rfl⟩ (fun _ _ _ => trivial) (fun _ _ _ _ _ => trivial) rfl hl.1 rfl (Nat.le_of_ble_eq_true rfl) dX4_cellsBarred_62 ⟨Nat.le_refl _, Nat.le_refl _⟩ ?_
          refine lv_if_eq (tgt := 76) hx hb dX4_cellsBarred_65 (by decide) (fun c8 => ?_) (fun c8 => ?_)
          · refine lv_iconst (v := 0) hx hb dX4_cellsBarred_76 (by decide) ?_
            exact rMI hx hb hr hlk hK hP hS dX4_cellsBarred_77 (by rw [fX4_cellsBarred, if_neg c1, if_pos c5, if_pos c6, if_pos c7, if_pos c8])
          · refine lv_aload_n hx hb dX4_cellsBarred_68 rfl (lv_at hl 0 rfl) ?_
            refine lv_iconst (v := 3) hx hb dX4_cellsBarred_69 (by decide) ?_
            refine kWM (n := 1) (As := [.int 3]) (rest := []) ⟨hx, hb, hml, hown, hts⟩ (kX4_failed l D cz bd hI v 3) gX4_cellsBarred_X4_failed rfl rfl rfl (by decide +kernel) ⟨Nat.le_of_ble_eq_true rfl, Nat.le_of_ble_eq_true rfl⟩ (recvM hP hK) hP hK hS rfl hl.1 rfl (Nat.le_of_ble_eq_true rfl) dX4_cellsBarred_70 ⟨Nat.le_refl _, Nat.le_refl _⟩ (fun H locs hP hS => ?_)
            refine lv_goto (tgt := 77) hx hb dX4_cellsBarred_73 (by decide) ?_
            exact rMI hx hb hr hlk hK hP hS dX4_cellsBarred_77 (by rw [fX4_cellsBarred, if_neg c1, if_pos c5, if_pos c6, if_pos c7, if_neg c8])
        · refine lv_aload_n hx hb dX4_cellsBarred_47 rfl (lv_at hl 0 rfl) ?_
          refine lv_iconst (v := 4) hx hb dX4_cellsBarred_48 (by decide) ?_
          refine kWM (n := 1) (As := [.int 4]) (rest := []) ⟨hx, hb, hml, hown, hts⟩ (kX4_failed l D cz bd hI v 4) gX4_cellsBarred_X4_failed rfl rfl rfl (by decide +kernel) ⟨Nat.le_of_ble_eq_true rfl, Nat.le_of_ble_eq_true rfl⟩ (recvM hP hK) hP hK hS rfl hl.1 rfl (Nat.le_of_ble_eq_true rfl) dX4_cellsBarred_49 ⟨Nat.le_refl _, Nat.le_refl _⟩ (fun H locs hP hS => ?_)
          exact rMI hx hb hr hlk hK hP hS dX4_cellsBarred_52 (by rw [fX4_cellsBarred, if_neg c1, if_pos c5, if_pos c6, if_neg c7])
      · refine lv_aload_n hx hb dX4_cellsBarred_34 rfl (lv_at hl 0 rfl) ?_
        refine lv_iconst (v := 1) hx hb dX4_cellsBarred_35 (by decide) ?_
        refine kWM (n := 1) (As := [.int 1]) (rest := []) ⟨hx, hb, hml, hown, hts⟩ (kX4_failed l D cz bd hI v 1) gX4_cellsBarred_X4_failed rfl rfl rfl (by decide +kernel) ⟨Nat.le_of_ble_eq_true rfl, Nat.le_of_ble_eq_true rfl⟩ (recvM hP hK) hP hK hS rfl hl.1 rfl (Nat.le_of_ble_eq_true rfl) dX4_cellsBarred_36 ⟨Nat.le_refl _, Nat.le_refl _⟩ (fun H locs hP hS => ?_)
        exact rMI hx hb hr hlk hK hP hS dX4_cellsBarred_39 (by rw [fX4_cellsBarred, if_neg c1, if_pos c5, if_neg c6])
    · refine lv_aload_n hx hb dX4_cellsBarred_19 rfl (lv_at hl 0 rfl) ?_
      refine lv_iconst (v := 2) hx hb dX4_cellsBarred_20 (by decide) ?_
      refine kWM (n := 1) (As := [.int 2]) (rest := []) ⟨hx, hb, hml, hown, hts⟩ (kX4_failed l D cz bd hI v 2) gX4_cellsBarred_X4_failed rfl rfl rfl (by decide +kernel) ⟨Nat.le_of_ble_eq_true rfl, Nat.le_of_ble_eq_true rfl⟩ (recvM hP hK) hP hK hS rfl hl.1 rfl (Nat.le_of_ble_eq_true rfl) dX4_cellsBarred_21 ⟨Nat.le_refl _, Nat.le_refl _⟩ (fun H locs hP hS => ?_)
      exact rMI hx hb hr hlk hK hP hS dX4_cellsBarred_24 (by rw [fX4_cellsBarred, if_neg c1, if_neg c5])
theorem cb_fact {v : Mem} {k lane i : Int32} {n : Int64} (c : 0 ≤ (fX4_cellsBarred v k lane i n).1) : fX4_cellsBarred v k lane i n = (0, v) ∧ v 13 k.toNatClampNeg = lane ∧ fX4_isBeyond i n (v 12 k.toNatClampNeg) = 0 ∧ 0 ≤ v 12 k.toNatClampNeg := by
  have n1 : ∀ x : Int32, x = 1 ∨ x = 2 ∨ x = 3 ∨ x = 4 → ¬ 0 ≤ (fX4_failed v x).1 := by
    intro x hx
    rcases hx with rfl | rfl | rfl | rfl <;> (show ¬ (0 : Int32) ≤ -10 - _; decide)
  rw [fX4_cellsBarred] at c ⊢
  by_cases c1 : v 12 k.toNatClampNeg < 0
  · have c2 : ¬ 0 ≤ v 12 k.toNatClampNeg := fun q => Int32.not_le.mpr c1 q
    rw [if_pos c1, if_neg c2] at c
    exact absurd c (n1 1 (by simp))
  rw [if_neg c1] at c ⊢
  by_cases c2 : v 13 k.toNatClampNeg = lane
  · rw [if_pos c2] at c ⊢
    by_cases c3 : 0 ≤ v 12 k.toNatClampNeg
    · rw [if_pos c3] at c ⊢
      by_cases c4 : 0 ≤ lg_cmp n 0
      · rw [if_pos c4] at c ⊢
        by_cases c5 : fX4_isBeyond i n (v 12 k.toNatClampNeg) = 0
        · rw [if_pos c5]
          exact ⟨rfl, c2, c5, c3⟩
        · rw [if_neg c5] at c
          exact absurd c (n1 3 (by simp))
      · rw [if_neg c4] at c
        exact absurd c (n1 4 (by simp))
    · rw [if_neg c3] at c
      exact absurd c (n1 1 (by simp))
  · rw [if_neg c2] at c
    exact absurd c (n1 2 (by simp))
theorem cb_mem {v : Mem} {k lane i : Int32} {n : Int64} (c : 0 ≤ (fX4_cellsBarred v k lane i n).1) : (fX4_cellsBarred v k lane i n).2 = v := by rw [(cb_fact c).1]
theorem cb_gr {v : Mem} {k lane i n : Int32} (h : SzOkM v) (hv : vp_in k 4) (c : 0 ≤ (fX4_cellsBarred v k lane i n.toInt64).1) : GrOk (60 * k + i) n := by
  obtain ⟨ii, nn, e1, e2, h3⟩ := ib_ok h (vlt hv) (cb_fact c).2.2.1
  obtain ⟨j, hj, ej⟩ := vp_in_of hv (by decide)
  refine ⟨60 * j + ii, nn, ?_, e2, by omega, by omega⟩
  rw [ej, e1, show (60 : Int32) = nI 60 from rfl, pk_mul, nI_add]
def fX4_noSheet (p0 : Int32) : Int32 :=
  (if (fX4_in ((p0).toInt64) 0 3) = 0 then 1 else 0)
set_option maxRecDepth 100000 in
set_option maxHeartbeats 4000000 in
theorem kX4_noSheet (l : Launch)  (p0 : Int32)  : Met l yX4_noSheet wsX4_noSheet ({ frames := 1, cells := 0, slots := 0, locals := 25 } : Room) (va_Pc [.int p0] (fun _ => True)) (qR (some (.int (fX4_noSheet p0)))) 0 0 noF := by
  refine m_start (cc := cX4_noSheet) (maxL := 1) (ret := (some .boolean)) (by decide) rfl (Nat.le_of_ble_eq_true rfl) (fun p e s m below meth c hx hb hr hts hown hml hlk _ hB ls hl => ?_)
  have hown : s.vm.findClass RX4 = some m.cls := hown
  have hl : lv_has ls 1 [(0, .int p0)] := hl
  refine lv_iload_n hx hb dX4_noSheet_0 rfl (lv_at hl 0 rfl) ?_
  refine lv_i2l hx hb dX4_noSheet_1 rfl ?_
  refine lv_lconst (v := 0) hx hb dX4_noSheet_2 (by decide) ?_
  refine lv_ldc2 hx hb hown (hts (Cond.constantLong RX4 173 (3)) (List.mem_of_getElem? (i := 1) rfl)) dX4_noSheet_3 ?_
  refine kS (n := 3) (As := [.long (p0).toInt64, .long 0, .long 3]) (rest := []) ⟨hx, hb, hml, hown, hts⟩ (kX4_in l ((p0).toInt64) 0 3) gX4_noSheet_X4_in rfl rfl rfl (by decide +kernel) ⟨Nat.le_of_ble_eq_true rfl, Nat.le_of_ble_eq_true rfl⟩ (fun _ _ _ => trivial) (fun _ _ _ _ _ => trivial) rfl hl.1 rfl (Nat.le_of_ble_eq_true rfl) dX4_noSheet_6 ⟨Nat.le_refl _, Nat.le_refl _⟩ ?_
  refine lv_if_ne (tgt := 16) hx hb dX4_noSheet_9 (by decide) (fun c1 => ?_) (fun c1 => ?_)
  · refine lv_iconst (v := 0) hx hb dX4_noSheet_16 (by decide) ?_
    exact rZ hx hb hr hlk (by rfl) dX4_noSheet_17 (by rw [fX4_noSheet, if_neg c1])
  · refine lv_iconst (v := 1) hx hb dX4_noSheet_12 (by decide) ?_
    refine lv_goto (tgt := 17) hx hb dX4_noSheet_13 (by decide) ?_
    exact rZ hx hb hr hlk (by rfl) dX4_noSheet_17 (by rw [fX4_noSheet, if_pos c1])
theorem noSheet_in {k : Int32} (c : fX4_noSheet k = 0) : vp_in k 4 := by
  unfold fX4_noSheet at c
  by_cases c1 : fX4_in k.toInt64 0 3 = 0
  · rw [if_pos c1] at c; exact absurd c (by decide)
  have h2 := (in_spec _ _ _).mp c1
  rw [i64_32, show (0 : Int64).toInt = 0 from rfl, show (3 : Int64).toInt = 3 from rfl] at h2
  exact in_of h2.1 (by omega)
def fX4_office_c130 (v : Mem) (p0 : Int32) (p1 : Int32) (p2 : Int32) (p3 : Int32)  : Nat → Mem → Int32 → Int32 × Mem
  | 0, w130, x6 => (0, w130)
  | n130 + 1, w130, x6 => (if (w130 0 3) ≤ x6 then ((fX4_refused (mset w130 0 18 0) ((mset w130 0 18 0) 0 3)).1, (fX4_refused (mset w130 0 18 0) ((mset w130 0 18 0) 0 3)).2) else (fX4_office_c130 v p0 p1 p2 p3 n130 (mset (mset (mset w130 2 x6.toNatClampNeg (w130 6 x6.toNatClampNeg)) 3 x6.toNatClampNeg ((mset w130 2 x6.toNatClampNeg (w130 6 x6.toNatClampNeg)) 7 x6.toNatClampNeg)) 4 x6.toNatClampNeg ((mset (mset w130 2 x6.toNatClampNeg (w130 6 x6.toNatClampNeg)) 3 x6.toNatClampNeg ((mset w130 2 x6.toNatClampNeg (w130 6 x6.toNatClampNeg)) 7 x6.toNatClampNeg)) 8 x6.toNatClampNeg)) (x6 + 1)))
def fX4_office_c98 (v : Mem) (p0 : Int32) (p1 : Int32) (p2 : Int32) (p3 : Int32)  : Nat → Mem → Int32 → Int32 × Mem
  | 0, w98, x6 => (0, w98)
  | n98 + 1, w98, x6 => (if (w98 0 1) ≤ x6 then (fX4_office_c130 v p0 p1 p2 p3 (5) w98 0) else (fX4_office_c98 v p0 p1 p2 p3 n98 (mset w98 1 x6.toNatClampNeg (w98 5 x6.toNatClampNeg)) (x6 + 1)))
def fX4_office (v : Mem) (p0 : Int32) (p1 : Int32) (p2 : Int32) (p3 : Int32) : Int32 × Mem :=
  (if (fX4_noSheet p0) = 0 then (if (fX4_in ((p1).toInt64) 0 2) = 0 then ((fX4_refused v (-2)).1, (fX4_refused v (-2)).2) else (if 0 ≤ (fX4_cellsBarred v p0 p1 p2 ((p3).toInt64)).1 then (if (fX4_readsOffice v ((60 * p0) + p2) p3).1 = 0 then ((fX4_refused ((fX4_readsOffice v ((60 * p0) + p2) p3).2) ((-100) - ((fX4_readsOffice v ((60 * p0) + p2) p3).2 0 7))).1, (fX4_refused ((fX4_readsOffice v ((60 * p0) + p2) p3).2) ((-100) - ((fX4_readsOffice v ((60 * p0) + p2) p3).2 0 7))).2) else (fX4_office_c98 v p0 p1 p2 p3 (6) (mset (mset (fX4_readsOffice v ((60 * p0) + p2) p3).2 0 1 ((fX4_readsOffice v ((60 * p0) + p2) p3).2 0 8)) 0 3 ((mset (fX4_readsOffice v ((60 * p0) + p2) p3).2 0 1 ((fX4_readsOffice v ((60 * p0) + p2) p3).2 0 8)) 0 9)) 0)) else ((fX4_cellsBarred v p0 p1 p2 ((p3).toInt64)).1, (fX4_cellsBarred v p0 p1 p2 ((p3).toInt64)).2))) else ((fX4_refused v (-1)).1, (fX4_refused v (-1)).2))
set_option maxRecDepth 100000 in
set_option maxHeartbeats 4000000 in
theorem kX4_office (l : Launch) (D : va_G) (cz : ClassId) (bd : Nat → Nat) (hI : MI bd) (v : Mem) (p0 : Int32) (p1 : Int32) (p2 : Int32) (p3 : Int32) (hsz : SzOkM v) : Met l yX4_office wsX4_office ({ frames := 4, cells := 0, slots := 0, locals := 99 } : Room) (va_Pc [.ref (bd 0), .int p0, .int p1, .int p2, .int p3] (MB D cz bd v)) (qW (MB D cz bd (fX4_office v p0 p1 p2 p3).2) (AM bd) (some (.int (fX4_office v p0 p1 p2 p3).1))) 0 0 (AM bd) := by
  refine m_start (cc := cX4_office) (maxL := 7) (ret := (some .int)) (by decide) rfl (Nat.le_of_ble_eq_true rfl) (fun p e s m below meth c hx hb hr hts hown hml hlk _ hB ls hl => ?_)
  obtain ⟨hP, hK⟩ := hB
  have hown : s.vm.findClass RX4 = some m.cls := hown
  have hl : lv_has ls 7 [(0, .ref (bd 0)), (1, .int p0), (2, .int p1), (3, .int p2), (4, .int p3)] := hl
  have hin_X4 : ∀ w ∈ wsX40, w ∈ wsX4_office := fun _ h => List.mem_cons_of_mem _ (List.mem_append_right _ (h))
  obtain ⟨H, hH⟩ : ∃ H, H = s.heap := ⟨_, rfl⟩
  obtain ⟨locs, hlo⟩ : ∃ z : List Loc, z = [] := ⟨_, rfl⟩
  have hS : va_S (AM bd) s.heap H locs := by rw [hH, hlo]; exact va_S.rf
  have hP : va_P D vwCl (wM cz bd v) H := by rw [hH]; exact hP
  suffices hgoal : W p l e ({ frames := 4, cells := 0, slots := 0, locals := 99 } : Room) s m ([.ref (bd 0), .int p0, .int p1, .int p2, .int p3] : List Value).toArray below meth c H locs 0 0 (MQ below (qW (MB D cz bd (fX4_office v p0 p1 p2 p3).2) (AM bd) (some (.int (fX4_office v p0 p1 p2 p3).1))) ([.ref (bd 0), .int p0, .int p1, .int p2, .int p3] : List Value).toArray s 0 0 (AM bd)) (F0 m 0 ls []) by rw [hH, hlo] at hgoal; exact hgoal
  clear hH hlo
  refine lv_iload_n hx hb dX4_office_0 rfl (lv_at hl 1 rfl) ?_
  refine kS (n := 1) (As := [.int p0]) (rest := []) ⟨hx, hb, hml, hown, hts⟩ (kX4_noSheet l p0) gX4_office_X4_noSheet rfl rfl rfl (by decide +kernel) ⟨Nat.le_of_ble_eq_true rfl, Nat.le_of_ble_eq_true rfl⟩ (fun _ _ _ => trivial) (fun _ _ _ _ _ => trivial) rfl hl.1 rfl (Nat.le_of_ble_eq_true rfl) dX4_office_1 ⟨Nat.le_refl _, Nat.le_refl _⟩ ?_
  refine lv_if_eq (tgt := 13) hx hb dX4_office_4 (by decide) (fun c1 => ?_) (fun c1 => ?_)
  · have hv1 : vp_in p0 4 := noSheet_in c1
    refine lv_iload_n hx hb dX4_office_13 rfl (lv_at hl 2 rfl) ?_
    refine lv_i2l hx hb dX4_office_14 rfl ?_
    refine lv_lconst (v := 0) hx hb dX4_office_15 (by decide) ?_
    refine lv_ldc2 hx hb hown (hts (Cond.constantLong RX4 118 (2)) (List.mem_of_getElem? (i := 1) rfl)) dX4_office_16 ?_
    refine kS (n := 3) (As := [.long (p1).toInt64, .long 0, .long 2]) (rest := []) ⟨hx, hb, hml, hown, hts⟩ (kX4_in l ((p1).toInt64) 0 2) gX4_office_X4_in rfl rfl rfl (by decide +kernel) ⟨Nat.le_of_ble_eq_true rfl, Nat.le_of_ble_eq_true rfl⟩ (fun _ _ _ => trivial) (fun _ _ _ _ _ => trivial) rfl hl.1 rfl (Nat.le_of_ble_eq_true rfl) dX4_office_19 ⟨Nat.le_refl _, Nat.le_refl _⟩ ?_
    refine lv_if_ne (tgt := 32) hx hb dX4_office_22 (by decide) (fun c2 => ?_) (fun c2 => ?_)
    · refine lv_aload_n hx hb dX4_office_32 rfl (lv_at hl 0 rfl) ?_
      refine lv_iload_n hx hb dX4_office_33 rfl (lv_at hl 1 rfl) ?_
      refine lv_iload_n hx hb dX4_office_34 rfl (lv_at hl 2 rfl) ?_
      refine lv_iload_n hx hb dX4_office_35 rfl (lv_at hl 3 rfl) ?_
      refine lv_iload hx hb dX4_office_36 (lv_at hl 4 rfl) ?_
      refine lv_i2l hx hb dX4_office_38 rfl ?_
      refine kWM (n := 4) (As := [.int p0, .int p1, .int p2, .long (p3).toInt64]) (rest := []) ⟨hx, hb, hml, hown, hts⟩ (kX4_cellsBarred l D cz bd hI v p0 p1 p2 ((p3).toInt64) (by assumption)) gX4_office_X4_cellsBarred rfl rfl rfl (by decide +kernel) ⟨Nat.le_of_ble_eq_true rfl, Nat.le_of_ble_eq_true rfl⟩ (recvM hP hK) hP hK hS rfl hl.1 rfl (Nat.le_of_ble_eq_true rfl) dX4_office_39 ⟨Nat.le_refl _, Nat.le_refl _⟩ (fun H locs hP hS => ?_)
      refine lv_istore (lv' := [(5, .int (fX4_cellsBarred v p0 p1 p2 ((p3).toInt64)).1), (0, .ref (bd 0)), (1, .int p0), (2, .int p1), (3, .int p2), (4, .int p3)]) hx hb dX4_office_42 hl (by decide) rfl (fun ls hl => ?_)
      refine lv_iload hx hb dX4_office_44 (lv_at hl 0 rfl) ?_
      refine lv_if_ge (tgt := 52) hx hb dX4_office_46 (by decide) (fun c3 => ?_) (fun c3 => ?_)
      · have hmem : (fX4_cellsBarred v p0 p1 p2 ((p3).toInt64)).2 = v := (cb_mem c3)
        have hP : va_P D vwCl (wM cz bd v) H := hmem ▸ hP
        have hgr : GrOk (60 * p0 + p2) p3 := cb_gr hsz (by assumption) (by assumption)
        refine lv_aload_n hx hb dX4_office_52 rfl (lv_at hl 1 rfl) ?_
        refine lv_bipush (v := 60) hx hb dX4_office_53 (by decide) ?_
        refine lv_iload_n hx hb dX4_office_55 rfl (lv_at hl 2 rfl) ?_
        refine lv_imul hx hb dX4_office_56 ?_
        refine lv_iload_n hx hb dX4_office_57 rfl (lv_at hl 4 rfl) ?_
        refine lv_iadd hx hb dX4_office_58 ?_
        refine lv_iload hx hb dX4_office_59 (lv_at hl 5 rfl) ?_
        refine kWM (n := 2) (As := [.int ((60 * p0) + p2), .int p3]) (rest := []) ⟨hx, hb, hml, hown, hts⟩ (kX4_readsOffice l D cz bd hI v ((60 * p0) + p2) p3 (by assumption)) gX4_office_X4_readsOffice rfl rfl rfl (by decide +kernel) ⟨Nat.le_of_ble_eq_true rfl, Nat.le_of_ble_eq_true rfl⟩ (recvM hP hK) hP hK hS rfl hl.1 rfl (Nat.le_of_ble_eq_true rfl) dX4_office_61 ⟨Nat.le_refl _, Nat.le_refl _⟩ (fun H locs hP hS => ?_)
        refine lv_if_ne (tgt := 79) hx hb dX4_office_64 (by decide) (fun c4 => ?_) (fun c4 => ?_)
        · obtain ⟨eo, heo, ro8, po, hpo, ro9⟩ := ro_ok hgr
          refine lv_aload_n hx hb dX4_office_79 rfl (lv_at hl 1 rfl) ?_
          refine lv_aload_n hx hb dX4_office_80 rfl (lv_at hl 1 rfl) ?_
          refine zg_X4_readEvents hx hb hts hin_X4 hown hK hP (hts (Cond.fieldLink RX4 86 "ProphetCoverModel" "readEvents" "I") (List.mem_of_getElem? (i := 3) rfl)) dX4_office_81 ?_
          refine zp_X4_events hx hb hts hin_X4 hown hK hP hI hS (hts (Cond.fieldLink RX4 65 "ProphetCoverModel" "events" "I") (List.mem_of_getElem? (i := 4) rfl)) dX4_office_84 (fun H locs hP hS => ?_)
          refine lv_aload_n hx hb dX4_office_87 rfl (lv_at hl 1 rfl) ?_
          refine lv_aload_n hx hb dX4_office_88 rfl (lv_at hl 1 rfl) ?_
          refine zg_X4_readProphets hx hb hts hin_X4 hown hK hP (hts (Cond.fieldLink RX4 93 "ProphetCoverModel" "readProphets" "I") (List.mem_of_getElem? (i := 5) rfl)) dX4_office_89 ?_
          refine zp_X4_prophets hx hb hts hin_X4 hown hK hP hI hS (hts (Cond.fieldLink RX4 72 "ProphetCoverModel" "prophets" "I") (List.mem_of_getElem? (i := 6) rfl)) dX4_office_92 (fun H locs hP hS => ?_)
          refine lv_iconst (v := 0) hx hb dX4_office_95 (by decide) ?_
          refine lv_istore (lv' := [(6, .int 0), (5, .int (fX4_cellsBarred v p0 p1 p2 ((p3).toInt64)).1), (0, .ref (bd 0)), (1, .int p0), (2, .int p1), (3, .int p2), (4, .int p3)]) hx hb dX4_office_96 hl (by decide) rfl (fun ls hl => ?_)
          have lp98 : ∀ (n98 : Nat) (w98 : Mem) (x6 : Int32) (k98 : Nat), (fX4_office v p0 p1 p2 p3) = (fX4_office_c98 v p0 p1 p2 p3 n98 w98 x6) → (x6 = nI k98) → (k98 ≤ eo) → (eo < k98 + n98) → (w98 0 1 = nI eo) → (w98 0 3 = nI po) → ∀ (H : Heap) (locs : List Loc), va_P D vwCl (wM cz bd w98) H → va_S (AM bd) s.heap H locs → ∀ ls : Array Slot, lv_has ls 7 [(6, .int x6), (0, .ref (bd 0))] → W p l e ({ frames := 4, cells := 0, slots := 0, locals := 99 } : Room) s m ([.ref (bd 0), .int p0, .int p1, .int p2, .int p3] : List Value).toArray below meth c H locs 0 0 (MQ below (qW (MB D cz bd (fX4_office v p0 p1 p2 p3).2) (AM bd) (some (.int (fX4_office v p0 p1 p2 p3).1))) ([.ref (bd 0), .int p0, .int p1, .int p2, .int p3] : List Value).toArray s 0 0 (AM bd)) (F0 m 98 ls []) := by
            intro n98
            induction n98 with
            | zero =>
              intro w98 x6 k98 _ e98 hk98 hm98 e98b p98 H locs hP hS ls hl
              exfalso; omega
            | succ n98 ih98 =>
              intro w98 x6 k98 hr98 e98 hk98 hm98 e98b p98 H locs hP hS ls hl
              refine lv_iload hx hb dX4_office_98 (lv_at hl 0 rfl) ?_
              refine lv_aload_n hx hb dX4_office_100 rfl (lv_at hl 1 rfl) ?_
              refine zg_X4_events hx hb hts hin_X4 hown hK hP (hts (Cond.fieldLink RX4 65 "ProphetCoverModel" "events" "I") (List.mem_of_getElem? (i := 4) rfl)) dX4_office_101 ?_
              refine lv_icmp_ge (tgt := 127) hx hb dX4_office_104 (by decide) (fun c5 => ?_) (fun c5 => ?_)
              · refine lv_iconst (v := 0) hx hb dX4_office_127 (by decide) ?_
                refine lv_istore (lv' := [(6, .int 0), (0, .ref (bd 0))]) hx hb dX4_office_128 hl (by decide) rfl (fun ls hl => ?_)
                have lp130 : ∀ (n130 : Nat) (w130 : Mem) (x6 : Int32) (k130 : Nat), (fX4_office v p0 p1 p2 p3) = (fX4_office_c130 v p0 p1 p2 p3 n130 w130 x6) → (x6 = nI k130) → (k130 ≤ po) → (po < k130 + n130) → (w130 0 3 = nI po) → ∀ (H : Heap) (locs : List Loc), va_P D vwCl (wM cz bd w130) H → va_S (AM bd) s.heap H locs → ∀ ls : Array Slot, lv_has ls 7 [(6, .int x6), (0, .ref (bd 0))] → W p l e ({ frames := 4, cells := 0, slots := 0, locals := 99 } : Room) s m ([.ref (bd 0), .int p0, .int p1, .int p2, .int p3] : List Value).toArray below meth c H locs 0 0 (MQ below (qW (MB D cz bd (fX4_office v p0 p1 p2 p3).2) (AM bd) (some (.int (fX4_office v p0 p1 p2 p3).1))) ([.ref (bd 0), .int p0, .int p1, .int p2, .int p3] : List Value).toArray s 0 0 (AM bd)) (F0 m 130 ls []) := by
                  intro n130
                  induction n130 with
                  | zero =>
                    intro w130 x6 k130 _ e130 hk130 hm130 p130 H locs hP hS ls hl
                    exfalso; omega
                  | succ n130 ih130 =>
                    intro w130 x6 k130 hr130 e130 hk130 hm130 p130 H locs hP hS ls hl
                    refine lv_iload hx hb dX4_office_130 (lv_at hl 0 rfl) ?_
                    refine lv_aload_n hx hb dX4_office_132 rfl (lv_at hl 1 rfl) ?_
                    refine zg_X4_prophets hx hb hts hin_X4 hown hK hP (hts (Cond.fieldLink RX4 72 "ProphetCoverModel" "prophets" "I") (List.mem_of_getElem? (i := 6) rfl)) dX4_office_133 ?_
                    refine lv_icmp_ge (tgt := 187) hx hb dX4_office_136 (by decide) (fun c6 => ?_) (fun c6 => ?_)
                    · refine lv_aload_n hx hb dX4_office_187 rfl (lv_at hl 1 rfl) ?_
                      refine lv_iconst (v := 0) hx hb dX4_office_188 (by decide) ?_
                      refine zp_X4_readings hx hb hts hin_X4 hown hK hP hI hS (hts (Cond.fieldLink RX4 127 "ProphetCoverModel" "readings" "I") (List.mem_of_getElem? (i := 15) rfl)) dX4_office_189 (fun H locs hP hS => ?_)
                      refine lv_aload_n hx hb dX4_office_192 rfl (lv_at hl 1 rfl) ?_
                      refine lv_aload_n hx hb dX4_office_193 rfl (lv_at hl 1 rfl) ?_
                      refine zg_X4_prophets hx hb hts hin_X4 hown hK hP (hts (Cond.fieldLink RX4 72 "ProphetCoverModel" "prophets" "I") (List.mem_of_getElem? (i := 6) rfl)) dX4_office_194 ?_
                      refine kWM (n := 1) (As := [.int ((mset w130 0 18 0) 0 3)]) (rest := []) ⟨hx, hb, hml, hown, hts⟩ (kX4_refused l D cz bd hI (mset w130 0 18 0) ((mset w130 0 18 0) 0 3)) gX4_office_X4_refused rfl rfl rfl (by decide +kernel) ⟨Nat.le_of_ble_eq_true rfl, Nat.le_of_ble_eq_true rfl⟩ (recvM hP hK) hP hK hS rfl hl.1 rfl (Nat.le_of_ble_eq_true rfl) dX4_office_197 ⟨Nat.le_refl _, Nat.le_refl _⟩ (fun H locs hP hS => ?_)
                      exact rMI hx hb hr hlk hK hP hS dX4_office_200 (by rw [hr130, fX4_office_c130, if_pos c6])
                    · have hlt130 : k130 < po := cnt_lt p130 e130 (by omega) (by omega) c6
                      have hv130 : vp_in x6 4 := cnt_in e130 (by omega) (by decide)
                      refine lv_aload_n hx hb dX4_office_139 rfl (lv_at hl 1 rfl) ?_
                      refine zg_X4_kindOf hx hb hts hin_X4 hown hK hP (hts (Cond.fieldLink RX4 13 "ProphetCoverModel" "kindOf" "[I") (List.mem_of_getElem? (i := 9) rfl)) dX4_office_140 ?_
                      refine lv_iload hx hb dX4_office_143 (lv_at hl 0 rfl) ?_
                      refine lv_aload_n hx hb dX4_office_145 rfl (lv_at hl 1 rfl) ?_
                      refine zg_X4_readKind hx hb hts hin_X4 hown hK hP (hts (Cond.fieldLink RX4 25 "ProphetCoverModel" "readKind" "[I") (List.mem_of_getElem? (i := 10) rfl)) dX4_office_146 ?_
                      refine lv_iload hx hb dX4_office_149 (lv_at hl 0 rfl) ?_
                      refine zl_M (by decide) (by decide) rfl hx hb hK hP (by assumption) dX4_office_151 ?_
                      refine zs_M (by decide) (by decide) rfl hx hb hK hP hI hS (by assumption) dX4_office_152 (fun H locs hP hS => ?_)
                      refine lv_aload_n hx hb dX4_office_153 rfl (lv_at hl 1 rfl) ?_
                      refine zg_X4_coverOf hx hb hts hin_X4 hown hK hP (hts (Cond.fieldLink RX4 16 "ProphetCoverModel" "coverOf" "[I") (List.mem_of_getElem? (i := 11) rfl)) dX4_office_154 ?_
                      refine lv_iload hx hb dX4_office_157 (lv_at hl 0 rfl) ?_
                      refine lv_aload_n hx hb dX4_office_159 rfl (lv_at hl 1 rfl) ?_
                      refine zg_X4_readCover hx hb hts hin_X4 hown hK hP (hts (Cond.fieldLink RX4 28 "ProphetCoverModel" "readCover" "[I") (List.mem_of_getElem? (i := 12) rfl)) dX4_office_160 ?_
                      refine lv_iload hx hb dX4_office_163 (lv_at hl 0 rfl) ?_
                      refine zl_M (by decide) (by decide) rfl hx hb hK hP (by assumption) dX4_office_165 ?_
                      refine zs_M (by decide) (by decide) rfl hx hb hK hP hI hS (by assumption) dX4_office_166 (fun H locs hP hS => ?_)
                      refine lv_aload_n hx hb dX4_office_167 rfl (lv_at hl 1 rfl) ?_
                      refine zg_X4_saidBy hx hb hts hin_X4 hown hK hP (hts (Cond.fieldLink RX4 19 "ProphetCoverModel" "saidBy" "[I") (List.mem_of_getElem? (i := 13) rfl)) dX4_office_168 ?_
                      refine lv_iload hx hb dX4_office_171 (lv_at hl 0 rfl) ?_
                      refine lv_aload_n hx hb dX4_office_173 rfl (lv_at hl 1 rfl) ?_
                      refine zg_X4_readSaid hx hb hts hin_X4 hown hK hP (hts (Cond.fieldLink RX4 31 "ProphetCoverModel" "readSaid" "[I") (List.mem_of_getElem? (i := 14) rfl)) dX4_office_174 ?_
                      refine lv_iload hx hb dX4_office_177 (lv_at hl 0 rfl) ?_
                      refine zl_M (by decide) (by decide) rfl hx hb hK hP (by assumption) dX4_office_179 ?_
                      refine zs_M (by decide) (by decide) rfl hx hb hK hP hI hS (by assumption) dX4_office_180 (fun H locs hP hS => ?_)
                      refine lv_iinc (v := (x6 + 1)) (lv' := [(6, .int (x6 + 1)), (0, .ref (bd 0))]) hx hb dX4_office_181 hl (k := 0) rfl rfl (by decide) rfl (fun ls hl => ?_)
                      refine lv_goto (tgt := 130) hx hb dX4_office_184 (by decide) ?_
                      exact ih130 (mset (mset (mset w130 2 x6.toNatClampNeg (w130 6 x6.toNatClampNeg)) 3 x6.toNatClampNeg ((mset w130 2 x6.toNatClampNeg (w130 6 x6.toNatClampNeg)) 7 x6.toNatClampNeg)) 4 x6.toNatClampNeg ((mset (mset w130 2 x6.toNatClampNeg (w130 6 x6.toNatClampNeg)) 3 x6.toNatClampNeg ((mset w130 2 x6.toNatClampNeg (w130 6 x6.toNatClampNeg)) 7 x6.toNatClampNeg)) 8 x6.toNatClampNeg)) (x6 + 1) (k130 + 1) (by rw [hr130, fX4_office_c130, if_neg c6]) (by rw [e130]; exact nI_1 _) hlt130 (by omega) p130 H locs hP hS ls (lv_sub hl [0, 1] rfl)
                exact lp130 (5) w98 0 (0) (by rw [hr98, fX4_office_c98, if_pos c5]) nI_0.symm (by omega) (by omega) p98 H locs hP hS ls (lv_sub hl [0, 1] rfl)
              · have hlt98 : k98 < eo := cnt_lt e98b e98 (by omega) (by omega) c5
                have hv98 : vp_in x6 5 := cnt_in e98 (by omega) (by decide)
                refine lv_aload_n hx hb dX4_office_107 rfl (lv_at hl 1 rfl) ?_
                refine zg_X4_chanceOf hx hb hts hin_X4 hown hK hP (hts (Cond.fieldLink RX4 7 "ProphetCoverModel" "chanceOf" "[I") (List.mem_of_getElem? (i := 7) rfl)) dX4_office_108 ?_
                refine lv_iload hx hb dX4_office_111 (lv_at hl 0 rfl) ?_
                refine lv_aload_n hx hb dX4_office_113 rfl (lv_at hl 1 rfl) ?_
                refine zg_X4_readChance hx hb hts hin_X4 hown hK hP (hts (Cond.fieldLink RX4 22 "ProphetCoverModel" "readChance" "[I") (List.mem_of_getElem? (i := 8) rfl)) dX4_office_114 ?_
                refine lv_iload hx hb dX4_office_117 (lv_at hl 0 rfl) ?_
                refine zl_M (by decide) (by decide) rfl hx hb hK hP (by assumption) dX4_office_119 ?_
                refine zs_M (by decide) (by decide) rfl hx hb hK hP hI hS (by assumption) dX4_office_120 (fun H locs hP hS => ?_)
                refine lv_iinc (v := (x6 + 1)) (lv' := [(6, .int (x6 + 1)), (0, .ref (bd 0))]) hx hb dX4_office_121 hl (k := 0) rfl rfl (by decide) rfl (fun ls hl => ?_)
                refine lv_goto (tgt := 98) hx hb dX4_office_124 (by decide) ?_
                exact ih98 (mset w98 1 x6.toNatClampNeg (w98 5 x6.toNatClampNeg)) (x6 + 1) (k98 + 1) (by rw [hr98, fX4_office_c98, if_neg c5]) (by rw [e98]; exact nI_1 _) hlt98 (by omega) e98b p98 H locs hP hS ls (lv_sub hl [0, 1] rfl)
          exact lp98 (6) (mset (mset (fX4_readsOffice v ((60 * p0) + p2) p3).2 0 1 ((fX4_readsOffice v ((60 * p0) + p2) p3).2 0 8)) 0 3 ((mset (fX4_readsOffice v ((60 * p0) + p2) p3).2 0 1 ((fX4_readsOffice v ((60 * p0) + p2) p3).2 0 8)) 0 9)) 0 (0) (by rw [fX4_office, if_pos c1, if_neg c2, if_pos c3, if_neg c4]) nI_0.symm (by omega) (by omega) ro8 ro9 H locs hP hS ls (lv_sub hl [0, 2] rfl)
        · refine lv_aload_n hx hb dX4_office_67 rfl (lv_at hl 1 rfl) ?_
          refine lv_bipush (v := (-100)) hx hb dX4_office_68 (by decide) ?_
          refine lv_aload_n hx hb dX4_office_70 rfl (lv_at hl 1 rfl) ?_
          refine zg_X4_readAt hx hb hts hin_X4 hown hK hP (hts (Cond.fieldLink RX4 79 "ProphetCoverModel" "readAt" "I") (List.mem_of_getElem? (i := 2) rfl)) dX4_office_71 ?_
          refine lv_isub hx hb dX4_office_74 ?_
          refine kWM (n := 1) (As := [.int ((-100) - ((fX4_readsOffice v ((60 * p0) + p2) p3).2 0 7))]) (rest := []) ⟨hx, hb, hml, hown, hts⟩ (kX4_refused l D cz bd hI ((fX4_readsOffice v ((60 * p0) + p2) p3).2) ((-100) - ((fX4_readsOffice v ((60 * p0) + p2) p3).2 0 7))) gX4_office_X4_refused rfl rfl rfl (by decide +kernel) ⟨Nat.le_of_ble_eq_true rfl, Nat.le_of_ble_eq_true rfl⟩ (recvM hP hK) hP hK hS rfl hl.1 rfl (Nat.le_of_ble_eq_true rfl) dX4_office_75 ⟨Nat.le_refl _, Nat.le_refl _⟩ (fun H locs hP hS => ?_)
          exact rMI hx hb hr hlk hK hP hS dX4_office_78 (by rw [fX4_office, if_pos c1, if_neg c2, if_pos c3, if_pos c4])
      · refine lv_iload hx hb dX4_office_49 (lv_at hl 0 rfl) ?_
        exact rMI hx hb hr hlk hK hP hS dX4_office_51 (by rw [fX4_office, if_pos c1, if_neg c2, if_neg c3])
    · refine lv_aload_n hx hb dX4_office_25 rfl (lv_at hl 0 rfl) ?_
      refine lv_bipush (v := (-2)) hx hb dX4_office_26 (by decide) ?_
      refine kWM (n := 1) (As := [.int (-2)]) (rest := []) ⟨hx, hb, hml, hown, hts⟩ (kX4_refused l D cz bd hI v (-2)) gX4_office_X4_refused rfl rfl rfl (by decide +kernel) ⟨Nat.le_of_ble_eq_true rfl, Nat.le_of_ble_eq_true rfl⟩ (recvM hP hK) hP hK hS rfl hl.1 rfl (Nat.le_of_ble_eq_true rfl) dX4_office_28 ⟨Nat.le_refl _, Nat.le_refl _⟩ (fun H locs hP hS => ?_)
      exact rMI hx hb hr hlk hK hP hS dX4_office_31 (by rw [fX4_office, if_pos c1, if_pos c2])
  · refine lv_aload_n hx hb dX4_office_7 rfl (lv_at hl 0 rfl) ?_
    refine lv_iconst (v := (-1)) hx hb dX4_office_8 (by decide) ?_
    refine kWM (n := 1) (As := [.int (-1)]) (rest := []) ⟨hx, hb, hml, hown, hts⟩ (kX4_refused l D cz bd hI v (-1)) gX4_office_X4_refused rfl rfl rfl (by decide +kernel) ⟨Nat.le_of_ble_eq_true rfl, Nat.le_of_ble_eq_true rfl⟩ (recvM hP hK) hP hK hS rfl hl.1 rfl (Nat.le_of_ble_eq_true rfl) dX4_office_9 ⟨Nat.le_refl _, Nat.le_refl _⟩ (fun H locs hP hS => ?_)
    exact rMI hx hb hr hlk hK hP hS dX4_office_12 (by rw [fX4_office, if_neg c1])
