def fX3_chance (u : Mem) (p0 : Int32) : Int32 :=
  (if (fX3_isEvent u p0) = 0 then (-1) else (u 1 p0.toNatClampNeg))
set_option maxRecDepth 100000 in
set_option maxHeartbeats 4000000 in
theorem kX3_chance (l : Launch) (D : va_G) (cy : Nat → ClassId) (ad : Nat → Nat) (u : Mem) (p0 : Int32) (hec : EcOk u) : Met l yX3_chance wsX3_chance ({ frames := 1, cells := 0, slots := 0, locals := 21 } : Room) (va_Pc [.ref (ad 0), .int p0] (XB D cy ad u)) (qR (some (.int (fX3_chance u p0)))) 0 0 noF := by
  refine m_start (cc := cX3_chance) (maxL := 2) (ret := (some .int)) (by decide) rfl (Nat.le_of_ble_eq_true rfl) (fun p e s m below meth c hx hb hr hts hown hml hlk _ hB ls hl => ?_)
  obtain ⟨hP, hK⟩ := hB
  have hown : s.vm.findClass RX3 = some m.cls := hown
  have hl : lv_has ls 2 [(0, .ref (ad 0)), (1, .int p0)] := hl
  have hin_X3 : ∀ w ∈ wsX30, w ∈ wsX3_chance := fun _ h => List.mem_cons_of_mem _ (List.mem_append_right _ (h))
  refine lv_aload_n hx hb dX3_chance_0 rfl (lv_at hl 0 rfl) ?_
  refine lv_iload_n hx hb dX3_chance_1 rfl (lv_at hl 1 rfl) ?_
  refine kV (n := 1) (As := [.int p0]) (rest := []) ⟨hx, hb, hml, hown, hts⟩ (kX3_isEvent l D cy ad u p0) gX3_chance_X3_isEvent rfl rfl rfl (by decide +kernel) ⟨Nat.le_of_ble_eq_true rfl, Nat.le_of_ble_eq_true rfl⟩ (recvX hP hK) (XB_of hP hK) XB_bl rfl hl.1 rfl (Nat.le_of_ble_eq_true rfl) dX3_chance_2 ⟨Nat.le_refl _, Nat.le_refl _⟩ ?_
  refine lv_if_eq (tgt := 17) hx hb dX3_chance_5 (by decide) (fun c1 => ?_) (fun c1 => ?_)
  · refine lv_iconst (v := (-1)) hx hb dX3_chance_17 (by decide) ?_
    exact rI hx hb hr hlk dX3_chance_18 (by rw [fX3_chance, if_pos c1])
  · have hv1 : vp_in p0 5 := isEvent_in hec c1
    refine lv_aload_n hx hb dX3_chance_8 rfl (lv_at hl 0 rfl) ?_
    refine zg_X3_chances hx hb hts hin_X3 hown hK hP (hts (Cond.fieldLink RX3 17 "ProphetCover" "chances" "[I") (List.mem_of_getElem? (i := 1) rfl)) dX3_chance_9 ?_
    refine lv_iload_n hx hb dX3_chance_12 rfl (lv_at hl 1 rfl) ?_
    refine zl_ch hx hb hK hP (by assumption) dX3_chance_13 ?_
    refine lv_goto (tgt := 18) hx hb dX3_chance_14 (by decide) ?_
    exact rI hx hb hr hlk dX3_chance_18 (by rw [fX3_chance, if_neg c1])
def fX3_isWithin (p0 : Int32) (p1 : Int32) : Int32 :=
  (if p0 < 0 then 0 else (if p1 < p0 then 0 else 1))
set_option maxRecDepth 100000 in
set_option maxHeartbeats 4000000 in
theorem kX3_isWithin (l : Launch)  (p0 : Int32) (p1 : Int32)  : Met l yX3_isWithin wsX3_isWithin ({ frames := 0, cells := 0, slots := 0, locals := 0 } : Room) (va_Pc [.int p0, .int p1] (fun _ => True)) (qR (some (.int (fX3_isWithin p0 p1)))) 0 0 noF := by
  refine m_start (cc := cX3_isWithin) (maxL := 2) (ret := (some .boolean)) (by decide) rfl (Nat.le_of_ble_eq_true rfl) (fun p e s m below meth c hx hb hr hts hown hml hlk _ hB ls hl => ?_)
  have hown : s.vm.findClass RX3 = some m.cls := hown
  have hl : lv_has ls 2 [(0, .int p0), (1, .int p1)] := hl
  refine lv_iload_n hx hb dX3_isWithin_0 rfl (lv_at hl 0 rfl) ?_
  refine lv_if_lt (tgt := 13) hx hb dX3_isWithin_1 (by decide) (fun c1 => ?_) (fun c1 => ?_)
  · refine lv_iconst (v := 0) hx hb dX3_isWithin_13 (by decide) ?_
    exact rZ hx hb hr hlk (by rfl) dX3_isWithin_14 (by rw [fX3_isWithin, if_pos c1])
  · refine lv_iload_n hx hb dX3_isWithin_4 rfl (lv_at hl 0 rfl) ?_
    refine lv_iload_n hx hb dX3_isWithin_5 rfl (lv_at hl 1 rfl) ?_
    refine lv_icmp_gt (tgt := 13) hx hb dX3_isWithin_6 (by decide) (fun c2 => ?_) (fun c2 => ?_)
    · refine lv_iconst (v := 0) hx hb dX3_isWithin_13 (by decide) ?_
      exact rZ hx hb hr hlk (by rfl) dX3_isWithin_14 (by rw [fX3_isWithin, if_neg c1, if_pos c2])
    · refine lv_iconst (v := 1) hx hb dX3_isWithin_9 (by decide) ?_
      refine lv_goto (tgt := 14) hx hb dX3_isWithin_10 (by decide) ?_
      exact rZ hx hb hr hlk (by rfl) dX3_isWithin_14 (by rw [fX3_isWithin, if_neg c1, if_neg c2])
theorem nb_isWithin (a b : Int32) : narrow .boolean (.int (fX3_isWithin a b)) = .int (fX3_isWithin a b) := by
  unfold fX3_isWithin
  split
  · rfl
  · split <;> rfl
def fX3_fate (u : Mem) (p0 : Int32) (p1 : Int32) : Int32 × Mem :=
  (if (fX3_isEvent u p0) = 0 then ((-1), u) else (if (fX3_isWithin p1 9) = 0 then ((-2), u) else ((u 1 p0.toNatClampNeg), (mset u 1 p0.toNatClampNeg p1))))
set_option maxRecDepth 100000 in
set_option maxHeartbeats 4000000 in
theorem kX3_fate (l : Launch) (D : va_G) (cy : Nat → ClassId) (ad : Nat → Nat) (hI : XI ad) (u : Mem) (p0 : Int32) (p1 : Int32) (hec : EcOk u) : Met l yX3_fate wsX3_fate ({ frames := 1, cells := 0, slots := 0, locals := 21 } : Room) (va_Pc [.ref (ad 0), .int p0, .int p1] (XB D cy ad u)) (qW (XB D cy ad (fX3_fate u p0 p1).2) (AX ad) (some (.int (fX3_fate u p0 p1).1))) 0 0 (AX ad) := by
  refine m_start (cc := cX3_fate) (maxL := 4) (ret := (some .int)) (by decide) rfl (Nat.le_of_ble_eq_true rfl) (fun p e s m below meth c hx hb hr hts hown hml hlk _ hB ls hl => ?_)
  obtain ⟨hP, hK⟩ := hB
  have hown : s.vm.findClass RX3 = some m.cls := hown
  have hl : lv_has ls 4 [(0, .ref (ad 0)), (1, .int p0), (2, .int p1)] := hl
  have hin_X3 : ∀ w ∈ wsX30, w ∈ wsX3_fate := fun _ h => List.mem_cons_of_mem _ (List.mem_append_right _ (h))
  obtain ⟨H, hH⟩ : ∃ H, H = s.heap := ⟨_, rfl⟩
  obtain ⟨locs, hlo⟩ : ∃ z : List Loc, z = [] := ⟨_, rfl⟩
  have hS : va_S (AX ad) s.heap H locs := by rw [hH, hlo]; exact va_S.rf
  have hP : va_P D vwCl (wX cy ad u) H := by rw [hH]; exact hP
  suffices hgoal : W p l e ({ frames := 1, cells := 0, slots := 0, locals := 21 } : Room) s m ([.ref (ad 0), .int p0, .int p1] : List Value).toArray below meth c H locs 0 0 (MQ below (qW (XB D cy ad (fX3_fate u p0 p1).2) (AX ad) (some (.int (fX3_fate u p0 p1).1))) ([.ref (ad 0), .int p0, .int p1] : List Value).toArray s 0 0 (AX ad)) (F0 m 0 ls []) by rw [hH, hlo] at hgoal; exact hgoal
  clear hH hlo
  refine lv_aload_n hx hb dX3_fate_0 rfl (lv_at hl 0 rfl) ?_
  refine lv_iload_n hx hb dX3_fate_1 rfl (lv_at hl 1 rfl) ?_
  refine kV (n := 1) (As := [.int p0]) (rest := []) ⟨hx, hb, hml, hown, hts⟩ (kX3_isEvent l D cy ad u p0) gX3_fate_X3_isEvent rfl rfl rfl (by decide +kernel) ⟨Nat.le_of_ble_eq_true rfl, Nat.le_of_ble_eq_true rfl⟩ (recvX hP hK) (XB_of hP hK) XB_bl rfl hl.1 rfl (Nat.le_of_ble_eq_true rfl) dX3_fate_2 ⟨Nat.le_refl _, Nat.le_refl _⟩ ?_
  refine lv_if_ne (tgt := 10) hx hb dX3_fate_5 (by decide) (fun c1 => ?_) (fun c1 => ?_)
  · have hv1 : vp_in p0 5 := isEvent_in hec c1
    refine lv_iload_n hx hb dX3_fate_10 rfl (lv_at hl 2 rfl) ?_
    refine lv_bipush (v := 9) hx hb dX3_fate_11 (by decide) ?_
    refine kS (n := 2) (As := [.int p1, .int 9]) (rest := []) ⟨hx, hb, hml, hown, hts⟩ (kX3_isWithin l p1 9) gX3_fate_X3_isWithin rfl rfl rfl (by decide +kernel) ⟨Nat.le_of_ble_eq_true rfl, Nat.le_of_ble_eq_true rfl⟩ (fun _ _ _ => trivial) (fun _ _ _ _ _ => trivial) rfl hl.1 rfl (Nat.le_of_ble_eq_true rfl) dX3_fate_13 ⟨Nat.le_refl _, Nat.le_refl _⟩ ?_
    refine lv_if_ne (tgt := 22) hx hb dX3_fate_16 (by decide) (fun c2 => ?_) (fun c2 => ?_)
    · refine lv_aload_n hx hb dX3_fate_22 rfl (lv_at hl 0 rfl) ?_
      refine zg_X3_chances hx hb hts hin_X3 hown hK hP (hts (Cond.fieldLink RX3 17 "ProphetCover" "chances" "[I") (List.mem_of_getElem? (i := 1) rfl)) dX3_fate_23 ?_
      refine lv_iload_n hx hb dX3_fate_26 rfl (lv_at hl 1 rfl) ?_
      refine zl_ch hx hb hK hP (by assumption) dX3_fate_27 ?_
      refine lv_istore_n (lv' := [(3, .int (u 1 p0.toNatClampNeg)), (0, .ref (ad 0)), (1, .int p0), (2, .int p1)]) hx hb dX3_fate_28 rfl hl (by decide) rfl (fun ls hl => ?_)
      refine lv_aload_n hx hb dX3_fate_29 rfl (lv_at hl 1 rfl) ?_
      refine zg_X3_chances hx hb hts hin_X3 hown hK hP (hts (Cond.fieldLink RX3 17 "ProphetCover" "chances" "[I") (List.mem_of_getElem? (i := 1) rfl)) dX3_fate_30 ?_
      refine lv_iload_n hx hb dX3_fate_33 rfl (lv_at hl 2 rfl) ?_
      refine lv_iload_n hx hb dX3_fate_34 rfl (lv_at hl 3 rfl) ?_
      refine zs_ch hx hb hK hP hI hS (by assumption) dX3_fate_35 (fun H locs hP hS => ?_)
      refine lv_iload_n hx hb dX3_fate_36 rfl (lv_at hl 0 rfl) ?_
      exact rXI hx hb hr hlk hK hP hS dX3_fate_37 (by rw [fX3_fate, if_neg c1, if_neg c2])
    · refine lv_bipush (v := (-2)) hx hb dX3_fate_19 (by decide) ?_
      exact rXI hx hb hr hlk hK hP hS dX3_fate_21 (by rw [fX3_fate, if_neg c1, if_pos c2])
  · refine lv_iconst (v := (-1)) hx hb dX3_fate_8 (by decide) ?_
    exact rXI hx hb hr hlk hK hP hS dX3_fate_9 (by rw [fX3_fate, if_pos c1])
def fX3_isProphet (u : Mem) (p0 : Int32) : Int32 :=
  (if p0 < 0 then 0 else (if (u 0 5) ≤ p0 then 0 else 1))
set_option maxRecDepth 100000 in
set_option maxHeartbeats 4000000 in
theorem kX3_isProphet (l : Launch) (D : va_G) (cy : Nat → ClassId) (ad : Nat → Nat) (u : Mem) (p0 : Int32)  : Met l yX3_isProphet wsX3_isProphet ({ frames := 0, cells := 0, slots := 0, locals := 0 } : Room) (va_Pc [.ref (ad 0), .int p0] (XB D cy ad u)) (qR (some (.int (fX3_isProphet u p0)))) 0 0 noF := by
  refine m_start (cc := cX3_isProphet) (maxL := 2) (ret := (some .boolean)) (by decide) rfl (Nat.le_of_ble_eq_true rfl) (fun p e s m below meth c hx hb hr hts hown hml hlk _ hB ls hl => ?_)
  obtain ⟨hP, hK⟩ := hB
  have hown : s.vm.findClass RX3 = some m.cls := hown
  have hl : lv_has ls 2 [(0, .ref (ad 0)), (1, .int p0)] := hl
  have hin_X3 : ∀ w ∈ wsX30, w ∈ wsX3_isProphet := fun _ h => List.mem_cons_of_mem _ (List.mem_append_right _ (h))
  refine lv_iload_n hx hb dX3_isProphet_0 rfl (lv_at hl 1 rfl) ?_
  refine lv_if_lt (tgt := 16) hx hb dX3_isProphet_1 (by decide) (fun c1 => ?_) (fun c1 => ?_)
  · refine lv_iconst (v := 0) hx hb dX3_isProphet_16 (by decide) ?_
    exact rZ hx hb hr hlk (by rfl) dX3_isProphet_17 (by rw [fX3_isProphet, if_pos c1])
  · refine lv_iload_n hx hb dX3_isProphet_4 rfl (lv_at hl 1 rfl) ?_
    refine lv_aload_n hx hb dX3_isProphet_5 rfl (lv_at hl 0 rfl) ?_
    refine zg_X3_prophetCount hx hb hts hin_X3 hown hK hP (hts (Cond.fieldLink RX3 37 "ProphetCover" "prophetCount" "I") (List.mem_of_getElem? (i := 1) rfl)) dX3_isProphet_6 ?_
    refine lv_icmp_ge (tgt := 16) hx hb dX3_isProphet_9 (by decide) (fun c2 => ?_) (fun c2 => ?_)
    · refine lv_iconst (v := 0) hx hb dX3_isProphet_16 (by decide) ?_
      exact rZ hx hb hr hlk (by rfl) dX3_isProphet_17 (by rw [fX3_isProphet, if_neg c1, if_pos c2])
    · refine lv_iconst (v := 1) hx hb dX3_isProphet_12 (by decide) ?_
      refine lv_goto (tgt := 17) hx hb dX3_isProphet_13 (by decide) ?_
      exact rZ hx hb hr hlk (by rfl) dX3_isProphet_17 (by rw [fX3_isProphet, if_neg c1, if_neg c2])
theorem isProphet_in {u : Mem} {p : Int32} (h : PcOk u) (c : ¬ fX3_isProphet u p = 0) : vp_in p 4 := by
  unfold fX3_isProphet at c
  by_cases c1 : p < 0
  · rw [if_pos c1] at c; exact absurd rfl c
  rw [if_neg c1] at c
  by_cases c2 : u 0 5 ≤ p
  · rw [if_pos c2] at c; exact absurd rfl c
  obtain ⟨n, hn, en⟩ := h
  obtain ⟨i, ei, hi, hlt⟩ := int_ex (ge_of c1)
  have h2 := cnt_lt en ei (by omega) (by omega) c2
  exact cnt_in ei (by omega) (by decide)
def fX3_paysEach (p0 : Int32) (p1 : Int32) : Int32 :=
  (if p0 = 0 then p1 else (if p0 = 1 then (p1 + 1) else (2 * (p1 + 1))))
set_option maxRecDepth 100000 in
set_option maxHeartbeats 4000000 in
theorem kX3_paysEach (l : Launch)  (p0 : Int32) (p1 : Int32)  : Met l yX3_paysEach wsX3_paysEach ({ frames := 0, cells := 0, slots := 0, locals := 0 } : Room) (va_Pc [.int p0, .int p1] (fun _ => True)) (qR (some (.int (fX3_paysEach p0 p1)))) 0 0 noF := by
  refine m_start (cc := cX3_paysEach) (maxL := 2) (ret := (some .int)) (by decide) rfl (Nat.le_of_ble_eq_true rfl) (fun p e s m below meth c hx hb hr hts hown hml hlk _ hB ls hl => ?_)
  have hown : s.vm.findClass RX3 = some m.cls := hown
  have hl : lv_has ls 2 [(0, .int p0), (1, .int p1)] := hl
  refine lv_iload_n hx hb dX3_paysEach_0 rfl (lv_at hl 0 rfl) ?_
  by_cases c1 : p0 = 0
  · refine lv_lookup (off := 27) (tgt := 28) hx hb dX3_paysEach_1 (by decide) (by rw [c1]; decide) (by decide) ?_
    refine lv_iload_n hx hb dX3_paysEach_28 rfl (lv_at hl 1 rfl) ?_
    exact rI hx hb hr hlk dX3_paysEach_29 (by rw [fX3_paysEach, if_pos c1])
  by_cases c2 : p0 = 1
  · refine lv_lookup (off := 29) (tgt := 30) hx hb dX3_paysEach_1 (by decide) (by rw [c2]; decide) (by decide) ?_
    refine lv_iload_n hx hb dX3_paysEach_30 rfl (lv_at hl 1 rfl) ?_
    refine lv_iconst (v := 1) hx hb dX3_paysEach_31 (by decide) ?_
    refine lv_iadd hx hb dX3_paysEach_32 ?_
    exact rI hx hb hr hlk dX3_paysEach_33 (by rw [fX3_paysEach, if_neg c1, if_pos c2])
  refine lv_lookup (off := 33) (tgt := 34) hx hb dX3_paysEach_1 (by decide) (look_out2 c1 c2) (by decide) ?_
  refine lv_iconst (v := 2) hx hb dX3_paysEach_34 (by decide) ?_
  refine lv_iload_n hx hb dX3_paysEach_35 rfl (lv_at hl 1 rfl) ?_
  refine lv_iconst (v := 1) hx hb dX3_paysEach_36 (by decide) ?_
  refine lv_iadd hx hb dX3_paysEach_37 ?_
  refine lv_imul hx hb dX3_paysEach_38 ?_
  exact rI hx hb hr hlk dX3_paysEach_39 (by rw [fX3_paysEach, if_neg c1, if_neg c2])
def fX3_allEvents (u : Mem) : Int32 :=
  (((1 : Int32) <<< ((u 0 4) &&& 31)) - 1)
set_option maxRecDepth 100000 in
set_option maxHeartbeats 4000000 in
theorem kX3_allEvents (l : Launch) (D : va_G) (cy : Nat → ClassId) (ad : Nat → Nat) (u : Mem)  : Met l yX3_allEvents wsX3_allEvents ({ frames := 0, cells := 0, slots := 0, locals := 0 } : Room) (va_Pc [.ref (ad 0)] (XB D cy ad u)) (qR (some (.int (fX3_allEvents u)))) 0 0 noF := by
  refine m_start (cc := cX3_allEvents) (maxL := 1) (ret := (some .int)) (by decide) rfl (Nat.le_of_ble_eq_true rfl) (fun p e s m below meth c hx hb hr hts hown hml hlk _ hB ls hl => ?_)
  obtain ⟨hP, hK⟩ := hB
  have hown : s.vm.findClass RX3 = some m.cls := hown
  have hl : lv_has ls 1 [(0, .ref (ad 0))] := hl
  have hin_X3 : ∀ w ∈ wsX30, w ∈ wsX3_allEvents := fun _ h => List.mem_cons_of_mem _ (List.mem_append_right _ (h))
  refine lv_iconst (v := 1) hx hb dX3_allEvents_0 (by decide) ?_
  refine lv_aload_n hx hb dX3_allEvents_1 rfl (lv_at hl 0 rfl) ?_
  refine zg_X3_eventCount hx hb hts hin_X3 hown hK hP (hts (Cond.fieldLink RX3 33 "ProphetCover" "eventCount" "I") (List.mem_of_getElem? (i := 1) rfl)) dX3_allEvents_2 ?_
  refine lv_ishl hx hb dX3_allEvents_5 ?_
  refine lv_iconst (v := 1) hx hb dX3_allEvents_6 (by decide) ?_
  refine lv_isub hx hb dX3_allEvents_7 ?_
  exact rI hx hb hr hlk dX3_allEvents_8 (by rw [fX3_allEvents])
theorem shl_pow (n : Nat) (h : n ≤ 5) : (1 : Int32) <<< (nI n &&& 31) = nI (2 ^ n) := by
  rcases (show n = 0 ∨ n = 1 ∨ n = 2 ∨ n = 3 ∨ n = 4 ∨ n = 5 by omega) with rfl | rfl | rfl | rfl | rfl | rfl <;> decide
theorem allEv_X {u : Mem} (h : EcOk u) : ∃ al : Nat, al ≤ 31 ∧ fX3_allEvents u = nI al := by
  obtain ⟨n, hn, en⟩ := h
  refine ⟨2 ^ n - 1, ?_, ?_⟩
  · rcases (show n = 0 ∨ n = 1 ∨ n = 2 ∨ n = 3 ∨ n = 4 ∨ n = 5 by omega) with rfl | rfl | rfl | rfl | rfl | rfl <;> decide
  · unfold fX3_allEvents
    rw [en, shl_pow n hn]
    rcases (show n = 0 ∨ n = 1 ∨ n = 2 ∨ n = 3 ∨ n = 4 ∨ n = 5 by omega) with rfl | rfl | rfl | rfl | rfl | rfl <;> decide
theorem dn_next {x : Int32} {k : Nat} (e : x + 1 = nI k) (h : 0 < k) : x + (-1) + 1 = nI (k - 1) := by
  have : x = nI k - 1 := by rw [← e]; exact (Int32.add_sub_cancel x 1).symm
  obtain ⟨j, rfl⟩ : ∃ j, k = j + 1 := ⟨k - 1, by omega⟩
  rw [this, nI_pred]
  show nI j + (-1) + 1 = nI j
  rw [Int32.add_assoc]
  exact Int32.add_zero _
theorem dn_pos {x : Int32} {k : Nat} (e : x + 1 = nI k) (c : ¬ x < 0) : 0 < k := by
  rcases Nat.eq_zero_or_pos k with rfl | h
  · have hx : x = -1 := by
      have h2 : x = nI 0 - 1 := by rw [← e]; exact (Int32.add_sub_cancel x 1).symm
      rw [h2]; decide
    subst hx
    exact absurd (by decide) c
  · exact h
def fX3_isFraud (u : Mem) (p0 : Int32) : Int32 :=
  (if (p0 &&& (fX3_allEvents u)) = (fX3_allEvents u) then 1 else 0)
set_option maxRecDepth 100000 in
set_option maxHeartbeats 4000000 in
theorem kX3_isFraud (l : Launch) (D : va_G) (cy : Nat → ClassId) (ad : Nat → Nat) (u : Mem) (p0 : Int32)  : Met l yX3_isFraud wsX3_isFraud ({ frames := 1, cells := 0, slots := 0, locals := 20 } : Room) (va_Pc [.ref (ad 0), .int p0] (XB D cy ad u)) (qR (some (.int (fX3_isFraud u p0)))) 0 0 noF := by
  refine m_start (cc := cX3_isFraud) (maxL := 2) (ret := (some .boolean)) (by decide) rfl (Nat.le_of_ble_eq_true rfl) (fun p e s m below meth c hx hb hr hts hown hml hlk _ hB ls hl => ?_)
  obtain ⟨hP, hK⟩ := hB
  have hown : s.vm.findClass RX3 = some m.cls := hown
  have hl : lv_has ls 2 [(0, .ref (ad 0)), (1, .int p0)] := hl
  have hin_X3 : ∀ w ∈ wsX30, w ∈ wsX3_isFraud := fun _ h => List.mem_cons_of_mem _ (List.mem_append_right _ (h))
  refine lv_iload_n hx hb dX3_isFraud_0 rfl (lv_at hl 1 rfl) ?_
  refine lv_aload_n hx hb dX3_isFraud_1 rfl (lv_at hl 0 rfl) ?_
  refine kV (n := 0) (As := []) (rest := [.int p0]) ⟨hx, hb, hml, hown, hts⟩ (kX3_allEvents l D cy ad u) gX3_isFraud_X3_allEvents rfl rfl rfl (by decide +kernel) ⟨Nat.le_of_ble_eq_true rfl, Nat.le_of_ble_eq_true rfl⟩ (recvX hP hK) (XB_of hP hK) XB_bl rfl hl.1 rfl (Nat.le_of_ble_eq_true rfl) dX3_isFraud_2 ⟨Nat.le_refl _, Nat.le_refl _⟩ ?_
  refine lv_iand hx hb dX3_isFraud_5 ?_
  refine lv_aload_n hx hb dX3_isFraud_6 rfl (lv_at hl 0 rfl) ?_
  refine kV (n := 0) (As := []) (rest := [.int (p0 &&& (fX3_allEvents u))]) ⟨hx, hb, hml, hown, hts⟩ (kX3_allEvents l D cy ad u) gX3_isFraud_X3_allEvents rfl rfl rfl (by decide +kernel) ⟨Nat.le_of_ble_eq_true rfl, Nat.le_of_ble_eq_true rfl⟩ (recvX hP hK) (XB_of hP hK) XB_bl rfl hl.1 rfl (Nat.le_of_ble_eq_true rfl) dX3_isFraud_7 ⟨Nat.le_refl _, Nat.le_refl _⟩ ?_
  refine lv_icmp_ne (tgt := 17) hx hb dX3_isFraud_10 (by decide) (fun c1 => ?_) (fun c1 => ?_)
  · refine lv_iconst (v := 0) hx hb dX3_isFraud_17 (by decide) ?_
    exact rZ hx hb hr hlk (by rfl) dX3_isFraud_18 (by rw [fX3_isFraud, if_neg c1])
  · refine lv_iconst (v := 1) hx hb dX3_isFraud_13 (by decide) ?_
    refine lv_goto (tgt := 18) hx hb dX3_isFraud_14 (by decide) ?_
    exact rZ hx hb hr hlk (by rfl) dX3_isFraud_18 (by rw [fX3_isFraud, if_pos c1])
def fX3_ofProphet (u : Mem) (p0 : Int32) (p1 : Int32) : Int32 :=
  (if (fX3_isProphet u p0) = 0 then (-1) else (if p1 = 0 then (u 2 p0.toNatClampNeg) else (if p1 = 1 then (u 3 p0.toNatClampNeg) else (if p1 = 2 then (u 4 p0.toNatClampNeg) else (if p1 = 3 then (fX3_paysEach (u 2 p0.toNatClampNeg) (u 3 p0.toNatClampNeg)) else (if p1 = 4 then (if (fX3_isFraud u (u 4 p0.toNatClampNeg)) = 0 then 0 else 1) else (-2)))))))
set_option maxRecDepth 100000 in
set_option maxHeartbeats 4000000 in
theorem kX3_ofProphet (l : Launch) (D : va_G) (cy : Nat → ClassId) (ad : Nat → Nat) (u : Mem) (p0 : Int32) (p1 : Int32) (hpc : PcOk u) : Met l yX3_ofProphet wsX3_ofProphet ({ frames := 2, cells := 0, slots := 0, locals := 41 } : Room) (va_Pc [.ref (ad 0), .int p0, .int p1] (XB D cy ad u)) (qR (some (.int (fX3_ofProphet u p0 p1)))) 0 0 noF := by
  refine m_start (cc := cX3_ofProphet) (maxL := 4) (ret := (some .int)) (by decide) rfl (Nat.le_of_ble_eq_true rfl) (fun p e s m below meth c hx hb hr hts hown hml hlk _ hB ls hl => ?_)
  obtain ⟨hP, hK⟩ := hB
  have hown : s.vm.findClass RX3 = some m.cls := hown
  have hl : lv_has ls 4 [(0, .ref (ad 0)), (1, .int p0), (2, .int p1)] := hl
  have hin_X0 : ∀ w ∈ wsX00, w ∈ wsX3_ofProphet := fun _ h => List.mem_cons_of_mem _ (List.mem_append_right _ (h))
  have hin_X3 : ∀ w ∈ wsX30, w ∈ wsX3_ofProphet := fun _ h => List.mem_cons_of_mem _ (List.mem_append_left _ (List.mem_append_right _ (h)))
  refine lv_aload_n hx hb dX3_ofProphet_0 rfl (lv_at hl 0 rfl) ?_
  refine lv_iload_n hx hb dX3_ofProphet_1 rfl (lv_at hl 1 rfl) ?_
  refine kV (n := 1) (As := [.int p0]) (rest := []) ⟨hx, hb, hml, hown, hts⟩ (kX3_isProphet l D cy ad u p0) gX3_ofProphet_X3_isProphet rfl rfl rfl (by decide +kernel) ⟨Nat.le_of_ble_eq_true rfl, Nat.le_of_ble_eq_true rfl⟩ (recvX hP hK) (XB_of hP hK) XB_bl rfl hl.1 rfl (Nat.le_of_ble_eq_true rfl) dX3_ofProphet_2 ⟨Nat.le_refl _, Nat.le_refl _⟩ ?_
  refine lv_if_ne (tgt := 10) hx hb dX3_ofProphet_5 (by decide) (fun c1 => ?_) (fun c1 => ?_)
  · have hv1 : vp_in p0 4 := isProphet_in hpc c1
    refine lv_aload_n hx hb dX3_ofProphet_10 rfl (lv_at hl 0 rfl) ?_
    refine zg_X3_prophets hx hb hts hin_X3 hown hK hP (hts (Cond.fieldLink RX3 23 "ProphetCover" "prophets" "[LProphetCover$Prophet;") (List.mem_of_getElem? (i := 1) rfl)) dX3_ofProphet_11 ?_
    refine lv_iload_n hx hb dX3_ofProphet_14 rfl (lv_at hl 1 rfl) ?_
    refine zl_prophets hx hb hK hP (by assumption) dX3_ofProphet_15 ?_
    refine lv_astore_n (lv' := [(3, .ref (ad (13 + p0.toNatClampNeg))), (0, .ref (ad 0)), (1, .int p0), (2, .int p1)]) hx hb dX3_ofProphet_16 rfl hl (by decide) rfl (fun ls hl => ?_)
    refine lv_iload_n hx hb dX3_ofProphet_17 rfl (lv_at hl 3 rfl) ?_
    by_cases c2 : p1 = 0
    · refine lv_tableIn (off := 34) (tgt := 52) hx hb dX3_ofProphet_18 (by rw [c2]; decide) (by rw [c2]; decide) (by rw [c2]; rfl) (by decide) ?_
      refine lv_aload_n hx hb dX3_ofProphet_52 rfl (lv_at hl 0 rfl) ?_
      refine zg_X0_kind (vlt (n := 4) (i := p0) (by assumption)) hx hb hts hin_X0 hown hK hP (hts (Cond.fieldLink RX3 88 "ProphetCover$Prophet" "kind" "I") (List.mem_of_getElem? (i := 2) rfl)) dX3_ofProphet_53 ?_
      exact rI hx hb hr hlk dX3_ofProphet_56 (by rw [fX3_ofProphet, if_neg c1, if_pos c2])
    by_cases c3 : p1 = 1
    · refine lv_tableIn (off := 39) (tgt := 57) hx hb dX3_ofProphet_18 (by rw [c3]; decide) (by rw [c3]; decide) (by rw [c3]; rfl) (by decide) ?_
      refine lv_aload_n hx hb dX3_ofProphet_57 rfl (lv_at hl 0 rfl) ?_
      refine zg_X0_cover (vlt (n := 4) (i := p0) (by assumption)) hx hb hts hin_X0 hown hK hP (hts (Cond.fieldLink RX3 91 "ProphetCover$Prophet" "cover" "I") (List.mem_of_getElem? (i := 3) rfl)) dX3_ofProphet_58 ?_
      exact rI hx hb hr hlk dX3_ofProphet_61 (by rw [fX3_ofProphet, if_neg c1, if_neg c2, if_pos c3])
    by_cases c4 : p1 = 2
    · refine lv_tableIn (off := 44) (tgt := 62) hx hb dX3_ofProphet_18 (by rw [c4]; decide) (by rw [c4]; decide) (by rw [c4]; rfl) (by decide) ?_
      refine lv_aload_n hx hb dX3_ofProphet_62 rfl (lv_at hl 0 rfl) ?_
      refine zg_X0_saidSet (vlt (n := 4) (i := p0) (by assumption)) hx hb hts hin_X0 hown hK hP (hts (Cond.fieldLink RX3 94 "ProphetCover$Prophet" "saidSet" "I") (List.mem_of_getElem? (i := 4) rfl)) dX3_ofProphet_63 ?_
      exact rI hx hb hr hlk dX3_ofProphet_66 (by rw [fX3_ofProphet, if_neg c1, if_neg c2, if_neg c3, if_pos c4])
    by_cases c5 : p1 = 3
    · refine lv_tableIn (off := 49) (tgt := 67) hx hb dX3_ofProphet_18 (by rw [c5]; decide) (by rw [c5]; decide) (by rw [c5]; rfl) (by decide) ?_
      refine lv_aload_n hx hb dX3_ofProphet_67 rfl (lv_at hl 0 rfl) ?_
      refine zg_X0_kind (vlt (n := 4) (i := p0) (by assumption)) hx hb hts hin_X0 hown hK hP (hts (Cond.fieldLink RX3 88 "ProphetCover$Prophet" "kind" "I") (List.mem_of_getElem? (i := 2) rfl)) dX3_ofProphet_68 ?_
      refine lv_aload_n hx hb dX3_ofProphet_71 rfl (lv_at hl 0 rfl) ?_
      refine zg_X0_cover (vlt (n := 4) (i := p0) (by assumption)) hx hb hts hin_X0 hown hK hP (hts (Cond.fieldLink RX3 91 "ProphetCover$Prophet" "cover" "I") (List.mem_of_getElem? (i := 3) rfl)) dX3_ofProphet_72 ?_
      refine kS (n := 2) (As := [.int (u 2 p0.toNatClampNeg), .int (u 3 p0.toNatClampNeg)]) (rest := []) ⟨hx, hb, hml, hown, hts⟩ (kX3_paysEach l (u 2 p0.toNatClampNeg) (u 3 p0.toNatClampNeg)) gX3_ofProphet_X3_paysEach rfl rfl rfl (by decide +kernel) ⟨Nat.le_of_ble_eq_true rfl, Nat.le_of_ble_eq_true rfl⟩ (fun _ _ _ => trivial) (fun _ _ _ _ _ => trivial) rfl hl.1 rfl (Nat.le_of_ble_eq_true rfl) dX3_ofProphet_75 ⟨Nat.le_refl _, Nat.le_refl _⟩ ?_
      exact rI hx hb hr hlk dX3_ofProphet_78 (by rw [fX3_ofProphet, if_neg c1, if_neg c2, if_neg c3, if_neg c4, if_pos c5])
    by_cases c6 : p1 = 4
    · refine lv_tableIn (off := 61) (tgt := 79) hx hb dX3_ofProphet_18 (by rw [c6]; decide) (by rw [c6]; decide) (by rw [c6]; rfl) (by decide) ?_
      refine lv_aload_n hx hb dX3_ofProphet_79 rfl (lv_at hl 1 rfl) ?_
      refine lv_aload_n hx hb dX3_ofProphet_80 rfl (lv_at hl 0 rfl) ?_
      refine zg_X0_saidSet (vlt (n := 4) (i := p0) (by assumption)) hx hb hts hin_X0 hown hK hP (hts (Cond.fieldLink RX3 94 "ProphetCover$Prophet" "saidSet" "I") (List.mem_of_getElem? (i := 4) rfl)) dX3_ofProphet_81 ?_
      refine kV (n := 1) (As := [.int (u 4 p0.toNatClampNeg)]) (rest := []) ⟨hx, hb, hml, hown, hts⟩ (kX3_isFraud l D cy ad u (u 4 p0.toNatClampNeg)) gX3_ofProphet_X3_isFraud rfl rfl rfl (by decide +kernel) ⟨Nat.le_of_ble_eq_true rfl, Nat.le_of_ble_eq_true rfl⟩ (recvX hP hK) (XB_of hP hK) XB_bl rfl hl.1 rfl (Nat.le_of_ble_eq_true rfl) dX3_ofProphet_84 ⟨Nat.le_refl _, Nat.le_refl _⟩ ?_
      refine lv_if_eq (tgt := 94) hx hb dX3_ofProphet_87 (by decide) (fun c7 => ?_) (fun c7 => ?_)
      · refine lv_iconst (v := 0) hx hb dX3_ofProphet_94 (by decide) ?_
        exact rI hx hb hr hlk dX3_ofProphet_95 (by rw [fX3_ofProphet, if_neg c1, if_neg c2, if_neg c3, if_neg c4, if_neg c5, if_pos c6, if_pos c7])
      · refine lv_iconst (v := 1) hx hb dX3_ofProphet_90 (by decide) ?_
        refine lv_goto (tgt := 95) hx hb dX3_ofProphet_91 (by decide) ?_
        exact rI hx hb hr hlk dX3_ofProphet_95 (by rw [fX3_ofProphet, if_neg c1, if_neg c2, if_neg c3, if_neg c4, if_neg c5, if_pos c6, if_neg c7])
    refine lv_tableOut (tgt := 96) hx hb dX3_ofProphet_18 (tab_out5 c2 c3 c4 c5 c6) (by decide) ?_
    refine lv_bipush (v := (-2)) hx hb dX3_ofProphet_96 (by decide) ?_
    exact rI hx hb hr hlk dX3_ofProphet_98 (by rw [fX3_ofProphet, if_neg c1, if_neg c2, if_neg c3, if_neg c4, if_neg c5, if_neg c6])
  · refine lv_iconst (v := (-1)) hx hb dX3_ofProphet_8 (by decide) ?_
    exact rI hx hb hr hlk dX3_ofProphet_9 (by rw [fX3_ofProphet, if_pos c1])
def fX3_say (u : Mem) (p0 : Int32) (p1 : Int32) : Int32 × Mem :=
  (if (fX3_isProphet u p0) = 0 then ((-1), u) else (if (fX3_isWithin p1 31) = 0 then ((-2), u) else ((u 4 p0.toNatClampNeg), (mset u 4 p0.toNatClampNeg p1))))
set_option maxRecDepth 100000 in
set_option maxHeartbeats 4000000 in
theorem kX3_say (l : Launch) (D : va_G) (cy : Nat → ClassId) (ad : Nat → Nat) (hI : XI ad) (u : Mem) (p0 : Int32) (p1 : Int32) (hpc : PcOk u) : Met l yX3_say wsX3_say ({ frames := 1, cells := 0, slots := 0, locals := 21 } : Room) (va_Pc [.ref (ad 0), .int p0, .int p1] (XB D cy ad u)) (qW (XB D cy ad (fX3_say u p0 p1).2) (AX ad) (some (.int (fX3_say u p0 p1).1))) 0 0 (AX ad) := by
  refine m_start (cc := cX3_say) (maxL := 4) (ret := (some .int)) (by decide) rfl (Nat.le_of_ble_eq_true rfl) (fun p e s m below meth c hx hb hr hts hown hml hlk _ hB ls hl => ?_)
  obtain ⟨hP, hK⟩ := hB
  have hown : s.vm.findClass RX3 = some m.cls := hown
  have hl : lv_has ls 4 [(0, .ref (ad 0)), (1, .int p0), (2, .int p1)] := hl
  have hin_X0 : ∀ w ∈ wsX00, w ∈ wsX3_say := fun _ h => List.mem_cons_of_mem _ (List.mem_append_right _ (h))
  have hin_X3 : ∀ w ∈ wsX30, w ∈ wsX3_say := fun _ h => List.mem_cons_of_mem _ (List.mem_append_left _ (List.mem_append_right _ (h)))
  obtain ⟨H, hH⟩ : ∃ H, H = s.heap := ⟨_, rfl⟩
  obtain ⟨locs, hlo⟩ : ∃ z : List Loc, z = [] := ⟨_, rfl⟩
  have hS : va_S (AX ad) s.heap H locs := by rw [hH, hlo]; exact va_S.rf
  have hP : va_P D vwCl (wX cy ad u) H := by rw [hH]; exact hP
  suffices hgoal : W p l e ({ frames := 1, cells := 0, slots := 0, locals := 21 } : Room) s m ([.ref (ad 0), .int p0, .int p1] : List Value).toArray below meth c H locs 0 0 (MQ below (qW (XB D cy ad (fX3_say u p0 p1).2) (AX ad) (some (.int (fX3_say u p0 p1).1))) ([.ref (ad 0), .int p0, .int p1] : List Value).toArray s 0 0 (AX ad)) (F0 m 0 ls []) by rw [hH, hlo] at hgoal; exact hgoal
  clear hH hlo
  refine lv_aload_n hx hb dX3_say_0 rfl (lv_at hl 0 rfl) ?_
  refine lv_iload_n hx hb dX3_say_1 rfl (lv_at hl 1 rfl) ?_
  refine kV (n := 1) (As := [.int p0]) (rest := []) ⟨hx, hb, hml, hown, hts⟩ (kX3_isProphet l D cy ad u p0) gX3_say_X3_isProphet rfl rfl rfl (by decide +kernel) ⟨Nat.le_of_ble_eq_true rfl, Nat.le_of_ble_eq_true rfl⟩ (recvX hP hK) (XB_of hP hK) XB_bl rfl hl.1 rfl (Nat.le_of_ble_eq_true rfl) dX3_say_2 ⟨Nat.le_refl _, Nat.le_refl _⟩ ?_
  refine lv_if_ne (tgt := 10) hx hb dX3_say_5 (by decide) (fun c1 => ?_) (fun c1 => ?_)
  · have hv1 : vp_in p0 4 := isProphet_in hpc c1
    refine lv_iload_n hx hb dX3_say_10 rfl (lv_at hl 2 rfl) ?_
    refine lv_bipush (v := 31) hx hb dX3_say_11 (by decide) ?_
    refine kS (n := 2) (As := [.int p1, .int 31]) (rest := []) ⟨hx, hb, hml, hown, hts⟩ (kX3_isWithin l p1 31) gX3_say_X3_isWithin rfl rfl rfl (by decide +kernel) ⟨Nat.le_of_ble_eq_true rfl, Nat.le_of_ble_eq_true rfl⟩ (fun _ _ _ => trivial) (fun _ _ _ _ _ => trivial) rfl hl.1 rfl (Nat.le_of_ble_eq_true rfl) dX3_say_13 ⟨Nat.le_refl _, Nat.le_refl _⟩ ?_
    refine lv_if_ne (tgt := 22) hx hb dX3_say_16 (by decide) (fun c2 => ?_) (fun c2 => ?_)
    · refine lv_aload_n hx hb dX3_say_22 rfl (lv_at hl 0 rfl) ?_
      refine zg_X3_prophets hx hb hts hin_X3 hown hK hP (hts (Cond.fieldLink RX3 23 "ProphetCover" "prophets" "[LProphetCover$Prophet;") (List.mem_of_getElem? (i := 1) rfl)) dX3_say_23 ?_
      refine lv_iload_n hx hb dX3_say_26 rfl (lv_at hl 1 rfl) ?_
      refine zl_prophets hx hb hK hP (by assumption) dX3_say_27 ?_
      refine zg_X0_saidSet (vlt (n := 4) (i := p0) (by assumption)) hx hb hts hin_X0 hown hK hP (hts (Cond.fieldLink RX3 94 "ProphetCover$Prophet" "saidSet" "I") (List.mem_of_getElem? (i := 2) rfl)) dX3_say_28 ?_
      refine lv_istore_n (lv' := [(3, .int (u 4 p0.toNatClampNeg)), (0, .ref (ad 0)), (1, .int p0), (2, .int p1)]) hx hb dX3_say_31 rfl hl (by decide) rfl (fun ls hl => ?_)
      refine lv_aload_n hx hb dX3_say_32 rfl (lv_at hl 1 rfl) ?_
      refine zg_X3_prophets hx hb hts hin_X3 hown hK hP (hts (Cond.fieldLink RX3 23 "ProphetCover" "prophets" "[LProphetCover$Prophet;") (List.mem_of_getElem? (i := 1) rfl)) dX3_say_33 ?_
      refine lv_iload_n hx hb dX3_say_36 rfl (lv_at hl 2 rfl) ?_
      refine zl_prophets hx hb hK hP (by assumption) dX3_say_37 ?_
      refine lv_iload_n hx hb dX3_say_38 rfl (lv_at hl 3 rfl) ?_
      refine zp_X0_saidSet (vlt (n := 4) (i := p0) (by assumption)) hx hb hts hin_X0 hown hK hP hI hS (hts (Cond.fieldLink RX3 94 "ProphetCover$Prophet" "saidSet" "I") (List.mem_of_getElem? (i := 2) rfl)) dX3_say_39 (fun H locs hP hS => ?_)
      refine lv_iload_n hx hb dX3_say_42 rfl (lv_at hl 0 rfl) ?_
      exact rXI hx hb hr hlk hK hP hS dX3_say_43 (by rw [fX3_say, if_neg c1, if_neg c2])
    · refine lv_bipush (v := (-2)) hx hb dX3_say_19 (by decide) ?_
      exact rXI hx hb hr hlk hK hP hS dX3_say_21 (by rw [fX3_say, if_neg c1, if_pos c2])
  · refine lv_iconst (v := (-1)) hx hb dX3_say_8 (by decide) ?_
    exact rXI hx hb hr hlk hK hP hS dX3_say_9 (by rw [fX3_say, if_pos c1])
def fX3_isEventSet (u : Mem) (p0 : Int32) : Int32 :=
  (fX3_isWithin p0 (fX3_allEvents u))
set_option maxRecDepth 100000 in
set_option maxHeartbeats 4000000 in
theorem kX3_isEventSet (l : Launch) (D : va_G) (cy : Nat → ClassId) (ad : Nat → Nat) (u : Mem) (p0 : Int32)  : Met l yX3_isEventSet wsX3_isEventSet ({ frames := 1, cells := 0, slots := 0, locals := 21 } : Room) (va_Pc [.ref (ad 0), .int p0] (XB D cy ad u)) (qR (some (.int (fX3_isEventSet u p0)))) 0 0 noF := by
  refine m_start (cc := cX3_isEventSet) (maxL := 2) (ret := (some .boolean)) (by decide) rfl (Nat.le_of_ble_eq_true rfl) (fun p e s m below meth c hx hb hr hts hown hml hlk _ hB ls hl => ?_)
  obtain ⟨hP, hK⟩ := hB
  have hown : s.vm.findClass RX3 = some m.cls := hown
  have hl : lv_has ls 2 [(0, .ref (ad 0)), (1, .int p0)] := hl
  have hin_X3 : ∀ w ∈ wsX30, w ∈ wsX3_isEventSet := fun _ h => List.mem_cons_of_mem _ (List.mem_append_right _ (h))
  refine lv_iload_n hx hb dX3_isEventSet_0 rfl (lv_at hl 1 rfl) ?_
  refine lv_aload_n hx hb dX3_isEventSet_1 rfl (lv_at hl 0 rfl) ?_
  refine kV (n := 0) (As := []) (rest := [.int p0]) ⟨hx, hb, hml, hown, hts⟩ (kX3_allEvents l D cy ad u) gX3_isEventSet_X3_allEvents rfl rfl rfl (by decide +kernel) ⟨Nat.le_of_ble_eq_true rfl, Nat.le_of_ble_eq_true rfl⟩ (recvX hP hK) (XB_of hP hK) XB_bl rfl hl.1 rfl (Nat.le_of_ble_eq_true rfl) dX3_isEventSet_2 ⟨Nat.le_refl _, Nat.le_refl _⟩ ?_
  refine kS (n := 2) (As := [.int p0, .int (fX3_allEvents u)]) (rest := []) ⟨hx, hb, hml, hown, hts⟩ (kX3_isWithin l p0 (fX3_allEvents u)) gX3_isEventSet_X3_isWithin rfl rfl rfl (by decide +kernel) ⟨Nat.le_of_ble_eq_true rfl, Nat.le_of_ble_eq_true rfl⟩ (fun _ _ _ => trivial) (fun _ _ _ _ _ => trivial) rfl hl.1 rfl (Nat.le_of_ble_eq_true rfl) dX3_isEventSet_5 ⟨Nat.le_refl _, Nat.le_refl _⟩ ?_
  exact rZ hx hb hr hlk (by first | assumption | exact nb_isDigit _ _ | exact nb_isWithin _ _ | exact nb01 (by assumption)) dX3_isEventSet_8 (by rw [fX3_isEventSet])
def fJ6_bitCount_0f7a4 (p0 : Int32) : Int32 :=
  ((((((((p0 - (((p0).toUInt32 >>> (((1 : Int32)).toUInt32 &&& Int32.toUInt32 31)).toInt32 &&& 1431655765)) &&& 858993459) + ((((p0 - (((p0).toUInt32 >>> (((1 : Int32)).toUInt32 &&& Int32.toUInt32 31)).toInt32 &&& 1431655765))).toUInt32 >>> (((2 : Int32)).toUInt32 &&& Int32.toUInt32 31)).toInt32 &&& 858993459)) + (((((p0 - (((p0).toUInt32 >>> (((1 : Int32)).toUInt32 &&& Int32.toUInt32 31)).toInt32 &&& 1431655765)) &&& 858993459) + ((((p0 - (((p0).toUInt32 >>> (((1 : Int32)).toUInt32 &&& Int32.toUInt32 31)).toInt32 &&& 1431655765))).toUInt32 >>> (((2 : Int32)).toUInt32 &&& Int32.toUInt32 31)).toInt32 &&& 858993459))).toUInt32 >>> (((4 : Int32)).toUInt32 &&& Int32.toUInt32 31)).toInt32) &&& 252645135) + (((((((p0 - (((p0).toUInt32 >>> (((1 : Int32)).toUInt32 &&& Int32.toUInt32 31)).toInt32 &&& 1431655765)) &&& 858993459) + ((((p0 - (((p0).toUInt32 >>> (((1 : Int32)).toUInt32 &&& Int32.toUInt32 31)).toInt32 &&& 1431655765))).toUInt32 >>> (((2 : Int32)).toUInt32 &&& Int32.toUInt32 31)).toInt32 &&& 858993459)) + (((((p0 - (((p0).toUInt32 >>> (((1 : Int32)).toUInt32 &&& Int32.toUInt32 31)).toInt32 &&& 1431655765)) &&& 858993459) + ((((p0 - (((p0).toUInt32 >>> (((1 : Int32)).toUInt32 &&& Int32.toUInt32 31)).toInt32 &&& 1431655765))).toUInt32 >>> (((2 : Int32)).toUInt32 &&& Int32.toUInt32 31)).toInt32 &&& 858993459))).toUInt32 >>> (((4 : Int32)).toUInt32 &&& Int32.toUInt32 31)).toInt32) &&& 252645135)).toUInt32 >>> (((8 : Int32)).toUInt32 &&& Int32.toUInt32 31)).toInt32) + ((((((((p0 - (((p0).toUInt32 >>> (((1 : Int32)).toUInt32 &&& Int32.toUInt32 31)).toInt32 &&& 1431655765)) &&& 858993459) + ((((p0 - (((p0).toUInt32 >>> (((1 : Int32)).toUInt32 &&& Int32.toUInt32 31)).toInt32 &&& 1431655765))).toUInt32 >>> (((2 : Int32)).toUInt32 &&& Int32.toUInt32 31)).toInt32 &&& 858993459)) + (((((p0 - (((p0).toUInt32 >>> (((1 : Int32)).toUInt32 &&& Int32.toUInt32 31)).toInt32 &&& 1431655765)) &&& 858993459) + ((((p0 - (((p0).toUInt32 >>> (((1 : Int32)).toUInt32 &&& Int32.toUInt32 31)).toInt32 &&& 1431655765))).toUInt32 >>> (((2 : Int32)).toUInt32 &&& Int32.toUInt32 31)).toInt32 &&& 858993459))).toUInt32 >>> (((4 : Int32)).toUInt32 &&& Int32.toUInt32 31)).toInt32) &&& 252645135) + (((((((p0 - (((p0).toUInt32 >>> (((1 : Int32)).toUInt32 &&& Int32.toUInt32 31)).toInt32 &&& 1431655765)) &&& 858993459) + ((((p0 - (((p0).toUInt32 >>> (((1 : Int32)).toUInt32 &&& Int32.toUInt32 31)).toInt32 &&& 1431655765))).toUInt32 >>> (((2 : Int32)).toUInt32 &&& Int32.toUInt32 31)).toInt32 &&& 858993459)) + (((((p0 - (((p0).toUInt32 >>> (((1 : Int32)).toUInt32 &&& Int32.toUInt32 31)).toInt32 &&& 1431655765)) &&& 858993459) + ((((p0 - (((p0).toUInt32 >>> (((1 : Int32)).toUInt32 &&& Int32.toUInt32 31)).toInt32 &&& 1431655765))).toUInt32 >>> (((2 : Int32)).toUInt32 &&& Int32.toUInt32 31)).toInt32 &&& 858993459))).toUInt32 >>> (((4 : Int32)).toUInt32 &&& Int32.toUInt32 31)).toInt32) &&& 252645135)).toUInt32 >>> (((8 : Int32)).toUInt32 &&& Int32.toUInt32 31)).toInt32)).toUInt32 >>> (((16 : Int32)).toUInt32 &&& Int32.toUInt32 31)).toInt32) &&& 63)
set_option maxRecDepth 100000 in
set_option maxHeartbeats 4000000 in
theorem kJ6_bitCount_0f7a4 (l : Launch)  (p0 : Int32)  : Met l yJ6_bitCount_0f7a4 wsJ6_bitCount_0f7a4 ({ frames := 0, cells := 0, slots := 0, locals := 0 } : Room) (va_Pc [.int p0] (fun _ => True)) (qR (some (.int (fJ6_bitCount_0f7a4 p0)))) 0 0 noF := by
  refine m_start (cc := cJ6_bitCount_0f7a4) (maxL := 1) (ret := (some .int)) (by decide) rfl (Nat.le_of_ble_eq_true rfl) (fun p e s m below meth c hx hb hr hts hown hml hlk _ hB ls hl => ?_)
  have hown : s.vm.findClass RJ6 = some m.cls := hown
  have hl : lv_has ls 1 [(0, .int p0)] := hl
  refine lv_iload_n hx hb dJ6_bitCount_0f7a4_0 rfl (lv_at hl 0 rfl) ?_
  refine lv_iload_n hx hb dJ6_bitCount_0f7a4_1 rfl (lv_at hl 0 rfl) ?_
  refine lv_iconst (v := 1) hx hb dJ6_bitCount_0f7a4_2 (by decide) ?_
  refine lv_iushr hx hb dJ6_bitCount_0f7a4_3 rfl ?_
  refine lv_ldcw hx hb hown (hts (Cond.constant RJ6 265 (1431655765)) (List.mem_of_getElem? (i := 1) rfl)) dJ6_bitCount_0f7a4_4 ?_
  refine lv_iand hx hb dJ6_bitCount_0f7a4_7 ?_
  refine lv_isub hx hb dJ6_bitCount_0f7a4_8 ?_
  refine lv_istore_n (lv' := [(0, .int (p0 - (((p0).toUInt32 >>> (((1 : Int32)).toUInt32 &&& Int32.toUInt32 31)).toInt32 &&& 1431655765)))]) hx hb dJ6_bitCount_0f7a4_9 rfl hl (by decide) rfl (fun ls hl => ?_)
  refine lv_iload_n hx hb dJ6_bitCount_0f7a4_10 rfl (lv_at hl 0 rfl) ?_
  refine lv_ldcw hx hb hown (hts (Cond.constant RJ6 266 (858993459)) (List.mem_of_getElem? (i := 2) rfl)) dJ6_bitCount_0f7a4_11 ?_
  refine lv_iand hx hb dJ6_bitCount_0f7a4_14 ?_
  refine lv_iload_n hx hb dJ6_bitCount_0f7a4_15 rfl (lv_at hl 0 rfl) ?_
  refine lv_iconst (v := 2) hx hb dJ6_bitCount_0f7a4_16 (by decide) ?_
  refine lv_iushr hx hb dJ6_bitCount_0f7a4_17 rfl ?_
  refine lv_ldcw hx hb hown (hts (Cond.constant RJ6 266 (858993459)) (List.mem_of_getElem? (i := 2) rfl)) dJ6_bitCount_0f7a4_18 ?_
  refine lv_iand hx hb dJ6_bitCount_0f7a4_21 ?_
  refine lv_iadd hx hb dJ6_bitCount_0f7a4_22 ?_
  refine lv_istore_n (lv' := [(0, .int (((p0 - (((p0).toUInt32 >>> (((1 : Int32)).toUInt32 &&& Int32.toUInt32 31)).toInt32 &&& 1431655765)) &&& 858993459) + ((((p0 - (((p0).toUInt32 >>> (((1 : Int32)).toUInt32 &&& Int32.toUInt32 31)).toInt32 &&& 1431655765))).toUInt32 >>> (((2 : Int32)).toUInt32 &&& Int32.toUInt32 31)).toInt32 &&& 858993459)))]) hx hb dJ6_bitCount_0f7a4_23 rfl hl (by decide) rfl (fun ls hl => ?_)
  refine lv_iload_n hx hb dJ6_bitCount_0f7a4_24 rfl (lv_at hl 0 rfl) ?_
  refine lv_iload_n hx hb dJ6_bitCount_0f7a4_25 rfl (lv_at hl 0 rfl) ?_
  refine lv_iconst (v := 4) hx hb dJ6_bitCount_0f7a4_26 (by decide) ?_
  refine lv_iushr hx hb dJ6_bitCount_0f7a4_27 rfl ?_
  refine lv_iadd hx hb dJ6_bitCount_0f7a4_28 ?_
  refine lv_ldcw hx hb hown (hts (Cond.constant RJ6 267 (252645135)) (List.mem_of_getElem? (i := 3) rfl)) dJ6_bitCount_0f7a4_29 ?_
  refine lv_iand hx hb dJ6_bitCount_0f7a4_32 ?_
  refine lv_istore_n (lv' := [(0, .int (((((p0 - (((p0).toUInt32 >>> (((1 : Int32)).toUInt32 &&& Int32.toUInt32 31)).toInt32 &&& 1431655765)) &&& 858993459) + ((((p0 - (((p0).toUInt32 >>> (((1 : Int32)).toUInt32 &&& Int32.toUInt32 31)).toInt32 &&& 1431655765))).toUInt32 >>> (((2 : Int32)).toUInt32 &&& Int32.toUInt32 31)).toInt32 &&& 858993459)) + (((((p0 - (((p0).toUInt32 >>> (((1 : Int32)).toUInt32 &&& Int32.toUInt32 31)).toInt32 &&& 1431655765)) &&& 858993459) + ((((p0 - (((p0).toUInt32 >>> (((1 : Int32)).toUInt32 &&& Int32.toUInt32 31)).toInt32 &&& 1431655765))).toUInt32 >>> (((2 : Int32)).toUInt32 &&& Int32.toUInt32 31)).toInt32 &&& 858993459))).toUInt32 >>> (((4 : Int32)).toUInt32 &&& Int32.toUInt32 31)).toInt32) &&& 252645135))]) hx hb dJ6_bitCount_0f7a4_33 rfl hl (by decide) rfl (fun ls hl => ?_)
  refine lv_iload_n hx hb dJ6_bitCount_0f7a4_34 rfl (lv_at hl 0 rfl) ?_
  refine lv_iload_n hx hb dJ6_bitCount_0f7a4_35 rfl (lv_at hl 0 rfl) ?_
  refine lv_bipush (v := 8) hx hb dJ6_bitCount_0f7a4_36 (by decide) ?_
  refine lv_iushr hx hb dJ6_bitCount_0f7a4_38 rfl ?_
  refine lv_iadd hx hb dJ6_bitCount_0f7a4_39 ?_
  refine lv_istore_n (lv' := [(0, .int ((((((p0 - (((p0).toUInt32 >>> (((1 : Int32)).toUInt32 &&& Int32.toUInt32 31)).toInt32 &&& 1431655765)) &&& 858993459) + ((((p0 - (((p0).toUInt32 >>> (((1 : Int32)).toUInt32 &&& Int32.toUInt32 31)).toInt32 &&& 1431655765))).toUInt32 >>> (((2 : Int32)).toUInt32 &&& Int32.toUInt32 31)).toInt32 &&& 858993459)) + (((((p0 - (((p0).toUInt32 >>> (((1 : Int32)).toUInt32 &&& Int32.toUInt32 31)).toInt32 &&& 1431655765)) &&& 858993459) + ((((p0 - (((p0).toUInt32 >>> (((1 : Int32)).toUInt32 &&& Int32.toUInt32 31)).toInt32 &&& 1431655765))).toUInt32 >>> (((2 : Int32)).toUInt32 &&& Int32.toUInt32 31)).toInt32 &&& 858993459))).toUInt32 >>> (((4 : Int32)).toUInt32 &&& Int32.toUInt32 31)).toInt32) &&& 252645135) + (((((((p0 - (((p0).toUInt32 >>> (((1 : Int32)).toUInt32 &&& Int32.toUInt32 31)).toInt32 &&& 1431655765)) &&& 858993459) + ((((p0 - (((p0).toUInt32 >>> (((1 : Int32)).toUInt32 &&& Int32.toUInt32 31)).toInt32 &&& 1431655765))).toUInt32 >>> (((2 : Int32)).toUInt32 &&& Int32.toUInt32 31)).toInt32 &&& 858993459)) + (((((p0 - (((p0).toUInt32 >>> (((1 : Int32)).toUInt32 &&& Int32.toUInt32 31)).toInt32 &&& 1431655765)) &&& 858993459) + ((((p0 - (((p0).toUInt32 >>> (((1 : Int32)).toUInt32 &&& Int32.toUInt32 31)).toInt32 &&& 1431655765))).toUInt32 >>> (((2 : Int32)).toUInt32 &&& Int32.toUInt32 31)).toInt32 &&& 858993459))).toUInt32 >>> (((4 : Int32)).toUInt32 &&& Int32.toUInt32 31)).toInt32) &&& 252645135)).toUInt32 >>> (((8 : Int32)).toUInt32 &&& Int32.toUInt32 31)).toInt32))]) hx hb dJ6_bitCount_0f7a4_40 rfl hl (by decide) rfl (fun ls hl => ?_)
  refine lv_iload_n hx hb dJ6_bitCount_0f7a4_41 rfl (lv_at hl 0 rfl) ?_
  refine lv_iload_n hx hb dJ6_bitCount_0f7a4_42 rfl (lv_at hl 0 rfl) ?_
  refine lv_bipush (v := 16) hx hb dJ6_bitCount_0f7a4_43 (by decide) ?_
  refine lv_iushr hx hb dJ6_bitCount_0f7a4_45 rfl ?_
  refine lv_iadd hx hb dJ6_bitCount_0f7a4_46 ?_
  refine lv_istore_n (lv' := [(0, .int (((((((p0 - (((p0).toUInt32 >>> (((1 : Int32)).toUInt32 &&& Int32.toUInt32 31)).toInt32 &&& 1431655765)) &&& 858993459) + ((((p0 - (((p0).toUInt32 >>> (((1 : Int32)).toUInt32 &&& Int32.toUInt32 31)).toInt32 &&& 1431655765))).toUInt32 >>> (((2 : Int32)).toUInt32 &&& Int32.toUInt32 31)).toInt32 &&& 858993459)) + (((((p0 - (((p0).toUInt32 >>> (((1 : Int32)).toUInt32 &&& Int32.toUInt32 31)).toInt32 &&& 1431655765)) &&& 858993459) + ((((p0 - (((p0).toUInt32 >>> (((1 : Int32)).toUInt32 &&& Int32.toUInt32 31)).toInt32 &&& 1431655765))).toUInt32 >>> (((2 : Int32)).toUInt32 &&& Int32.toUInt32 31)).toInt32 &&& 858993459))).toUInt32 >>> (((4 : Int32)).toUInt32 &&& Int32.toUInt32 31)).toInt32) &&& 252645135) + (((((((p0 - (((p0).toUInt32 >>> (((1 : Int32)).toUInt32 &&& Int32.toUInt32 31)).toInt32 &&& 1431655765)) &&& 858993459) + ((((p0 - (((p0).toUInt32 >>> (((1 : Int32)).toUInt32 &&& Int32.toUInt32 31)).toInt32 &&& 1431655765))).toUInt32 >>> (((2 : Int32)).toUInt32 &&& Int32.toUInt32 31)).toInt32 &&& 858993459)) + (((((p0 - (((p0).toUInt32 >>> (((1 : Int32)).toUInt32 &&& Int32.toUInt32 31)).toInt32 &&& 1431655765)) &&& 858993459) + ((((p0 - (((p0).toUInt32 >>> (((1 : Int32)).toUInt32 &&& Int32.toUInt32 31)).toInt32 &&& 1431655765))).toUInt32 >>> (((2 : Int32)).toUInt32 &&& Int32.toUInt32 31)).toInt32 &&& 858993459))).toUInt32 >>> (((4 : Int32)).toUInt32 &&& Int32.toUInt32 31)).toInt32) &&& 252645135)).toUInt32 >>> (((8 : Int32)).toUInt32 &&& Int32.toUInt32 31)).toInt32) + ((((((((p0 - (((p0).toUInt32 >>> (((1 : Int32)).toUInt32 &&& Int32.toUInt32 31)).toInt32 &&& 1431655765)) &&& 858993459) + ((((p0 - (((p0).toUInt32 >>> (((1 : Int32)).toUInt32 &&& Int32.toUInt32 31)).toInt32 &&& 1431655765))).toUInt32 >>> (((2 : Int32)).toUInt32 &&& Int32.toUInt32 31)).toInt32 &&& 858993459)) + (((((p0 - (((p0).toUInt32 >>> (((1 : Int32)).toUInt32 &&& Int32.toUInt32 31)).toInt32 &&& 1431655765)) &&& 858993459) + ((((p0 - (((p0).toUInt32 >>> (((1 : Int32)).toUInt32 &&& Int32.toUInt32 31)).toInt32 &&& 1431655765))).toUInt32 >>> (((2 : Int32)).toUInt32 &&& Int32.toUInt32 31)).toInt32 &&& 858993459))).toUInt32 >>> (((4 : Int32)).toUInt32 &&& Int32.toUInt32 31)).toInt32) &&& 252645135) + (((((((p0 - (((p0).toUInt32 >>> (((1 : Int32)).toUInt32 &&& Int32.toUInt32 31)).toInt32 &&& 1431655765)) &&& 858993459) + ((((p0 - (((p0).toUInt32 >>> (((1 : Int32)).toUInt32 &&& Int32.toUInt32 31)).toInt32 &&& 1431655765))).toUInt32 >>> (((2 : Int32)).toUInt32 &&& Int32.toUInt32 31)).toInt32 &&& 858993459)) + (((((p0 - (((p0).toUInt32 >>> (((1 : Int32)).toUInt32 &&& Int32.toUInt32 31)).toInt32 &&& 1431655765)) &&& 858993459) + ((((p0 - (((p0).toUInt32 >>> (((1 : Int32)).toUInt32 &&& Int32.toUInt32 31)).toInt32 &&& 1431655765))).toUInt32 >>> (((2 : Int32)).toUInt32 &&& Int32.toUInt32 31)).toInt32 &&& 858993459))).toUInt32 >>> (((4 : Int32)).toUInt32 &&& Int32.toUInt32 31)).toInt32) &&& 252645135)).toUInt32 >>> (((8 : Int32)).toUInt32 &&& Int32.toUInt32 31)).toInt32)).toUInt32 >>> (((16 : Int32)).toUInt32 &&& Int32.toUInt32 31)).toInt32))]) hx hb dJ6_bitCount_0f7a4_47 rfl hl (by decide) rfl (fun ls hl => ?_)
  refine lv_iload_n hx hb dJ6_bitCount_0f7a4_48 rfl (lv_at hl 0 rfl) ?_
  refine lv_bipush (v := 63) hx hb dJ6_bitCount_0f7a4_49 (by decide) ?_
  refine lv_iand hx hb dJ6_bitCount_0f7a4_51 ?_
  exact rI hx hb hr hlk dJ6_bitCount_0f7a4_52 (by rw [fJ6_bitCount_0f7a4])
def fX3_payment (u : Mem) (p0 : Int32) (p1 : Int32) (p2 : Int32) (p3 : Int32) : Int32 :=
  (if (fX3_isFraud u p2) = 0 then ((fX3_paysEach p0 p1) * (fJ6_bitCount_0f7a4 (p2 &&& p3))) else 0)
set_option maxRecDepth 100000 in
set_option maxHeartbeats 4000000 in
theorem kX3_payment (l : Launch) (D : va_G) (cy : Nat → ClassId) (ad : Nat → Nat) (u : Mem) (p0 : Int32) (p1 : Int32) (p2 : Int32) (p3 : Int32)  : Met l yX3_payment wsX3_payment ({ frames := 2, cells := 0, slots := 0, locals := 41 } : Room) (va_Pc [.ref (ad 0), .int p0, .int p1, .int p2, .int p3] (XB D cy ad u)) (qR (some (.int (fX3_payment u p0 p1 p2 p3)))) 0 0 noF := by
  refine m_start (cc := cX3_payment) (maxL := 5) (ret := (some .int)) (by decide) rfl (Nat.le_of_ble_eq_true rfl) (fun p e s m below meth c hx hb hr hts hown hml hlk _ hB ls hl => ?_)
  obtain ⟨hP, hK⟩ := hB
  have hown : s.vm.findClass RX3 = some m.cls := hown
  have hl : lv_has ls 5 [(0, .ref (ad 0)), (1, .int p0), (2, .int p1), (3, .int p2), (4, .int p3)] := hl
  have hin_X3 : ∀ w ∈ wsX30, w ∈ wsX3_payment := fun _ h => List.mem_cons_of_mem _ (List.mem_append_right _ (h))
  refine lv_aload_n hx hb dX3_payment_0 rfl (lv_at hl 0 rfl) ?_
  refine lv_iload_n hx hb dX3_payment_1 rfl (lv_at hl 3 rfl) ?_
  refine kV (n := 1) (As := [.int p2]) (rest := []) ⟨hx, hb, hml, hown, hts⟩ (kX3_isFraud l D cy ad u p2) gX3_payment_X3_isFraud rfl rfl rfl (by decide +kernel) ⟨Nat.le_of_ble_eq_true rfl, Nat.le_of_ble_eq_true rfl⟩ (recvX hP hK) (XB_of hP hK) XB_bl rfl hl.1 rfl (Nat.le_of_ble_eq_true rfl) dX3_payment_2 ⟨Nat.le_refl _, Nat.le_refl _⟩ ?_
  refine lv_if_eq (tgt := 12) hx hb dX3_payment_5 (by decide) (fun c1 => ?_) (fun c1 => ?_)
  · refine lv_iload_n hx hb dX3_payment_12 rfl (lv_at hl 1 rfl) ?_
    refine lv_iload_n hx hb dX3_payment_13 rfl (lv_at hl 2 rfl) ?_
    refine kS (n := 2) (As := [.int p0, .int p1]) (rest := []) ⟨hx, hb, hml, hown, hts⟩ (kX3_paysEach l p0 p1) gX3_payment_X3_paysEach rfl rfl rfl (by decide +kernel) ⟨Nat.le_of_ble_eq_true rfl, Nat.le_of_ble_eq_true rfl⟩ (fun _ _ _ => trivial) (fun _ _ _ _ _ => trivial) rfl hl.1 rfl (Nat.le_of_ble_eq_true rfl) dX3_payment_14 ⟨Nat.le_refl _, Nat.le_refl _⟩ ?_
    refine lv_iload_n hx hb dX3_payment_17 rfl (lv_at hl 3 rfl) ?_
    refine lv_iload hx hb dX3_payment_18 (lv_at hl 4 rfl) ?_
    refine lv_iand hx hb dX3_payment_20 ?_
    refine kS (n := 1) (As := [.int (p2 &&& p3)]) (rest := [.int (fX3_paysEach p0 p1)]) ⟨hx, hb, hml, hown, hts⟩ (kJ6_bitCount_0f7a4 l (p2 &&& p3)) gX3_payment_J6_bitCount_0f7a4 rfl rfl rfl (by decide +kernel) ⟨Nat.le_of_ble_eq_true rfl, Nat.le_of_ble_eq_true rfl⟩ (fun _ _ _ => trivial) (fun _ _ _ _ _ => trivial) rfl hl.1 rfl (Nat.le_of_ble_eq_true rfl) dX3_payment_21 ⟨Nat.le_refl _, Nat.le_refl _⟩ ?_
    refine lv_imul hx hb dX3_payment_24 ?_
    exact rI hx hb hr hlk dX3_payment_25 (by rw [fX3_payment, if_pos c1])
  · refine lv_iconst (v := 0) hx hb dX3_payment_8 (by decide) ?_
    refine lv_goto (tgt := 25) hx hb dX3_payment_9 (by decide) ?_
    exact rI hx hb hr hlk dX3_payment_25 (by rw [fX3_payment, if_neg c1])
def fX3_paidTo (u : Mem) (p0 : Int32) (p1 : Int32) : Int32 :=
  (fX3_payment u (u 2 p0.toNatClampNeg) (u 3 p0.toNatClampNeg) (u 4 p0.toNatClampNeg) p1)
set_option maxRecDepth 100000 in
set_option maxHeartbeats 4000000 in
theorem kX3_paidTo (l : Launch) (D : va_G) (cy : Nat → ClassId) (ad : Nat → Nat) (u : Mem) (p0 : Int32) (p1 : Int32) (hp : vp_in p0 4) : Met l yX3_paidTo wsX3_paidTo ({ frames := 3, cells := 0, slots := 0, locals := 65 } : Room) (va_Pc [.ref (ad 0), .int p0, .int p1] (XB D cy ad u)) (qR (some (.int (fX3_paidTo u p0 p1)))) 0 0 noF := by
  refine m_start (cc := cX3_paidTo) (maxL := 4) (ret := (some .int)) (by decide) rfl (Nat.le_of_ble_eq_true rfl) (fun p e s m below meth c hx hb hr hts hown hml hlk _ hB ls hl => ?_)
  obtain ⟨hP, hK⟩ := hB
  have hown : s.vm.findClass RX3 = some m.cls := hown
  have hl : lv_has ls 4 [(0, .ref (ad 0)), (1, .int p0), (2, .int p1)] := hl
  have hin_X0 : ∀ w ∈ wsX00, w ∈ wsX3_paidTo := fun _ h => List.mem_cons_of_mem _ (List.mem_append_right _ (h))
  have hin_X3 : ∀ w ∈ wsX30, w ∈ wsX3_paidTo := fun _ h => List.mem_cons_of_mem _ (List.mem_append_left _ (List.mem_append_right _ (h)))
  refine lv_aload_n hx hb dX3_paidTo_0 rfl (lv_at hl 0 rfl) ?_
  refine zg_X3_prophets hx hb hts hin_X3 hown hK hP (hts (Cond.fieldLink RX3 23 "ProphetCover" "prophets" "[LProphetCover$Prophet;") (List.mem_of_getElem? (i := 1) rfl)) dX3_paidTo_1 ?_
  refine lv_iload_n hx hb dX3_paidTo_4 rfl (lv_at hl 1 rfl) ?_
  refine zl_prophets hx hb hK hP (by assumption) dX3_paidTo_5 ?_
  refine lv_astore_n (lv' := [(3, .ref (ad (13 + p0.toNatClampNeg))), (0, .ref (ad 0)), (1, .int p0), (2, .int p1)]) hx hb dX3_paidTo_6 rfl hl (by decide) rfl (fun ls hl => ?_)
  refine lv_aload_n hx hb dX3_paidTo_7 rfl (lv_at hl 1 rfl) ?_
  refine lv_aload_n hx hb dX3_paidTo_8 rfl (lv_at hl 0 rfl) ?_
  refine zg_X0_kind (vlt (n := 4) (i := p0) (by assumption)) hx hb hts hin_X0 hown hK hP (hts (Cond.fieldLink RX3 88 "ProphetCover$Prophet" "kind" "I") (List.mem_of_getElem? (i := 2) rfl)) dX3_paidTo_9 ?_
  refine lv_aload_n hx hb dX3_paidTo_12 rfl (lv_at hl 0 rfl) ?_
  refine zg_X0_cover (vlt (n := 4) (i := p0) (by assumption)) hx hb hts hin_X0 hown hK hP (hts (Cond.fieldLink RX3 91 "ProphetCover$Prophet" "cover" "I") (List.mem_of_getElem? (i := 3) rfl)) dX3_paidTo_13 ?_
  refine lv_aload_n hx hb dX3_paidTo_16 rfl (lv_at hl 0 rfl) ?_
  refine zg_X0_saidSet (vlt (n := 4) (i := p0) (by assumption)) hx hb hts hin_X0 hown hK hP (hts (Cond.fieldLink RX3 94 "ProphetCover$Prophet" "saidSet" "I") (List.mem_of_getElem? (i := 4) rfl)) dX3_paidTo_17 ?_
  refine lv_iload_n hx hb dX3_paidTo_20 rfl (lv_at hl 3 rfl) ?_
  refine kV (n := 4) (As := [.int (u 2 p0.toNatClampNeg), .int (u 3 p0.toNatClampNeg), .int (u 4 p0.toNatClampNeg), .int p1]) (rest := []) ⟨hx, hb, hml, hown, hts⟩ (kX3_payment l D cy ad u (u 2 p0.toNatClampNeg) (u 3 p0.toNatClampNeg) (u 4 p0.toNatClampNeg) p1) gX3_paidTo_X3_payment rfl rfl rfl (by decide +kernel) ⟨Nat.le_of_ble_eq_true rfl, Nat.le_of_ble_eq_true rfl⟩ (recvX hP hK) (XB_of hP hK) XB_bl rfl hl.1 rfl (Nat.le_of_ble_eq_true rfl) dX3_paidTo_21 ⟨Nat.le_refl _, Nat.le_refl _⟩ ?_
  exact rI hx hb hr hlk dX3_paidTo_24 (by rw [fX3_paidTo])
def fX3_paid (u : Mem) (p0 : Int32) (p1 : Int32) : Int32 :=
  (if (fX3_isProphet u p0) = 0 then (-1) else (if (fX3_isEventSet u p1) = 0 then (-2) else (fX3_paidTo u p0 p1)))
set_option maxRecDepth 100000 in
set_option maxHeartbeats 4000000 in
theorem kX3_paid (l : Launch) (D : va_G) (cy : Nat → ClassId) (ad : Nat → Nat) (u : Mem) (p0 : Int32) (p1 : Int32) (hpc : PcOk u) : Met l yX3_paid wsX3_paid ({ frames := 4, cells := 0, slots := 0, locals := 88 } : Room) (va_Pc [.ref (ad 0), .int p0, .int p1] (XB D cy ad u)) (qR (some (.int (fX3_paid u p0 p1)))) 0 0 noF := by
  refine m_start (cc := cX3_paid) (maxL := 3) (ret := (some .int)) (by decide) rfl (Nat.le_of_ble_eq_true rfl) (fun p e s m below meth c hx hb hr hts hown hml hlk _ hB ls hl => ?_)
  obtain ⟨hP, hK⟩ := hB
  have hown : s.vm.findClass RX3 = some m.cls := hown
  have hl : lv_has ls 3 [(0, .ref (ad 0)), (1, .int p0), (2, .int p1)] := hl
  have hin_X0 : ∀ w ∈ wsX00, w ∈ wsX3_paid := fun _ h => List.mem_cons_of_mem _ (List.mem_append_right _ (h))
  have hin_X3 : ∀ w ∈ wsX30, w ∈ wsX3_paid := fun _ h => List.mem_cons_of_mem _ (List.mem_append_left _ (List.mem_append_right _ (h)))
  refine lv_aload_n hx hb dX3_paid_0 rfl (lv_at hl 0 rfl) ?_
  refine lv_iload_n hx hb dX3_paid_1 rfl (lv_at hl 1 rfl) ?_
  refine kV (n := 1) (As := [.int p0]) (rest := []) ⟨hx, hb, hml, hown, hts⟩ (kX3_isProphet l D cy ad u p0) gX3_paid_X3_isProphet rfl rfl rfl (by decide +kernel) ⟨Nat.le_of_ble_eq_true rfl, Nat.le_of_ble_eq_true rfl⟩ (recvX hP hK) (XB_of hP hK) XB_bl rfl hl.1 rfl (Nat.le_of_ble_eq_true rfl) dX3_paid_2 ⟨Nat.le_refl _, Nat.le_refl _⟩ ?_
  refine lv_if_ne (tgt := 10) hx hb dX3_paid_5 (by decide) (fun c1 => ?_) (fun c1 => ?_)
  · have hv1 : vp_in p0 4 := isProphet_in hpc c1
    refine lv_aload_n hx hb dX3_paid_10 rfl (lv_at hl 0 rfl) ?_
    refine lv_iload_n hx hb dX3_paid_11 rfl (lv_at hl 2 rfl) ?_
    refine kV (n := 1) (As := [.int p1]) (rest := []) ⟨hx, hb, hml, hown, hts⟩ (kX3_isEventSet l D cy ad u p1) gX3_paid_X3_isEventSet rfl rfl rfl (by decide +kernel) ⟨Nat.le_of_ble_eq_true rfl, Nat.le_of_ble_eq_true rfl⟩ (recvX hP hK) (XB_of hP hK) XB_bl rfl hl.1 rfl (Nat.le_of_ble_eq_true rfl) dX3_paid_12 ⟨Nat.le_refl _, Nat.le_refl _⟩ ?_
    refine lv_if_eq (tgt := 27) hx hb dX3_paid_15 (by decide) (fun c2 => ?_) (fun c2 => ?_)
    · refine lv_bipush (v := (-2)) hx hb dX3_paid_27 (by decide) ?_
      exact rI hx hb hr hlk dX3_paid_29 (by rw [fX3_paid, if_neg c1, if_pos c2])
    · refine lv_aload_n hx hb dX3_paid_18 rfl (lv_at hl 0 rfl) ?_
      refine lv_iload_n hx hb dX3_paid_19 rfl (lv_at hl 1 rfl) ?_
      refine lv_iload_n hx hb dX3_paid_20 rfl (lv_at hl 2 rfl) ?_
      refine kV (n := 2) (As := [.int p0, .int p1]) (rest := []) ⟨hx, hb, hml, hown, hts⟩ (kX3_paidTo l D cy ad u p0 p1 (by assumption)) gX3_paid_X3_paidTo rfl rfl rfl (by decide +kernel) ⟨Nat.le_of_ble_eq_true rfl, Nat.le_of_ble_eq_true rfl⟩ (recvX hP hK) (XB_of hP hK) XB_bl rfl hl.1 rfl (Nat.le_of_ble_eq_true rfl) dX3_paid_21 ⟨Nat.le_refl _, Nat.le_refl _⟩ ?_
      refine lv_goto (tgt := 29) hx hb dX3_paid_24 (by decide) ?_
      exact rI hx hb hr hlk dX3_paid_29 (by rw [fX3_paid, if_neg c1, if_neg c2])
  · refine lv_iconst (v := (-1)) hx hb dX3_paid_8 (by decide) ?_
    exact rI hx hb hr hlk dX3_paid_9 (by rw [fX3_paid, if_pos c1])
def fX3_hasOffice (u : Mem) : Int32 :=
  (if (u 0 5) ≤ 0 then 0 else 1)
set_option maxRecDepth 100000 in
set_option maxHeartbeats 4000000 in
theorem kX3_hasOffice (l : Launch) (D : va_G) (cy : Nat → ClassId) (ad : Nat → Nat) (u : Mem)  : Met l yX3_hasOffice wsX3_hasOffice ({ frames := 0, cells := 0, slots := 0, locals := 0 } : Room) (va_Pc [.ref (ad 0)] (XB D cy ad u)) (qR (some (.int (fX3_hasOffice u)))) 0 0 noF := by
  refine m_start (cc := cX3_hasOffice) (maxL := 1) (ret := (some .boolean)) (by decide) rfl (Nat.le_of_ble_eq_true rfl) (fun p e s m below meth c hx hb hr hts hown hml hlk _ hB ls hl => ?_)
  obtain ⟨hP, hK⟩ := hB
  have hown : s.vm.findClass RX3 = some m.cls := hown
  have hl : lv_has ls 1 [(0, .ref (ad 0))] := hl
  have hin_X3 : ∀ w ∈ wsX30, w ∈ wsX3_hasOffice := fun _ h => List.mem_cons_of_mem _ (List.mem_append_right _ (h))
  refine lv_aload_n hx hb dX3_hasOffice_0 rfl (lv_at hl 0 rfl) ?_
  refine zg_X3_prophetCount hx hb hts hin_X3 hown hK hP (hts (Cond.fieldLink RX3 37 "ProphetCover" "prophetCount" "I") (List.mem_of_getElem? (i := 1) rfl)) dX3_hasOffice_1 ?_
  refine lv_if_le (tgt := 11) hx hb dX3_hasOffice_4 (by decide) (fun c1 => ?_) (fun c1 => ?_)
  · refine lv_iconst (v := 0) hx hb dX3_hasOffice_11 (by decide) ?_
    exact rZ hx hb hr hlk (by rfl) dX3_hasOffice_12 (by rw [fX3_hasOffice, if_pos c1])
  · refine lv_iconst (v := 1) hx hb dX3_hasOffice_7 (by decide) ?_
    refine lv_goto (tgt := 12) hx hb dX3_hasOffice_8 (by decide) ?_
    exact rZ hx hb hr hlk (by rfl) dX3_hasOffice_12 (by rw [fX3_hasOffice, if_neg c1])
def fX3_paidToAll_c4 (u : Mem) (p0 : Int32)  : Nat → Int32 → Int32 → Int32
  | 0, x3, x2 => 0
  | n4 + 1, x3, x2 => (if (u 0 5) ≤ x3 then x2 else (fX3_paidToAll_c4 u p0 n4 (x3 + 1) (x2 + (fX3_paidTo u x3 p0))))
def fX3_paidToAll (u : Mem) (p0 : Int32) : Int32 :=
  (fX3_paidToAll_c4 u p0 (5) 0 0)
set_option maxRecDepth 100000 in
set_option maxHeartbeats 4000000 in
theorem kX3_paidToAll (l : Launch) (D : va_G) (cy : Nat → ClassId) (ad : Nat → Nat) (u : Mem) (p0 : Int32) (hpc : PcOk u) : Met l yX3_paidToAll wsX3_paidToAll ({ frames := 4, cells := 0, slots := 0, locals := 88 } : Room) (va_Pc [.ref (ad 0), .int p0] (XB D cy ad u)) (qR (some (.int (fX3_paidToAll u p0)))) 0 0 noF := by
  refine m_start (cc := cX3_paidToAll) (maxL := 4) (ret := (some .int)) (by decide) rfl (Nat.le_of_ble_eq_true rfl) (fun p e s m below meth c hx hb hr hts hown hml hlk _ hB ls hl => ?_)
  obtain ⟨hP, hK⟩ := hB
  have hown : s.vm.findClass RX3 = some m.cls := hown
  have hl : lv_has ls 4 [(0, .ref (ad 0)), (1, .int p0)] := hl
  have hin_X0 : ∀ w ∈ wsX00, w ∈ wsX3_paidToAll := fun _ h => List.mem_cons_of_mem _ (List.mem_append_right _ (h))
  have hin_X3 : ∀ w ∈ wsX30, w ∈ wsX3_paidToAll := fun _ h => List.mem_cons_of_mem _ (List.mem_append_left _ (List.mem_append_right _ (h)))
  obtain ⟨np, hnp, enp⟩ := id hpc
  refine lv_iconst (v := 0) hx hb dX3_paidToAll_0 (by decide) ?_
  refine lv_istore_n (lv' := [(2, .int 0), (0, .ref (ad 0)), (1, .int p0)]) hx hb dX3_paidToAll_1 rfl hl (by decide) rfl (fun ls hl => ?_)
  refine lv_iconst (v := 0) hx hb dX3_paidToAll_2 (by decide) ?_
  refine lv_istore_n (lv' := [(3, .int 0), (2, .int 0), (0, .ref (ad 0)), (1, .int p0)]) hx hb dX3_paidToAll_3 rfl hl (by decide) rfl (fun ls hl => ?_)
  have lp4 : ∀ (n4 : Nat) (x3 : Int32) (x2 : Int32) (k4 : Nat), (fX3_paidToAll u p0) = (fX3_paidToAll_c4 u p0 n4 x3 x2) → (x3 = nI k4) → (k4 ≤ np) → (np < k4 + n4) → ∀ ls : Array Slot, lv_has ls 4 [(3, .int x3), (2, .int x2), (0, .ref (ad 0)), (1, .int p0)] → W p l e ({ frames := 4, cells := 0, slots := 0, locals := 88 } : Room) s m ([.ref (ad 0), .int p0] : List Value).toArray below meth c s.heap [] 0 0 (MQ below (qR (some (.int (fX3_paidToAll u p0)))) ([.ref (ad 0), .int p0] : List Value).toArray s 0 0 noF) (F0 m 4 ls []) := by
    intro n4
    induction n4 with
    | zero =>
      intro x3 x2 k4 _ e4 hk4 hm4 ls hl
      exfalso; omega
    | succ n4 ih4 =>
      intro x3 x2 k4 hr4 e4 hk4 hm4 ls hl
      refine lv_iload_n hx hb dX3_paidToAll_4 rfl (lv_at hl 0 rfl) ?_
      refine lv_aload_n hx hb dX3_paidToAll_5 rfl (lv_at hl 2 rfl) ?_
      refine zg_X3_prophetCount hx hb hts hin_X3 hown hK hP (hts (Cond.fieldLink RX3 37 "ProphetCover" "prophetCount" "I") (List.mem_of_getElem? (i := 1) rfl)) dX3_paidToAll_6 ?_
      refine lv_icmp_ge (tgt := 27) hx hb dX3_paidToAll_9 (by decide) (fun c1 => ?_) (fun c1 => ?_)
      · refine lv_iload_n hx hb dX3_paidToAll_27 rfl (lv_at hl 1 rfl) ?_
        exact rI hx hb hr hlk dX3_paidToAll_28 (by rw [hr4, fX3_paidToAll_c4, if_pos c1])
      · have hlt4 : k4 < np := cnt_lt enp e4 (by omega) (by omega) c1
        have hv4 : vp_in x3 4 := cnt_in e4 (by omega) (by decide)
        refine lv_iload_n hx hb dX3_paidToAll_12 rfl (lv_at hl 1 rfl) ?_
        refine lv_aload_n hx hb dX3_paidToAll_13 rfl (lv_at hl 2 rfl) ?_
        refine lv_iload_n hx hb dX3_paidToAll_14 rfl (lv_at hl 0 rfl) ?_
        refine lv_iload_n hx hb dX3_paidToAll_15 rfl (lv_at hl 3 rfl) ?_
        refine kV (n := 2) (As := [.int x3, .int p0]) (rest := [.int x2]) ⟨hx, hb, hml, hown, hts⟩ (kX3_paidTo l D cy ad u x3 p0 (by assumption)) gX3_paidToAll_X3_paidTo rfl rfl rfl (by decide +kernel) ⟨Nat.le_of_ble_eq_true rfl, Nat.le_of_ble_eq_true rfl⟩ (recvX hP hK) (XB_of hP hK) XB_bl rfl hl.1 rfl (Nat.le_of_ble_eq_true rfl) dX3_paidToAll_16 ⟨Nat.le_refl _, Nat.le_refl _⟩ ?_
        refine lv_iadd hx hb dX3_paidToAll_19 ?_
        refine lv_istore_n (lv' := [(2, .int (x2 + (fX3_paidTo u x3 p0))), (3, .int x3), (0, .ref (ad 0)), (1, .int p0)]) hx hb dX3_paidToAll_20 rfl hl (by decide) rfl (fun ls hl => ?_)
        refine lv_iinc (v := (x3 + 1)) (lv' := [(3, .int (x3 + 1)), (2, .int (x2 + (fX3_paidTo u x3 p0))), (0, .ref (ad 0)), (1, .int p0)]) hx hb dX3_paidToAll_21 hl (k := 1) rfl rfl (by decide) rfl (fun ls hl => ?_)
        refine lv_goto (tgt := 4) hx hb dX3_paidToAll_24 (by decide) ?_
        exact ih4 (x3 + 1) (x2 + (fX3_paidTo u x3 p0)) (k4 + 1) (by rw [hr4, fX3_paidToAll_c4, if_neg c1]) (by rw [e4]; exact nI_1 _) hlt4 (by omega) ls (lv_sub hl [0, 1, 2, 3] rfl)
  exact lp4 (5) 0 0 (0) (by rw [fX3_paidToAll]) nI_0.symm (by omega) (by omega) ls (lv_sub hl [0, 1, 2, 3] rfl)
