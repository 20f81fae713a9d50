def fX3_total (u : Mem) (p0 : Int32) : Int32 :=
  (if (fX3_hasOffice u) = 0 then (-3) else (if (fX3_isEventSet u p0) = 0 then (-2) else (fX3_paidToAll u p0)))
set_option maxRecDepth 100000 in
set_option maxHeartbeats 4000000 in
theorem kX3_total (l : Launch) (D : va_G) (cy : Nat → ClassId) (ad : Nat → Nat) (u : Mem) (p0 : Int32) (hpc : PcOk u) : Met l yX3_total wsX3_total ({ frames := 5, cells := 0, slots := 0, locals := 111 } : Room) (va_Pc [.ref (ad 0), .int p0] (XB D cy ad u)) (qR (some (.int (fX3_total u p0)))) 0 0 noF := by
  refine m_start (cc := cX3_total) (maxL := 2) (ret := (some .int)) (by decide) rfl (Nat.le_of_ble_eq_true rfl) (fun p e s m below meth c hx hb hr hts hown hml hlk _ hB ls hl => ?_)
  obtain ⟨hP, hK⟩ := hB
  have hown : s.vm.findClass RX3 = some m.cls := hown
  have hl : lv_has ls 2 [(0, .ref (ad 0)), (1, .int p0)] := hl
  have hin_X0 : ∀ w ∈ wsX00, w ∈ wsX3_total := fun _ h => List.mem_cons_of_mem _ (List.mem_append_right _ (h))
  have hin_X3 : ∀ w ∈ wsX30, w ∈ wsX3_total := fun _ h => List.mem_cons_of_mem _ (List.mem_append_left _ (List.mem_append_right _ (h)))
  refine lv_aload_n hx hb dX3_total_0 rfl (lv_at hl 0 rfl) ?_
  refine kV (n := 0) (As := []) (rest := []) ⟨hx, hb, hml, hown, hts⟩ (kX3_hasOffice l D cy ad u) gX3_total_X3_hasOffice rfl rfl rfl (by decide +kernel) ⟨Nat.le_of_ble_eq_true rfl, Nat.le_of_ble_eq_true rfl⟩ (recvX hP hK) (XB_of hP hK) XB_bl rfl hl.1 rfl (Nat.le_of_ble_eq_true rfl) dX3_total_1 ⟨Nat.le_refl _, Nat.le_refl _⟩ ?_
  refine lv_if_ne (tgt := 10) hx hb dX3_total_4 (by decide) (fun c1 => ?_) (fun c1 => ?_)
  · refine lv_aload_n hx hb dX3_total_10 rfl (lv_at hl 0 rfl) ?_
    refine lv_iload_n hx hb dX3_total_11 rfl (lv_at hl 1 rfl) ?_
    refine kV (n := 1) (As := [.int p0]) (rest := []) ⟨hx, hb, hml, hown, hts⟩ (kX3_isEventSet l D cy ad u p0) gX3_total_X3_isEventSet rfl rfl rfl (by decide +kernel) ⟨Nat.le_of_ble_eq_true rfl, Nat.le_of_ble_eq_true rfl⟩ (recvX hP hK) (XB_of hP hK) XB_bl rfl hl.1 rfl (Nat.le_of_ble_eq_true rfl) dX3_total_12 ⟨Nat.le_refl _, Nat.le_refl _⟩ ?_
    refine lv_if_eq (tgt := 26) hx hb dX3_total_15 (by decide) (fun c2 => ?_) (fun c2 => ?_)
    · refine lv_bipush (v := (-2)) hx hb dX3_total_26 (by decide) ?_
      exact rI hx hb hr hlk dX3_total_28 (by rw [fX3_total, if_neg c1, if_pos c2])
    · refine lv_aload_n hx hb dX3_total_18 rfl (lv_at hl 0 rfl) ?_
      refine lv_iload_n hx hb dX3_total_19 rfl (lv_at hl 1 rfl) ?_
      refine kV (n := 1) (As := [.int p0]) (rest := []) ⟨hx, hb, hml, hown, hts⟩ (kX3_paidToAll l D cy ad u p0 (by first | exact hpc | assumption)) gX3_total_X3_paidToAll rfl rfl rfl (by decide +kernel) ⟨Nat.le_of_ble_eq_true rfl, Nat.le_of_ble_eq_true rfl⟩ (recvX hP hK) (XB_of hP hK) XB_bl rfl hl.1 rfl (Nat.le_of_ble_eq_true rfl) dX3_total_20 ⟨Nat.le_refl _, Nat.le_refl _⟩ ?_
      refine lv_goto (tgt := 28) hx hb dX3_total_23 (by decide) ?_
      exact rI hx hb hr hlk dX3_total_28 (by rw [fX3_total, if_neg c1, if_neg c2])
  · refine lv_bipush (v := (-3)) hx hb dX3_total_7 (by decide) ?_
    exact rI hx hb hr hlk dX3_total_9 (by rw [fX3_total, if_pos c1])
def fX3_isYearsQuestion (p0 : Int32) : Int32 :=
  (if (fX3_isWithin p0 3) = 0 then (if (fX3_isWithin (p0 - 10) 3) = 0 then 0 else 1) else 1)
set_option maxRecDepth 100000 in
set_option maxHeartbeats 4000000 in
theorem kX3_isYearsQuestion (l : Launch)  (p0 : Int32)  : Met l yX3_isYearsQuestion wsX3_isYearsQuestion ({ frames := 1, cells := 0, slots := 0, locals := 21 } : Room) (va_Pc [.int p0] (fun _ => True)) (qR (some (.int (fX3_isYearsQuestion p0)))) 0 0 noF := by
  refine m_start (cc := cX3_isYearsQuestion) (maxL := 1) (ret := (some .boolean)) (by decide) rfl (Nat.le_of_ble_eq_true rfl) (fun p e s m below meth c hx hb hr hts hown hml hlk _ hB ls hl => ?_)
  have hown : s.vm.findClass RX3 = some m.cls := hown
  have hl : lv_has ls 1 [(0, .int p0)] := hl
  refine lv_iload_n hx hb dX3_isYearsQuestion_0 rfl (lv_at hl 0 rfl) ?_
  refine lv_iconst (v := 3) hx hb dX3_isYearsQuestion_1 (by decide) ?_
  refine kS (n := 2) (As := [.int p0, .int 3]) (rest := []) ⟨hx, hb, hml, hown, hts⟩ (kX3_isWithin l p0 3) gX3_isYearsQuestion_X3_isWithin rfl rfl rfl (by decide +kernel) ⟨Nat.le_of_ble_eq_true rfl, Nat.le_of_ble_eq_true rfl⟩ (fun _ _ _ => trivial) (fun _ _ _ _ _ => trivial) rfl hl.1 rfl (Nat.le_of_ble_eq_true rfl) dX3_isYearsQuestion_2 ⟨Nat.le_refl _, Nat.le_refl _⟩ ?_
  refine lv_if_ne (tgt := 19) hx hb dX3_isYearsQuestion_5 (by decide) (fun c1 => ?_) (fun c1 => ?_)
  · refine lv_iconst (v := 1) hx hb dX3_isYearsQuestion_19 (by decide) ?_
    refine lv_goto (tgt := 24) hx hb dX3_isYearsQuestion_20 (by decide) ?_
    exact rZ hx hb hr hlk (by rfl) dX3_isYearsQuestion_24 (by rw [fX3_isYearsQuestion, if_neg c1])
  · refine lv_iload_n hx hb dX3_isYearsQuestion_8 rfl (lv_at hl 0 rfl) ?_
    refine lv_bipush (v := 10) hx hb dX3_isYearsQuestion_9 (by decide) ?_
    refine lv_isub hx hb dX3_isYearsQuestion_11 ?_
    refine lv_iconst (v := 3) hx hb dX3_isYearsQuestion_12 (by decide) ?_
    refine kS (n := 2) (As := [.int (p0 - 10), .int 3]) (rest := []) ⟨hx, hb, hml, hown, hts⟩ (kX3_isWithin l (p0 - 10) 3) gX3_isYearsQuestion_X3_isWithin rfl rfl rfl (by decide +kernel) ⟨Nat.le_of_ble_eq_true rfl, Nat.le_of_ble_eq_true rfl⟩ (fun _ _ _ => trivial) (fun _ _ _ _ _ => trivial) rfl hl.1 rfl (Nat.le_of_ble_eq_true rfl) dX3_isYearsQuestion_13 ⟨Nat.le_refl _, Nat.le_refl _⟩ ?_
    refine lv_if_eq (tgt := 23) hx hb dX3_isYearsQuestion_16 (by decide) (fun c2 => ?_) (fun c2 => ?_)
    · refine lv_iconst (v := 0) hx hb dX3_isYearsQuestion_23 (by decide) ?_
      exact rZ hx hb hr hlk (by rfl) dX3_isYearsQuestion_24 (by rw [fX3_isYearsQuestion, if_pos c1, if_pos c2])
    · refine lv_iconst (v := 1) hx hb dX3_isYearsQuestion_19 (by decide) ?_
      refine lv_goto (tgt := 24) hx hb dX3_isYearsQuestion_20 (by decide) ?_
      exact rZ hx hb hr hlk (by rfl) dX3_isYearsQuestion_24 (by rw [fX3_isYearsQuestion, if_pos c1, if_neg c2])
def fX3_areEventSets_c3 (u : Mem) (k : Nat) (p0 : Int32) (p1 : Int32)  : Nat → Int32 → Int32
  | 0, x4 => 0
  | n3 + 1, x4 => (if p1 ≤ x4 then 1 else (if (fX3_isEventSet u (u (10 + k) x4.toNatClampNeg)) = 0 then 0 else (fX3_areEventSets_c3 u k p0 p1 n3 (x4 + 1))))
def fX3_areEventSets (u : Mem) (k : Nat) (p0 : Int32) (p1 : Int32) : Int32 :=
  (fX3_areEventSets_c3 u k p0 p1 (61) p0)
set_option maxRecDepth 100000 in
set_option maxHeartbeats 4000000 in
theorem kX3_areEventSets (l : Launch) (D : va_G) (cy : Nat → ClassId) (ad : Nat → Nat) (u : Mem) (k : Nat) (p0 : Int32) (p1 : Int32) (hk : k < 4) (hrg : Rng p0 p1) : Met l yX3_areEventSets wsX3_areEventSets ({ frames := 2, cells := 0, slots := 0, locals := 42 } : Room) (va_Pc [.ref (ad 0), .ref (ad (9 + k)), .int p0, .int p1] (XB D cy ad u)) (qR (some (.int (fX3_areEventSets u k p0 p1)))) 0 0 noF := by
  refine m_start (cc := cX3_areEventSets) (maxL := 5) (ret := (some .boolean)) (by decide) rfl (Nat.le_of_ble_eq_true rfl) (fun p e s m below meth c hx hb hr hts hown hml hlk _ hB ls hl => ?_)
  obtain ⟨hP, hK⟩ := hB
  have hown : s.vm.findClass RX3 = some m.cls := hown
  have hl : lv_has ls 5 [(0, .ref (ad 0)), (1, .ref (ad (9 + k))), (2, .int p0), (3, .int p1)] := hl
  have hin_X3 : ∀ w ∈ wsX30, w ∈ wsX3_areEventSets := fun _ h => List.mem_cons_of_mem _ (List.mem_append_right _ (h))
  obtain ⟨a, b, hab, hb60, ea, eb⟩ := id hrg
  refine lv_iload_n hx hb dX3_areEventSets_0 rfl (lv_at hl 2 rfl) ?_
  refine lv_istore (lv' := [(4, .int p0), (0, .ref (ad 0)), (1, .ref (ad (9 + k))), (2, .int p0), (3, .int p1)]) hx hb dX3_areEventSets_1 hl (by decide) rfl (fun ls hl => ?_)
  have lp3 : ∀ (n3 : Nat) (x4 : Int32) (k3 : Nat), (fX3_areEventSets u k p0 p1) = (fX3_areEventSets_c3 u k p0 p1 n3 x4) → (x4 = nI k3) → (k3 ≤ b) → (b < k3 + n3) → ∀ ls : Array Slot, lv_has ls 5 [(4, .int x4), (0, .ref (ad 0)), (1, .ref (ad (9 + k))), (3, .int p1)] → W p l e ({ frames := 2, cells := 0, slots := 0, locals := 42 } : Room) s m ([.ref (ad 0), .ref (ad (9 + k)), .int p0, .int p1] : List Value).toArray below meth c s.heap [] 0 0 (MQ below (qR (some (.int (fX3_areEventSets u k p0 p1)))) ([.ref (ad 0), .ref (ad (9 + k)), .int p0, .int p1] : List Value).toArray s 0 0 noF) (F0 m 3 ls []) := by
    intro n3
    induction n3 with
    | zero =>
      intro x4 k3 _ e3 hk3 hm3 ls hl
      exfalso; omega
    | succ n3 ih3 =>
      intro x4 k3 hr3 e3 hk3 hm3 ls hl
      refine lv_iload hx hb dX3_areEventSets_3 (lv_at hl 0 rfl) ?_
      refine lv_iload_n hx hb dX3_areEventSets_5 rfl (lv_at hl 3 rfl) ?_
      refine lv_icmp_ge (tgt := 28) hx hb dX3_areEventSets_6 (by decide) (fun c1 => ?_) (fun c1 => ?_)
      · refine lv_iconst (v := 1) hx hb dX3_areEventSets_28 (by decide) ?_
        exact rZ hx hb hr hlk (by rfl) dX3_areEventSets_29 (by rw [hr3, fX3_areEventSets_c3, if_pos c1])
      · have hlt3 : k3 < b := cnt_lt eb e3 (by omega) (by omega) c1
        have hv3 : vp_in x4 60 := cnt_in e3 (by omega) (by decide)
        refine lv_aload_n hx hb dX3_areEventSets_9 rfl (lv_at hl 1 rfl) ?_
        refine lv_aload_n hx hb dX3_areEventSets_10 rfl (lv_at hl 2 rfl) ?_
        refine lv_iload hx hb dX3_areEventSets_11 (lv_at hl 0 rfl) ?_
        refine zl_ce hk hx hb hK hP (by assumption) dX3_areEventSets_13 ?_
        refine kV (n := 1) (As := [.int (u (10 + k) x4.toNatClampNeg)]) (rest := []) ⟨hx, hb, hml, hown, hts⟩ (kX3_isEventSet l D cy ad u (u (10 + k) x4.toNatClampNeg)) gX3_areEventSets_X3_isEventSet rfl rfl rfl (by decide +kernel) ⟨Nat.le_of_ble_eq_true rfl, Nat.le_of_ble_eq_true rfl⟩ (recvX hP hK) (XB_of hP hK) XB_bl rfl hl.1 rfl (Nat.le_of_ble_eq_true rfl) dX3_areEventSets_14 ⟨Nat.le_refl _, Nat.le_refl _⟩ ?_
        refine lv_if_ne (tgt := 22) hx hb dX3_areEventSets_17 (by decide) (fun c2 => ?_) (fun c2 => ?_)
        · refine lv_iinc (v := (x4 + 1)) (lv' := [(4, .int (x4 + 1)), (0, .ref (ad 0)), (1, .ref (ad (9 + k))), (3, .int p1)]) hx hb dX3_areEventSets_22 hl (k := 0) rfl rfl (by decide) rfl (fun ls hl => ?_)
          refine lv_goto (tgt := 3) hx hb dX3_areEventSets_25 (by decide) ?_
          exact ih3 (x4 + 1) (k3 + 1) (by rw [hr3, fX3_areEventSets_c3, if_neg c1, if_neg c2]) (by rw [e3]; exact nI_1 _) hlt3 (by omega) ls (lv_sub hl [0, 1, 2, 3] rfl)
        · refine lv_iconst (v := 0) hx hb dX3_areEventSets_20 (by decide) ?_
          exact rZ hx hb hr hlk (by rfl) dX3_areEventSets_21 (by rw [hr3, fX3_areEventSets_c3, if_neg c1, if_pos c2])
  exact lp3 (61) p0 (a) (by rw [fX3_areEventSets]) ea (by omega) (by omega) ls (lv_sub hl [0, 1, 2, 4] rfl)
def fX3_paidOverYears_c17 (u : Mem) (p0 : Int32) (k : Nat) (p1 : Int32) (p2 : Int32)  : Nat → Int32 → Int32 → Int32
  | 0, x6, x5 => 0
  | n17 + 1, x6, x5 => (if p2 ≤ x6 then x5 else (fX3_paidOverYears_c17 u p0 k p1 p2 n17 (x6 + 1) (x5 + (fX3_paidTo u p0 (u (10 + k) x6.toNatClampNeg)))))
def fX3_paidOverYears (u : Mem) (p0 : Int32) (k : Nat) (p1 : Int32) (p2 : Int32) : Int32 :=
  (if (fX3_isProphet u p0) = 0 then (-9) else (fX3_paidOverYears_c17 u p0 k p1 p2 (61) p1 0))
set_option maxRecDepth 100000 in
set_option maxHeartbeats 4000000 in
theorem kX3_paidOverYears (l : Launch) (D : va_G) (cy : Nat → ClassId) (ad : Nat → Nat) (u : Mem) (p0 : Int32) (k : Nat) (p1 : Int32) (p2 : Int32) (hk : k < 4) (hpc : PcOk u) (hrg : Rng p1 p2) : Met l yX3_paidOverYears wsX3_paidOverYears ({ frames := 4, cells := 0, slots := 0, locals := 88 } : Room) (va_Pc [.ref (ad 0), .int p0, .ref (ad (9 + k)), .int p1, .int p2] (XB D cy ad u)) (qR (some (.int (fX3_paidOverYears u p0 k p1 p2)))) 0 0 noF := by
  refine m_start (cc := cX3_paidOverYears) (maxL := 7) (ret := (some .int)) (by decide) rfl (Nat.le_of_ble_eq_true rfl) (fun p e s m below meth c hx hb hr hts hown hml hlk _ hB ls hl => ?_)
  obtain ⟨hP, hK⟩ := hB
  have hown : s.vm.findClass RX3 = some m.cls := hown
  have hl : lv_has ls 7 [(0, .ref (ad 0)), (1, .int p0), (2, .ref (ad (9 + k))), (3, .int p1), (4, .int p2)] := hl
  have hin_X0 : ∀ w ∈ wsX00, w ∈ wsX3_paidOverYears := fun _ h => List.mem_cons_of_mem _ (List.mem_append_right _ (h))
  have hin_X3 : ∀ w ∈ wsX30, w ∈ wsX3_paidOverYears := fun _ h => List.mem_cons_of_mem _ (List.mem_append_left _ (List.mem_append_right _ (h)))
  obtain ⟨a, b, hab, hb60, ea, eb⟩ := id hrg
  refine lv_aload_n hx hb dX3_paidOverYears_0 rfl (lv_at hl 0 rfl) ?_
  refine lv_iload_n hx hb dX3_paidOverYears_1 rfl (lv_at hl 1 rfl) ?_
  refine kV (n := 1) (As := [.int p0]) (rest := []) ⟨hx, hb, hml, hown, hts⟩ (kX3_isProphet l D cy ad u p0) gX3_paidOverYears_X3_isProphet rfl rfl rfl (by decide +kernel) ⟨Nat.le_of_ble_eq_true rfl, Nat.le_of_ble_eq_true rfl⟩ (recvX hP hK) (XB_of hP hK) XB_bl rfl hl.1 rfl (Nat.le_of_ble_eq_true rfl) dX3_paidOverYears_2 ⟨Nat.le_refl _, Nat.le_refl _⟩ ?_
  refine lv_if_ne (tgt := 11) hx hb dX3_paidOverYears_5 (by decide) (fun c1 => ?_) (fun c1 => ?_)
  · have hv1 : vp_in p0 4 := isProphet_in hpc c1
    refine lv_iconst (v := 0) hx hb dX3_paidOverYears_11 (by decide) ?_
    refine lv_istore (lv' := [(5, .int 0), (0, .ref (ad 0)), (1, .int p0), (2, .ref (ad (9 + k))), (3, .int p1), (4, .int p2)]) hx hb dX3_paidOverYears_12 hl (by decide) rfl (fun ls hl => ?_)
    refine lv_iload_n hx hb dX3_paidOverYears_14 rfl (lv_at hl 4 rfl) ?_
    refine lv_istore (lv' := [(6, .int p1), (5, .int 0), (0, .ref (ad 0)), (1, .int p0), (2, .ref (ad (9 + k))), (3, .int p1), (4, .int p2)]) hx hb dX3_paidOverYears_15 hl (by decide) rfl (fun ls hl => ?_)
    have lp17 : ∀ (n17 : Nat) (x6 : Int32) (x5 : Int32) (k17 : Nat), (fX3_paidOverYears u p0 k p1 p2) = (fX3_paidOverYears_c17 u p0 k p1 p2 n17 x6 x5) → (x6 = nI k17) → (k17 ≤ b) → (b < k17 + n17) → ∀ ls : Array Slot, lv_has ls 7 [(6, .int x6), (5, .int x5), (0, .ref (ad 0)), (1, .int p0), (2, .ref (ad (9 + k))), (4, .int p2)] → W p l e ({ frames := 4, cells := 0, slots := 0, locals := 88 } : Room) s m ([.ref (ad 0), .int p0, .ref (ad (9 + k)), .int p1, .int p2] : List Value).toArray below meth c s.heap [] 0 0 (MQ below (qR (some (.int (fX3_paidOverYears u p0 k p1 p2)))) ([.ref (ad 0), .int p0, .ref (ad (9 + k)), .int p1, .int p2] : List Value).toArray s 0 0 noF) (F0 m 17 ls []) := by
      intro n17
      induction n17 with
      | zero =>
        intro x6 x5 k17 _ e17 hk17 hm17 ls hl
        exfalso; omega
      | succ n17 ih17 =>
        intro x6 x5 k17 hr17 e17 hk17 hm17 ls hl
        refine lv_iload hx hb dX3_paidOverYears_17 (lv_at hl 0 rfl) ?_
        refine lv_iload hx hb dX3_paidOverYears_19 (lv_at hl 5 rfl) ?_
        refine lv_icmp_ge (tgt := 44) hx hb dX3_paidOverYears_21 (by decide) (fun c2 => ?_) (fun c2 => ?_)
        · refine lv_iload hx hb dX3_paidOverYears_44 (lv_at hl 1 rfl) ?_
          exact rI hx hb hr hlk dX3_paidOverYears_46 (by rw [hr17, fX3_paidOverYears_c17, if_pos c2])
        · have hlt17 : k17 < b := cnt_lt eb e17 (by omega) (by omega) c2
          have hv17 : vp_in x6 60 := cnt_in e17 (by omega) (by decide)
          refine lv_iload hx hb dX3_paidOverYears_24 (lv_at hl 1 rfl) ?_
          refine lv_aload_n hx hb dX3_paidOverYears_26 rfl (lv_at hl 2 rfl) ?_
          refine lv_iload_n hx hb dX3_paidOverYears_27 rfl (lv_at hl 3 rfl) ?_
          refine lv_aload_n hx hb dX3_paidOverYears_28 rfl (lv_at hl 4 rfl) ?_
          refine lv_iload hx hb dX3_paidOverYears_29 (lv_at hl 0 rfl) ?_
          refine zl_ce hk hx hb hK hP (by assumption) dX3_paidOverYears_31 ?_
          refine kV (n := 2) (As := [.int p0, .int (u (10 + k) x6.toNatClampNeg)]) (rest := [.int x5]) ⟨hx, hb, hml, hown, hts⟩ (kX3_paidTo l D cy ad u p0 (u (10 + k) x6.toNatClampNeg) (by assumption)) gX3_paidOverYears_X3_paidTo rfl rfl rfl (by decide +kernel) ⟨Nat.le_of_ble_eq_true rfl, Nat.le_of_ble_eq_true rfl⟩ (recvX hP hK) (XB_of hP hK) XB_bl rfl hl.1 rfl (Nat.le_of_ble_eq_true rfl) dX3_paidOverYears_32 ⟨Nat.le_refl _, Nat.le_refl _⟩ ?_
          refine lv_iadd hx hb dX3_paidOverYears_35 ?_
          refine lv_istore (lv' := [(5, .int (x5 + (fX3_paidTo u p0 (u (10 + k) x6.toNatClampNeg)))), (6, .int x6), (0, .ref (ad 0)), (1, .int p0), (2, .ref (ad (9 + k))), (4, .int p2)]) hx hb dX3_paidOverYears_36 hl (by decide) rfl (fun ls hl => ?_)
          refine lv_iinc (v := (x6 + 1)) (lv' := [(6, .int (x6 + 1)), (5, .int (x5 + (fX3_paidTo u p0 (u (10 + k) x6.toNatClampNeg)))), (0, .ref (ad 0)), (1, .int p0), (2, .ref (ad (9 + k))), (4, .int p2)]) hx hb dX3_paidOverYears_38 hl (k := 1) rfl rfl (by decide) rfl (fun ls hl => ?_)
          refine lv_goto (tgt := 17) hx hb dX3_paidOverYears_41 (by decide) ?_
          exact ih17 (x6 + 1) (x5 + (fX3_paidTo u p0 (u (10 + k) x6.toNatClampNeg))) (k17 + 1) (by rw [hr17, fX3_paidOverYears_c17, if_neg c2]) (by rw [e17]; exact nI_1 _) hlt17 (by omega) ls (lv_sub hl [0, 1, 2, 3, 4, 5] rfl)
    exact lp17 (61) p1 0 (a) (by rw [fX3_paidOverYears, if_neg c1]) ea (by omega) (by omega) ls (lv_sub hl [0, 1, 2, 3, 4, 6] rfl)
  · refine lv_bipush (v := (-9)) hx hb dX3_paidOverYears_8 (by decide) ?_
    exact rI hx hb hr hlk dX3_paidOverYears_10 (by rw [fX3_paidOverYears, if_pos c1])
def fX3_premiumsOfYear_c4 (u : Mem) (p0 : Int32)  : Nat → Int32 → Int32 → Int32
  | 0, x3, x2 => 0
  | n4 + 1, x3, x2 => (if (u 0 5) ≤ x3 then x2 else (fX3_premiumsOfYear_c4 u p0 n4 (x3 + 1) (x2 + (p0 * (fJ6_bitCount_0f7a4 ((u 4 x3.toNatClampNeg) &&& (fX3_allEvents u)))))))
def fX3_premiumsOfYear (u : Mem) (p0 : Int32) : Int32 :=
  (fX3_premiumsOfYear_c4 u p0 (5) 0 0)
set_option maxRecDepth 100000 in
set_option maxHeartbeats 4000000 in
theorem kX3_premiumsOfYear (l : Launch) (D : va_G) (cy : Nat → ClassId) (ad : Nat → Nat) (u : Mem) (p0 : Int32) (hpc : PcOk u) : Met l yX3_premiumsOfYear wsX3_premiumsOfYear ({ frames := 1, cells := 0, slots := 0, locals := 20 } : Room) (va_Pc [.ref (ad 0), .int p0] (XB D cy ad u)) (qR (some (.int (fX3_premiumsOfYear u p0)))) 0 0 noF := by
  refine m_start (cc := cX3_premiumsOfYear) (maxL := 4) (ret := (some .int)) (by decide) rfl (Nat.le_of_ble_eq_true rfl) (fun p e s m below meth c hx hb hr hts hown hml hlk _ hB ls hl => ?_)
  obtain ⟨hP, hK⟩ := hB
  have hown : s.vm.findClass RX3 = some m.cls := hown
  have hl : lv_has ls 4 [(0, .ref (ad 0)), (1, .int p0)] := hl
  have hin_X0 : ∀ w ∈ wsX00, w ∈ wsX3_premiumsOfYear := fun _ h => List.mem_cons_of_mem _ (List.mem_append_right _ (h))
  have hin_X3 : ∀ w ∈ wsX30, w ∈ wsX3_premiumsOfYear := fun _ h => List.mem_cons_of_mem _ (List.mem_append_left _ (List.mem_append_right _ (h)))
  obtain ⟨np, hnp, enp⟩ := id hpc
  refine lv_iconst (v := 0) hx hb dX3_premiumsOfYear_0 (by decide) ?_
  refine lv_istore_n (lv' := [(2, .int 0), (0, .ref (ad 0)), (1, .int p0)]) hx hb dX3_premiumsOfYear_1 rfl hl (by decide) rfl (fun ls hl => ?_)
  refine lv_iconst (v := 0) hx hb dX3_premiumsOfYear_2 (by decide) ?_
  refine lv_istore_n (lv' := [(3, .int 0), (2, .int 0), (0, .ref (ad 0)), (1, .int p0)]) hx hb dX3_premiumsOfYear_3 rfl hl (by decide) rfl (fun ls hl => ?_)
  have lp4 : ∀ (n4 : Nat) (x3 : Int32) (x2 : Int32) (k4 : Nat), (fX3_premiumsOfYear u p0) = (fX3_premiumsOfYear_c4 u p0 n4 x3 x2) → (x3 = nI k4) → (k4 ≤ np) → (np < k4 + n4) → ∀ ls : Array Slot, lv_has ls 4 [(3, .int x3), (2, .int x2), (0, .ref (ad 0)), (1, .int p0)] → W p l e ({ frames := 1, cells := 0, slots := 0, locals := 20 } : Room) s m ([.ref (ad 0), .int p0] : List Value).toArray below meth c s.heap [] 0 0 (MQ below (qR (some (.int (fX3_premiumsOfYear u p0)))) ([.ref (ad 0), .int p0] : List Value).toArray s 0 0 noF) (F0 m 4 ls []) := by
    intro n4
    induction n4 with
    | zero =>
      intro x3 x2 k4 _ e4 hk4 hm4 ls hl
      exfalso; omega
    | succ n4 ih4 =>
      intro x3 x2 k4 hr4 e4 hk4 hm4 ls hl
      refine lv_iload_n hx hb dX3_premiumsOfYear_4 rfl (lv_at hl 0 rfl) ?_
      refine lv_aload_n hx hb dX3_premiumsOfYear_5 rfl (lv_at hl 2 rfl) ?_
      refine zg_X3_prophetCount hx hb hts hin_X3 hown hK hP (hts (Cond.fieldLink RX3 37 "ProphetCover" "prophetCount" "I") (List.mem_of_getElem? (i := 1) rfl)) dX3_premiumsOfYear_6 ?_
      refine lv_icmp_ge (tgt := 40) hx hb dX3_premiumsOfYear_9 (by decide) (fun c1 => ?_) (fun c1 => ?_)
      · refine lv_iload_n hx hb dX3_premiumsOfYear_40 rfl (lv_at hl 1 rfl) ?_
        exact rI hx hb hr hlk dX3_premiumsOfYear_41 (by rw [hr4, fX3_premiumsOfYear_c4, if_pos c1])
      · have hlt4 : k4 < np := cnt_lt enp e4 (by omega) (by omega) c1
        have hv4 : vp_in x3 4 := cnt_in e4 (by omega) (by decide)
        refine lv_iload_n hx hb dX3_premiumsOfYear_12 rfl (lv_at hl 1 rfl) ?_
        refine lv_iload_n hx hb dX3_premiumsOfYear_13 rfl (lv_at hl 3 rfl) ?_
        refine lv_aload_n hx hb dX3_premiumsOfYear_14 rfl (lv_at hl 2 rfl) ?_
        refine zg_X3_prophets hx hb hts hin_X3 hown hK hP (hts (Cond.fieldLink RX3 23 "ProphetCover" "prophets" "[LProphetCover$Prophet;") (List.mem_of_getElem? (i := 2) rfl)) dX3_premiumsOfYear_15 ?_
        refine lv_iload_n hx hb dX3_premiumsOfYear_18 rfl (lv_at hl 0 rfl) ?_
        refine zl_prophets hx hb hK hP (by assumption) dX3_premiumsOfYear_19 ?_
        refine zg_X0_saidSet (vlt (n := 4) (i := x3) (by assumption)) hx hb hts hin_X0 hown hK hP (hts (Cond.fieldLink RX3 94 "ProphetCover$Prophet" "saidSet" "I") (List.mem_of_getElem? (i := 3) rfl)) dX3_premiumsOfYear_20 ?_
        refine lv_aload_n hx hb dX3_premiumsOfYear_23 rfl (lv_at hl 2 rfl) ?_
        refine kV (n := 0) (As := []) (rest := [.int (u 4 x3.toNatClampNeg), .int p0, .int x2]) ⟨hx, hb, hml, hown, hts⟩ (kX3_allEvents l D cy ad u) gX3_premiumsOfYear_X3_allEvents rfl rfl rfl (by decide +kernel) ⟨Nat.le_of_ble_eq_true rfl, Nat.le_of_ble_eq_true rfl⟩ (recvX hP hK) (XB_of hP hK) XB_bl rfl hl.1 rfl (Nat.le_of_ble_eq_true rfl) dX3_premiumsOfYear_24 ⟨Nat.le_refl _, Nat.le_refl _⟩ ?_
        refine lv_iand hx hb dX3_premiumsOfYear_27 ?_
        refine kS (n := 1) (As := [.int ((u 4 x3.toNatClampNeg) &&& (fX3_allEvents u))]) (rest := [.int p0, .int x2]) ⟨hx, hb, hml, hown, hts⟩ (kJ6_bitCount_0f7a4 l ((u 4 x3.toNatClampNeg) &&& (fX3_allEvents u))) gX3_premiumsOfYear_J6_bitCount_0f7a4 rfl rfl rfl (by decide +kernel) ⟨Nat.le_of_ble_eq_true rfl, Nat.le_of_ble_eq_true rfl⟩ (fun _ _ _ => trivial) (fun _ _ _ _ _ => trivial) rfl hl.1 rfl (Nat.le_of_ble_eq_true rfl) dX3_premiumsOfYear_28 ⟨Nat.le_refl _, Nat.le_refl _⟩ ?_
        refine lv_imul hx hb dX3_premiumsOfYear_31 ?_
        refine lv_iadd hx hb dX3_premiumsOfYear_32 ?_
        refine lv_istore_n (lv' := [(2, .int (x2 + (p0 * (fJ6_bitCount_0f7a4 ((u 4 x3.toNatClampNeg) &&& (fX3_allEvents u)))))), (3, .int x3), (0, .ref (ad 0)), (1, .int p0)]) hx hb dX3_premiumsOfYear_33 rfl hl (by decide) rfl (fun ls hl => ?_)
        refine lv_iinc (v := (x3 + 1)) (lv' := [(3, .int (x3 + 1)), (2, .int (x2 + (p0 * (fJ6_bitCount_0f7a4 ((u 4 x3.toNatClampNeg) &&& (fX3_allEvents u)))))), (0, .ref (ad 0)), (1, .int p0)]) hx hb dX3_premiumsOfYear_34 hl (k := 1) rfl rfl (by decide) rfl (fun ls hl => ?_)
        refine lv_goto (tgt := 4) hx hb dX3_premiumsOfYear_37 (by decide) ?_
        exact ih4 (x3 + 1) (x2 + (p0 * (fJ6_bitCount_0f7a4 ((u 4 x3.toNatClampNeg) &&& (fX3_allEvents u))))) (k4 + 1) (by rw [hr4, fX3_premiumsOfYear_c4, if_neg c1]) (by rw [e4]; exact nI_1 _) hlt4 (by omega) ls (lv_sub hl [0, 1, 2, 3] rfl)
  exact lp4 (5) 0 0 (0) (by rw [fX3_premiumsOfYear]) nI_0.symm (by omega) (by omega) ls (lv_sub hl [0, 1, 2, 3] rfl)
def fX3_officeOverYears_c23 (u : Mem) (p0 : Int32) (k : Nat) (p1 : Int32) (p2 : Int32) (p3 : Int32)  : Nat → Int32 → Int32 → Int32 → Int32 → Int32 → Int32 → Int32
  | 0, x11, x10, x9, x8, x7, x6 => 0
  | n23 + 1, x11, x10, x9, x8, x7, x6 => (if p2 ≤ x11 then (if p3 = 0 then x7 else (if p3 = 1 then x8 else (if p3 = 2 then x9 else x10))) else (if 0 ≤ (x7 + (x6 - (fX3_paidToAll u (u (10 + k) x11.toNatClampNeg)))) then (fX3_officeOverYears_c23 u p0 k p1 p2 p3 n23 (x11 + 1) (if x10 < (fX3_paidToAll u (u (10 + k) x11.toNatClampNeg)) then (fX3_paidToAll u (u (10 + k) x11.toNatClampNeg)) else x10) (x9 + (fX3_paidToAll u (u (10 + k) x11.toNatClampNeg))) x8 (x7 + (x6 - (fX3_paidToAll u (u (10 + k) x11.toNatClampNeg)))) x6) else (if x8 = (-9) then (fX3_officeOverYears_c23 u p0 k p1 p2 p3 n23 (x11 + 1) (if x10 < (fX3_paidToAll u (u (10 + k) x11.toNatClampNeg)) then (fX3_paidToAll u (u (10 + k) x11.toNatClampNeg)) else x10) (x9 + (fX3_paidToAll u (u (10 + k) x11.toNatClampNeg))) (x11 - p1) (x7 + (x6 - (fX3_paidToAll u (u (10 + k) x11.toNatClampNeg)))) x6) else (fX3_officeOverYears_c23 u p0 k p1 p2 p3 n23 (x11 + 1) (if x10 < (fX3_paidToAll u (u (10 + k) x11.toNatClampNeg)) then (fX3_paidToAll u (u (10 + k) x11.toNatClampNeg)) else x10) (x9 + (fX3_paidToAll u (u (10 + k) x11.toNatClampNeg))) x8 (x7 + (x6 - (fX3_paidToAll u (u (10 + k) x11.toNatClampNeg)))) x6))))
def fX3_officeOverYears (u : Mem) (p0 : Int32) (k : Nat) (p1 : Int32) (p2 : Int32) (p3 : Int32) : Int32 :=
  (fX3_officeOverYears_c23 u p0 k p1 p2 p3 (61) p1 0 0 (-9) 0 (fX3_premiumsOfYear u p0))
set_option maxRecDepth 100000 in
set_option maxHeartbeats 4000000 in
theorem kX3_officeOverYears (l : Launch) (D : va_G) (cy : Nat → ClassId) (ad : Nat → Nat) (u : Mem) (p0 : Int32) (k : Nat) (p1 : Int32) (p2 : Int32) (p3 : Int32) (hk : k < 4) (hpc : PcOk u) (hrg : Rng p1 p2) : Met l yX3_officeOverYears wsX3_officeOverYears ({ frames := 5, cells := 0, slots := 0, locals := 111 } : Room) (va_Pc [.ref (ad 0), .int p0, .ref (ad (9 + k)), .int p1, .int p2, .int p3] (XB D cy ad u)) (qR (some (.int (fX3_officeOverYears u p0 k p1 p2 p3)))) 0 0 noF := by
  refine m_start (cc := cX3_officeOverYears) (maxL := 13) (ret := (some .int)) (by decide) rfl (Nat.le_of_ble_eq_true rfl) (fun p e s m below meth c hx hb hr hts hown hml hlk _ hB ls hl => ?_)
  obtain ⟨hP, hK⟩ := hB
  have hown : s.vm.findClass RX3 = some m.cls := hown
  have hl : lv_has ls 13 [(0, .ref (ad 0)), (1, .int p0), (2, .ref (ad (9 + k))), (3, .int p1), (4, .int p2), (5, .int p3)] := hl
  have hin_X0 : ∀ w ∈ wsX00, w ∈ wsX3_officeOverYears := fun _ h => List.mem_cons_of_mem _ (List.mem_append_right _ (h))
  have hin_X3 : ∀ w ∈ wsX30, w ∈ wsX3_officeOverYears := fun _ h => List.mem_cons_of_mem _ (List.mem_append_left _ (List.mem_append_right _ (h)))
  obtain ⟨a, b, hab, hb60, ea, eb⟩ := id hrg
  refine lv_aload_n hx hb dX3_officeOverYears_0 rfl (lv_at hl 0 rfl) ?_
  refine lv_iload_n hx hb dX3_officeOverYears_1 rfl (lv_at hl 1 rfl) ?_
  refine kV (n := 1) (As := [.int p0]) (rest := []) ⟨hx, hb, hml, hown, hts⟩ (kX3_premiumsOfYear l D cy ad u p0 (by first | exact hpc | assumption)) gX3_officeOverYears_X3_premiumsOfYear rfl rfl rfl (by decide +kernel) ⟨Nat.le_of_ble_eq_true rfl, Nat.le_of_ble_eq_true rfl⟩ (recvX hP hK) (XB_of hP hK) XB_bl rfl hl.1 rfl (Nat.le_of_ble_eq_true rfl) dX3_officeOverYears_2 ⟨Nat.le_refl _, Nat.le_refl _⟩ ?_
  refine lv_istore (lv' := [(6, .int (fX3_premiumsOfYear u p0)), (0, .ref (ad 0)), (1, .int p0), (2, .ref (ad (9 + k))), (3, .int p1), (4, .int p2), (5, .int p3)]) hx hb dX3_officeOverYears_5 hl (by decide) rfl (fun ls hl => ?_)
  refine lv_iconst (v := 0) hx hb dX3_officeOverYears_7 (by decide) ?_
  refine lv_istore (lv' := [(7, .int 0), (6, .int (fX3_premiumsOfYear u p0)), (0, .ref (ad 0)), (1, .int p0), (2, .ref (ad (9 + k))), (3, .int p1), (4, .int p2), (5, .int p3)]) hx hb dX3_officeOverYears_8 hl (by decide) rfl (fun ls hl => ?_)
  refine lv_bipush (v := (-9)) hx hb dX3_officeOverYears_10 (by decide) ?_
  refine lv_istore (lv' := [(8, .int (-9)), (7, .int 0), (6, .int (fX3_premiumsOfYear u p0)), (0, .ref (ad 0)), (1, .int p0), (2, .ref (ad (9 + k))), (3, .int p1), (4, .int p2), (5, .int p3)]) hx hb dX3_officeOverYears_12 hl (by decide) rfl (fun ls hl => ?_)
  refine lv_iconst (v := 0) hx hb dX3_officeOverYears_14 (by decide) ?_
  refine lv_istore (lv' := [(9, .int 0), (8, .int (-9)), (7, .int 0), (6, .int (fX3_premiumsOfYear u p0)), (0, .ref (ad 0)), (1, .int p0), (2, .ref (ad (9 + k))), (3, .int p1), (4, .int p2), (5, .int p3)]) hx hb dX3_officeOverYears_15 hl (by decide) rfl (fun ls hl => ?_)
  refine lv_iconst (v := 0) hx hb dX3_officeOverYears_17 (by decide) ?_
  refine lv_istore (lv' := [(10, .int 0), (9, .int 0), (8, .int (-9)), (7, .int 0), (6, .int (fX3_premiumsOfYear u p0)), (0, .ref (ad 0)), (1, .int p0), (2, .ref (ad (9 + k))), (3, .int p1), (4, .int p2), (5, .int p3)]) hx hb dX3_officeOverYears_18 hl (by decide) rfl (fun ls hl => ?_)
  refine lv_iload_n hx hb dX3_officeOverYears_20 rfl (lv_at hl 8 rfl) ?_
  refine lv_istore (lv' := [(11, .int p1), (10, .int 0), (9, .int 0), (8, .int (-9)), (7, .int 0), (6, .int (fX3_premiumsOfYear u p0)), (0, .ref (ad 0)), (1, .int p0), (2, .ref (ad (9 + k))), (3, .int p1), (4, .int p2), (5, .int p3)]) hx hb dX3_officeOverYears_21 hl (by decide) rfl (fun ls hl => ?_)
  have lp23 : ∀ (n23 : Nat) (x11 : Int32) (x10 : Int32) (x9 : Int32) (x8 : Int32) (x7 : Int32) (x6 : Int32) (k23 : Nat), (fX3_officeOverYears u p0 k p1 p2 p3) = (fX3_officeOverYears_c23 u p0 k p1 p2 p3 n23 x11 x10 x9 x8 x7 x6) → (x11 = nI k23) → (k23 ≤ b) → (b < k23 + n23) → ∀ ls : Array Slot, lv_has ls 13 [(11, .int x11), (10, .int x10), (9, .int x9), (8, .int x8), (7, .int x7), (6, .int x6), (0, .ref (ad 0)), (2, .ref (ad (9 + k))), (3, .int p1), (4, .int p2), (5, .int p3)] → W p l e ({ frames := 5, cells := 0, slots := 0, locals := 111 } : Room) s m ([.ref (ad 0), .int p0, .ref (ad (9 + k)), .int p1, .int p2, .int p3] : List Value).toArray below meth c s.heap [] 0 0 (MQ below (qR (some (.int (fX3_officeOverYears u p0 k p1 p2 p3)))) ([.ref (ad 0), .int p0, .ref (ad (9 + k)), .int p1, .int p2, .int p3] : List Value).toArray s 0 0 noF) (F0 m 23 ls []) := by
    intro n23
    induction n23 with
    | zero =>
      intro x11 x10 x9 x8 x7 x6 k23 _ e23 hk23 hm23 ls hl
      exfalso; omega
    | succ n23 ih23 =>
      intro x11 x10 x9 x8 x7 x6 k23 hr23 e23 hk23 hm23 ls hl
      refine lv_iload hx hb dX3_officeOverYears_23 (lv_at hl 0 rfl) ?_
      refine lv_iload hx hb dX3_officeOverYears_25 (lv_at hl 9 rfl) ?_
      refine lv_icmp_ge (tgt := 90) hx hb dX3_officeOverYears_27 (by decide) (fun c1 => ?_) (fun c1 => ?_)
      · refine lv_iload hx hb dX3_officeOverYears_90 (lv_at hl 10 rfl) ?_
        by_cases c2 : p3 = 0
        · refine lv_tableIn (off := 28) (tgt := 120) hx hb dX3_officeOverYears_92 (by rw [c2]; decide) (by rw [c2]; decide) (by rw [c2]; rfl) (by decide) ?_
          refine lv_iload hx hb dX3_officeOverYears_120 (lv_at hl 4 rfl) ?_
          exact rI hx hb hr hlk dX3_officeOverYears_122 (by rw [hr23, fX3_officeOverYears_c23, if_pos c1, if_pos c2])
        by_cases c3 : p3 = 1
        · refine lv_tableIn (off := 31) (tgt := 123) hx hb dX3_officeOverYears_92 (by rw [c3]; decide) (by rw [c3]; decide) (by rw [c3]; rfl) (by decide) ?_
          refine lv_iload hx hb dX3_officeOverYears_123 (lv_at hl 3 rfl) ?_
          exact rI hx hb hr hlk dX3_officeOverYears_125 (by rw [hr23, fX3_officeOverYears_c23, if_pos c1, if_neg c2, if_pos c3])
        by_cases c4 : p3 = 2
        · refine lv_tableIn (off := 34) (tgt := 126) hx hb dX3_officeOverYears_92 (by rw [c4]; decide) (by rw [c4]; decide) (by rw [c4]; rfl) (by decide) ?_
          refine lv_iload hx hb dX3_officeOverYears_126 (lv_at hl 2 rfl) ?_
          exact rI hx hb hr hlk dX3_officeOverYears_128 (by rw [hr23, fX3_officeOverYears_c23, if_pos c1, if_neg c2, if_neg c3, if_pos c4])
        refine lv_tableOut (tgt := 129) hx hb dX3_officeOverYears_92 (tab_out3 c2 c3 c4) (by decide) ?_
        refine lv_iload hx hb dX3_officeOverYears_129 (lv_at hl 1 rfl) ?_
        exact rI hx hb hr hlk dX3_officeOverYears_131 (by rw [hr23, fX3_officeOverYears_c23, if_pos c1, if_neg c2, if_neg c3, if_neg c4])
      · have hlt23 : k23 < b := cnt_lt eb e23 (by omega) (by omega) c1
        have hv23 : vp_in x11 60 := cnt_in e23 (by omega) (by decide)
        refine lv_aload_n hx hb dX3_officeOverYears_30 rfl (lv_at hl 6 rfl) ?_
        refine lv_aload_n hx hb dX3_officeOverYears_31 rfl (lv_at hl 7 rfl) ?_
        refine lv_iload hx hb dX3_officeOverYears_32 (lv_at hl 0 rfl) ?_
        refine zl_ce hk hx hb hK hP (by assumption) dX3_officeOverYears_34 ?_
        refine kV (n := 1) (As := [.int (u (10 + k) x11.toNatClampNeg)]) (rest := []) ⟨hx, hb, hml, hown, hts⟩ (kX3_paidToAll l D cy ad u (u (10 + k) x11.toNatClampNeg) (by first | exact hpc | assumption)) gX3_officeOverYears_X3_paidToAll rfl rfl rfl (by decide +kernel) ⟨Nat.le_of_ble_eq_true rfl, Nat.le_of_ble_eq_true rfl⟩ (recvX hP hK) (XB_of hP hK) XB_bl rfl hl.1 rfl (Nat.le_of_ble_eq_true rfl) dX3_officeOverYears_35 ⟨Nat.le_refl _, Nat.le_refl _⟩ ?_
        refine lv_istore (lv' := [(12, .int (fX3_paidToAll u (u (10 + k) x11.toNatClampNeg))), (11, .int x11), (10, .int x10), (9, .int x9), (8, .int x8), (7, .int x7), (6, .int x6), (0, .ref (ad 0)), (2, .ref (ad (9 + k))), (3, .int p1), (4, .int p2), (5, .int p3)]) hx hb dX3_officeOverYears_38 hl (by decide) rfl (fun ls hl => ?_)
        refine lv_iload hx hb dX3_officeOverYears_40 (lv_at hl 5 rfl) ?_
        refine lv_iload hx hb dX3_officeOverYears_42 (lv_at hl 6 rfl) ?_
        refine lv_iload hx hb dX3_officeOverYears_44 (lv_at hl 0 rfl) ?_
        refine lv_isub hx hb dX3_officeOverYears_46 ?_
        refine lv_iadd hx hb dX3_officeOverYears_47 ?_
        refine lv_istore (lv' := [(7, .int (x7 + (x6 - (fX3_paidToAll u (u (10 + k) x11.toNatClampNeg))))), (12, .int (fX3_paidToAll u (u (10 + k) x11.toNatClampNeg))), (11, .int x11), (10, .int x10), (9, .int x9), (8, .int x8), (6, .int x6), (0, .ref (ad 0)), (2, .ref (ad (9 + k))), (3, .int p1), (4, .int p2), (5, .int p3)]) hx hb dX3_officeOverYears_48 hl (by decide) rfl (fun ls hl => ?_)
        refine lv_iload hx hb dX3_officeOverYears_50 (lv_at hl 0 rfl) ?_
        refine lv_if_ge (tgt := 68) hx hb dX3_officeOverYears_52 (by decide) (fun c5 => ?_) (fun c5 => ?_)
        · refine lv_iload hx hb dX3_officeOverYears_68 (lv_at hl 4 rfl) ?_
          refine lv_iload hx hb dX3_officeOverYears_70 (lv_at hl 1 rfl) ?_
          refine lv_iadd hx hb dX3_officeOverYears_72 ?_
          refine lv_istore (lv' := [(9, .int (x9 + (fX3_paidToAll u (u (10 + k) x11.toNatClampNeg)))), (7, .int (x7 + (x6 - (fX3_paidToAll u (u (10 + k) x11.toNatClampNeg))))), (12, .int (fX3_paidToAll u (u (10 + k) x11.toNatClampNeg))), (11, .int x11), (10, .int x10), (8, .int x8), (6, .int x6), (0, .ref (ad 0)), (2, .ref (ad (9 + k))), (3, .int p1), (4, .int p2), (5, .int p3)]) hx hb dX3_officeOverYears_73 hl (by decide) rfl (fun ls hl => ?_)
          refine lv_iload hx hb dX3_officeOverYears_75 (lv_at hl 4 rfl) ?_
          refine lv_iload hx hb dX3_officeOverYears_77 (lv_at hl 2 rfl) ?_
          refine va_mmax hx hb (hml.trans hl.1.symm) hown (hts (Cond.methodLink RX3 231 Lib.Math.max.name) (List.mem_of_getElem? (i := 1) rfl)) (hts (Cond.static Lib.Math.max.name) (List.mem_of_getElem? (i := 2) rfl)) (hts (Cond.initialized "java/lang/Math") (List.mem_of_getElem? (i := 3) rfl)) (hts (Cond.code Lib.Math.max.name Lib.Math.max.code 2 (some .int)) (List.mem_of_getElem? (i := 4) rfl)) (Nat.le_of_ble_eq_true rfl) (Nat.le_of_ble_eq_true rfl) (Nat.le_refl _) (Nat.le_refl _) dX3_officeOverYears_79 ?_
          refine lv_istore (lv' := [(10, .int (if x10 < (fX3_paidToAll u (u (10 + k) x11.toNatClampNeg)) then (fX3_paidToAll u (u (10 + k) x11.toNatClampNeg)) else x10)), (9, .int (x9 + (fX3_paidToAll u (u (10 + k) x11.toNatClampNeg)))), (7, .int (x7 + (x6 - (fX3_paidToAll u (u (10 + k) x11.toNatClampNeg))))), (12, .int (fX3_paidToAll u (u (10 + k) x11.toNatClampNeg))), (11, .int x11), (8, .int x8), (6, .int x6), (0, .ref (ad 0)), (2, .ref (ad (9 + k))), (3, .int p1), (4, .int p2), (5, .int p3)]) hx hb dX3_officeOverYears_82 hl (by decide) rfl (fun ls hl => ?_)
          refine lv_iinc (v := (x11 + 1)) (lv' := [(11, .int (x11 + 1)), (10, .int (if x10 < (fX3_paidToAll u (u (10 + k) x11.toNatClampNeg)) then (fX3_paidToAll u (u (10 + k) x11.toNatClampNeg)) else x10)), (9, .int (x9 + (fX3_paidToAll u (u (10 + k) x11.toNatClampNeg)))), (7, .int (x7 + (x6 - (fX3_paidToAll u (u (10 + k) x11.toNatClampNeg))))), (12, .int (fX3_paidToAll u (u (10 + k) x11.toNatClampNeg))), (8, .int x8), (6, .int x6), (0, .ref (ad 0)), (2, .ref (ad (9 + k))), (3, .int p1), (4, .int p2), (5, .int p3)]) hx hb dX3_officeOverYears_84 hl (k := 4) rfl rfl (by decide) rfl (fun ls hl => ?_)
          refine lv_goto (tgt := 23) hx hb dX3_officeOverYears_87 (by decide) ?_
          exact ih23 (x11 + 1) (if x10 < (fX3_paidToAll u (u (10 + k) x11.toNatClampNeg)) then (fX3_paidToAll u (u (10 + k) x11.toNatClampNeg)) else x10) (x9 + (fX3_paidToAll u (u (10 + k) x11.toNatClampNeg))) x8 (x7 + (x6 - (fX3_paidToAll u (u (10 + k) x11.toNatClampNeg)))) x6 (k23 + 1) (by rw [hr23, fX3_officeOverYears_c23, if_neg c1, if_pos c5]) (by rw [e23]; exact nI_1 _) hlt23 (by omega) ls (lv_sub hl [0, 1, 2, 5, 3, 6, 7, 8, 9, 10, 11] rfl)
        · refine lv_iload hx hb dX3_officeOverYears_55 (lv_at hl 5 rfl) ?_
          refine lv_bipush (v := (-9)) hx hb dX3_officeOverYears_57 (by decide) ?_
          refine lv_icmp_ne (tgt := 68) hx hb dX3_officeOverYears_59 (by decide) (fun c6 => ?_) (fun c6 => ?_)
          · refine lv_iload hx hb dX3_officeOverYears_68 (lv_at hl 4 rfl) ?_
            refine lv_iload hx hb dX3_officeOverYears_70 (lv_at hl 1 rfl) ?_
            refine lv_iadd hx hb dX3_officeOverYears_72 ?_
            refine lv_istore (lv' := [(9, .int (x9 + (fX3_paidToAll u (u (10 + k) x11.toNatClampNeg)))), (7, .int (x7 + (x6 - (fX3_paidToAll u (u (10 + k) x11.toNatClampNeg))))), (12, .int (fX3_paidToAll u (u (10 + k) x11.toNatClampNeg))), (11, .int x11), (10, .int x10), (8, .int x8), (6, .int x6), (0, .ref (ad 0)), (2, .ref (ad (9 + k))), (3, .int p1), (4, .int p2), (5, .int p3)]) hx hb dX3_officeOverYears_73 hl (by decide) rfl (fun ls hl => ?_)
            refine lv_iload hx hb dX3_officeOverYears_75 (lv_at hl 4 rfl) ?_
            refine lv_iload hx hb dX3_officeOverYears_77 (lv_at hl 2 rfl) ?_
            refine va_mmax hx hb (hml.trans hl.1.symm) hown (hts (Cond.methodLink RX3 231 Lib.Math.max.name) (List.mem_of_getElem? (i := 1) rfl)) (hts (Cond.static Lib.Math.max.name) (List.mem_of_getElem? (i := 2) rfl)) (hts (Cond.initialized "java/lang/Math") (List.mem_of_getElem? (i := 3) rfl)) (hts (Cond.code Lib.Math.max.name Lib.Math.max.code 2 (some .int)) (List.mem_of_getElem? (i := 4) rfl)) (Nat.le_of_ble_eq_true rfl) (Nat.le_of_ble_eq_true rfl) (Nat.le_refl _) (Nat.le_refl _) dX3_officeOverYears_79 ?_
            refine lv_istore (lv' := [(10, .int (if x10 < (fX3_paidToAll u (u (10 + k) x11.toNatClampNeg)) then (fX3_paidToAll u (u (10 + k) x11.toNatClampNeg)) else x10)), (9, .int (x9 + (fX3_paidToAll u (u (10 + k) x11.toNatClampNeg)))), (7, .int (x7 + (x6 - (fX3_paidToAll u (u (10 + k) x11.toNatClampNeg))))), (12, .int (fX3_paidToAll u (u (10 + k) x11.toNatClampNeg))), (11, .int x11), (8, .int x8), (6, .int x6), (0, .ref (ad 0)), (2, .ref (ad (9 + k))), (3, .int p1), (4, .int p2), (5, .int p3)]) hx hb dX3_officeOverYears_82 hl (by decide) rfl (fun ls hl => ?_)
            refine lv_iinc (v := (x11 + 1)) (lv' := [(11, .int (x11 + 1)), (10, .int (if x10 < (fX3_paidToAll u (u (10 + k) x11.toNatClampNeg)) then (fX3_paidToAll u (u (10 + k) x11.toNatClampNeg)) else x10)), (9, .int (x9 + (fX3_paidToAll u (u (10 + k) x11.toNatClampNeg)))), (7, .int (x7 + (x6 - (fX3_paidToAll u (u (10 + k) x11.toNatClampNeg))))), (12, .int (fX3_paidToAll u (u (10 + k) x11.toNatClampNeg))), (8, .int x8), (6, .int x6), (0, .ref (ad 0)), (2, .ref (ad (9 + k))), (3, .int p1), (4, .int p2), (5, .int p3)]) hx hb dX3_officeOverYears_84 hl (k := 4) rfl rfl (by decide) rfl (fun ls hl => ?_)
            refine lv_goto (tgt := 23) hx hb dX3_officeOverYears_87 (by decide) ?_
            exact ih23 (x11 + 1) (if x10 < (fX3_paidToAll u (u (10 + k) x11.toNatClampNeg)) then (fX3_paidToAll u (u (10 + k) x11.toNatClampNeg)) else x10) (x9 + (fX3_paidToAll u (u (10 + k) x11.toNatClampNeg))) x8 (x7 + (x6 - (fX3_paidToAll u (u (10 + k) x11.toNatClampNeg)))) x6 (k23 + 1) (by rw [hr23, fX3_officeOverYears_c23, if_neg c1, if_neg c5, if_neg c6]) (by rw [e23]; exact nI_1 _) hlt23 (by omega) ls (lv_sub hl [0, 1, 2, 5, 3, 6, 7, 8, 9, 10, 11] rfl)
          · refine lv_iload hx hb dX3_officeOverYears_62 (lv_at hl 2 rfl) ?_
            refine lv_iload_n hx hb dX3_officeOverYears_64 rfl (lv_at hl 9 rfl) ?_
            refine lv_isub hx hb dX3_officeOverYears_65 ?_
            refine lv_istore (lv' := [(8, .int (x11 - p1)), (7, .int (x7 + (x6 - (fX3_paidToAll u (u (10 + k) x11.toNatClampNeg))))), (12, .int (fX3_paidToAll u (u (10 + k) x11.toNatClampNeg))), (11, .int x11), (10, .int x10), (9, .int x9), (6, .int x6), (0, .ref (ad 0)), (2, .ref (ad (9 + k))), (3, .int p1), (4, .int p2), (5, .int p3)]) hx hb dX3_officeOverYears_66 hl (by decide) rfl (fun ls hl => ?_)
            refine lv_iload hx hb dX3_officeOverYears_68 (lv_at hl 5 rfl) ?_
            refine lv_iload hx hb dX3_officeOverYears_70 (lv_at hl 2 rfl) ?_
            refine lv_iadd hx hb dX3_officeOverYears_72 ?_
            refine lv_istore (lv' := [(9, .int (x9 + (fX3_paidToAll u (u (10 + k) x11.toNatClampNeg)))), (8, .int (x11 - p1)), (7, .int (x7 + (x6 - (fX3_paidToAll u (u (10 + k) x11.toNatClampNeg))))), (12, .int (fX3_paidToAll u (u (10 + k) x11.toNatClampNeg))), (11, .int x11), (10, .int x10), (6, .int x6), (0, .ref (ad 0)), (2, .ref (ad (9 + k))), (3, .int p1), (4, .int p2), (5, .int p3)]) hx hb dX3_officeOverYears_73 hl (by decide) rfl (fun ls hl => ?_)
            refine lv_iload hx hb dX3_officeOverYears_75 (lv_at hl 5 rfl) ?_
            refine lv_iload hx hb dX3_officeOverYears_77 (lv_at hl 3 rfl) ?_
            refine va_mmax hx hb (hml.trans hl.1.symm) hown (hts (Cond.methodLink RX3 231 Lib.Math.max.name) (List.mem_of_getElem? (i := 1) rfl)) (hts (Cond.static Lib.Math.max.name) (List.mem_of_getElem? (i := 2) rfl)) (hts (Cond.initialized "java/lang/Math") (List.mem_of_getElem? (i := 3) rfl)) (hts (Cond.code Lib.Math.max.name Lib.Math.max.code 2 (some .int)) (List.mem_of_getElem? (i := 4) rfl)) (Nat.le_of_ble_eq_true rfl) (Nat.le_of_ble_eq_true rfl) (Nat.le_refl _) (Nat.le_refl _) dX3_officeOverYears_79 ?_
            refine lv_istore (lv' := [(10, .int (if x10 < (fX3_paidToAll u (u (10 + k) x11.toNatClampNeg)) then (fX3_paidToAll u (u (10 + k) x11.toNatClampNeg)) else x10)), (9, .int (x9 + (fX3_paidToAll u (u (10 + k) x11.toNatClampNeg)))), (8, .int (x11 - p1)), (7, .int (x7 + (x6 - (fX3_paidToAll u (u (10 + k) x11.toNatClampNeg))))), (12, .int (fX3_paidToAll u (u (10 + k) x11.toNatClampNeg))), (11, .int x11), (6, .int x6), (0, .ref (ad 0)), (2, .ref (ad (9 + k))), (3, .int p1), (4, .int p2), (5, .int p3)]) hx hb dX3_officeOverYears_82 hl (by decide) rfl (fun ls hl => ?_)
            refine lv_iinc (v := (x11 + 1)) (lv' := [(11, .int (x11 + 1)), (10, .int (if x10 < (fX3_paidToAll u (u (10 + k) x11.toNatClampNeg)) then (fX3_paidToAll u (u (10 + k) x11.toNatClampNeg)) else x10)), (9, .int (x9 + (fX3_paidToAll u (u (10 + k) x11.toNatClampNeg)))), (8, .int (x11 - p1)), (7, .int (x7 + (x6 - (fX3_paidToAll u (u (10 + k) x11.toNatClampNeg))))), (12, .int (fX3_paidToAll u (u (10 + k) x11.toNatClampNeg))), (6, .int x6), (0, .ref (ad 0)), (2, .ref (ad (9 + k))), (3, .int p1), (4, .int p2), (5, .int p3)]) hx hb dX3_officeOverYears_84 hl (k := 5) rfl rfl (by decide) rfl (fun ls hl => ?_)
            refine lv_goto (tgt := 23) hx hb dX3_officeOverYears_87 (by decide) ?_
            exact ih23 (x11 + 1) (if x10 < (fX3_paidToAll u (u (10 + k) x11.toNatClampNeg)) then (fX3_paidToAll u (u (10 + k) x11.toNatClampNeg)) else x10) (x9 + (fX3_paidToAll u (u (10 + k) x11.toNatClampNeg))) (x11 - p1) (x7 + (x6 - (fX3_paidToAll u (u (10 + k) x11.toNatClampNeg)))) x6 (k23 + 1) (by rw [hr23, fX3_officeOverYears_c23, if_neg c1, if_neg c5, if_pos c6]) (by rw [e23]; exact nI_1 _) hlt23 (by omega) ls (lv_sub hl [0, 1, 2, 3, 4, 6, 7, 8, 9, 10, 11] rfl)
  exact lp23 (61) p1 0 0 (-9) 0 (fX3_premiumsOfYear u p0) (a) (by rw [fX3_officeOverYears]) ea (by omega) (by omega) ls (lv_sub hl [0, 1, 2, 3, 4, 5, 6, 8, 9, 10, 11] rfl)
def fX3_years (u : Mem) (p0 : Int32) (p1 : Int32) (p2 : Int32) (p3 : Int32) (p4 : Int32) (p5 : Int32) : Int32 × Mem :=
  (if (fX3_isSheet p1) = 0 then ((-1), (mset u 0 8 0)) else (if (fX3_isWithin p0 9) = 0 then ((-2), (mset u 0 8 0)) else (if (fX3_isLane p2) = 0 then ((-2), (mset u 0 8 0)) else (if (fX3_isWithin p4 40) = 0 then ((-2), (mset u 0 8 0)) else (if (fX3_isYearsQuestion p5) = 0 then ((-2), (mset u 0 8 0)) else (if (fX3_hasOffice (mset u 0 8 0)) = 0 then ((-3), (mset u 0 8 0)) else (if (fX2_flaw (mset u 0 8 0) (p1.toNatClampNeg) p2 p3 p4) = 0 then (if (fX3_areEventSets (mset u 0 8 0) (p1.toNatClampNeg) p3 (p3 + p4)) = 0 then ((-2), (mset u 0 8 0)) else (if p5 < 10 then ((fX3_officeOverYears (mset u 0 8 0) p0 (p1.toNatClampNeg) p3 (p3 + p4) p5), (mset u 0 8 0)) else ((fX3_paidOverYears (mset u 0 8 0) (p5 - 10) (p1.toNatClampNeg) p3 (p3 + p4)), (mset u 0 8 0)))) else ((fX3_faulty (mset u 0 8 0) (fX2_flaw (mset u 0 8 0) (p1.toNatClampNeg) p2 p3 p4)).1, (fX3_faulty (mset u 0 8 0) (fX2_flaw (mset u 0 8 0) (p1.toNatClampNeg) p2 p3 p4)).2))))))))
set_option maxRecDepth 100000 in
set_option maxHeartbeats 4000000 in
theorem kX3_years (l : Launch) (D : va_G) (cy : Nat → ClassId) (ad : Nat → Nat) (hI : XI ad) (u : Mem) (p0 : Int32) (p1 : Int32) (p2 : Int32) (p3 : Int32) (p4 : Int32) (p5 : Int32) (hpc : PcOk u) (hsz : SzOk u) : Met l yX3_years wsX3_years ({ frames := 6, cells := 0, slots := 0, locals := 143 } : Room) (va_Pc [.ref (ad 0), .int p0, .int p1, .int p2, .int p3, .int p4, .int p5] (XB D cy ad u)) (qW (XB D cy ad (fX3_years u p0 p1 p2 p3 p4 p5).2) (AX ad) (some (.int (fX3_years u p0 p1 p2 p3 p4 p5).1))) 0 0 (AX ad) := by
  refine m_start (cc := cX3_years) (maxL := 9) (ret := (some .int)) (by decide) rfl (Nat.le_of_ble_eq_true rfl) (fun p e s m below meth c hx hb hr hts hown hml hlk _ hB ls hl => ?_)
  obtain ⟨hP, hK⟩ := hB
  have hown : s.vm.findClass RX3 = some m.cls := hown
  have hl : lv_has ls 9 [(0, .ref (ad 0)), (1, .int p0), (2, .int p1), (3, .int p2), (4, .int p3), (5, .int p4), (6, .int p5)] := hl
  have hin_X0 : ∀ w ∈ wsX00, w ∈ wsX3_years := fun _ h => List.mem_cons_of_mem _ (List.mem_append_right _ (h))
  have hin_X2 : ∀ w ∈ wsX20, w ∈ wsX3_years := fun _ h => List.mem_cons_of_mem _ (List.mem_append_left _ (List.mem_append_right _ (h)))
  have hin_X3 : ∀ w ∈ wsX30, w ∈ wsX3_years := fun _ h => List.mem_cons_of_mem _ (List.mem_append_left _ (List.mem_append_left _ (List.mem_append_right _ (h))))
  obtain ⟨H, hH⟩ : ∃ H, H = s.heap := ⟨_, rfl⟩
  obtain ⟨locs, hlo⟩ : ∃ z : List Loc, z = [] := ⟨_, rfl⟩
  have hS : va_S (AX ad) s.heap H locs := by rw [hH, hlo]; exact va_S.rf
  have hP : va_P D vwCl (wX cy ad u) H := by rw [hH]; exact hP
  suffices hgoal : W p l e ({ frames := 6, cells := 0, slots := 0, locals := 143 } : Room) s m ([.ref (ad 0), .int p0, .int p1, .int p2, .int p3, .int p4, .int p5] : List Value).toArray below meth c H locs 0 0 (MQ below (qW (XB D cy ad (fX3_years u p0 p1 p2 p3 p4 p5).2) (AX ad) (some (.int (fX3_years u p0 p1 p2 p3 p4 p5).1))) ([.ref (ad 0), .int p0, .int p1, .int p2, .int p3, .int p4, .int p5] : List Value).toArray s 0 0 (AX ad)) (F0 m 0 ls []) by rw [hH, hlo] at hgoal; exact hgoal
  clear hH hlo
  refine lv_aload_n hx hb dX3_years_0 rfl (lv_at hl 0 rfl) ?_
  refine lv_iconst (v := 0) hx hb dX3_years_1 (by decide) ?_
  refine zp_X3_latestFault hx hb hts hin_X3 hown hK hP hI hS (hts (Cond.fieldLink RX3 46 "ProphetCover" "latestFault" "I") (List.mem_of_getElem? (i := 1) rfl)) dX3_years_2 (fun H locs hP hS => ?_)
  refine lv_iload_n hx hb dX3_years_5 rfl (lv_at hl 2 rfl) ?_
  refine kS (n := 1) (As := [.int p1]) (rest := []) ⟨hx, hb, hml, hown, hts⟩ (kX3_isSheet l p1) gX3_years_X3_isSheet rfl rfl rfl (by decide +kernel) ⟨Nat.le_of_ble_eq_true rfl, Nat.le_of_ble_eq_true rfl⟩ (fun _ _ _ => trivial) (fun _ _ _ _ _ => trivial) rfl hl.1 rfl (Nat.le_of_ble_eq_true rfl) dX3_years_6 ⟨Nat.le_refl _, Nat.le_refl _⟩ ?_
  refine lv_if_ne (tgt := 14) hx hb dX3_years_9 (by decide) (fun c1 => ?_) (fun c1 => ?_)
  · have hv1 : vp_in p1 4 := isSheet_in c1
    refine lv_iload_n hx hb dX3_years_14 rfl (lv_at hl 1 rfl) ?_
    refine lv_bipush (v := 9) hx hb dX3_years_15 (by decide) ?_
    refine kS (n := 2) (As := [.int p0, .int 9]) (rest := []) ⟨hx, hb, hml, hown, hts⟩ (kX3_isWithin l p0 9) gX3_years_X3_isWithin rfl rfl rfl (by decide +kernel) ⟨Nat.le_of_ble_eq_true rfl, Nat.le_of_ble_eq_true rfl⟩ (fun _ _ _ => trivial) (fun _ _ _ _ _ => trivial) rfl hl.1 rfl (Nat.le_of_ble_eq_true rfl) dX3_years_17 ⟨Nat.le_refl _, Nat.le_refl _⟩ ?_
    refine lv_if_eq (tgt := 48) hx hb dX3_years_20 (by decide) (fun c2 => ?_) (fun c2 => ?_)
    · refine lv_bipush (v := (-2)) hx hb dX3_years_48 (by decide) ?_
      exact rXI hx hb hr hlk hK hP hS dX3_years_50 (by rw [fX3_years, if_neg c1, if_pos c2])
    · refine lv_iload_n hx hb dX3_years_23 rfl (lv_at hl 3 rfl) ?_
      refine kS (n := 1) (As := [.int p2]) (rest := []) ⟨hx, hb, hml, hown, hts⟩ (kX3_isLane l p2) gX3_years_X3_isLane rfl rfl rfl (by decide +kernel) ⟨Nat.le_of_ble_eq_true rfl, Nat.le_of_ble_eq_true rfl⟩ (fun _ _ _ => trivial) (fun _ _ _ _ _ => trivial) rfl hl.1 rfl (Nat.le_of_ble_eq_true rfl) dX3_years_24 ⟨Nat.le_refl _, Nat.le_refl _⟩ ?_
      refine lv_if_eq (tgt := 48) hx hb dX3_years_27 (by decide) (fun c3 => ?_) (fun c3 => ?_)
      · refine lv_bipush (v := (-2)) hx hb dX3_years_48 (by decide) ?_
        exact rXI hx hb hr hlk hK hP hS dX3_years_50 (by rw [fX3_years, if_neg c1, if_neg c2, if_pos c3])
      · refine lv_iload hx hb dX3_years_30 (lv_at hl 5 rfl) ?_
        refine lv_bipush (v := 40) hx hb dX3_years_32 (by decide) ?_
        refine kS (n := 2) (As := [.int p4, .int 40]) (rest := []) ⟨hx, hb, hml, hown, hts⟩ (kX3_isWithin l p4 40) gX3_years_X3_isWithin rfl rfl rfl (by decide +kernel) ⟨Nat.le_of_ble_eq_true rfl, Nat.le_of_ble_eq_true rfl⟩ (fun _ _ _ => trivial) (fun _ _ _ _ _ => trivial) rfl hl.1 rfl (Nat.le_of_ble_eq_true rfl) dX3_years_34 ⟨Nat.le_refl _, Nat.le_refl _⟩ ?_
        refine lv_if_eq (tgt := 48) hx hb dX3_years_37 (by decide) (fun c4 => ?_) (fun c4 => ?_)
        · refine lv_bipush (v := (-2)) hx hb dX3_years_48 (by decide) ?_
          exact rXI hx hb hr hlk hK hP hS dX3_years_50 (by rw [fX3_years, if_neg c1, if_neg c2, if_neg c3, if_pos c4])
        · refine lv_iload hx hb dX3_years_40 (lv_at hl 6 rfl) ?_
          refine kS (n := 1) (As := [.int p5]) (rest := []) ⟨hx, hb, hml, hown, hts⟩ (kX3_isYearsQuestion l p5) gX3_years_X3_isYearsQuestion rfl rfl rfl (by decide +kernel) ⟨Nat.le_of_ble_eq_true rfl, Nat.le_of_ble_eq_true rfl⟩ (fun _ _ _ => trivial) (fun _ _ _ _ _ => trivial) rfl hl.1 rfl (Nat.le_of_ble_eq_true rfl) dX3_years_42 ⟨Nat.le_refl _, Nat.le_refl _⟩ ?_
          refine lv_if_ne (tgt := 51) hx hb dX3_years_45 (by decide) (fun c5 => ?_) (fun c5 => ?_)
          · refine lv_aload_n hx hb dX3_years_51 rfl (lv_at hl 0 rfl) ?_
            refine kV (n := 0) (As := []) (rest := []) ⟨hx, hb, hml, hown, hts⟩ (kX3_hasOffice l D cy ad (mset u 0 8 0)) gX3_years_X3_hasOffice rfl rfl rfl (by decide +kernel) ⟨Nat.le_of_ble_eq_true rfl, Nat.le_of_ble_eq_true rfl⟩ (recvX hP hK) (XB_of hP hK) XB_bl rfl hl.1 rfl (Nat.le_of_ble_eq_true rfl) dX3_years_52 ⟨Nat.le_refl _, Nat.le_refl _⟩ ?_
            refine lv_if_ne (tgt := 61) hx hb dX3_years_55 (by decide) (fun c6 => ?_) (fun c6 => ?_)
            · refine lv_aload_n hx hb dX3_years_61 rfl (lv_at hl 0 rfl) ?_
              refine zg_X3_sheets hx hb hts hin_X3 hown hK hP (hts (Cond.fieldLink RX3 13 "ProphetCover" "sheets" "[LProphetCover$Sheet;") (List.mem_of_getElem? (i := 2) rfl)) dX3_years_62 ?_
              refine lv_iload_n hx hb dX3_years_65 rfl (lv_at hl 2 rfl) ?_
              refine zl_sheets hx hb hK hP (by assumption) dX3_years_66 ?_
              refine lv_iload_n hx hb dX3_years_67 rfl (lv_at hl 3 rfl) ?_
              refine lv_iload hx hb dX3_years_68 (lv_at hl 4 rfl) ?_
              refine lv_iload hx hb dX3_years_70 (lv_at hl 5 rfl) ?_
              refine kV (n := 3) (As := [.int p2, .int p3, .int p4]) (rest := []) ⟨hx, hb, hml, hown, hts⟩ (kX2_flaw l D cy ad (mset u 0 8 0) (p1.toNatClampNeg) p2 p3 p4 (vlt (n := 4) (i := p1) (by assumption))) gX3_years_X2_flaw rfl rfl rfl (by decide +kernel) ⟨Nat.le_of_ble_eq_true rfl, Nat.le_of_ble_eq_true rfl⟩ (recvXs hP hK (vlt (n := 4) (i := p1) (by assumption))) (XB_of hP hK) XB_bl rfl hl.1 rfl (Nat.le_of_ble_eq_true rfl) dX3_years_72 ⟨Nat.le_refl _, Nat.le_refl _⟩ ?_
              refine lv_istore (lv' := [(7, .int (fX2_flaw (mset u 0 8 0) (p1.toNatClampNeg) p2 p3 p4)), (0, .ref (ad 0)), (1, .int p0), (2, .int p1), (3, .int p2), (4, .int p3), (5, .int p4), (6, .int p5)]) hx hb dX3_years_75 hl (by decide) rfl (fun ls hl => ?_)
              refine lv_iload hx hb dX3_years_77 (lv_at hl 0 rfl) ?_
              refine lv_if_eq (tgt := 89) hx hb dX3_years_79 (by decide) (fun c7 => ?_) (fun c7 => ?_)
              · have hf7 : Rng p3 (p3 + p4) := flaw_rng (u := (mset u 0 8 0)) hsz (by first | assumption | exact vlt (by assumption)) c7
                refine lv_aload_n hx hb dX3_years_89 rfl (lv_at hl 1 rfl) ?_
                refine zg_X3_sheets hx hb hts hin_X3 hown hK hP (hts (Cond.fieldLink RX3 13 "ProphetCover" "sheets" "[LProphetCover$Sheet;") (List.mem_of_getElem? (i := 2) rfl)) dX3_years_90 ?_
                refine lv_iload_n hx hb dX3_years_93 rfl (lv_at hl 3 rfl) ?_
                refine zl_sheets hx hb hK hP (by assumption) dX3_years_94 ?_
                refine zg_X2_cells (vlt (n := 4) (i := p1) (by assumption)) hx hb hts hin_X2 hown hK hP (hts (Cond.fieldLink RX3 67 "ProphetCover$Sheet" "cells" "[I") (List.mem_of_getElem? (i := 3) rfl)) dX3_years_95 ?_
                refine lv_astore (lv' := [(8, .ref (ad (9 + p1.toNatClampNeg))), (7, .int (fX2_flaw (mset u 0 8 0) (p1.toNatClampNeg) p2 p3 p4)), (0, .ref (ad 0)), (1, .int p0), (2, .int p1), (3, .int p2), (4, .int p3), (5, .int p4), (6, .int p5)]) hx hb dX3_years_98 hl (by decide) rfl (fun ls hl => ?_)
                refine lv_aload_n hx hb dX3_years_100 rfl (lv_at hl 2 rfl) ?_
                refine lv_aload hx hb dX3_years_101 (lv_at hl 0 rfl) ?_
                refine lv_iload hx hb dX3_years_103 (lv_at hl 6 rfl) ?_
                refine lv_iload hx hb dX3_years_105 (lv_at hl 6 rfl) ?_
                refine lv_iload hx hb dX3_years_107 (lv_at hl 7 rfl) ?_
                refine lv_iadd hx hb dX3_years_109 ?_
                refine kV (n := 3) (As := [.ref (ad (9 + p1.toNatClampNeg)), .int p3, .int (p3 + p4)]) (rest := []) ⟨hx, hb, hml, hown, hts⟩ (kX3_areEventSets l D cy ad (mset u 0 8 0) (p1.toNatClampNeg) p3 (p3 + p4) (vlt (n := 4) (i := p1) (by assumption)) (by assumption)) gX3_years_X3_areEventSets rfl rfl rfl (by decide +kernel) ⟨Nat.le_of_ble_eq_true rfl, Nat.le_of_ble_eq_true rfl⟩ (recvX hP hK) (XB_of hP hK) XB_bl rfl hl.1 rfl (Nat.le_of_ble_eq_true rfl) dX3_years_110 ⟨Nat.le_refl _, Nat.le_refl _⟩ ?_
                refine lv_if_ne (tgt := 119) hx hb dX3_years_113 (by decide) (fun c8 => ?_) (fun c8 => ?_)
                · refine lv_iload hx hb dX3_years_119 (lv_at hl 8 rfl) ?_
                  refine lv_bipush (v := 10) hx hb dX3_years_121 (by decide) ?_
                  refine lv_icmp_lt (tgt := 145) hx hb dX3_years_123 (by decide) (fun c9 => ?_) (fun c9 => ?_)
                  · refine lv_aload_n hx hb dX3_years_145 rfl (lv_at hl 2 rfl) ?_
                    refine lv_iload_n hx hb dX3_years_146 rfl (lv_at hl 3 rfl) ?_
                    refine lv_aload hx hb dX3_years_147 (lv_at hl 0 rfl) ?_
                    refine lv_iload hx hb dX3_years_149 (lv_at hl 6 rfl) ?_
                    refine lv_iload hx hb dX3_years_151 (lv_at hl 6 rfl) ?_
                    refine lv_iload hx hb dX3_years_153 (lv_at hl 7 rfl) ?_
                    refine lv_iadd hx hb dX3_years_155 ?_
                    refine lv_iload hx hb dX3_years_156 (lv_at hl 8 rfl) ?_
                    refine kV (n := 5) (As := [.int p0, .ref (ad (9 + p1.toNatClampNeg)), .int p3, .int (p3 + p4), .int p5]) (rest := []) ⟨hx, hb, hml, hown, hts⟩ (kX3_officeOverYears l D cy ad (mset u 0 8 0) p0 (p1.toNatClampNeg) p3 (p3 + p4) p5 (vlt (n := 4) (i := p1) (by assumption)) (by first | exact hpc | assumption) (by assumption)) gX3_years_X3_officeOverYears rfl rfl rfl (by decide +kernel) ⟨Nat.le_of_ble_eq_true rfl, Nat.le_of_ble_eq_true rfl⟩ (recvX hP hK) (XB_of hP hK) XB_bl rfl hl.1 rfl (Nat.le_of_ble_eq_true rfl) dX3_years_158 ⟨Nat.le_refl _, Nat.le_refl _⟩ ?_
                    exact rXI hx hb hr hlk hK hP hS dX3_years_161 (by rw [fX3_years, if_neg c1, if_neg c2, if_neg c3, if_neg c4, if_neg c5, if_neg c6, if_pos c7, if_neg c8, if_pos c9])
                  · refine lv_aload_n hx hb dX3_years_126 rfl (lv_at hl 2 rfl) ?_
                    refine lv_iload hx hb dX3_years_127 (lv_at hl 8 rfl) ?_
                    refine lv_bipush (v := 10) hx hb dX3_years_129 (by decide) ?_
                    refine lv_isub hx hb dX3_years_131 ?_
                    refine lv_aload hx hb dX3_years_132 (lv_at hl 0 rfl) ?_
                    refine lv_iload hx hb dX3_years_134 (lv_at hl 6 rfl) ?_
                    refine lv_iload hx hb dX3_years_136 (lv_at hl 6 rfl) ?_
                    refine lv_iload hx hb dX3_years_138 (lv_at hl 7 rfl) ?_
                    refine lv_iadd hx hb dX3_years_140 ?_
                    refine kV (n := 4) (As := [.int (p5 - 10), .ref (ad (9 + p1.toNatClampNeg)), .int p3, .int (p3 + p4)]) (rest := []) ⟨hx, hb, hml, hown, hts⟩ (kX3_paidOverYears l D cy ad (mset u 0 8 0) (p5 - 10) (p1.toNatClampNeg) p3 (p3 + p4) (vlt (n := 4) (i := p1) (by assumption)) (by first | exact hpc | assumption) (by assumption)) gX3_years_X3_paidOverYears rfl rfl rfl (by decide +kernel) ⟨Nat.le_of_ble_eq_true rfl, Nat.le_of_ble_eq_true rfl⟩ (recvX hP hK) (XB_of hP hK) XB_bl rfl hl.1 rfl (Nat.le_of_ble_eq_true rfl) dX3_years_141 ⟨Nat.le_refl _, Nat.le_refl _⟩ ?_
                    exact rXI hx hb hr hlk hK hP hS dX3_years_144 (by rw [fX3_years, if_neg c1, if_neg c2, if_neg c3, if_neg c4, if_neg c5, if_neg c6, if_pos c7, if_neg c8, if_neg c9])
                · refine lv_bipush (v := (-2)) hx hb dX3_years_116 (by decide) ?_
                  exact rXI hx hb hr hlk hK hP hS dX3_years_118 (by rw [fX3_years, if_neg c1, if_neg c2, if_neg c3, if_neg c4, if_neg c5, if_neg c6, if_pos c7, if_pos c8])
              · refine lv_aload_n hx hb dX3_years_82 rfl (lv_at hl 1 rfl) ?_
                refine lv_iload hx hb dX3_years_83 (lv_at hl 0 rfl) ?_
                refine kWX (n := 1) (As := [.int (fX2_flaw (mset u 0 8 0) (p1.toNatClampNeg) p2 p3 p4)]) (rest := []) ⟨hx, hb, hml, hown, hts⟩ (kX3_faulty l D cy ad hI (mset u 0 8 0) (fX2_flaw (mset u 0 8 0) (p1.toNatClampNeg) p2 p3 p4)) gX3_years_X3_faulty rfl rfl rfl (by decide +kernel) ⟨Nat.le_of_ble_eq_true rfl, Nat.le_of_ble_eq_true rfl⟩ (recvX hP hK) hP hK hS rfl hl.1 rfl (Nat.le_of_ble_eq_true rfl) dX3_years_85 ⟨Nat.le_refl _, Nat.le_refl _⟩ (fun H locs hP hS => ?_)
                exact rXI hx hb hr hlk hK hP hS dX3_years_88 (by rw [fX3_years, if_neg c1, if_neg c2, if_neg c3, if_neg c4, if_neg c5, if_neg c6, if_neg c7])
            · refine lv_bipush (v := (-3)) hx hb dX3_years_58 (by decide) ?_
              exact rXI hx hb hr hlk hK hP hS dX3_years_60 (by rw [fX3_years, if_neg c1, if_neg c2, if_neg c3, if_neg c4, if_neg c5, if_pos c6])
          · refine lv_bipush (v := (-2)) hx hb dX3_years_48 (by decide) ?_
            exact rXI hx hb hr hlk hK hP hS dX3_years_50 (by rw [fX3_years, if_neg c1, if_neg c2, if_neg c3, if_neg c4, if_pos c5])
  · refine lv_iconst (v := (-1)) hx hb dX3_years_12 (by decide) ?_
    exact rXI hx hb hr hlk hK hP hS dX3_years_13 (by rw [fX3_years, if_pos c1])
