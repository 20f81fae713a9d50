def fX4_fair_c27 (v : Mem) (p0 : Int32) (p1 : Int32)  : Nat → Int32 → Int64 → Int64
  | 0, x5, x3 => 0
  | n27 + 1, x5, x3 => (if (v 0 1) ≤ x5 then (fX4_share x3 10 p1) else (if (fX4_isIn (v 4 p0.toNatClampNeg) x5) = 0 then (fX4_fair_c27 v p0 p1 n27 (x5 + 1) (x3 + 0)) else (if (fX4_isFraud v p0) = 0 then (fX4_fair_c27 v p0 p1 n27 (x5 + 1) (x3 + (((fX4_paysOf v p0) * (v 1 x5.toNatClampNeg))).toInt64)) else (fX4_fair_c27 v p0 p1 n27 (x5 + 1) (x3 + 0)))))
def fX4_fair (v : Mem) (p0 : Int32) (p1 : Int32) : Int64 :=
  (if (fX4_noProphet v p0) = 0 then (if (fX4_in ((p1).toInt64) 0 1) = 0 then fX4_lost else (fX4_fair_c27 v p0 p1 (6) 0 0)) else fX4_lost)
set_option maxRecDepth 100000 in
set_option maxHeartbeats 4000000 in
theorem kX4_fair (l : Launch) (D : va_G) (cz : ClassId) (bd : Nat → Nat) (v : Mem) (p0 : Int32) (p1 : Int32) (hpc : PcOkM v) (hec : EcOkM v) : Met l yX4_fair wsX4_fair ({ frames := 2, cells := 0, slots := 0, locals := 46 } : Room) (va_Pc [.ref (bd 0), .int p0, .int p1] (MB D cz bd v)) (qR (some (.long (fX4_fair v p0 p1)))) 0 0 noF := by
  refine m_start (cc := cX4_fair) (maxL := 6) (ret := (some .long)) (by decide) rfl (Nat.le_of_ble_eq_true rfl) (fun p e s m below meth c hx hb hr hts hown hml hlk _ hB ls hl => ?_)
  obtain ⟨hP, hK⟩ := hB
  have hown : s.vm.findClass RX4 = some m.cls := hown
  have hl : lv_has ls 6 [(0, .ref (bd 0)), (1, .int p0), (2, .int p1)] := hl
  have hin_X4 : ∀ w ∈ wsX40, w ∈ wsX4_fair := fun _ h => List.mem_cons_of_mem _ (List.mem_append_right _ (h))
  obtain ⟨ne, hne, ene⟩ := id hec
  have h10 : ¬ (10 : Int64) = 0 := by decide
  refine lv_aload_n hx hb dX4_fair_0 rfl (lv_at hl 0 rfl) ?_
  refine lv_iload_n hx hb dX4_fair_1 rfl (lv_at hl 1 rfl) ?_
  refine kV (n := 1) (As := [.int p0]) (rest := []) ⟨hx, hb, hml, hown, hts⟩ (kX4_noProphet l D cz bd v p0) gX4_fair_X4_noProphet rfl rfl rfl (by decide +kernel) ⟨Nat.le_of_ble_eq_true rfl, Nat.le_of_ble_eq_true rfl⟩ (recvM hP hK) (MB_of hP hK) MB_bl rfl hl.1 rfl (Nat.le_of_ble_eq_true rfl) dX4_fair_2 ⟨Nat.le_refl _, Nat.le_refl _⟩ ?_
  refine lv_if_ne (tgt := 18) hx hb dX4_fair_5 (by decide) (fun c1 => ?_) (fun c1 => ?_)
  · refine kS (n := 0) (As := []) (rest := []) ⟨hx, hb, hml, hown, hts⟩ (kX4_lost l) gX4_fair_X4_lost rfl rfl rfl (by decide +kernel) ⟨Nat.le_of_ble_eq_true rfl, Nat.le_of_ble_eq_true rfl⟩ (fun _ _ _ => trivial) (fun _ _ _ _ _ => trivial) rfl hl.1 rfl (Nat.le_of_ble_eq_true rfl) dX4_fair_18 ⟨Nat.le_refl _, Nat.le_refl _⟩ ?_
    exact rL hx hb hr hlk dX4_fair_21 (by rw [fX4_fair, if_neg c1])
  · have hv1 : vp_in p0 4 := noProphet_in (by first | with_reducible assumption | exact hpc) c1
    refine lv_iload_n hx hb dX4_fair_8 rfl (lv_at hl 2 rfl) ?_
    refine lv_i2l hx hb dX4_fair_9 rfl ?_
    refine lv_lconst (v := 0) hx hb dX4_fair_10 (by decide) ?_
    refine lv_lconst (v := 1) hx hb dX4_fair_11 (by decide) ?_
    refine kS (n := 3) (As := [.long (p1).toInt64, .long 0, .long 1]) (rest := []) ⟨hx, hb, hml, hown, hts⟩ (kX4_in l ((p1).toInt64) 0 1) gX4_fair_X4_in rfl rfl rfl (by decide +kernel) ⟨Nat.le_of_ble_eq_true rfl, Nat.le_of_ble_eq_true rfl⟩ (fun _ _ _ => trivial) (fun _ _ _ _ _ => trivial) rfl hl.1 rfl (Nat.le_of_ble_eq_true rfl) dX4_fair_12 ⟨Nat.le_refl _, Nat.le_refl _⟩ ?_
    refine lv_if_ne (tgt := 22) hx hb dX4_fair_15 (by decide) (fun c2 => ?_) (fun c2 => ?_)
    · refine lv_lconst (v := 0) hx hb dX4_fair_22 (by decide) ?_
      refine lv_lstore_n (lv' := [(3, .long 0), (0, .ref (bd 0)), (1, .int p0), (2, .int p1)]) hx hb dX4_fair_23 rfl hl (by decide) rfl (fun ls hl => ?_)
      refine lv_iconst (v := 0) hx hb dX4_fair_24 (by decide) ?_
      refine lv_istore (lv' := [(5, .int 0), (3, .long 0), (0, .ref (bd 0)), (1, .int p0), (2, .int p1)]) hx hb dX4_fair_25 hl (by decide) rfl (fun ls hl => ?_)
      have lp27 : ∀ (n27 : Nat) (x5 : Int32) (x3 : Int64) (k27 : Nat), (fX4_fair v p0 p1) = (fX4_fair_c27 v p0 p1 n27 x5 x3) → (x5 = nI k27) → (k27 ≤ ne) → (ne < k27 + n27) → ∀ ls : Array Slot, lv_has ls 6 [(5, .int x5), (3, .long x3), (0, .ref (bd 0)), (1, .int p0), (2, .int p1)] → W p l e ({ frames := 2, cells := 0, slots := 0, locals := 46 } : Room) s m ([.ref (bd 0), .int p0, .int p1] : List Value).toArray below meth c s.heap [] 0 0 (MQ below (qR (some (.long (fX4_fair v p0 p1)))) ([.ref (bd 0), .int p0, .int p1] : List Value).toArray s 0 0 noF) (F0 m 27 ls []) := by
        intro n27
        induction n27 with
        | zero =>
          intro x5 x3 k27 _ e27 hk27 hm27 ls hl
          exfalso; omega
        | succ n27 ih27 =>
          intro x5 x3 k27 hr27 e27 hk27 hm27 ls hl
          refine lv_iload hx hb dX4_fair_27 (lv_at hl 0 rfl) ?_
          refine lv_aload_n hx hb dX4_fair_29 rfl (lv_at hl 2 rfl) ?_
          refine zg_X4_events hx hb hts hin_X4 hown hK hP (hts (Cond.fieldLink RX4 65 "ProphetCoverModel" "events" "I") (List.mem_of_getElem? (i := 1) rfl)) dX4_fair_30 ?_
          refine lv_icmp_ge (tgt := 85) hx hb dX4_fair_33 (by decide) (fun c3 => ?_) (fun c3 => ?_)
          · refine lv_lload_n hx hb dX4_fair_85 rfl (lv_at hl 1 rfl) ?_
            refine lv_ldc2 hx hb hown (hts (Cond.constantLong RX4 175 (10)) (List.mem_of_getElem? (i := 4) rfl)) dX4_fair_86 ?_
            refine lv_iload_n hx hb dX4_fair_89 rfl (lv_at hl 4 rfl) ?_
            refine kS (n := 3) (As := [.long x3, .long 10, .int p1]) (rest := []) ⟨hx, hb, hml, hown, hts⟩ (kX4_share l x3 10 p1 (by assumption)) gX4_fair_X4_share rfl rfl rfl (by decide +kernel) ⟨Nat.le_of_ble_eq_true rfl, Nat.le_of_ble_eq_true rfl⟩ (fun _ _ _ => trivial) (fun _ _ _ _ _ => trivial) rfl hl.1 rfl (Nat.le_of_ble_eq_true rfl) dX4_fair_90 ⟨Nat.le_refl _, Nat.le_refl _⟩ ?_
            exact rL hx hb hr hlk dX4_fair_93 (by rw [hr27, fX4_fair_c27, if_pos c3])
          · have hlt27 : k27 < ne := cnt_lt ene e27 (by omega) (by omega) c3
            have hv27 : vp_in x5 5 := cnt_in e27 (by omega) (by decide)
            refine lv_lload_n hx hb dX4_fair_36 rfl (lv_at hl 1 rfl) ?_
            refine lv_aload_n hx hb dX4_fair_37 rfl (lv_at hl 2 rfl) ?_
            refine zg_X4_saidBy hx hb hts hin_X4 hown hK hP (hts (Cond.fieldLink RX4 19 "ProphetCoverModel" "saidBy" "[I") (List.mem_of_getElem? (i := 2) rfl)) dX4_fair_38 ?_
            refine lv_iload_n hx hb dX4_fair_41 rfl (lv_at hl 3 rfl) ?_
            refine zl_M (by decide) (by decide) rfl hx hb hK hP (by assumption) dX4_fair_42 ?_
            refine lv_iload hx hb dX4_fair_43 (lv_at hl 0 rfl) ?_
            refine kS (n := 2) (As := [.int (v 4 p0.toNatClampNeg), .int x5]) (rest := [.long x3]) ⟨hx, hb, hml, hown, hts⟩ (kX4_isIn l (v 4 p0.toNatClampNeg) x5) gX4_fair_X4_isIn rfl rfl rfl (by decide +kernel) ⟨Nat.le_of_ble_eq_true rfl, Nat.le_of_ble_eq_true rfl⟩ (fun _ _ _ => trivial) (fun _ _ _ _ _ => trivial) rfl hl.1 rfl (Nat.le_of_ble_eq_true rfl) dX4_fair_45 ⟨Nat.le_refl _, Nat.le_refl _⟩ ?_
            refine lv_if_eq (tgt := 76) hx hb dX4_fair_48 (by decide) (fun c4 => ?_) (fun c4 => ?_)
            · refine lv_lconst (v := 0) hx hb dX4_fair_76 (by decide) ?_
              refine lv_ladd hx hb dX4_fair_77 ?_
              refine lv_lstore_n (lv' := [(3, .long (x3 + 0)), (5, .int x5), (0, .ref (bd 0)), (1, .int p0), (2, .int p1)]) hx hb dX4_fair_78 rfl hl (by decide) rfl (fun ls hl => ?_)
              refine lv_iinc (v := (x5 + 1)) (lv' := [(5, .int (x5 + 1)), (3, .long (x3 + 0)), (0, .ref (bd 0)), (1, .int p0), (2, .int p1)]) hx hb dX4_fair_79 hl (k := 1) rfl rfl (by decide) rfl (fun ls hl => ?_)
              refine lv_goto (tgt := 27) hx hb dX4_fair_82 (by decide) ?_
              exact ih27 (x5 + 1) (x3 + 0) (k27 + 1) (by rw [hr27, fX4_fair_c27, if_neg c3, if_pos c4]) (by rw [e27]; exact nI_1 _) hlt27 (by omega) ls (lv_sub hl [0, 1, 2, 3, 4] rfl)
            · refine lv_aload_n hx hb dX4_fair_51 rfl (lv_at hl 2 rfl) ?_
              refine lv_iload_n hx hb dX4_fair_52 rfl (lv_at hl 3 rfl) ?_
              refine kV (n := 1) (As := [.int p0]) (rest := [.long x3]) ⟨hx, hb, hml, hown, hts⟩ (kX4_isFraud l D cz bd v p0 (by assumption)) gX4_fair_X4_isFraud rfl rfl rfl (by decide +kernel) ⟨Nat.le_of_ble_eq_true rfl, Nat.le_of_ble_eq_true rfl⟩ (recvM hP hK) (MB_of hP hK) MB_bl rfl hl.1 rfl (Nat.le_of_ble_eq_true rfl) dX4_fair_53 ⟨Nat.le_refl _, Nat.le_refl _⟩ ?_
              refine lv_if_ne (tgt := 76) hx hb dX4_fair_56 (by decide) (fun c5 => ?_) (fun c5 => ?_)
              · refine lv_lconst (v := 0) hx hb dX4_fair_76 (by decide) ?_
                refine lv_ladd hx hb dX4_fair_77 ?_
                refine lv_lstore_n (lv' := [(3, .long (x3 + 0)), (5, .int x5), (0, .ref (bd 0)), (1, .int p0), (2, .int p1)]) hx hb dX4_fair_78 rfl hl (by decide) rfl (fun ls hl => ?_)
                refine lv_iinc (v := (x5 + 1)) (lv' := [(5, .int (x5 + 1)), (3, .long (x3 + 0)), (0, .ref (bd 0)), (1, .int p0), (2, .int p1)]) hx hb dX4_fair_79 hl (k := 1) rfl rfl (by decide) rfl (fun ls hl => ?_)
                refine lv_goto (tgt := 27) hx hb dX4_fair_82 (by decide) ?_
                exact ih27 (x5 + 1) (x3 + 0) (k27 + 1) (by rw [hr27, fX4_fair_c27, if_neg c3, if_neg c4, if_neg c5]) (by rw [e27]; exact nI_1 _) hlt27 (by omega) ls (lv_sub hl [0, 1, 2, 3, 4] rfl)
              · refine lv_aload_n hx hb dX4_fair_59 rfl (lv_at hl 2 rfl) ?_
                refine lv_iload_n hx hb dX4_fair_60 rfl (lv_at hl 3 rfl) ?_
                refine kV (n := 1) (As := [.int p0]) (rest := [.long x3]) ⟨hx, hb, hml, hown, hts⟩ (kX4_paysOf l D cz bd v p0 (by assumption)) gX4_fair_X4_paysOf rfl rfl rfl (by decide +kernel) ⟨Nat.le_of_ble_eq_true rfl, Nat.le_of_ble_eq_true rfl⟩ (recvM hP hK) (MB_of hP hK) MB_bl rfl hl.1 rfl (Nat.le_of_ble_eq_true rfl) dX4_fair_61 ⟨Nat.le_refl _, Nat.le_refl _⟩ ?_
                refine lv_aload_n hx hb dX4_fair_64 rfl (lv_at hl 2 rfl) ?_
                refine zg_X4_chanceOf hx hb hts hin_X4 hown hK hP (hts (Cond.fieldLink RX4 7 "ProphetCoverModel" "chanceOf" "[I") (List.mem_of_getElem? (i := 3) rfl)) dX4_fair_65 ?_
                refine lv_iload hx hb dX4_fair_68 (lv_at hl 0 rfl) ?_
                refine zl_M (by decide) (by decide) rfl hx hb hK hP (by assumption) dX4_fair_70 ?_
                refine lv_imul hx hb dX4_fair_71 ?_
                refine lv_i2l hx hb dX4_fair_72 rfl ?_
                refine lv_goto (tgt := 77) hx hb dX4_fair_73 (by decide) ?_
                refine lv_ladd hx hb dX4_fair_77 ?_
                refine lv_lstore_n (lv' := [(3, .long (x3 + (((fX4_paysOf v p0) * (v 1 x5.toNatClampNeg))).toInt64)), (5, .int x5), (0, .ref (bd 0)), (1, .int p0), (2, .int p1)]) hx hb dX4_fair_78 rfl hl (by decide) rfl (fun ls hl => ?_)
                refine lv_iinc (v := (x5 + 1)) (lv' := [(5, .int (x5 + 1)), (3, .long (x3 + (((fX4_paysOf v p0) * (v 1 x5.toNatClampNeg))).toInt64)), (0, .ref (bd 0)), (1, .int p0), (2, .int p1)]) hx hb dX4_fair_79 hl (k := 1) rfl rfl (by decide) rfl (fun ls hl => ?_)
                refine lv_goto (tgt := 27) hx hb dX4_fair_82 (by decide) ?_
                exact ih27 (x5 + 1) (x3 + (((fX4_paysOf v p0) * (v 1 x5.toNatClampNeg))).toInt64) (k27 + 1) (by rw [hr27, fX4_fair_c27, if_neg c3, if_neg c4, if_pos c5]) (by rw [e27]; exact nI_1 _) hlt27 (by omega) ls (lv_sub hl [0, 1, 2, 3, 4] rfl)
      exact lp27 (6) 0 0 (0) (by rw [fX4_fair, if_pos c1, if_neg c2]) nI_0.symm (by omega) (by omega) ls (lv_sub hl [0, 1, 2, 3, 4] rfl)
    · refine kS (n := 0) (As := []) (rest := []) ⟨hx, hb, hml, hown, hts⟩ (kX4_lost l) gX4_fair_X4_lost rfl rfl rfl (by decide +kernel) ⟨Nat.le_of_ble_eq_true rfl, Nat.le_of_ble_eq_true rfl⟩ (fun _ _ _ => trivial) (fun _ _ _ _ _ => trivial) rfl hl.1 rfl (Nat.le_of_ble_eq_true rfl) dX4_fair_18 ⟨Nat.le_refl _, Nat.le_refl _⟩ ?_
      exact rL hx hb hr hlk dX4_fair_21 (by rw [fX4_fair, if_pos c1, if_pos c2])
def fX4_safe (v : Mem) (p0 : Int32) : Int32 :=
  (if (fX4_noProphet v p0) = 0 then (fX4_paidTo v p0 (fX4_allEvents v)) else (-1))
set_option maxRecDepth 100000 in
set_option maxHeartbeats 4000000 in
theorem kX4_safe (l : Launch) (D : va_G) (cz : ClassId) (bd : Nat → Nat) (v : Mem) (p0 : Int32) (hpc : PcOkM v) : Met l yX4_safe wsX4_safe ({ frames := 3, cells := 0, slots := 0, locals := 63 } : Room) (va_Pc [.ref (bd 0), .int p0] (MB D cz bd v)) (qR (some (.int (fX4_safe v p0)))) 0 0 noF := by
  refine m_start (cc := cX4_safe) (maxL := 2) (ret := (some .int)) (by decide) rfl (Nat.le_of_ble_eq_true rfl) (fun p e s m below meth c hx hb hr hts hown hml hlk _ hB ls hl => ?_)
  obtain ⟨hP, hK⟩ := hB
  have hown : s.vm.findClass RX4 = some m.cls := hown
  have hl : lv_has ls 2 [(0, .ref (bd 0)), (1, .int p0)] := hl
  have hin_X4 : ∀ w ∈ wsX40, w ∈ wsX4_safe := fun _ h => List.mem_cons_of_mem _ (List.mem_append_right _ (h))
  refine lv_aload_n hx hb dX4_safe_0 rfl (lv_at hl 0 rfl) ?_
  refine lv_iload_n hx hb dX4_safe_1 rfl (lv_at hl 1 rfl) ?_
  refine kV (n := 1) (As := [.int p0]) (rest := []) ⟨hx, hb, hml, hown, hts⟩ (kX4_noProphet l D cz bd v p0) gX4_safe_X4_noProphet rfl rfl rfl (by decide +kernel) ⟨Nat.le_of_ble_eq_true rfl, Nat.le_of_ble_eq_true rfl⟩ (recvM hP hK) (MB_of hP hK) MB_bl rfl hl.1 rfl (Nat.le_of_ble_eq_true rfl) dX4_safe_2 ⟨Nat.le_refl _, Nat.le_refl _⟩ ?_
  refine lv_if_eq (tgt := 12) hx hb dX4_safe_5 (by decide) (fun c1 => ?_) (fun c1 => ?_)
  · have hv1 : vp_in p0 4 := noProphet_in (by first | with_reducible assumption | exact hpc) c1
    refine lv_aload_n hx hb dX4_safe_12 rfl (lv_at hl 0 rfl) ?_
    refine lv_iload_n hx hb dX4_safe_13 rfl (lv_at hl 1 rfl) ?_
    refine lv_aload_n hx hb dX4_safe_14 rfl (lv_at hl 0 rfl) ?_
    refine kV (n := 0) (As := []) (rest := [.int p0, .ref (bd 0)]) ⟨hx, hb, hml, hown, hts⟩ (kX4_allEvents l D cz bd v) gX4_safe_X4_allEvents rfl rfl rfl (by decide +kernel) ⟨Nat.le_of_ble_eq_true rfl, Nat.le_of_ble_eq_true rfl⟩ (recvM hP hK) (MB_of hP hK) MB_bl rfl hl.1 rfl (Nat.le_of_ble_eq_true rfl) dX4_safe_15 ⟨Nat.le_refl _, Nat.le_refl _⟩ ?_
    refine kV (n := 2) (As := [.int p0, .int (fX4_allEvents v)]) (rest := []) ⟨hx, hb, hml, hown, hts⟩ (kX4_paidTo l D cz bd v p0 (fX4_allEvents v) (by assumption)) gX4_safe_X4_paidTo rfl rfl rfl (by decide +kernel) ⟨Nat.le_of_ble_eq_true rfl, Nat.le_of_ble_eq_true rfl⟩ (recvM hP hK) (MB_of hP hK) MB_bl rfl hl.1 rfl (Nat.le_of_ble_eq_true rfl) dX4_safe_18 ⟨Nat.le_refl _, Nat.le_refl _⟩ ?_
    exact rI hx hb hr hlk dX4_safe_21 (by rw [fX4_safe, if_pos c1])
  · refine lv_iconst (v := (-1)) hx hb dX4_safe_8 (by decide) ?_
    refine lv_goto (tgt := 21) hx hb dX4_safe_9 (by decide) ?_
    exact rI hx hb hr hlk dX4_safe_21 (by rw [fX4_safe, if_neg c1])
def fX4_weightOf_c5 (v : Mem) (p0 : Int32)  : Nat → Int32 → Int64 → Int64
  | 0, x4, x2 => 0
  | n5 + 1, x4, x2 => (if (v 0 1) ≤ x4 then x2 else (if (fX4_isIn p0 x4) = 0 then (fX4_weightOf_c5 v p0 n5 (x4 + 1) (x2 * ((10 - (v 1 x4.toNatClampNeg))).toInt64)) else (fX4_weightOf_c5 v p0 n5 (x4 + 1) (x2 * ((v 1 x4.toNatClampNeg)).toInt64))))
def fX4_weightOf (v : Mem) (p0 : Int32) : Int64 :=
  (fX4_weightOf_c5 v p0 (6) 0 1)
set_option maxRecDepth 100000 in
set_option maxHeartbeats 4000000 in
theorem kX4_weightOf (l : Launch) (D : va_G) (cz : ClassId) (bd : Nat → Nat) (v : Mem) (p0 : Int32) (hec : EcOkM v) : Met l yX4_weightOf wsX4_weightOf ({ frames := 1, cells := 0, slots := 0, locals := 21 } : Room) (va_Pc [.ref (bd 0), .int p0] (MB D cz bd v)) (qR (some (.long (fX4_weightOf v p0)))) 0 0 noF := by
  refine m_start (cc := cX4_weightOf) (maxL := 5) (ret := (some .long)) (by decide) rfl (Nat.le_of_ble_eq_true rfl) (fun p e s m below meth c hx hb hr hts hown hml hlk _ hB ls hl => ?_)
  obtain ⟨hP, hK⟩ := hB
  have hown : s.vm.findClass RX4 = some m.cls := hown
  have hl : lv_has ls 5 [(0, .ref (bd 0)), (1, .int p0)] := hl
  have hin_X4 : ∀ w ∈ wsX40, w ∈ wsX4_weightOf := fun _ h => List.mem_cons_of_mem _ (List.mem_append_right _ (h))
  obtain ⟨ne, hne, ene⟩ := id hec
  refine lv_lconst (v := 1) hx hb dX4_weightOf_0 (by decide) ?_
  refine lv_lstore_n (lv' := [(2, .long 1), (0, .ref (bd 0)), (1, .int p0)]) hx hb dX4_weightOf_1 rfl hl (by decide) rfl (fun ls hl => ?_)
  refine lv_iconst (v := 0) hx hb dX4_weightOf_2 (by decide) ?_
  refine lv_istore (lv' := [(4, .int 0), (2, .long 1), (0, .ref (bd 0)), (1, .int p0)]) hx hb dX4_weightOf_3 hl (by decide) rfl (fun ls hl => ?_)
  have lp5 : ∀ (n5 : Nat) (x4 : Int32) (x2 : Int64) (k5 : Nat), (fX4_weightOf v p0) = (fX4_weightOf_c5 v p0 n5 x4 x2) → (x4 = nI k5) → (k5 ≤ ne) → (ne < k5 + n5) → ∀ ls : Array Slot, lv_has ls 5 [(4, .int x4), (2, .long x2), (0, .ref (bd 0)), (1, .int p0)] → W p l e ({ frames := 1, cells := 0, slots := 0, locals := 21 } : Room) s m ([.ref (bd 0), .int p0] : List Value).toArray below meth c s.heap [] 0 0 (MQ below (qR (some (.long (fX4_weightOf v p0)))) ([.ref (bd 0), .int p0] : List Value).toArray s 0 0 noF) (F0 m 5 ls []) := by
    intro n5
    induction n5 with
    | zero =>
      intro x4 x2 k5 _ e5 hk5 hm5 ls hl
      exfalso; omega
    | succ n5 ih5 =>
      intro x4 x2 k5 hr5 e5 hk5 hm5 ls hl
      refine lv_iload hx hb dX4_weightOf_5 (lv_at hl 0 rfl) ?_
      refine lv_aload_n hx hb dX4_weightOf_7 rfl (lv_at hl 2 rfl) ?_
      refine zg_X4_events hx hb hts hin_X4 hown hK hP (hts (Cond.fieldLink RX4 65 "ProphetCoverModel" "events" "I") (List.mem_of_getElem? (i := 1) rfl)) dX4_weightOf_8 ?_
      refine lv_icmp_ge (tgt := 54) hx hb dX4_weightOf_11 (by decide) (fun c1 => ?_) (fun c1 => ?_)
      · refine lv_lload_n hx hb dX4_weightOf_54 rfl (lv_at hl 1 rfl) ?_
        exact rL hx hb hr hlk dX4_weightOf_55 (by rw [hr5, fX4_weightOf_c5, if_pos c1])
      · have hlt5 : k5 < ne := cnt_lt ene e5 (by omega) (by omega) c1
        have hv5 : vp_in x4 5 := cnt_in e5 (by omega) (by decide)
        refine lv_lload_n hx hb dX4_weightOf_14 rfl (lv_at hl 1 rfl) ?_
        refine lv_iload_n hx hb dX4_weightOf_15 rfl (lv_at hl 3 rfl) ?_
        refine lv_iload hx hb dX4_weightOf_16 (lv_at hl 0 rfl) ?_
        refine kS (n := 2) (As := [.int p0, .int x4]) (rest := [.long x2]) ⟨hx, hb, hml, hown, hts⟩ (kX4_isIn l p0 x4) gX4_weightOf_X4_isIn rfl rfl rfl (by decide +kernel) ⟨Nat.le_of_ble_eq_true rfl, Nat.le_of_ble_eq_true rfl⟩ (fun _ _ _ => trivial) (fun _ _ _ _ _ => trivial) rfl hl.1 rfl (Nat.le_of_ble_eq_true rfl) dX4_weightOf_18 ⟨Nat.le_refl _, Nat.le_refl _⟩ ?_
        refine lv_if_eq (tgt := 35) hx hb dX4_weightOf_21 (by decide) (fun c2 => ?_) (fun c2 => ?_)
        · refine lv_bipush (v := 10) hx hb dX4_weightOf_35 (by decide) ?_
          refine lv_aload_n hx hb dX4_weightOf_37 rfl (lv_at hl 2 rfl) ?_
          refine zg_X4_chanceOf hx hb hts hin_X4 hown hK hP (hts (Cond.fieldLink RX4 7 "ProphetCoverModel" "chanceOf" "[I") (List.mem_of_getElem? (i := 2) rfl)) dX4_weightOf_38 ?_
          refine lv_iload hx hb dX4_weightOf_41 (lv_at hl 0 rfl) ?_
          refine zl_M (by decide) (by decide) rfl hx hb hK hP (by assumption) dX4_weightOf_43 ?_
          refine lv_isub hx hb dX4_weightOf_44 ?_
          refine lv_i2l hx hb dX4_weightOf_45 rfl ?_
          refine lv_lmul hx hb dX4_weightOf_46 ?_
          refine lv_lstore_n (lv' := [(2, .long (x2 * ((10 - (v 1 x4.toNatClampNeg))).toInt64)), (4, .int x4), (0, .ref (bd 0)), (1, .int p0)]) hx hb dX4_weightOf_47 rfl hl (by decide) rfl (fun ls hl => ?_)
          refine lv_iinc (v := (x4 + 1)) (lv' := [(4, .int (x4 + 1)), (2, .long (x2 * ((10 - (v 1 x4.toNatClampNeg))).toInt64)), (0, .ref (bd 0)), (1, .int p0)]) hx hb dX4_weightOf_48 hl (k := 1) rfl rfl (by decide) rfl (fun ls hl => ?_)
          refine lv_goto (tgt := 5) hx hb dX4_weightOf_51 (by decide) ?_
          exact ih5 (x4 + 1) (x2 * ((10 - (v 1 x4.toNatClampNeg))).toInt64) (k5 + 1) (by rw [hr5, fX4_weightOf_c5, if_neg c1, if_pos c2]) (by rw [e5]; exact nI_1 _) hlt5 (by omega) ls (lv_sub hl [0, 1, 2, 3] rfl)
        · refine lv_aload_n hx hb dX4_weightOf_24 rfl (lv_at hl 2 rfl) ?_
          refine zg_X4_chanceOf hx hb hts hin_X4 hown hK hP (hts (Cond.fieldLink RX4 7 "ProphetCoverModel" "chanceOf" "[I") (List.mem_of_getElem? (i := 2) rfl)) dX4_weightOf_25 ?_
          refine lv_iload hx hb dX4_weightOf_28 (lv_at hl 0 rfl) ?_
          refine zl_M (by decide) (by decide) rfl hx hb hK hP (by assumption) dX4_weightOf_30 ?_
          refine lv_i2l hx hb dX4_weightOf_31 rfl ?_
          refine lv_goto (tgt := 46) hx hb dX4_weightOf_32 (by decide) ?_
          refine lv_lmul hx hb dX4_weightOf_46 ?_
          refine lv_lstore_n (lv' := [(2, .long (x2 * ((v 1 x4.toNatClampNeg)).toInt64)), (4, .int x4), (0, .ref (bd 0)), (1, .int p0)]) hx hb dX4_weightOf_47 rfl hl (by decide) rfl (fun ls hl => ?_)
          refine lv_iinc (v := (x4 + 1)) (lv' := [(4, .int (x4 + 1)), (2, .long (x2 * ((v 1 x4.toNatClampNeg)).toInt64)), (0, .ref (bd 0)), (1, .int p0)]) hx hb dX4_weightOf_48 hl (k := 1) rfl rfl (by decide) rfl (fun ls hl => ?_)
          refine lv_goto (tgt := 5) hx hb dX4_weightOf_51 (by decide) ?_
          exact ih5 (x4 + 1) (x2 * ((v 1 x4.toNatClampNeg)).toInt64) (k5 + 1) (by rw [hr5, fX4_weightOf_c5, if_neg c1, if_neg c2]) (by rw [e5]; exact nI_1 _) hlt5 (by omega) ls (lv_sub hl [0, 1, 2, 3] rfl)
  exact lp5 (6) 0 1 (0) (by rw [fX4_weightOf]) nI_0.symm (by omega) (by omega) ls (lv_sub hl [0, 1, 2, 3] rfl)
def fX4_weightOfAll_c4 (v : Mem)  : Nat → Int32 → Int64 → Int64
  | 0, x3, x1 => 0
  | n4 + 1, x3, x1 => (if (v 0 1) ≤ x3 then x1 else (fX4_weightOfAll_c4 v n4 (x3 + 1) (x1 * 10)))
def fX4_weightOfAll (v : Mem) : Int64 :=
  (fX4_weightOfAll_c4 v (6) 0 1)
set_option maxRecDepth 100000 in
set_option maxHeartbeats 4000000 in
theorem kX4_weightOfAll (l : Launch) (D : va_G) (cz : ClassId) (bd : Nat → Nat) (v : Mem) (hec : EcOkM v) : Met l yX4_weightOfAll wsX4_weightOfAll ({ frames := 0, cells := 0, slots := 0, locals := 0 } : Room) (va_Pc [.ref (bd 0)] (MB D cz bd v)) (qR (some (.long (fX4_weightOfAll v)))) 0 0 noF := by
  refine m_start (cc := cX4_weightOfAll) (maxL := 4) (ret := (some .long)) (by decide) rfl (Nat.le_of_ble_eq_true rfl) (fun p e s m below meth c hx hb hr hts hown hml hlk _ hB ls hl => ?_)
  obtain ⟨hP, hK⟩ := hB
  have hown : s.vm.findClass RX4 = some m.cls := hown
  have hl : lv_has ls 4 [(0, .ref (bd 0))] := hl
  have hin_X4 : ∀ w ∈ wsX40, w ∈ wsX4_weightOfAll := fun _ h => List.mem_cons_of_mem _ (List.mem_append_right _ (h))
  obtain ⟨ne, hne, ene⟩ := id hec
  refine lv_lconst (v := 1) hx hb dX4_weightOfAll_0 (by decide) ?_
  refine lv_lstore_n (lv' := [(1, .long 1), (0, .ref (bd 0))]) hx hb dX4_weightOfAll_1 rfl hl (by decide) rfl (fun ls hl => ?_)
  refine lv_iconst (v := 0) hx hb dX4_weightOfAll_2 (by decide) ?_
  refine lv_istore_n (lv' := [(3, .int 0), (1, .long 1), (0, .ref (bd 0))]) hx hb dX4_weightOfAll_3 rfl hl (by decide) rfl (fun ls hl => ?_)
  have lp4 : ∀ (n4 : Nat) (x3 : Int32) (x1 : Int64) (k4 : Nat), (fX4_weightOfAll v) = (fX4_weightOfAll_c4 v n4 x3 x1) → (x3 = nI k4) → (k4 ≤ ne) → (ne < k4 + n4) → ∀ ls : Array Slot, lv_has ls 4 [(3, .int x3), (1, .long x1), (0, .ref (bd 0))] → W p l e ({ frames := 0, cells := 0, slots := 0, locals := 0 } : Room) s m ([.ref (bd 0)] : List Value).toArray below meth c s.heap [] 0 0 (MQ below (qR (some (.long (fX4_weightOfAll v)))) ([.ref (bd 0)] : List Value).toArray s 0 0 noF) (F0 m 4 ls []) := by
    intro n4
    induction n4 with
    | zero =>
      intro x3 x1 k4 _ e4 hk4 hm4 ls hl
      exfalso; omega
    | succ n4 ih4 =>
      intro x3 x1 k4 hr4 e4 hk4 hm4 ls hl
      refine lv_iload_n hx hb dX4_weightOfAll_4 rfl (lv_at hl 0 rfl) ?_
      refine lv_aload_n hx hb dX4_weightOfAll_5 rfl (lv_at hl 2 rfl) ?_
      refine zg_X4_events hx hb hts hin_X4 hown hK hP (hts (Cond.fieldLink RX4 65 "ProphetCoverModel" "events" "I") (List.mem_of_getElem? (i := 1) rfl)) dX4_weightOfAll_6 ?_
      refine lv_icmp_ge (tgt := 24) hx hb dX4_weightOfAll_9 (by decide) (fun c1 => ?_) (fun c1 => ?_)
      · refine lv_lload_n hx hb dX4_weightOfAll_24 rfl (lv_at hl 1 rfl) ?_
        exact rL hx hb hr hlk dX4_weightOfAll_25 (by rw [hr4, fX4_weightOfAll_c4, if_pos c1])
      · have hlt4 : k4 < ne := cnt_lt ene e4 (by omega) (by omega) c1
        refine lv_lload_n hx hb dX4_weightOfAll_12 rfl (lv_at hl 1 rfl) ?_
        refine lv_ldc2 hx hb hown (hts (Cond.constantLong RX4 175 (10)) (List.mem_of_getElem? (i := 2) rfl)) dX4_weightOfAll_13 ?_
        refine lv_lmul hx hb dX4_weightOfAll_16 ?_
        refine lv_lstore_n (lv' := [(1, .long (x1 * 10)), (3, .int x3), (0, .ref (bd 0))]) hx hb dX4_weightOfAll_17 rfl hl (by decide) rfl (fun ls hl => ?_)
        refine lv_iinc (v := (x3 + 1)) (lv' := [(3, .int (x3 + 1)), (1, .long (x1 * 10)), (0, .ref (bd 0))]) hx hb dX4_weightOfAll_18 hl (k := 1) rfl rfl (by decide) rfl (fun ls hl => ?_)
        refine lv_goto (tgt := 4) hx hb dX4_weightOfAll_21 (by decide) ?_
        exact ih4 (x3 + 1) (x1 * 10) (k4 + 1) (by rw [hr4, fX4_weightOfAll_c4, if_neg c1]) (by rw [e4]; exact nI_1 _) hlt4 (by omega) ls (lv_sub hl [0, 1, 2] rfl)
  exact lp4 (6) 0 1 (0) (by rw [fX4_weightOfAll]) nI_0.symm (by omega) (by omega) ls (lv_sub hl [0, 1, 2] rfl)
theorem wallM {v : Mem} {ne : Nat} (hne : ne ≤ 5) (ve : v 0 1 = nI ne) : fX4_weightOfAll v = lN (10 ^ ne) := by
  have key : ∀ (k i a n : Nat), i + k = ne → k < n → fX4_weightOfAll_c4 v n (nI i) (lN a) = lN (a * 10 ^ k) := by
    intro k
    induction k with
    | zero =>
      intro i a n h1 h2
      obtain ⟨m, rfl⟩ : ∃ m, n = m + 1 := ⟨n - 1, by omega⟩
      rw [fX4_weightOfAll_c4, ve, if_pos (nI_le (by omega) (by omega)), Nat.pow_zero, Nat.mul_one]
    | succ k ih =>
      intro i a n h1 h2
      obtain ⟨m, rfl⟩ : ∃ m, n = m + 1 := ⟨n - 1, by omega⟩
      rw [fX4_weightOfAll_c4, ve, if_neg (nI_ge (by omega) (by omega)), nI_1, show (10 : Int64) = lN 10 from rfl, lN_mul, ih (i + 1) (a * 10) m (by omega) (by omega), Nat.mul_assoc, Nat.pow_succ, Nat.mul_comm 10]
  have h := key ne 0 1 6 (by omega) (by omega)
  rw [Nat.one_mul] at h
  exact h
theorem woaM_ne {v : Mem} (h : EcOkM v) : ¬ fX4_weightOfAll v = 0 := by
  obtain ⟨n, hn, e⟩ := h
  have h1 : 1 ≤ 10 ^ n := Nat.one_le_pow _ _ (by omega)
  have h2 : 10 ^ n ≤ 10 ^ 5 := Nat.pow_le_pow_right (by omega) hn
  rw [wallM hn e]
  intro z
  have := (lN_eq (a := 10 ^ n) (b := 0) (by omega) (by omega)).mp z
  omega
def fX4_weightFrom_c5 (v : Mem) (p0 : Int32)  : Nat → Int32 → Int64 → Int64
  | 0, x4, x2 => 0
  | n5 + 1, x4, x2 => (if (fX4_allEvents v) < x4 then x2 else (if (fX4_paidToAll v x4) < p0 then (fX4_weightFrom_c5 v p0 n5 (x4 + 1) (x2 + 0)) else (fX4_weightFrom_c5 v p0 n5 (x4 + 1) (x2 + (fX4_weightOf v x4)))))
def fX4_weightFrom (v : Mem) (p0 : Int32) : Int64 :=
  (fX4_weightFrom_c5 v p0 (34) 0 0)
set_option maxRecDepth 100000 in
set_option maxHeartbeats 4000000 in
theorem kX4_weightFrom (l : Launch) (D : va_G) (cz : ClassId) (bd : Nat → Nat) (v : Mem) (p0 : Int32) (hpc : PcOkM v) (hec : EcOkM v) : Met l yX4_weightFrom wsX4_weightFrom ({ frames := 4, cells := 0, slots := 0, locals := 86 } : Room) (va_Pc [.ref (bd 0), .int p0] (MB D cz bd v)) (qR (some (.long (fX4_weightFrom v p0)))) 0 0 noF := by
  refine m_start (cc := cX4_weightFrom) (maxL := 5) (ret := (some .long)) (by decide) rfl (Nat.le_of_ble_eq_true rfl) (fun p e s m below meth c hx hb hr hts hown hml hlk _ hB ls hl => ?_)
  obtain ⟨hP, hK⟩ := hB
  have hown : s.vm.findClass RX4 = some m.cls := hown
  have hl : lv_has ls 5 [(0, .ref (bd 0)), (1, .int p0)] := hl
  have hin_X4 : ∀ w ∈ wsX40, w ∈ wsX4_weightFrom := fun _ h => List.mem_cons_of_mem _ (List.mem_append_right _ (h))
  obtain ⟨al, hal, eal⟩ := allEv_M hec
  refine lv_lconst (v := 0) hx hb dX4_weightFrom_0 (by decide) ?_
  refine lv_lstore_n (lv' := [(2, .long 0), (0, .ref (bd 0)), (1, .int p0)]) hx hb dX4_weightFrom_1 rfl hl (by decide) rfl (fun ls hl => ?_)
  refine lv_iconst (v := 0) hx hb dX4_weightFrom_2 (by decide) ?_
  refine lv_istore (lv' := [(4, .int 0), (2, .long 0), (0, .ref (bd 0)), (1, .int p0)]) hx hb dX4_weightFrom_3 hl (by decide) rfl (fun ls hl => ?_)
  have lp5 : ∀ (n5 : Nat) (x4 : Int32) (x2 : Int64) (k5 : Nat), (fX4_weightFrom v p0) = (fX4_weightFrom_c5 v p0 n5 x4 x2) → (x4 = nI k5) → (k5 ≤ al + 1) → (al + 1 < k5 + n5) → ∀ ls : Array Slot, lv_has ls 5 [(4, .int x4), (2, .long x2), (0, .ref (bd 0)), (1, .int p0)] → W p l e ({ frames := 4, cells := 0, slots := 0, locals := 86 } : Room) s m ([.ref (bd 0), .int p0] : List Value).toArray below meth c s.heap [] 0 0 (MQ below (qR (some (.long (fX4_weightFrom v p0)))) ([.ref (bd 0), .int p0] : List Value).toArray s 0 0 noF) (F0 m 5 ls []) := by
    intro n5
    induction n5 with
    | zero =>
      intro x4 x2 k5 _ e5 hk5 hm5 ls hl
      exfalso; omega
    | succ n5 ih5 =>
      intro x4 x2 k5 hr5 e5 hk5 hm5 ls hl
      refine lv_iload hx hb dX4_weightFrom_5 (lv_at hl 0 rfl) ?_
      refine lv_aload_n hx hb dX4_weightFrom_7 rfl (lv_at hl 2 rfl) ?_
      refine kV (n := 0) (As := []) (rest := [.int x4]) ⟨hx, hb, hml, hown, hts⟩ (kX4_allEvents l D cz bd v) gX4_weightFrom_X4_allEvents rfl rfl rfl (by decide +kernel) ⟨Nat.le_of_ble_eq_true rfl, Nat.le_of_ble_eq_true rfl⟩ (recvM hP hK) (MB_of hP hK) MB_bl rfl hl.1 rfl (Nat.le_of_ble_eq_true rfl) dX4_weightFrom_8 ⟨Nat.le_refl _, Nat.le_refl _⟩ ?_
      refine lv_icmp_gt (tgt := 43) hx hb dX4_weightFrom_11 (by decide) (fun c1 => ?_) (fun c1 => ?_)
      · refine lv_lload_n hx hb dX4_weightFrom_43 rfl (lv_at hl 1 rfl) ?_
        exact rL hx hb hr hlk dX4_weightFrom_44 (by rw [hr5, fX4_weightFrom_c5, if_pos c1])
      · have hlt5 : k5 ≤ al := cnt_le eal e5 (by omega) (by omega) c1
        refine lv_lload_n hx hb dX4_weightFrom_14 rfl (lv_at hl 1 rfl) ?_
        refine lv_aload_n hx hb dX4_weightFrom_15 rfl (lv_at hl 2 rfl) ?_
        refine lv_iload hx hb dX4_weightFrom_16 (lv_at hl 0 rfl) ?_
        refine kV (n := 1) (As := [.int x4]) (rest := [.long x2]) ⟨hx, hb, hml, hown, hts⟩ (kX4_paidToAll l D cz bd v x4 (by first | exact hpc | assumption)) gX4_weightFrom_X4_paidToAll rfl rfl rfl (by decide +kernel) ⟨Nat.le_of_ble_eq_true rfl, Nat.le_of_ble_eq_true rfl⟩ (recvM hP hK) (MB_of hP hK) MB_bl rfl hl.1 rfl (Nat.le_of_ble_eq_true rfl) dX4_weightFrom_18 ⟨Nat.le_refl _, Nat.le_refl _⟩ ?_
        refine lv_iload_n hx hb dX4_weightFrom_21 rfl (lv_at hl 3 rfl) ?_
        refine lv_icmp_lt (tgt := 34) hx hb dX4_weightFrom_22 (by decide) (fun c2 => ?_) (fun c2 => ?_)
        · refine lv_lconst (v := 0) hx hb dX4_weightFrom_34 (by decide) ?_
          refine lv_ladd hx hb dX4_weightFrom_35 ?_
          refine lv_lstore_n (lv' := [(2, .long (x2 + 0)), (4, .int x4), (0, .ref (bd 0)), (1, .int p0)]) hx hb dX4_weightFrom_36 rfl hl (by decide) rfl (fun ls hl => ?_)
          refine lv_iinc (v := (x4 + 1)) (lv' := [(4, .int (x4 + 1)), (2, .long (x2 + 0)), (0, .ref (bd 0)), (1, .int p0)]) hx hb dX4_weightFrom_37 hl (k := 1) rfl rfl (by decide) rfl (fun ls hl => ?_)
          refine lv_goto (tgt := 5) hx hb dX4_weightFrom_40 (by decide) ?_
          exact ih5 (x4 + 1) (x2 + 0) (k5 + 1) (by rw [hr5, fX4_weightFrom_c5, if_neg c1, if_pos c2]) (by rw [e5]; exact nI_1 _) (by omega) (by omega) ls (lv_sub hl [0, 1, 2, 3] rfl)
        · refine lv_aload_n hx hb dX4_weightFrom_25 rfl (lv_at hl 2 rfl) ?_
          refine lv_iload hx hb dX4_weightFrom_26 (lv_at hl 0 rfl) ?_
          refine kV (n := 1) (As := [.int x4]) (rest := [.long x2]) ⟨hx, hb, hml, hown, hts⟩ (kX4_weightOf l D cz bd v x4 (by first | exact hec | assumption)) gX4_weightFrom_X4_weightOf rfl rfl rfl (by decide +kernel) ⟨Nat.le_of_ble_eq_true rfl, Nat.le_of_ble_eq_true rfl⟩ (recvM hP hK) (MB_of hP hK) MB_bl rfl hl.1 rfl (Nat.le_of_ble_eq_true rfl) dX4_weightFrom_28 ⟨Nat.le_refl _, Nat.le_refl _⟩ ?_
          refine lv_goto (tgt := 35) hx hb dX4_weightFrom_31 (by decide) ?_
          refine lv_ladd hx hb dX4_weightFrom_35 ?_
          refine lv_lstore_n (lv' := [(2, .long (x2 + (fX4_weightOf v x4))), (4, .int x4), (0, .ref (bd 0)), (1, .int p0)]) hx hb dX4_weightFrom_36 rfl hl (by decide) rfl (fun ls hl => ?_)
          refine lv_iinc (v := (x4 + 1)) (lv' := [(4, .int (x4 + 1)), (2, .long (x2 + (fX4_weightOf v x4))), (0, .ref (bd 0)), (1, .int p0)]) hx hb dX4_weightFrom_37 hl (k := 1) rfl rfl (by decide) rfl (fun ls hl => ?_)
          refine lv_goto (tgt := 5) hx hb dX4_weightFrom_40 (by decide) ?_
          exact ih5 (x4 + 1) (x2 + (fX4_weightOf v x4)) (k5 + 1) (by rw [hr5, fX4_weightFrom_c5, if_neg c1, if_neg c2]) (by rw [e5]; exact nI_1 _) (by omega) (by omega) ls (lv_sub hl [0, 1, 2, 3] rfl)
  exact lp5 (34) 0 0 (0) (by rw [fX4_weightFrom]) nI_0.symm (by omega) (by omega) ls (lv_sub hl [0, 1, 2, 3] rfl)
def fX4_hold_c27 (v : Mem) (p0 : Int32)  : Nat → Int32 → Int32
  | 0, x2 => 0
  | n27 + 1, x2 => (if 0 ≤ (lg_cmp (10 * ((fX4_weightOfAll v) - (fX4_weightFrom v (x2 + 1)))) ((p0).toInt64 * (fX4_weightOfAll v))) then x2 else (fX4_hold_c27 v p0 n27 (x2 + 1)))
def fX4_hold (v : Mem) (p0 : Int32) : Int32 :=
  (if (fX4_in ((p0).toInt64) 0 10) = 0 then (-2) else (if (v 0 3) = 0 then (-3) else (fX4_hold_c27 v p0 (501) 0)))
set_option maxRecDepth 100000 in
set_option maxHeartbeats 4000000 in
theorem kX4_hold (l : Launch) (D : va_G) (cz : ClassId) (bd : Nat → Nat) (v : Mem) (p0 : Int32) (hpc : PcOkM v) (hec : EcOkM v) (hst : ¬ fX4_in ((p0).toInt64) 0 10 = 0 → ¬ v 0 3 = 0 → ∃ N : Nat, N ≤ 500 ∧ 0 ≤ lg_cmp (10 * ((fX4_weightOfAll v) - (fX4_weightFrom v (nI N + 1)))) ((p0).toInt64 * (fX4_weightOfAll v))) : Met l yX4_hold wsX4_hold ({ frames := 5, cells := 0, slots := 0, locals := 110 } : Room) (va_Pc [.ref (bd 0), .int p0] (MB D cz bd v)) (qR (some (.int (fX4_hold v p0)))) 0 0 noF := by
  refine m_start (cc := cX4_hold) (maxL := 3) (ret := (some .int)) (by decide) rfl (Nat.le_of_ble_eq_true rfl) (fun p e s m below meth c hx hb hr hts hown hml hlk _ hB ls hl => ?_)
  obtain ⟨hP, hK⟩ := hB
  have hown : s.vm.findClass RX4 = some m.cls := hown
  have hl : lv_has ls 3 [(0, .ref (bd 0)), (1, .int p0)] := hl
  have hin_X4 : ∀ w ∈ wsX40, w ∈ wsX4_hold := fun _ h => List.mem_cons_of_mem _ (List.mem_append_right _ (h))
  refine lv_iload_n hx hb dX4_hold_0 rfl (lv_at hl 1 rfl) ?_
  refine lv_i2l hx hb dX4_hold_1 rfl ?_
  refine lv_lconst (v := 0) hx hb dX4_hold_2 (by decide) ?_
  refine lv_ldc2 hx hb hown (hts (Cond.constantLong RX4 175 (10)) (List.mem_of_getElem? (i := 1) rfl)) dX4_hold_3 ?_
  refine kS (n := 3) (As := [.long (p0).toInt64, .long 0, .long 10]) (rest := []) ⟨hx, hb, hml, hown, hts⟩ (kX4_in l ((p0).toInt64) 0 10) gX4_hold_X4_in rfl rfl rfl (by decide +kernel) ⟨Nat.le_of_ble_eq_true rfl, Nat.le_of_ble_eq_true rfl⟩ (fun _ _ _ => trivial) (fun _ _ _ _ _ => trivial) rfl hl.1 rfl (Nat.le_of_ble_eq_true rfl) dX4_hold_6 ⟨Nat.le_refl _, Nat.le_refl _⟩ ?_
  refine lv_if_ne (tgt := 15) hx hb dX4_hold_9 (by decide) (fun c1 => ?_) (fun c1 => ?_)
  · refine lv_aload_n hx hb dX4_hold_15 rfl (lv_at hl 0 rfl) ?_
    refine zg_X4_prophets hx hb hts hin_X4 hown hK hP (hts (Cond.fieldLink RX4 72 "ProphetCoverModel" "prophets" "I") (List.mem_of_getElem? (i := 2) rfl)) dX4_hold_16 ?_
    refine lv_if_ne (tgt := 25) hx hb dX4_hold_19 (by decide) (fun c2 => ?_) (fun c2 => ?_)
    · obtain ⟨N, hN, hcN⟩ := hst (by assumption) (by assumption)
      refine lv_iconst (v := 0) hx hb dX4_hold_25 (by decide) ?_
      refine lv_istore_n (lv' := [(2, .int 0), (0, .ref (bd 0)), (1, .int p0)]) hx hb dX4_hold_26 rfl hl (by decide) rfl (fun ls hl => ?_)
      have lp27 : ∀ (n27 : Nat) (x2 : Int32) (k27 : Nat), (fX4_hold v p0) = (fX4_hold_c27 v p0 n27 x2) → (x2 = nI k27) → (k27 ≤ N) → (N < k27 + n27) → ∀ ls : Array Slot, lv_has ls 3 [(2, .int x2), (0, .ref (bd 0)), (1, .int p0)] → W p l e ({ frames := 5, cells := 0, slots := 0, locals := 110 } : Room) s m ([.ref (bd 0), .int p0] : List Value).toArray below meth c s.heap [] 0 0 (MQ below (qR (some (.int (fX4_hold v p0)))) ([.ref (bd 0), .int p0] : List Value).toArray s 0 0 noF) (F0 m 27 ls []) := by
        intro n27
        induction n27 with
        | zero =>
          intro x2 k27 _ e27 hk27 hm27 ls hl
          exfalso; omega
        | succ n27 ih27 =>
          intro x2 k27 hr27 e27 hk27 hm27 ls hl
          refine lv_ldc2 hx hb hown (hts (Cond.constantLong RX4 175 (10)) (List.mem_of_getElem? (i := 1) rfl)) dX4_hold_27 ?_
          refine lv_aload_n hx hb dX4_hold_30 rfl (lv_at hl 1 rfl) ?_
          refine kV (n := 0) (As := []) (rest := [.long 10]) ⟨hx, hb, hml, hown, hts⟩ (kX4_weightOfAll l D cz bd v (by first | exact hec | assumption)) gX4_hold_X4_weightOfAll rfl rfl rfl (by decide +kernel) ⟨Nat.le_of_ble_eq_true rfl, Nat.le_of_ble_eq_true rfl⟩ (recvM hP hK) (MB_of hP hK) MB_bl rfl hl.1 rfl (Nat.le_of_ble_eq_true rfl) dX4_hold_31 ⟨Nat.le_refl _, Nat.le_refl _⟩ ?_
          refine lv_aload_n hx hb dX4_hold_34 rfl (lv_at hl 1 rfl) ?_
          refine lv_iload_n hx hb dX4_hold_35 rfl (lv_at hl 0 rfl) ?_
          refine lv_iconst (v := 1) hx hb dX4_hold_36 (by decide) ?_
          refine lv_iadd hx hb dX4_hold_37 ?_
          refine kV (n := 1) (As := [.int (x2 + 1)]) (rest := [.long (fX4_weightOfAll v), .long 10]) ⟨hx, hb, hml, hown, hts⟩ (kX4_weightFrom l D cz bd v (x2 + 1) (by first | exact hpc | assumption) (by first | exact hec | assumption)) gX4_hold_X4_weightFrom rfl rfl rfl (by decide +kernel) ⟨Nat.le_of_ble_eq_true rfl, Nat.le_of_ble_eq_true rfl⟩ (recvM hP hK) (MB_of hP hK) MB_bl rfl hl.1 rfl (Nat.le_of_ble_eq_true rfl) dX4_hold_38 ⟨Nat.le_refl _, Nat.le_refl _⟩ ?_
          refine lv_lsub hx hb dX4_hold_41 ?_
          refine lv_lmul hx hb dX4_hold_42 ?_
          refine lv_iload_n hx hb dX4_hold_43 rfl (lv_at hl 2 rfl) ?_
          refine lv_i2l hx hb dX4_hold_44 rfl ?_
          refine lv_aload_n hx hb dX4_hold_45 rfl (lv_at hl 1 rfl) ?_
          refine kV (n := 0) (As := []) (rest := [.long (p0).toInt64, .long (10 * ((fX4_weightOfAll v) - (fX4_weightFrom v (x2 + 1))))]) ⟨hx, hb, hml, hown, hts⟩ (kX4_weightOfAll l D cz bd v (by first | exact hec | assumption)) gX4_hold_X4_weightOfAll rfl rfl rfl (by decide +kernel) ⟨Nat.le_of_ble_eq_true rfl, Nat.le_of_ble_eq_true rfl⟩ (recvM hP hK) (MB_of hP hK) MB_bl rfl hl.1 rfl (Nat.le_of_ble_eq_true rfl) dX4_hold_46 ⟨Nat.le_refl _, Nat.le_refl _⟩ ?_
          refine lv_lmul hx hb dX4_hold_49 ?_
          refine W.lcmp hx hb dX4_hold_50 ?_
          refine lv_if_ge (tgt := 60) hx hb dX4_hold_51 (by decide) (fun c3 => ?_) (fun c3 => ?_)
          · refine lv_iload_n hx hb dX4_hold_60 rfl (lv_at hl 0 rfl) ?_
            exact rI hx hb hr hlk dX4_hold_61 (by rw [hr27, fX4_hold_c27, if_pos c3])
          · have hlt27 : k27 < N := (Nat.lt_or_ge k27 N).elim (fun q => q) (fun q => absurd hcN (by rw [show N = k27 by omega, ← e27]; exact c3))
            refine lv_iinc (v := (x2 + 1)) (lv' := [(2, .int (x2 + 1)), (0, .ref (bd 0)), (1, .int p0)]) hx hb dX4_hold_54 hl (k := 0) rfl rfl (by decide) rfl (fun ls hl => ?_)
            refine lv_goto (tgt := 27) hx hb dX4_hold_57 (by decide) ?_
            exact ih27 (x2 + 1) (k27 + 1) (by rw [hr27, fX4_hold_c27, if_neg c3]) (by rw [e27]; exact nI_1 _) hlt27 (by omega) ls (lv_sub hl [0, 1, 2] rfl)
      exact lp27 (501) 0 (0) (by rw [fX4_hold, if_neg c1, if_neg c2]) nI_0.symm (by omega) (by omega) ls (lv_sub hl [0, 1, 2] rfl)
    · refine lv_bipush (v := (-3)) hx hb dX4_hold_22 (by decide) ?_
      exact rI hx hb hr hlk dX4_hold_24 (by rw [fX4_hold, if_neg c1, if_pos c2])
  · refine lv_bipush (v := (-2)) hx hb dX4_hold_12 (by decide) ?_
    exact rI hx hb hr hlk dX4_hold_14 (by rw [fX4_hold, if_pos c1])
def fX4_best_c48 (v : Mem) (p0 : Int32) (p1 : Int32) (K : Int32 → Int32 → Int32 → Int32) : Nat → Int32 → Int32 → Int32 → Int32 → Int32 → Int32
  | 0, x7, x6, x5, x4, x3 => 0
  | n48 + 1, x7, x6, x5, x4, x3 => (if (v 0 1) ≤ x7 then (if x6 ≤ x4 then (if x6 ≤ x4 then (K (x5 + 1) x4 x3) else (K (x5 + 1) x6 x3)) else (if x6 ≤ x4 then (K (x5 + 1) x4 x5) else (K (x5 + 1) x6 x5))) else (if (fX4_isIn x5 x7) = 0 then (fX4_best_c48 v p0 p1 K n48 (x7 + 1) (x6 + 0) x5 x4 x3) else (fX4_best_c48 v p0 p1 K n48 (x7 + 1) (x6 + (((fX4_paysOf v p0) * (v 1 x7.toNatClampNeg)) - (10 * p1))) x5 x4 x3)))
def fX4_best_c33 (v : Mem) (p0 : Int32) (p1 : Int32)  : Nat → Int32 → Int32 → Int32 → Int32
  | 0, x5, x4, x3 => 0
  | n33 + 1, x5, x4, x3 => (if (fX4_allEvents v) ≤ x5 then x3 else (fX4_best_c48 v p0 p1 (fun x5 x4 x3 => (fX4_best_c33 v p0 p1 n33 x5 x4 x3)) (6) 0 0 x5 x4 x3))
def fX4_best (v : Mem) (p0 : Int32) (p1 : Int32) : Int32 :=
  (if (fX4_noProphet v p0) = 0 then (if (fX4_in ((p1).toInt64) 0 9) = 0 then (-2) else (fX4_best_c33 v p0 p1 (34) 0 0 0)) else (-1))
set_option maxRecDepth 100000 in
set_option maxHeartbeats 4000000 in
theorem kX4_best (l : Launch) (D : va_G) (cz : ClassId) (bd : Nat → Nat) (v : Mem) (p0 : Int32) (p1 : Int32) (hpc : PcOkM v) (hec : EcOkM v) : Met l yX4_best wsX4_best ({ frames := 2, cells := 0, slots := 0, locals := 46 } : Room) (va_Pc [.ref (bd 0), .int p0, .int p1] (MB D cz bd v)) (qR (some (.int (fX4_best v p0 p1)))) 0 0 noF := by
  refine m_start (cc := cX4_best) (maxL := 8) (ret := (some .int)) (by decide) rfl (Nat.le_of_ble_eq_true rfl) (fun p e s m below meth c hx hb hr hts hown hml hlk _ hB ls hl => ?_)
  obtain ⟨hP, hK⟩ := hB
  have hown : s.vm.findClass RX4 = some m.cls := hown
  have hl : lv_has ls 8 [(0, .ref (bd 0)), (1, .int p0), (2, .int p1)] := hl
  have hin_X4 : ∀ w ∈ wsX40, w ∈ wsX4_best := fun _ h => List.mem_cons_of_mem _ (List.mem_append_right _ (h))
  obtain ⟨al, hal, eal⟩ := allEv_M hec
  obtain ⟨ne, hne, ene⟩ := id hec
  refine lv_aload_n hx hb dX4_best_0 rfl (lv_at hl 0 rfl) ?_
  refine lv_iload_n hx hb dX4_best_1 rfl (lv_at hl 1 rfl) ?_
  refine kV (n := 1) (As := [.int p0]) (rest := []) ⟨hx, hb, hml, hown, hts⟩ (kX4_noProphet l D cz bd v p0) gX4_best_X4_noProphet rfl rfl rfl (by decide +kernel) ⟨Nat.le_of_ble_eq_true rfl, Nat.le_of_ble_eq_true rfl⟩ (recvM hP hK) (MB_of hP hK) MB_bl rfl hl.1 rfl (Nat.le_of_ble_eq_true rfl) dX4_best_2 ⟨Nat.le_refl _, Nat.le_refl _⟩ ?_
  refine lv_if_eq (tgt := 10) hx hb dX4_best_5 (by decide) (fun c1 => ?_) (fun c1 => ?_)
  · have hv1 : vp_in p0 4 := noProphet_in (by first | with_reducible assumption | exact hpc) c1
    refine lv_iload_n hx hb dX4_best_10 rfl (lv_at hl 2 rfl) ?_
    refine lv_i2l hx hb dX4_best_11 rfl ?_
    refine lv_lconst (v := 0) hx hb dX4_best_12 (by decide) ?_
    refine lv_ldc2 hx hb hown (hts (Cond.constantLong RX4 133 (9)) (List.mem_of_getElem? (i := 1) rfl)) dX4_best_13 ?_
    refine kS (n := 3) (As := [.long (p1).toInt64, .long 0, .long 9]) (rest := []) ⟨hx, hb, hml, hown, hts⟩ (kX4_in l ((p1).toInt64) 0 9) gX4_best_X4_in rfl rfl rfl (by decide +kernel) ⟨Nat.le_of_ble_eq_true rfl, Nat.le_of_ble_eq_true rfl⟩ (fun _ _ _ => trivial) (fun _ _ _ _ _ => trivial) rfl hl.1 rfl (Nat.le_of_ble_eq_true rfl) dX4_best_16 ⟨Nat.le_refl _, Nat.le_refl _⟩ ?_
    refine lv_if_ne (tgt := 25) hx hb dX4_best_19 (by decide) (fun c2 => ?_) (fun c2 => ?_)
    · refine lv_iconst (v := 0) hx hb dX4_best_25 (by decide) ?_
      refine lv_istore_n (lv' := [(3, .int 0), (0, .ref (bd 0)), (1, .int p0), (2, .int p1)]) hx hb dX4_best_26 rfl hl (by decide) rfl (fun ls hl => ?_)
      refine lv_iconst (v := 0) hx hb dX4_best_27 (by decide) ?_
      refine lv_istore (lv' := [(4, .int 0), (3, .int 0), (0, .ref (bd 0)), (1, .int p0), (2, .int p1)]) hx hb dX4_best_28 hl (by decide) rfl (fun ls hl => ?_)
      refine lv_iconst (v := 0) hx hb dX4_best_30 (by decide) ?_
      refine lv_istore (lv' := [(5, .int 0), (4, .int 0), (3, .int 0), (0, .ref (bd 0)), (1, .int p0), (2, .int p1)]) hx hb dX4_best_31 hl (by decide) rfl (fun ls hl => ?_)
      have lp33 : ∀ (n33 : Nat) (x5 : Int32) (x4 : Int32) (x3 : Int32) (k33 : Nat), (fX4_best v p0 p1) = (fX4_best_c33 v p0 p1 n33 x5 x4 x3) → (x5 = nI k33) → (k33 ≤ al) → (al < k33 + n33) → ∀ ls : Array Slot, lv_has ls 8 [(5, .int x5), (4, .int x4), (3, .int x3), (0, .ref (bd 0)), (1, .int p0), (2, .int p1)] → W p l e ({ frames := 2, cells := 0, slots := 0, locals := 46 } : Room) s m ([.ref (bd 0), .int p0, .int p1] : List Value).toArray below meth c s.heap [] 0 0 (MQ below (qR (some (.int (fX4_best v p0 p1)))) ([.ref (bd 0), .int p0, .int p1] : List Value).toArray s 0 0 noF) (F0 m 33 ls []) := by
        intro n33
        induction n33 with
        | zero =>
          intro x5 x4 x3 k33 _ e33 hk33 hm33 ls hl
          exfalso; omega
        | succ n33 ih33 =>
          intro x5 x4 x3 k33 hr33 e33 hk33 hm33 ls hl
          refine lv_iload hx hb dX4_best_33 (lv_at hl 0 rfl) ?_
          refine lv_aload_n hx hb dX4_best_35 rfl (lv_at hl 3 rfl) ?_
          refine kV (n := 0) (As := []) (rest := [.int x5]) ⟨hx, hb, hml, hown, hts⟩ (kX4_allEvents l D cz bd v) gX4_best_X4_allEvents rfl rfl rfl (by decide +kernel) ⟨Nat.le_of_ble_eq_true rfl, Nat.le_of_ble_eq_true rfl⟩ (recvM hP hK) (MB_of hP hK) MB_bl rfl hl.1 rfl (Nat.le_of_ble_eq_true rfl) dX4_best_36 ⟨Nat.le_refl _, Nat.le_refl _⟩ ?_
          refine lv_icmp_ge (tgt := 136) hx hb dX4_best_39 (by decide) (fun c3 => ?_) (fun c3 => ?_)
          · refine lv_iload_n hx hb dX4_best_136 rfl (lv_at hl 2 rfl) ?_
            exact rI hx hb hr hlk dX4_best_137 (by rw [hr33, fX4_best_c33, if_pos c3])
          · have hlt33 : k33 < al := cnt_lt eal e33 (by omega) (by omega) c3
            refine lv_iconst (v := 0) hx hb dX4_best_42 (by decide) ?_
            refine lv_istore (lv' := [(6, .int 0), (5, .int x5), (4, .int x4), (3, .int x3), (0, .ref (bd 0)), (1, .int p0), (2, .int p1)]) hx hb dX4_best_43 hl (by decide) rfl (fun ls hl => ?_)
            refine lv_iconst (v := 0) hx hb dX4_best_45 (by decide) ?_
            refine lv_istore (lv' := [(7, .int 0), (6, .int 0), (5, .int x5), (4, .int x4), (3, .int x3), (0, .ref (bd 0)), (1, .int p0), (2, .int p1)]) hx hb dX4_best_46 hl (by decide) rfl (fun ls hl => ?_)
            have lp48 : ∀ (n48 : Nat) (x7 : Int32) (x6 : Int32) (x5 : Int32) (x4 : Int32) (x3 : Int32) (k48 : Nat), (fX4_best v p0 p1) = (fX4_best_c48 v p0 p1 (fun x5 x4 x3 => (fX4_best_c33 v p0 p1 n33 x5 x4 x3)) n48 x7 x6 x5 x4 x3) → (x7 = nI k48) → (k48 ≤ ne) → (ne < k48 + n48) → (x5 = nI k33) → ∀ ls : Array Slot, lv_has ls 8 [(7, .int x7), (6, .int x6), (5, .int x5), (4, .int x4), (3, .int x3), (0, .ref (bd 0)), (1, .int p0), (2, .int p1)] → W p l e ({ frames := 2, cells := 0, slots := 0, locals := 46 } : Room) s m ([.ref (bd 0), .int p0, .int p1] : List Value).toArray below meth c s.heap [] 0 0 (MQ below (qR (some (.int (fX4_best v p0 p1)))) ([.ref (bd 0), .int p0, .int p1] : List Value).toArray s 0 0 noF) (F0 m 48 ls []) := by
              intro n48
              induction n48 with
              | zero =>
                intro x7 x6 x5 x4 x3 k48 _ e48 hk48 hm48 i48 ls hl
                exfalso; omega
              | succ n48 ih48 =>
                intro x7 x6 x5 x4 x3 k48 hr48 e48 hk48 hm48 i48 ls hl
                refine lv_iload hx hb dX4_best_48 (lv_at hl 0 rfl) ?_
                refine lv_aload_n hx hb dX4_best_50 rfl (lv_at hl 5 rfl) ?_
                refine zg_X4_events hx hb hts hin_X4 hown hK hP (hts (Cond.fieldLink RX4 65 "ProphetCoverModel" "events" "I") (List.mem_of_getElem? (i := 2) rfl)) dX4_best_51 ?_
                refine lv_icmp_ge (tgt := 100) hx hb dX4_best_54 (by decide) (fun c4 => ?_) (fun c4 => ?_)
                · refine lv_iload hx hb dX4_best_100 (lv_at hl 1 rfl) ?_
                  refine lv_iload hx hb dX4_best_102 (lv_at hl 3 rfl) ?_
                  refine lv_icmp_le (tgt := 112) hx hb dX4_best_104 (by decide) (fun c5 => ?_) (fun c5 => ?_)
                  · refine lv_iload_n hx hb dX4_best_112 rfl (lv_at hl 4 rfl) ?_
                    refine lv_istore_n (lv' := [(3, .int x3), (7, .int x7), (6, .int x6), (5, .int x5), (4, .int x4), (0, .ref (bd 0)), (1, .int p0), (2, .int p1)]) hx hb dX4_best_113 rfl hl (by decide) rfl (fun ls hl => ?_)
                    refine lv_iload hx hb dX4_best_114 (lv_at hl 2 rfl) ?_
                    refine lv_iload hx hb dX4_best_116 (lv_at hl 4 rfl) ?_
                    refine lv_icmp_le (tgt := 126) hx hb dX4_best_118 (by decide) (fun c6 => ?_) (fun c6 => ?_)
                    · refine lv_iload hx hb dX4_best_126 (lv_at hl 4 rfl) ?_
                      refine lv_istore (lv' := [(4, .int x4), (3, .int x3), (7, .int x7), (6, .int x6), (5, .int x5), (0, .ref (bd 0)), (1, .int p0), (2, .int p1)]) hx hb dX4_best_128 hl (by decide) rfl (fun ls hl => ?_)
                      refine lv_iinc (v := (x5 + 1)) (lv' := [(5, .int (x5 + 1)), (4, .int x4), (3, .int x3), (7, .int x7), (6, .int x6), (0, .ref (bd 0)), (1, .int p0), (2, .int p1)]) hx hb dX4_best_130 hl (k := 4) rfl rfl (by decide) rfl (fun ls hl => ?_)
                      refine lv_goto (tgt := 33) hx hb dX4_best_133 (by decide) ?_
                      exact ih33 (x5 + 1) x4 x3 (k33 + 1) (by rw [hr48, fX4_best_c48, if_pos c4, if_pos c5, if_pos c6]) (by rw [i48]; exact nI_1 _) hlt33 (by omega) ls (lv_sub hl [0, 1, 2, 5, 6, 7] rfl)
                    · refine lv_iload hx hb dX4_best_121 (lv_at hl 2 rfl) ?_
                      refine lv_goto (tgt := 128) hx hb dX4_best_123 (by decide) ?_
                      refine lv_istore (lv' := [(4, .int x6), (3, .int x3), (7, .int x7), (6, .int x6), (5, .int x5), (0, .ref (bd 0)), (1, .int p0), (2, .int p1)]) hx hb dX4_best_128 hl (by decide) rfl (fun ls hl => ?_)
                      refine lv_iinc (v := (x5 + 1)) (lv' := [(5, .int (x5 + 1)), (4, .int x6), (3, .int x3), (7, .int x7), (6, .int x6), (0, .ref (bd 0)), (1, .int p0), (2, .int p1)]) hx hb dX4_best_130 hl (k := 4) rfl rfl (by decide) rfl (fun ls hl => ?_)
                      refine lv_goto (tgt := 33) hx hb dX4_best_133 (by decide) ?_
                      exact ih33 (x5 + 1) x6 x3 (k33 + 1) (by rw [hr48, fX4_best_c48, if_pos c4, if_pos c5, if_neg c6]) (by rw [i48]; exact nI_1 _) hlt33 (by omega) ls (lv_sub hl [0, 1, 2, 5, 6, 7] rfl)
                  · refine lv_iload hx hb dX4_best_107 (lv_at hl 2 rfl) ?_
                    refine lv_goto (tgt := 113) hx hb dX4_best_109 (by decide) ?_
                    refine lv_istore_n (lv' := [(3, .int x5), (7, .int x7), (6, .int x6), (5, .int x5), (4, .int x4), (0, .ref (bd 0)), (1, .int p0), (2, .int p1)]) hx hb dX4_best_113 rfl hl (by decide) rfl (fun ls hl => ?_)
                    refine lv_iload hx hb dX4_best_114 (lv_at hl 2 rfl) ?_
                    refine lv_iload hx hb dX4_best_116 (lv_at hl 4 rfl) ?_
                    refine lv_icmp_le (tgt := 126) hx hb dX4_best_118 (by decide) (fun c7 => ?_) (fun c7 => ?_)
                    · refine lv_iload hx hb dX4_best_126 (lv_at hl 4 rfl) ?_
                      refine lv_istore (lv' := [(4, .int x4), (3, .int x5), (7, .int x7), (6, .int x6), (5, .int x5), (0, .ref (bd 0)), (1, .int p0), (2, .int p1)]) hx hb dX4_best_128 hl (by decide) rfl (fun ls hl => ?_)
                      refine lv_iinc (v := (x5 + 1)) (lv' := [(5, .int (x5 + 1)), (4, .int x4), (3, .int x5), (7, .int x7), (6, .int x6), (0, .ref (bd 0)), (1, .int p0), (2, .int p1)]) hx hb dX4_best_130 hl (k := 4) rfl rfl (by decide) rfl (fun ls hl => ?_)
                      refine lv_goto (tgt := 33) hx hb dX4_best_133 (by decide) ?_
                      exact ih33 (x5 + 1) x4 x5 (k33 + 1) (by rw [hr48, fX4_best_c48, if_pos c4, if_neg c5, if_pos c7]) (by rw [i48]; exact nI_1 _) hlt33 (by omega) ls (lv_sub hl [0, 1, 2, 5, 6, 7] rfl)
                    · refine lv_iload hx hb dX4_best_121 (lv_at hl 2 rfl) ?_
                      refine lv_goto (tgt := 128) hx hb dX4_best_123 (by decide) ?_
                      refine lv_istore (lv' := [(4, .int x6), (3, .int x5), (7, .int x7), (6, .int x6), (5, .int x5), (0, .ref (bd 0)), (1, .int p0), (2, .int p1)]) hx hb dX4_best_128 hl (by decide) rfl (fun ls hl => ?_)
                      refine lv_iinc (v := (x5 + 1)) (lv' := [(5, .int (x5 + 1)), (4, .int x6), (3, .int x5), (7, .int x7), (6, .int x6), (0, .ref (bd 0)), (1, .int p0), (2, .int p1)]) hx hb dX4_best_130 hl (k := 4) rfl rfl (by decide) rfl (fun ls hl => ?_)
                      refine lv_goto (tgt := 33) hx hb dX4_best_133 (by decide) ?_
                      exact ih33 (x5 + 1) x6 x5 (k33 + 1) (by rw [hr48, fX4_best_c48, if_pos c4, if_neg c5, if_neg c7]) (by rw [i48]; exact nI_1 _) hlt33 (by omega) ls (lv_sub hl [0, 1, 2, 5, 6, 7] rfl)
                · have hlt48 : k48 < ne := cnt_lt ene e48 (by omega) (by omega) c4
                  have hv48 : vp_in x7 5 := cnt_in e48 (by omega) (by decide)
                  refine lv_iload hx hb dX4_best_57 (lv_at hl 1 rfl) ?_
                  refine lv_iload hx hb dX4_best_59 (lv_at hl 2 rfl) ?_
                  refine lv_iload hx hb dX4_best_61 (lv_at hl 0 rfl) ?_
                  refine kS (n := 2) (As := [.int x5, .int x7]) (rest := [.int x6]) ⟨hx, hb, hml, hown, hts⟩ (kX4_isIn l x5 x7) gX4_best_X4_isIn rfl rfl rfl (by decide +kernel) ⟨Nat.le_of_ble_eq_true rfl, Nat.le_of_ble_eq_true rfl⟩ (fun _ _ _ => trivial) (fun _ _ _ _ _ => trivial) rfl hl.1 rfl (Nat.le_of_ble_eq_true rfl) dX4_best_63 ⟨Nat.le_refl _, Nat.le_refl _⟩ ?_
                  refine lv_if_eq (tgt := 90) hx hb dX4_best_66 (by decide) (fun c8 => ?_) (fun c8 => ?_)
                  · refine lv_iconst (v := 0) hx hb dX4_best_90 (by decide) ?_
                    refine lv_iadd hx hb dX4_best_91 ?_
                    refine lv_istore (lv' := [(6, .int (x6 + 0)), (7, .int x7), (5, .int x5), (4, .int x4), (3, .int x3), (0, .ref (bd 0)), (1, .int p0), (2, .int p1)]) hx hb dX4_best_92 hl (by decide) rfl (fun ls hl => ?_)
                    refine lv_iinc (v := (x7 + 1)) (lv' := [(7, .int (x7 + 1)), (6, .int (x6 + 0)), (5, .int x5), (4, .int x4), (3, .int x3), (0, .ref (bd 0)), (1, .int p0), (2, .int p1)]) hx hb dX4_best_94 hl (k := 1) rfl rfl (by decide) rfl (fun ls hl => ?_)
                    refine lv_goto (tgt := 48) hx hb dX4_best_97 (by decide) ?_
                    exact ih48 (x7 + 1) (x6 + 0) x5 x4 x3 (k48 + 1) (by rw [hr48, fX4_best_c48, if_neg c4, if_pos c8]) (by rw [e48]; exact nI_1 _) hlt48 (by omega) i48 ls (lv_sub hl [0, 1, 2, 3, 4, 5, 6, 7] rfl)
                  · refine lv_aload_n hx hb dX4_best_69 rfl (lv_at hl 5 rfl) ?_
                    refine lv_iload_n hx hb dX4_best_70 rfl (lv_at hl 6 rfl) ?_
                    refine kV (n := 1) (As := [.int p0]) (rest := [.int x6]) ⟨hx, hb, hml, hown, hts⟩ (kX4_paysOf l D cz bd v p0 (by assumption)) gX4_best_X4_paysOf rfl rfl rfl (by decide +kernel) ⟨Nat.le_of_ble_eq_true rfl, Nat.le_of_ble_eq_true rfl⟩ (recvM hP hK) (MB_of hP hK) MB_bl rfl hl.1 rfl (Nat.le_of_ble_eq_true rfl) dX4_best_71 ⟨Nat.le_refl _, Nat.le_refl _⟩ ?_
                    refine lv_aload_n hx hb dX4_best_74 rfl (lv_at hl 5 rfl) ?_
                    refine zg_X4_chanceOf hx hb hts hin_X4 hown hK hP (hts (Cond.fieldLink RX4 7 "ProphetCoverModel" "chanceOf" "[I") (List.mem_of_getElem? (i := 3) rfl)) dX4_best_75 ?_
                    refine lv_iload hx hb dX4_best_78 (lv_at hl 0 rfl) ?_
                    refine zl_M (by decide) (by decide) rfl hx hb hK hP (by assumption) dX4_best_80 ?_
                    refine lv_imul hx hb dX4_best_81 ?_
                    refine lv_bipush (v := 10) hx hb dX4_best_82 (by decide) ?_
                    refine lv_iload_n hx hb dX4_best_84 rfl (lv_at hl 7 rfl) ?_
                    refine lv_imul hx hb dX4_best_85 ?_
                    refine lv_isub hx hb dX4_best_86 ?_
                    refine lv_goto (tgt := 91) hx hb dX4_best_87 (by decide) ?_
                    refine lv_iadd hx hb dX4_best_91 ?_
                    refine lv_istore (lv' := [(6, .int (x6 + (((fX4_paysOf v p0) * (v 1 x7.toNatClampNeg)) - (10 * p1)))), (7, .int x7), (5, .int x5), (4, .int x4), (3, .int x3), (0, .ref (bd 0)), (1, .int p0), (2, .int p1)]) hx hb dX4_best_92 hl (by decide) rfl (fun ls hl => ?_)
                    refine lv_iinc (v := (x7 + 1)) (lv' := [(7, .int (x7 + 1)), (6, .int (x6 + (((fX4_paysOf v p0) * (v 1 x7.toNatClampNeg)) - (10 * p1)))), (5, .int x5), (4, .int x4), (3, .int x3), (0, .ref (bd 0)), (1, .int p0), (2, .int p1)]) hx hb dX4_best_94 hl (k := 1) rfl rfl (by decide) rfl (fun ls hl => ?_)
                    refine lv_goto (tgt := 48) hx hb dX4_best_97 (by decide) ?_
                    exact ih48 (x7 + 1) (x6 + (((fX4_paysOf v p0) * (v 1 x7.toNatClampNeg)) - (10 * p1))) x5 x4 x3 (k48 + 1) (by rw [hr48, fX4_best_c48, if_neg c4, if_neg c8]) (by rw [e48]; exact nI_1 _) hlt48 (by omega) i48 ls (lv_sub hl [0, 1, 2, 3, 4, 5, 6, 7] rfl)
            exact lp48 (6) 0 0 x5 x4 x3 (0) (by rw [hr33, fX4_best_c33, if_neg c3]) nI_0.symm (by omega) (by omega) e33 ls (lv_sub hl [0, 1, 2, 3, 4, 5, 6, 7] rfl)
      exact lp33 (34) 0 0 0 (0) (by rw [fX4_best, if_pos c1, if_neg c2]) nI_0.symm (by omega) (by omega) ls (lv_sub hl [0, 1, 2, 3, 4, 5] rfl)
    · refine lv_bipush (v := (-2)) hx hb dX4_best_22 (by decide) ?_
      exact rI hx hb hr hlk dX4_best_24 (by rw [fX4_best, if_pos c1, if_pos c2])
  · refine lv_iconst (v := (-1)) hx hb dX4_best_8 (by decide) ?_
    exact rI hx hb hr hlk dX4_best_9 (by rw [fX4_best, if_neg c1])
def fX4_came_c47 (v : Mem) (p0 : Int32) (p1 : Int32)  : Nat → Int32 → Int32 → Int32 → Int32
  | 0, x5, x4, x3 => 0
  | n47 + 1, x5, x4, x3 => (if x5 < 0 then (if p1 = 0 then x3 else x4) else (if (fX4_paidToAll v x5) = p0 then (fX4_came_c47 v p0 p1 n47 (x5 + (-1)) x5 (x3 + 1)) else (fX4_came_c47 v p0 p1 n47 (x5 + (-1)) x4 (x3 + 0))))
def fX4_came (v : Mem) (p0 : Int32) (p1 : Int32) : Int32 :=
  (if (fX4_in ((p0).toInt64) 0 999) = 0 then (-2) else (if (fX4_in ((p1).toInt64) 0 1) = 0 then (-2) else (if (v 0 3) = 0 then (-3) else (fX4_came_c47 v p0 p1 (34) (fX4_allEvents v) (-9) 0))))
set_option maxRecDepth 100000 in
set_option maxHeartbeats 4000000 in
theorem kX4_came (l : Launch) (D : va_G) (cz : ClassId) (bd : Nat → Nat) (v : Mem) (p0 : Int32) (p1 : Int32) (hpc : PcOkM v) (hec : EcOkM v) : Met l yX4_came wsX4_came ({ frames := 4, cells := 0, slots := 0, locals := 86 } : Room) (va_Pc [.ref (bd 0), .int p0, .int p1] (MB D cz bd v)) (qR (some (.int (fX4_came v p0 p1)))) 0 0 noF := by
  refine m_start (cc := cX4_came) (maxL := 7) (ret := (some .int)) (by decide) rfl (Nat.le_of_ble_eq_true rfl) (fun p e s m below meth c hx hb hr hts hown hml hlk _ hB ls hl => ?_)
  obtain ⟨hP, hK⟩ := hB
  have hown : s.vm.findClass RX4 = some m.cls := hown
  have hl : lv_has ls 7 [(0, .ref (bd 0)), (1, .int p0), (2, .int p1)] := hl
  have hin_X4 : ∀ w ∈ wsX40, w ∈ wsX4_came := fun _ h => List.mem_cons_of_mem _ (List.mem_append_right _ (h))
  obtain ⟨al, hal, eal⟩ := allEv_M hec
  refine lv_iload_n hx hb dX4_came_0 rfl (lv_at hl 1 rfl) ?_
  refine lv_i2l hx hb dX4_came_1 rfl ?_
  refine lv_lconst (v := 0) hx hb dX4_came_2 (by decide) ?_
  refine lv_ldc2 hx hb hown (hts (Cond.constantLong RX4 205 (999)) (List.mem_of_getElem? (i := 1) rfl)) dX4_came_3 ?_
  refine kS (n := 3) (As := [.long (p0).toInt64, .long 0, .long 999]) (rest := []) ⟨hx, hb, hml, hown, hts⟩ (kX4_in l ((p0).toInt64) 0 999) gX4_came_X4_in rfl rfl rfl (by decide +kernel) ⟨Nat.le_of_ble_eq_true rfl, Nat.le_of_ble_eq_true rfl⟩ (fun _ _ _ => trivial) (fun _ _ _ _ _ => trivial) rfl hl.1 rfl (Nat.le_of_ble_eq_true rfl) dX4_came_6 ⟨Nat.le_refl _, Nat.le_refl _⟩ ?_
  refine lv_if_eq (tgt := 22) hx hb dX4_came_9 (by decide) (fun c1 => ?_) (fun c1 => ?_)
  · refine lv_bipush (v := (-2)) hx hb dX4_came_22 (by decide) ?_
    exact rI hx hb hr hlk dX4_came_24 (by rw [fX4_came, if_pos c1])
  · refine lv_iload_n hx hb dX4_came_12 rfl (lv_at hl 2 rfl) ?_
    refine lv_i2l hx hb dX4_came_13 rfl ?_
    refine lv_lconst (v := 0) hx hb dX4_came_14 (by decide) ?_
    refine lv_lconst (v := 1) hx hb dX4_came_15 (by decide) ?_
    refine kS (n := 3) (As := [.long (p1).toInt64, .long 0, .long 1]) (rest := []) ⟨hx, hb, hml, hown, hts⟩ (kX4_in l ((p1).toInt64) 0 1) gX4_came_X4_in rfl rfl rfl (by decide +kernel) ⟨Nat.le_of_ble_eq_true rfl, Nat.le_of_ble_eq_true rfl⟩ (fun _ _ _ => trivial) (fun _ _ _ _ _ => trivial) rfl hl.1 rfl (Nat.le_of_ble_eq_true rfl) dX4_came_16 ⟨Nat.le_refl _, Nat.le_refl _⟩ ?_
    refine lv_if_ne (tgt := 25) hx hb dX4_came_19 (by decide) (fun c2 => ?_) (fun c2 => ?_)
    · refine lv_aload_n hx hb dX4_came_25 rfl (lv_at hl 0 rfl) ?_
      refine zg_X4_prophets hx hb hts hin_X4 hown hK hP (hts (Cond.fieldLink RX4 72 "ProphetCoverModel" "prophets" "I") (List.mem_of_getElem? (i := 2) rfl)) dX4_came_26 ?_
      refine lv_if_ne (tgt := 35) hx hb dX4_came_29 (by decide) (fun c3 => ?_) (fun c3 => ?_)
      · refine lv_iconst (v := 0) hx hb dX4_came_35 (by decide) ?_
        refine lv_istore_n (lv' := [(3, .int 0), (0, .ref (bd 0)), (1, .int p0), (2, .int p1)]) hx hb dX4_came_36 rfl hl (by decide) rfl (fun ls hl => ?_)
        refine lv_bipush (v := (-9)) hx hb dX4_came_37 (by decide) ?_
        refine lv_istore (lv' := [(4, .int (-9)), (3, .int 0), (0, .ref (bd 0)), (1, .int p0), (2, .int p1)]) hx hb dX4_came_39 hl (by decide) rfl (fun ls hl => ?_)
        refine lv_aload_n hx hb dX4_came_41 rfl (lv_at hl 2 rfl) ?_
        refine kV (n := 0) (As := []) (rest := []) ⟨hx, hb, hml, hown, hts⟩ (kX4_allEvents l D cz bd v) gX4_came_X4_allEvents rfl rfl rfl (by decide +kernel) ⟨Nat.le_of_ble_eq_true rfl, Nat.le_of_ble_eq_true rfl⟩ (recvM hP hK) (MB_of hP hK) MB_bl rfl hl.1 rfl (Nat.le_of_ble_eq_true rfl) dX4_came_42 ⟨Nat.le_refl _, Nat.le_refl _⟩ ?_
        refine lv_istore (lv' := [(5, .int (fX4_allEvents v)), (4, .int (-9)), (3, .int 0), (0, .ref (bd 0)), (1, .int p0), (2, .int p1)]) hx hb dX4_came_45 hl (by decide) rfl (fun ls hl => ?_)
        have lp47 : ∀ (n47 : Nat) (x5 : Int32) (x4 : Int32) (x3 : Int32) (k47 : Nat), (fX4_came v p0 p1) = (fX4_came_c47 v p0 p1 n47 x5 x4 x3) → (x5 + 1 = nI k47) → (k47 ≤ 32) → (k47 < n47) → ∀ ls : Array Slot, lv_has ls 7 [(5, .int x5), (4, .int x4), (3, .int x3), (0, .ref (bd 0)), (1, .int p0), (2, .int p1)] → W p l e ({ frames := 4, cells := 0, slots := 0, locals := 86 } : Room) s m ([.ref (bd 0), .int p0, .int p1] : List Value).toArray below meth c s.heap [] 0 0 (MQ below (qR (some (.int (fX4_came v p0 p1)))) ([.ref (bd 0), .int p0, .int p1] : List Value).toArray s 0 0 noF) (F0 m 47 ls []) := by
          intro n47
          induction n47 with
          | zero =>
            intro x5 x4 x3 k47 _ e47 hk47 hm47 ls hl
            exfalso; omega
          | succ n47 ih47 =>
            intro x5 x4 x3 k47 hr47 e47 hk47 hm47 ls hl
            refine lv_iload hx hb dX4_came_47 (lv_at hl 0 rfl) ?_
            refine lv_if_lt (tgt := 102) hx hb dX4_came_49 (by decide) (fun c4 => ?_) (fun c4 => ?_)
            · refine lv_iload_n hx hb dX4_came_102 rfl (lv_at hl 5 rfl) ?_
              refine lv_if_ne (tgt := 110) hx hb dX4_came_103 (by decide) (fun c5 => ?_) (fun c5 => ?_)
              · refine lv_iload hx hb dX4_came_110 (lv_at hl 1 rfl) ?_
                exact rI hx hb hr hlk dX4_came_112 (by rw [hr47, fX4_came_c47, if_pos c4, if_neg c5])
              · refine lv_iload_n hx hb dX4_came_106 rfl (lv_at hl 2 rfl) ?_
                refine lv_goto (tgt := 112) hx hb dX4_came_107 (by decide) ?_
                exact rI hx hb hr hlk dX4_came_112 (by rw [hr47, fX4_came_c47, if_pos c4, if_pos c5])
            · have hp47 : 0 < k47 := dn_pos e47 c4
              refine lv_aload_n hx hb dX4_came_52 rfl (lv_at hl 3 rfl) ?_
              refine lv_iload hx hb dX4_came_53 (lv_at hl 0 rfl) ?_
              refine kV (n := 1) (As := [.int x5]) (rest := []) ⟨hx, hb, hml, hown, hts⟩ (kX4_paidToAll l D cz bd v x5 (by first | exact hpc | assumption)) gX4_came_X4_paidToAll rfl rfl rfl (by decide +kernel) ⟨Nat.le_of_ble_eq_true rfl, Nat.le_of_ble_eq_true rfl⟩ (recvM hP hK) (MB_of hP hK) MB_bl rfl hl.1 rfl (Nat.le_of_ble_eq_true rfl) dX4_came_55 ⟨Nat.le_refl _, Nat.le_refl _⟩ ?_
              refine lv_iload_n hx hb dX4_came_58 rfl (lv_at hl 4 rfl) ?_
              refine lv_icmp_ne (tgt := 66) hx hb dX4_came_59 (by decide) (fun c6 => ?_) (fun c6 => ?_)
              · refine lv_iconst (v := 0) hx hb dX4_came_66 (by decide) ?_
                refine lv_istore (lv' := [(6, .int 0), (5, .int x5), (4, .int x4), (3, .int x3), (0, .ref (bd 0)), (1, .int p0), (2, .int p1)]) hx hb dX4_came_67 hl (by decide) rfl (fun ls hl => ?_)
                refine lv_iload_n hx hb dX4_came_69 rfl (lv_at hl 3 rfl) ?_
                refine lv_iload hx hb dX4_came_70 (lv_at hl 0 rfl) ?_
                refine lv_if_eq (tgt := 79) hx hb dX4_came_72 (by decide) (fun _ => ?_) (fun c => absurd (by decide) c)
                refine lv_iconst (v := 0) hx hb dX4_came_79 (by decide) ?_
                refine lv_iadd hx hb dX4_came_80 ?_
                refine lv_istore_n (lv' := [(3, .int (x3 + 0)), (6, .int 0), (5, .int x5), (4, .int x4), (0, .ref (bd 0)), (1, .int p0), (2, .int p1)]) hx hb dX4_came_81 rfl hl (by decide) rfl (fun ls hl => ?_)
                refine lv_iload hx hb dX4_came_82 (lv_at hl 1 rfl) ?_
                refine lv_if_eq (tgt := 92) hx hb dX4_came_84 (by decide) (fun _ => ?_) (fun c => absurd (by decide) c)
                refine lv_iload hx hb dX4_came_92 (lv_at hl 3 rfl) ?_
                refine lv_istore (lv' := [(4, .int x4), (3, .int (x3 + 0)), (6, .int 0), (5, .int x5), (0, .ref (bd 0)), (1, .int p0), (2, .int p1)]) hx hb dX4_came_94 hl (by decide) rfl (fun ls hl => ?_)
                refine lv_iinc (v := (x5 + (-1))) (lv' := [(5, .int (x5 + (-1))), (4, .int x4), (3, .int (x3 + 0)), (6, .int 0), (0, .ref (bd 0)), (1, .int p0), (2, .int p1)]) hx hb dX4_came_96 hl (k := 3) rfl rfl (by decide) rfl (fun ls hl => ?_)
                refine lv_goto (tgt := 47) hx hb dX4_came_99 (by decide) ?_
                exact ih47 (x5 + (-1)) x4 (x3 + 0) (k47 - 1) (by rw [hr47, fX4_came_c47, if_neg c4, if_neg c6]) (dn_next e47 hp47) (by omega) (by omega) ls (lv_sub hl [0, 1, 2, 4, 5, 6] rfl)
              · refine lv_iconst (v := 1) hx hb dX4_came_62 (by decide) ?_
                refine lv_goto (tgt := 67) hx hb dX4_came_63 (by decide) ?_
                refine lv_istore (lv' := [(6, .int 1), (5, .int x5), (4, .int x4), (3, .int x3), (0, .ref (bd 0)), (1, .int p0), (2, .int p1)]) hx hb dX4_came_67 hl (by decide) rfl (fun ls hl => ?_)
                refine lv_iload_n hx hb dX4_came_69 rfl (lv_at hl 3 rfl) ?_
                refine lv_iload hx hb dX4_came_70 (lv_at hl 0 rfl) ?_
                refine lv_if_eq (tgt := 79) hx hb dX4_came_72 (by decide) (fun c => absurd c (by decide)) (fun _ => ?_)
                refine lv_iconst (v := 1) hx hb dX4_came_75 (by decide) ?_
                refine lv_goto (tgt := 80) hx hb dX4_came_76 (by decide) ?_
                refine lv_iadd hx hb dX4_came_80 ?_
                refine lv_istore_n (lv' := [(3, .int (x3 + 1)), (6, .int 1), (5, .int x5), (4, .int x4), (0, .ref (bd 0)), (1, .int p0), (2, .int p1)]) hx hb dX4_came_81 rfl hl (by decide) rfl (fun ls hl => ?_)
                refine lv_iload hx hb dX4_came_82 (lv_at hl 1 rfl) ?_
                refine lv_if_eq (tgt := 92) hx hb dX4_came_84 (by decide) (fun c => absurd c (by decide)) (fun _ => ?_)
                refine lv_iload hx hb dX4_came_87 (lv_at hl 2 rfl) ?_
                refine lv_goto (tgt := 94) hx hb dX4_came_89 (by decide) ?_
                refine lv_istore (lv' := [(4, .int x5), (3, .int (x3 + 1)), (6, .int 1), (5, .int x5), (0, .ref (bd 0)), (1, .int p0), (2, .int p1)]) hx hb dX4_came_94 hl (by decide) rfl (fun ls hl => ?_)
                refine lv_iinc (v := (x5 + (-1))) (lv' := [(5, .int (x5 + (-1))), (4, .int x5), (3, .int (x3 + 1)), (6, .int 1), (0, .ref (bd 0)), (1, .int p0), (2, .int p1)]) hx hb dX4_came_96 hl (k := 3) rfl rfl (by decide) rfl (fun ls hl => ?_)
                refine lv_goto (tgt := 47) hx hb dX4_came_99 (by decide) ?_
                exact ih47 (x5 + (-1)) x5 (x3 + 1) (k47 - 1) (by rw [hr47, fX4_came_c47, if_neg c4, if_pos c6]) (dn_next e47 hp47) (by omega) (by omega) ls (lv_sub hl [0, 1, 2, 4, 5, 6] rfl)
        exact lp47 (34) (fX4_allEvents v) (-9) 0 (al + 1) (by rw [fX4_came, if_neg c1, if_neg c2, if_neg c3]) (by rw [eal]; exact nI_1 _) (by omega) (by omega) ls (lv_sub hl [0, 1, 2, 3, 4, 5] rfl)
      · refine lv_bipush (v := (-3)) hx hb dX4_came_32 (by decide) ?_
        exact rI hx hb hr hlk dX4_came_34 (by rw [fX4_came, if_neg c1, if_neg c2, if_pos c3])
    · refine lv_bipush (v := (-2)) hx hb dX4_came_22 (by decide) ?_
      exact rI hx hb hr hlk dX4_came_24 (by rw [fX4_came, if_neg c1, if_pos c2])
