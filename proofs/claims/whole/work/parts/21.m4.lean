def fX4_goYears_c24 (v : Mem) (p0 : Int32) (p1 : Int32) (p2 : Int32)  : Nat → Mem → Int32 → Mem
  | 0, w24, x4 => w24
  | n24 + 1, w24, x4 => (if p2 ≤ x4 then w24 else (if 0 ≤ ((mset w24 0 14 ((w24 0 14) + ((fX4_premiumsOf w24 p0) - (fX4_paidToAll w24 (w24 14 (p1 + x4).toNatClampNeg))))) 0 15) then (if (fX4_paidToAll w24 (w24 14 (p1 + x4).toNatClampNeg)) ≤ ((mset (mset (mset w24 0 14 ((w24 0 14) + ((fX4_premiumsOf w24 p0) - (fX4_paidToAll w24 (w24 14 (p1 + x4).toNatClampNeg))))) 0 15 ((mset w24 0 14 ((w24 0 14) + ((fX4_premiumsOf w24 p0) - (fX4_paidToAll w24 (w24 14 (p1 + x4).toNatClampNeg))))) 0 15)) 0 16 (((mset (mset w24 0 14 ((w24 0 14) + ((fX4_premiumsOf w24 p0) - (fX4_paidToAll w24 (w24 14 (p1 + x4).toNatClampNeg))))) 0 15 ((mset w24 0 14 ((w24 0 14) + ((fX4_premiumsOf w24 p0) - (fX4_paidToAll w24 (w24 14 (p1 + x4).toNatClampNeg))))) 0 15)) 0 16) + (fX4_paidToAll w24 (w24 14 (p1 + x4).toNatClampNeg)))) 0 17) then (fX4_goYears_c24 v p0 p1 p2 n24 (mset (mset (mset (mset w24 0 14 ((w24 0 14) + ((fX4_premiumsOf w24 p0) - (fX4_paidToAll w24 (w24 14 (p1 + x4).toNatClampNeg))))) 0 15 ((mset w24 0 14 ((w24 0 14) + ((fX4_premiumsOf w24 p0) - (fX4_paidToAll w24 (w24 14 (p1 + x4).toNatClampNeg))))) 0 15)) 0 16 (((mset (mset w24 0 14 ((w24 0 14) + ((fX4_premiumsOf w24 p0) - (fX4_paidToAll w24 (w24 14 (p1 + x4).toNatClampNeg))))) 0 15 ((mset w24 0 14 ((w24 0 14) + ((fX4_premiumsOf w24 p0) - (fX4_paidToAll w24 (w24 14 (p1 + x4).toNatClampNeg))))) 0 15)) 0 16) + (fX4_paidToAll w24 (w24 14 (p1 + x4).toNatClampNeg)))) 0 17 ((mset (mset (mset w24 0 14 ((w24 0 14) + ((fX4_premiumsOf w24 p0) - (fX4_paidToAll w24 (w24 14 (p1 + x4).toNatClampNeg))))) 0 15 ((mset w24 0 14 ((w24 0 14) + ((fX4_premiumsOf w24 p0) - (fX4_paidToAll w24 (w24 14 (p1 + x4).toNatClampNeg))))) 0 15)) 0 16 (((mset (mset w24 0 14 ((w24 0 14) + ((fX4_premiumsOf w24 p0) - (fX4_paidToAll w24 (w24 14 (p1 + x4).toNatClampNeg))))) 0 15 ((mset w24 0 14 ((w24 0 14) + ((fX4_premiumsOf w24 p0) - (fX4_paidToAll w24 (w24 14 (p1 + x4).toNatClampNeg))))) 0 15)) 0 16) + (fX4_paidToAll w24 (w24 14 (p1 + x4).toNatClampNeg)))) 0 17)) (x4 + 1)) else (fX4_goYears_c24 v p0 p1 p2 n24 (mset (mset (mset (mset w24 0 14 ((w24 0 14) + ((fX4_premiumsOf w24 p0) - (fX4_paidToAll w24 (w24 14 (p1 + x4).toNatClampNeg))))) 0 15 ((mset w24 0 14 ((w24 0 14) + ((fX4_premiumsOf w24 p0) - (fX4_paidToAll w24 (w24 14 (p1 + x4).toNatClampNeg))))) 0 15)) 0 16 (((mset (mset w24 0 14 ((w24 0 14) + ((fX4_premiumsOf w24 p0) - (fX4_paidToAll w24 (w24 14 (p1 + x4).toNatClampNeg))))) 0 15 ((mset w24 0 14 ((w24 0 14) + ((fX4_premiumsOf w24 p0) - (fX4_paidToAll w24 (w24 14 (p1 + x4).toNatClampNeg))))) 0 15)) 0 16) + (fX4_paidToAll w24 (w24 14 (p1 + x4).toNatClampNeg)))) 0 17 (fX4_paidToAll w24 (w24 14 (p1 + x4).toNatClampNeg))) (x4 + 1))) else (if 0 ≤ ((mset w24 0 14 ((w24 0 14) + ((fX4_premiumsOf w24 p0) - (fX4_paidToAll w24 (w24 14 (p1 + x4).toNatClampNeg))))) 0 14) then (if (fX4_paidToAll w24 (w24 14 (p1 + x4).toNatClampNeg)) ≤ ((mset (mset (mset w24 0 14 ((w24 0 14) + ((fX4_premiumsOf w24 p0) - (fX4_paidToAll w24 (w24 14 (p1 + x4).toNatClampNeg))))) 0 15 ((mset w24 0 14 ((w24 0 14) + ((fX4_premiumsOf w24 p0) - (fX4_paidToAll w24 (w24 14 (p1 + x4).toNatClampNeg))))) 0 15)) 0 16 (((mset (mset w24 0 14 ((w24 0 14) + ((fX4_premiumsOf w24 p0) - (fX4_paidToAll w24 (w24 14 (p1 + x4).toNatClampNeg))))) 0 15 ((mset w24 0 14 ((w24 0 14) + ((fX4_premiumsOf w24 p0) - (fX4_paidToAll w24 (w24 14 (p1 + x4).toNatClampNeg))))) 0 15)) 0 16) + (fX4_paidToAll w24 (w24 14 (p1 + x4).toNatClampNeg)))) 0 17) then (fX4_goYears_c24 v p0 p1 p2 n24 (mset (mset (mset (mset w24 0 14 ((w24 0 14) + ((fX4_premiumsOf w24 p0) - (fX4_paidToAll w24 (w24 14 (p1 + x4).toNatClampNeg))))) 0 15 ((mset w24 0 14 ((w24 0 14) + ((fX4_premiumsOf w24 p0) - (fX4_paidToAll w24 (w24 14 (p1 + x4).toNatClampNeg))))) 0 15)) 0 16 (((mset (mset w24 0 14 ((w24 0 14) + ((fX4_premiumsOf w24 p0) - (fX4_paidToAll w24 (w24 14 (p1 + x4).toNatClampNeg))))) 0 15 ((mset w24 0 14 ((w24 0 14) + ((fX4_premiumsOf w24 p0) - (fX4_paidToAll w24 (w24 14 (p1 + x4).toNatClampNeg))))) 0 15)) 0 16) + (fX4_paidToAll w24 (w24 14 (p1 + x4).toNatClampNeg)))) 0 17 ((mset (mset (mset w24 0 14 ((w24 0 14) + ((fX4_premiumsOf w24 p0) - (fX4_paidToAll w24 (w24 14 (p1 + x4).toNatClampNeg))))) 0 15 ((mset w24 0 14 ((w24 0 14) + ((fX4_premiumsOf w24 p0) - (fX4_paidToAll w24 (w24 14 (p1 + x4).toNatClampNeg))))) 0 15)) 0 16 (((mset (mset w24 0 14 ((w24 0 14) + ((fX4_premiumsOf w24 p0) - (fX4_paidToAll w24 (w24 14 (p1 + x4).toNatClampNeg))))) 0 15 ((mset w24 0 14 ((w24 0 14) + ((fX4_premiumsOf w24 p0) - (fX4_paidToAll w24 (w24 14 (p1 + x4).toNatClampNeg))))) 0 15)) 0 16) + (fX4_paidToAll w24 (w24 14 (p1 + x4).toNatClampNeg)))) 0 17)) (x4 + 1)) else (fX4_goYears_c24 v p0 p1 p2 n24 (mset (mset (mset (mset w24 0 14 ((w24 0 14) + ((fX4_premiumsOf w24 p0) - (fX4_paidToAll w24 (w24 14 (p1 + x4).toNatClampNeg))))) 0 15 ((mset w24 0 14 ((w24 0 14) + ((fX4_premiumsOf w24 p0) - (fX4_paidToAll w24 (w24 14 (p1 + x4).toNatClampNeg))))) 0 15)) 0 16 (((mset (mset w24 0 14 ((w24 0 14) + ((fX4_premiumsOf w24 p0) - (fX4_paidToAll w24 (w24 14 (p1 + x4).toNatClampNeg))))) 0 15 ((mset w24 0 14 ((w24 0 14) + ((fX4_premiumsOf w24 p0) - (fX4_paidToAll w24 (w24 14 (p1 + x4).toNatClampNeg))))) 0 15)) 0 16) + (fX4_paidToAll w24 (w24 14 (p1 + x4).toNatClampNeg)))) 0 17 (fX4_paidToAll w24 (w24 14 (p1 + x4).toNatClampNeg))) (x4 + 1))) else (if (fX4_paidToAll w24 (w24 14 (p1 + x4).toNatClampNeg)) ≤ ((mset (mset (mset w24 0 14 ((w24 0 14) + ((fX4_premiumsOf w24 p0) - (fX4_paidToAll w24 (w24 14 (p1 + x4).toNatClampNeg))))) 0 15 x4) 0 16 (((mset (mset w24 0 14 ((w24 0 14) + ((fX4_premiumsOf w24 p0) - (fX4_paidToAll w24 (w24 14 (p1 + x4).toNatClampNeg))))) 0 15 x4) 0 16) + (fX4_paidToAll w24 (w24 14 (p1 + x4).toNatClampNeg)))) 0 17) then (fX4_goYears_c24 v p0 p1 p2 n24 (mset (mset (mset (mset w24 0 14 ((w24 0 14) + ((fX4_premiumsOf w24 p0) - (fX4_paidToAll w24 (w24 14 (p1 + x4).toNatClampNeg))))) 0 15 x4) 0 16 (((mset (mset w24 0 14 ((w24 0 14) + ((fX4_premiumsOf w24 p0) - (fX4_paidToAll w24 (w24 14 (p1 + x4).toNatClampNeg))))) 0 15 x4) 0 16) + (fX4_paidToAll w24 (w24 14 (p1 + x4).toNatClampNeg)))) 0 17 ((mset (mset (mset w24 0 14 ((w24 0 14) + ((fX4_premiumsOf w24 p0) - (fX4_paidToAll w24 (w24 14 (p1 + x4).toNatClampNeg))))) 0 15 x4) 0 16 (((mset (mset w24 0 14 ((w24 0 14) + ((fX4_premiumsOf w24 p0) - (fX4_paidToAll w24 (w24 14 (p1 + x4).toNatClampNeg))))) 0 15 x4) 0 16) + (fX4_paidToAll w24 (w24 14 (p1 + x4).toNatClampNeg)))) 0 17)) (x4 + 1)) else (fX4_goYears_c24 v p0 p1 p2 n24 (mset (mset (mset (mset w24 0 14 ((w24 0 14) + ((fX4_premiumsOf w24 p0) - (fX4_paidToAll w24 (w24 14 (p1 + x4).toNatClampNeg))))) 0 15 x4) 0 16 (((mset (mset w24 0 14 ((w24 0 14) + ((fX4_premiumsOf w24 p0) - (fX4_paidToAll w24 (w24 14 (p1 + x4).toNatClampNeg))))) 0 15 x4) 0 16) + (fX4_paidToAll w24 (w24 14 (p1 + x4).toNatClampNeg)))) 0 17 (fX4_paidToAll w24 (w24 14 (p1 + x4).toNatClampNeg))) (x4 + 1))))))
def fX4_goYears (v : Mem) (p0 : Int32) (p1 : Int32) (p2 : Int32) : Mem :=
  (fX4_goYears_c24 v p0 p1 p2 (61) (mset (mset (mset (mset v 0 14 0) 0 15 (-9)) 0 16 0) 0 17 0) 0)
set_option maxRecDepth 100000 in
set_option maxHeartbeats 4000000 in
theorem kX4_goYears (l : Launch) (D : va_G) (cz : ClassId) (bd : Nat → Nat) (hI : MI bd) (v : Mem) (p0 : Int32) (p1 : Int32) (p2 : Int32) (hpc : PcOkM v) (hgr : GrOk p1 p2) : Met l yX4_goYears wsX4_goYears ({ frames := 4, cells := 0, slots := 0, locals := 86 } : Room) (va_Pc [.ref (bd 0), .int p0, .int p1, .int p2] (MB D cz bd v)) (qW (MB D cz bd (fX4_goYears v p0 p1 p2)) (AM bd) none) 0 0 (AM bd) := by
  refine m_start (cc := cX4_goYears) (maxL := 6) (ret := none) (by decide) rfl (Nat.le_of_ble_eq_true rfl) (fun p e s m below meth c hx hb hr hts hown hml hlk _ hB ls hl => ?_)
  obtain ⟨hP, hK⟩ := hB
  have hown : s.vm.findClass RX4 = some m.cls := hown
  have hl : lv_has ls 6 [(0, .ref (bd 0)), (1, .int p0), (2, .int p1), (3, .int p2)] := hl
  have hin_X4 : ∀ w ∈ wsX40, w ∈ wsX4_goYears := fun _ h => List.mem_cons_of_mem _ (List.mem_append_right _ (h))
  obtain ⟨H, hH⟩ : ∃ H, H = s.heap := ⟨_, rfl⟩
  obtain ⟨locs, hlo⟩ : ∃ z : List Loc, z = [] := ⟨_, rfl⟩
  have hS : va_S (AM bd) s.heap H locs := by rw [hH, hlo]; exact va_S.rf
  have hP : va_P D vwCl (wM cz bd v) H := by rw [hH]; exact hP
  suffices hgoal : W p l e ({ frames := 4, cells := 0, slots := 0, locals := 86 } : Room) s m ([.ref (bd 0), .int p0, .int p1, .int p2] : List Value).toArray below meth c H locs 0 0 (MQ below (qW (MB D cz bd (fX4_goYears v p0 p1 p2)) (AM bd) none) ([.ref (bd 0), .int p0, .int p1, .int p2] : List Value).toArray s 0 0 (AM bd)) (F0 m 0 ls []) by rw [hH, hlo] at hgoal; exact hgoal
  clear hH hlo
  obtain ⟨a, b, ea, eb, hb60, hab⟩ := id hgr
  refine lv_aload_n hx hb dX4_goYears_0 rfl (lv_at hl 0 rfl) ?_
  refine lv_iconst (v := 0) hx hb dX4_goYears_1 (by decide) ?_
  refine zp_X4_stands hx hb hts hin_X4 hown hK hP hI hS (hts (Cond.fieldLink RX4 158 "ProphetCoverModel" "stands" "I") (List.mem_of_getElem? (i := 1) rfl)) dX4_goYears_2 (fun H locs hP hS => ?_)
  refine lv_aload_n hx hb dX4_goYears_5 rfl (lv_at hl 0 rfl) ?_
  refine lv_bipush (v := (-9)) hx hb dX4_goYears_6 (by decide) ?_
  refine zp_X4_brokenAt hx hb hts hin_X4 hown hK hP hI hS (hts (Cond.fieldLink RX4 161 "ProphetCoverModel" "brokenAt" "I") (List.mem_of_getElem? (i := 2) rfl)) dX4_goYears_8 (fun H locs hP hS => ?_)
  refine lv_aload_n hx hb dX4_goYears_11 rfl (lv_at hl 0 rfl) ?_
  refine lv_iconst (v := 0) hx hb dX4_goYears_12 (by decide) ?_
  refine zp_X4_paidNow hx hb hts hin_X4 hown hK hP hI hS (hts (Cond.fieldLink RX4 164 "ProphetCoverModel" "paidNow" "I") (List.mem_of_getElem? (i := 3) rfl)) dX4_goYears_13 (fun H locs hP hS => ?_)
  refine lv_aload_n hx hb dX4_goYears_16 rfl (lv_at hl 0 rfl) ?_
  refine lv_iconst (v := 0) hx hb dX4_goYears_17 (by decide) ?_
  refine zp_X4_mostPaid hx hb hts hin_X4 hown hK hP hI hS (hts (Cond.fieldLink RX4 167 "ProphetCoverModel" "mostPaid" "I") (List.mem_of_getElem? (i := 4) rfl)) dX4_goYears_18 (fun H locs hP hS => ?_)
  refine lv_iconst (v := 0) hx hb dX4_goYears_21 (by decide) ?_
  refine lv_istore (lv' := [(4, .int 0), (0, .ref (bd 0)), (1, .int p0), (2, .int p1), (3, .int p2)]) hx hb dX4_goYears_22 hl (by decide) rfl (fun ls hl => ?_)
  have lp24 : ∀ (n24 : Nat) (w24 : Mem) (x4 : Int32) (k24 : Nat), (fX4_goYears v p0 p1 p2) = (fX4_goYears_c24 v p0 p1 p2 n24 w24 x4) → (x4 = nI k24) → (k24 ≤ b) → (b < k24 + n24) → (PcOkM w24) → ∀ (H : Heap) (locs : List Loc), va_P D vwCl (wM cz bd w24) H → va_S (AM bd) s.heap H locs → ∀ ls : Array Slot, lv_has ls 6 [(4, .int x4), (0, .ref (bd 0)), (1, .int p0), (2, .int p1), (3, .int p2)] → W p l e ({ frames := 4, cells := 0, slots := 0, locals := 86 } : Room) s m ([.ref (bd 0), .int p0, .int p1, .int p2] : List Value).toArray below meth c H locs 0 0 (MQ below (qW (MB D cz bd (fX4_goYears v p0 p1 p2)) (AM bd) none) ([.ref (bd 0), .int p0, .int p1, .int p2] : List Value).toArray s 0 0 (AM bd)) (F0 m 24 ls []) := by
    intro n24
    induction n24 with
    | zero =>
      intro w24 x4 k24 _ e24 hk24 hm24 hp24 H locs hP hS ls hl
      exfalso; omega
    | succ n24 ih24 =>
      intro w24 x4 k24 hr24 e24 hk24 hm24 hp24 H locs hP hS ls hl
      refine lv_iload hx hb dX4_goYears_24 (lv_at hl 0 rfl) ?_
      refine lv_iload_n hx hb dX4_goYears_26 rfl (lv_at hl 4 rfl) ?_
      refine lv_icmp_ge (tgt := 128) hx hb dX4_goYears_27 (by decide) (fun c1 => ?_) (fun c1 => ?_)
      · exact rMV hx hb hr hlk hK hP hS dX4_goYears_128 (by rw [hr24, fX4_goYears_c24, if_pos c1])
      · have hlt24 : k24 < b := cnt_lt eb e24 (by omega) (by omega) c1
        have hv24 : vp_in (p1 + x4) 240 := cnt_in (by rw [ea, e24]; exact nI_add a k24) (by omega) (by decide)
        refine lv_aload_n hx hb dX4_goYears_30 rfl (lv_at hl 1 rfl) ?_
        refine lv_aload_n hx hb dX4_goYears_31 rfl (lv_at hl 1 rfl) ?_
        refine zg_X4_sheet hx hb hts hin_X4 hown hK hP (hts (Cond.fieldLink RX4 49 "ProphetCoverModel" "sheet" "[I") (List.mem_of_getElem? (i := 5) rfl)) dX4_goYears_32 ?_
        refine lv_iload_n hx hb dX4_goYears_35 rfl (lv_at hl 3 rfl) ?_
        refine lv_iload hx hb dX4_goYears_36 (lv_at hl 0 rfl) ?_
        refine lv_iadd hx hb dX4_goYears_38 ?_
        refine zl_M (by decide) (by decide) rfl hx hb hK hP (by assumption) dX4_goYears_39 ?_
        refine kV (n := 1) (As := [.int (w24 14 (p1 + x4).toNatClampNeg)]) (rest := []) ⟨hx, hb, hml, hown, hts⟩ (kX4_paidToAll l D cz bd w24 (w24 14 (p1 + x4).toNatClampNeg) (by first | exact hpc | assumption)) gX4_goYears_X4_paidToAll rfl rfl rfl (by decide +kernel) ⟨Nat.le_of_ble_eq_true rfl, Nat.le_of_ble_eq_true rfl⟩ (recvM hP hK) (MB_of hP hK) MB_bl rfl hl.1 rfl (Nat.le_of_ble_eq_true rfl) dX4_goYears_40 ⟨Nat.le_refl _, Nat.le_refl _⟩ ?_
        refine lv_istore (lv' := [(5, .int (fX4_paidToAll w24 (w24 14 (p1 + x4).toNatClampNeg))), (4, .int x4), (0, .ref (bd 0)), (1, .int p0), (2, .int p1), (3, .int p2)]) hx hb dX4_goYears_43 hl (by decide) rfl (fun ls hl => ?_)
        refine lv_aload_n hx hb dX4_goYears_45 rfl (lv_at hl 2 rfl) ?_
        refine lv_dup hx hb dX4_goYears_46 rfl ?_
        refine zg_X4_stands hx hb hts hin_X4 hown hK hP (hts (Cond.fieldLink RX4 158 "ProphetCoverModel" "stands" "I") (List.mem_of_getElem? (i := 1) rfl)) dX4_goYears_47 ?_
        refine lv_aload_n hx hb dX4_goYears_50 rfl (lv_at hl 2 rfl) ?_
        have hpq : PcOkM w24 := hp24
        refine lv_iload_n hx hb dX4_goYears_51 rfl (lv_at hl 3 rfl) ?_
        have hpq2 : PcOkM w24 := hp24
        refine kV (n := 1) (As := [.int p0]) (rest := [.int (w24 0 14), .ref (bd 0)]) ⟨hx, hb, hml, hown, hts⟩ (kX4_premiumsOf l D cz bd w24 p0 (by first | exact hpc | assumption)) gX4_goYears_X4_premiumsOf rfl rfl rfl (by decide +kernel) ⟨Nat.le_of_ble_eq_true rfl, Nat.le_of_ble_eq_true rfl⟩ (recvM hP hK) (MB_of hP hK) MB_bl rfl hl.1 rfl (Nat.le_of_ble_eq_true rfl) dX4_goYears_52 ⟨Nat.le_refl _, Nat.le_refl _⟩ ?_
        refine lv_iload hx hb dX4_goYears_55 (lv_at hl 0 rfl) ?_
        refine lv_isub hx hb dX4_goYears_57 ?_
        refine lv_iadd hx hb dX4_goYears_58 ?_
        refine zp_X4_stands hx hb hts hin_X4 hown hK hP hI hS (hts (Cond.fieldLink RX4 158 "ProphetCoverModel" "stands" "I") (List.mem_of_getElem? (i := 1) rfl)) dX4_goYears_59 (fun H locs hP hS => ?_)
        refine lv_aload_n hx hb dX4_goYears_62 rfl (lv_at hl 2 rfl) ?_
        refine lv_aload_n hx hb dX4_goYears_63 rfl (lv_at hl 2 rfl) ?_
        refine zg_X4_brokenAt hx hb hts hin_X4 hown hK hP (hts (Cond.fieldLink RX4 161 "ProphetCoverModel" "brokenAt" "I") (List.mem_of_getElem? (i := 2) rfl)) dX4_goYears_64 ?_
        refine lv_if_ge (tgt := 82) hx hb dX4_goYears_67 (by decide) (fun c2 => ?_) (fun c2 => ?_)
        · refine lv_aload_n hx hb dX4_goYears_82 rfl (lv_at hl 2 rfl) ?_
          refine zg_X4_brokenAt hx hb hts hin_X4 hown hK hP (hts (Cond.fieldLink RX4 161 "ProphetCoverModel" "brokenAt" "I") (List.mem_of_getElem? (i := 2) rfl)) dX4_goYears_83 ?_
          refine zp_X4_brokenAt hx hb hts hin_X4 hown hK hP hI hS (hts (Cond.fieldLink RX4 161 "ProphetCoverModel" "brokenAt" "I") (List.mem_of_getElem? (i := 2) rfl)) dX4_goYears_86 (fun H locs hP hS => ?_)
          refine lv_aload_n hx hb dX4_goYears_89 rfl (lv_at hl 2 rfl) ?_
          refine lv_dup hx hb dX4_goYears_90 rfl ?_
          refine zg_X4_paidNow hx hb hts hin_X4 hown hK hP (hts (Cond.fieldLink RX4 164 "ProphetCoverModel" "paidNow" "I") (List.mem_of_getElem? (i := 3) rfl)) dX4_goYears_91 ?_
          refine lv_iload hx hb dX4_goYears_94 (lv_at hl 0 rfl) ?_
          refine lv_iadd hx hb dX4_goYears_96 ?_
          refine zp_X4_paidNow hx hb hts hin_X4 hown hK hP hI hS (hts (Cond.fieldLink RX4 164 "ProphetCoverModel" "paidNow" "I") (List.mem_of_getElem? (i := 3) rfl)) dX4_goYears_97 (fun H locs hP hS => ?_)
          refine lv_aload_n hx hb dX4_goYears_100 rfl (lv_at hl 2 rfl) ?_
          refine lv_iload hx hb dX4_goYears_101 (lv_at hl 0 rfl) ?_
          refine lv_aload_n hx hb dX4_goYears_103 rfl (lv_at hl 2 rfl) ?_
          refine zg_X4_mostPaid hx hb hts hin_X4 hown hK hP (hts (Cond.fieldLink RX4 167 "ProphetCoverModel" "mostPaid" "I") (List.mem_of_getElem? (i := 4) rfl)) dX4_goYears_104 ?_
          refine lv_icmp_le (tgt := 115) hx hb dX4_goYears_107 (by decide) (fun c3 => ?_) (fun c3 => ?_)
          · refine lv_aload_n hx hb dX4_goYears_115 rfl (lv_at hl 2 rfl) ?_
            refine zg_X4_mostPaid hx hb hts hin_X4 hown hK hP (hts (Cond.fieldLink RX4 167 "ProphetCoverModel" "mostPaid" "I") (List.mem_of_getElem? (i := 4) rfl)) dX4_goYears_116 ?_
            refine zp_X4_mostPaid hx hb hts hin_X4 hown hK hP hI hS (hts (Cond.fieldLink RX4 167 "ProphetCoverModel" "mostPaid" "I") (List.mem_of_getElem? (i := 4) rfl)) dX4_goYears_119 (fun H locs hP hS => ?_)
            refine lv_iinc (v := (x4 + 1)) (lv' := [(4, .int (x4 + 1)), (5, .int (fX4_paidToAll w24 (w24 14 (p1 + x4).toNatClampNeg))), (0, .ref (bd 0)), (1, .int p0), (2, .int p1), (3, .int p2)]) hx hb dX4_goYears_122 hl (k := 1) rfl rfl (by decide) rfl (fun ls hl => ?_)
            refine lv_goto (tgt := 24) hx hb dX4_goYears_125 (by decide) ?_
            exact ih24 (mset (mset (mset (mset w24 0 14 ((w24 0 14) + ((fX4_premiumsOf w24 p0) - (fX4_paidToAll w24 (w24 14 (p1 + x4).toNatClampNeg))))) 0 15 ((mset w24 0 14 ((w24 0 14) + ((fX4_premiumsOf w24 p0) - (fX4_paidToAll w24 (w24 14 (p1 + x4).toNatClampNeg))))) 0 15)) 0 16 (((mset (mset w24 0 14 ((w24 0 14) + ((fX4_premiumsOf w24 p0) - (fX4_paidToAll w24 (w24 14 (p1 + x4).toNatClampNeg))))) 0 15 ((mset w24 0 14 ((w24 0 14) + ((fX4_premiumsOf w24 p0) - (fX4_paidToAll w24 (w24 14 (p1 + x4).toNatClampNeg))))) 0 15)) 0 16) + (fX4_paidToAll w24 (w24 14 (p1 + x4).toNatClampNeg)))) 0 17 ((mset (mset (mset w24 0 14 ((w24 0 14) + ((fX4_premiumsOf w24 p0) - (fX4_paidToAll w24 (w24 14 (p1 + x4).toNatClampNeg))))) 0 15 ((mset w24 0 14 ((w24 0 14) + ((fX4_premiumsOf w24 p0) - (fX4_paidToAll w24 (w24 14 (p1 + x4).toNatClampNeg))))) 0 15)) 0 16 (((mset (mset w24 0 14 ((w24 0 14) + ((fX4_premiumsOf w24 p0) - (fX4_paidToAll w24 (w24 14 (p1 + x4).toNatClampNeg))))) 0 15 ((mset w24 0 14 ((w24 0 14) + ((fX4_premiumsOf w24 p0) - (fX4_paidToAll w24 (w24 14 (p1 + x4).toNatClampNeg))))) 0 15)) 0 16) + (fX4_paidToAll w24 (w24 14 (p1 + x4).toNatClampNeg)))) 0 17)) (x4 + 1) (k24 + 1) (by rw [hr24, fX4_goYears_c24, if_neg c1, if_pos c2, if_pos c3]) (by rw [e24]; exact nI_1 _) hlt24 (by omega) hp24 H locs hP hS ls (lv_sub hl [0, 2, 3, 4, 5] rfl)
          · refine lv_iload hx hb dX4_goYears_110 (lv_at hl 0 rfl) ?_
            refine lv_goto (tgt := 119) hx hb dX4_goYears_112 (by decide) ?_
            refine zp_X4_mostPaid hx hb hts hin_X4 hown hK hP hI hS (hts (Cond.fieldLink RX4 167 "ProphetCoverModel" "mostPaid" "I") (List.mem_of_getElem? (i := 4) rfl)) dX4_goYears_119 (fun H locs hP hS => ?_)
            refine lv_iinc (v := (x4 + 1)) (lv' := [(4, .int (x4 + 1)), (5, .int (fX4_paidToAll w24 (w24 14 (p1 + x4).toNatClampNeg))), (0, .ref (bd 0)), (1, .int p0), (2, .int p1), (3, .int p2)]) hx hb dX4_goYears_122 hl (k := 1) rfl rfl (by decide) rfl (fun ls hl => ?_)
            refine lv_goto (tgt := 24) hx hb dX4_goYears_125 (by decide) ?_
            exact ih24 (mset (mset (mset (mset w24 0 14 ((w24 0 14) + ((fX4_premiumsOf w24 p0) - (fX4_paidToAll w24 (w24 14 (p1 + x4).toNatClampNeg))))) 0 15 ((mset w24 0 14 ((w24 0 14) + ((fX4_premiumsOf w24 p0) - (fX4_paidToAll w24 (w24 14 (p1 + x4).toNatClampNeg))))) 0 15)) 0 16 (((mset (mset w24 0 14 ((w24 0 14) + ((fX4_premiumsOf w24 p0) - (fX4_paidToAll w24 (w24 14 (p1 + x4).toNatClampNeg))))) 0 15 ((mset w24 0 14 ((w24 0 14) + ((fX4_premiumsOf w24 p0) - (fX4_paidToAll w24 (w24 14 (p1 + x4).toNatClampNeg))))) 0 15)) 0 16) + (fX4_paidToAll w24 (w24 14 (p1 + x4).toNatClampNeg)))) 0 17 (fX4_paidToAll w24 (w24 14 (p1 + x4).toNatClampNeg))) (x4 + 1) (k24 + 1) (by rw [hr24, fX4_goYears_c24, if_neg c1, if_pos c2, if_neg c3]) (by rw [e24]; exact nI_1 _) hlt24 (by omega) hp24 H locs hP hS ls (lv_sub hl [0, 2, 3, 4, 5] rfl)
        · refine lv_aload_n hx hb dX4_goYears_70 rfl (lv_at hl 2 rfl) ?_
          refine zg_X4_stands hx hb hts hin_X4 hown hK hP (hts (Cond.fieldLink RX4 158 "ProphetCoverModel" "stands" "I") (List.mem_of_getElem? (i := 1) rfl)) dX4_goYears_71 ?_
          refine lv_if_ge (tgt := 82) hx hb dX4_goYears_74 (by decide) (fun c4 => ?_) (fun c4 => ?_)
          · refine lv_aload_n hx hb dX4_goYears_82 rfl (lv_at hl 2 rfl) ?_
            refine zg_X4_brokenAt hx hb hts hin_X4 hown hK hP (hts (Cond.fieldLink RX4 161 "ProphetCoverModel" "brokenAt" "I") (List.mem_of_getElem? (i := 2) rfl)) dX4_goYears_83 ?_
            refine zp_X4_brokenAt hx hb hts hin_X4 hown hK hP hI hS (hts (Cond.fieldLink RX4 161 "ProphetCoverModel" "brokenAt" "I") (List.mem_of_getElem? (i := 2) rfl)) dX4_goYears_86 (fun H locs hP hS => ?_)
            refine lv_aload_n hx hb dX4_goYears_89 rfl (lv_at hl 2 rfl) ?_
            refine lv_dup hx hb dX4_goYears_90 rfl ?_
            refine zg_X4_paidNow hx hb hts hin_X4 hown hK hP (hts (Cond.fieldLink RX4 164 "ProphetCoverModel" "paidNow" "I") (List.mem_of_getElem? (i := 3) rfl)) dX4_goYears_91 ?_
            refine lv_iload hx hb dX4_goYears_94 (lv_at hl 0 rfl) ?_
            refine lv_iadd hx hb dX4_goYears_96 ?_
            refine zp_X4_paidNow hx hb hts hin_X4 hown hK hP hI hS (hts (Cond.fieldLink RX4 164 "ProphetCoverModel" "paidNow" "I") (List.mem_of_getElem? (i := 3) rfl)) dX4_goYears_97 (fun H locs hP hS => ?_)
            refine lv_aload_n hx hb dX4_goYears_100 rfl (lv_at hl 2 rfl) ?_
            refine lv_iload hx hb dX4_goYears_101 (lv_at hl 0 rfl) ?_
            refine lv_aload_n hx hb dX4_goYears_103 rfl (lv_at hl 2 rfl) ?_
            refine zg_X4_mostPaid hx hb hts hin_X4 hown hK hP (hts (Cond.fieldLink RX4 167 "ProphetCoverModel" "mostPaid" "I") (List.mem_of_getElem? (i := 4) rfl)) dX4_goYears_104 ?_
            refine lv_icmp_le (tgt := 115) hx hb dX4_goYears_107 (by decide) (fun c5 => ?_) (fun c5 => ?_)
            · refine lv_aload_n hx hb dX4_goYears_115 rfl (lv_at hl 2 rfl) ?_
              refine zg_X4_mostPaid hx hb hts hin_X4 hown hK hP (hts (Cond.fieldLink RX4 167 "ProphetCoverModel" "mostPaid" "I") (List.mem_of_getElem? (i := 4) rfl)) dX4_goYears_116 ?_
              refine zp_X4_mostPaid hx hb hts hin_X4 hown hK hP hI hS (hts (Cond.fieldLink RX4 167 "ProphetCoverModel" "mostPaid" "I") (List.mem_of_getElem? (i := 4) rfl)) dX4_goYears_119 (fun H locs hP hS => ?_)
              refine lv_iinc (v := (x4 + 1)) (lv' := [(4, .int (x4 + 1)), (5, .int (fX4_paidToAll w24 (w24 14 (p1 + x4).toNatClampNeg))), (0, .ref (bd 0)), (1, .int p0), (2, .int p1), (3, .int p2)]) hx hb dX4_goYears_122 hl (k := 1) rfl rfl (by decide) rfl (fun ls hl => ?_)
              refine lv_goto (tgt := 24) hx hb dX4_goYears_125 (by decide) ?_
              exact ih24 (mset (mset (mset (mset w24 0 14 ((w24 0 14) + ((fX4_premiumsOf w24 p0) - (fX4_paidToAll w24 (w24 14 (p1 + x4).toNatClampNeg))))) 0 15 ((mset w24 0 14 ((w24 0 14) + ((fX4_premiumsOf w24 p0) - (fX4_paidToAll w24 (w24 14 (p1 + x4).toNatClampNeg))))) 0 15)) 0 16 (((mset (mset w24 0 14 ((w24 0 14) + ((fX4_premiumsOf w24 p0) - (fX4_paidToAll w24 (w24 14 (p1 + x4).toNatClampNeg))))) 0 15 ((mset w24 0 14 ((w24 0 14) + ((fX4_premiumsOf w24 p0) - (fX4_paidToAll w24 (w24 14 (p1 + x4).toNatClampNeg))))) 0 15)) 0 16) + (fX4_paidToAll w24 (w24 14 (p1 + x4).toNatClampNeg)))) 0 17 ((mset (mset (mset w24 0 14 ((w24 0 14) + ((fX4_premiumsOf w24 p0) - (fX4_paidToAll w24 (w24 14 (p1 + x4).toNatClampNeg))))) 0 15 ((mset w24 0 14 ((w24 0 14) + ((fX4_premiumsOf w24 p0) - (fX4_paidToAll w24 (w24 14 (p1 + x4).toNatClampNeg))))) 0 15)) 0 16 (((mset (mset w24 0 14 ((w24 0 14) + ((fX4_premiumsOf w24 p0) - (fX4_paidToAll w24 (w24 14 (p1 + x4).toNatClampNeg))))) 0 15 ((mset w24 0 14 ((w24 0 14) + ((fX4_premiumsOf w24 p0) - (fX4_paidToAll w24 (w24 14 (p1 + x4).toNatClampNeg))))) 0 15)) 0 16) + (fX4_paidToAll w24 (w24 14 (p1 + x4).toNatClampNeg)))) 0 17)) (x4 + 1) (k24 + 1) (by rw [hr24, fX4_goYears_c24, if_neg c1, if_neg c2, if_pos c4, if_pos c5]) (by rw [e24]; exact nI_1 _) hlt24 (by omega) hp24 H locs hP hS ls (lv_sub hl [0, 2, 3, 4, 5] rfl)
            · refine lv_iload hx hb dX4_goYears_110 (lv_at hl 0 rfl) ?_
              refine lv_goto (tgt := 119) hx hb dX4_goYears_112 (by decide) ?_
              refine zp_X4_mostPaid hx hb hts hin_X4 hown hK hP hI hS (hts (Cond.fieldLink RX4 167 "ProphetCoverModel" "mostPaid" "I") (List.mem_of_getElem? (i := 4) rfl)) dX4_goYears_119 (fun H locs hP hS => ?_)
              refine lv_iinc (v := (x4 + 1)) (lv' := [(4, .int (x4 + 1)), (5, .int (fX4_paidToAll w24 (w24 14 (p1 + x4).toNatClampNeg))), (0, .ref (bd 0)), (1, .int p0), (2, .int p1), (3, .int p2)]) hx hb dX4_goYears_122 hl (k := 1) rfl rfl (by decide) rfl (fun ls hl => ?_)
              refine lv_goto (tgt := 24) hx hb dX4_goYears_125 (by decide) ?_
              exact ih24 (mset (mset (mset (mset w24 0 14 ((w24 0 14) + ((fX4_premiumsOf w24 p0) - (fX4_paidToAll w24 (w24 14 (p1 + x4).toNatClampNeg))))) 0 15 ((mset w24 0 14 ((w24 0 14) + ((fX4_premiumsOf w24 p0) - (fX4_paidToAll w24 (w24 14 (p1 + x4).toNatClampNeg))))) 0 15)) 0 16 (((mset (mset w24 0 14 ((w24 0 14) + ((fX4_premiumsOf w24 p0) - (fX4_paidToAll w24 (w24 14 (p1 + x4).toNatClampNeg))))) 0 15 ((mset w24 0 14 ((w24 0 14) + ((fX4_premiumsOf w24 p0) - (fX4_paidToAll w24 (w24 14 (p1 + x4).toNatClampNeg))))) 0 15)) 0 16) + (fX4_paidToAll w24 (w24 14 (p1 + x4).toNatClampNeg)))) 0 17 (fX4_paidToAll w24 (w24 14 (p1 + x4).toNatClampNeg))) (x4 + 1) (k24 + 1) (by rw [hr24, fX4_goYears_c24, if_neg c1, if_neg c2, if_pos c4, if_neg c5]) (by rw [e24]; exact nI_1 _) hlt24 (by omega) hp24 H locs hP hS ls (lv_sub hl [0, 2, 3, 4, 5] rfl)
          · refine lv_iload hx hb dX4_goYears_77 (lv_at hl 1 rfl) ?_
            refine lv_goto (tgt := 86) hx hb dX4_goYears_79 (by decide) ?_
            refine zp_X4_brokenAt hx hb hts hin_X4 hown hK hP hI hS (hts (Cond.fieldLink RX4 161 "ProphetCoverModel" "brokenAt" "I") (List.mem_of_getElem? (i := 2) rfl)) dX4_goYears_86 (fun H locs hP hS => ?_)
            refine lv_aload_n hx hb dX4_goYears_89 rfl (lv_at hl 2 rfl) ?_
            refine lv_dup hx hb dX4_goYears_90 rfl ?_
            refine zg_X4_paidNow hx hb hts hin_X4 hown hK hP (hts (Cond.fieldLink RX4 164 "ProphetCoverModel" "paidNow" "I") (List.mem_of_getElem? (i := 3) rfl)) dX4_goYears_91 ?_
            refine lv_iload hx hb dX4_goYears_94 (lv_at hl 0 rfl) ?_
            refine lv_iadd hx hb dX4_goYears_96 ?_
            refine zp_X4_paidNow hx hb hts hin_X4 hown hK hP hI hS (hts (Cond.fieldLink RX4 164 "ProphetCoverModel" "paidNow" "I") (List.mem_of_getElem? (i := 3) rfl)) dX4_goYears_97 (fun H locs hP hS => ?_)
            refine lv_aload_n hx hb dX4_goYears_100 rfl (lv_at hl 2 rfl) ?_
            refine lv_iload hx hb dX4_goYears_101 (lv_at hl 0 rfl) ?_
            refine lv_aload_n hx hb dX4_goYears_103 rfl (lv_at hl 2 rfl) ?_
            refine zg_X4_mostPaid hx hb hts hin_X4 hown hK hP (hts (Cond.fieldLink RX4 167 "ProphetCoverModel" "mostPaid" "I") (List.mem_of_getElem? (i := 4) rfl)) dX4_goYears_104 ?_
            refine lv_icmp_le (tgt := 115) hx hb dX4_goYears_107 (by decide) (fun c6 => ?_) (fun c6 => ?_)
            · refine lv_aload_n hx hb dX4_goYears_115 rfl (lv_at hl 2 rfl) ?_
              refine zg_X4_mostPaid hx hb hts hin_X4 hown hK hP (hts (Cond.fieldLink RX4 167 "ProphetCoverModel" "mostPaid" "I") (List.mem_of_getElem? (i := 4) rfl)) dX4_goYears_116 ?_
              refine zp_X4_mostPaid hx hb hts hin_X4 hown hK hP hI hS (hts (Cond.fieldLink RX4 167 "ProphetCoverModel" "mostPaid" "I") (List.mem_of_getElem? (i := 4) rfl)) dX4_goYears_119 (fun H locs hP hS => ?_)
              refine lv_iinc (v := (x4 + 1)) (lv' := [(4, .int (x4 + 1)), (5, .int (fX4_paidToAll w24 (w24 14 (p1 + x4).toNatClampNeg))), (0, .ref (bd 0)), (1, .int p0), (2, .int p1), (3, .int p2)]) hx hb dX4_goYears_122 hl (k := 1) rfl rfl (by decide) rfl (fun ls hl => ?_)
              refine lv_goto (tgt := 24) hx hb dX4_goYears_125 (by decide) ?_
              exact ih24 (mset (mset (mset (mset w24 0 14 ((w24 0 14) + ((fX4_premiumsOf w24 p0) - (fX4_paidToAll w24 (w24 14 (p1 + x4).toNatClampNeg))))) 0 15 x4) 0 16 (((mset (mset w24 0 14 ((w24 0 14) + ((fX4_premiumsOf w24 p0) - (fX4_paidToAll w24 (w24 14 (p1 + x4).toNatClampNeg))))) 0 15 x4) 0 16) + (fX4_paidToAll w24 (w24 14 (p1 + x4).toNatClampNeg)))) 0 17 ((mset (mset (mset w24 0 14 ((w24 0 14) + ((fX4_premiumsOf w24 p0) - (fX4_paidToAll w24 (w24 14 (p1 + x4).toNatClampNeg))))) 0 15 x4) 0 16 (((mset (mset w24 0 14 ((w24 0 14) + ((fX4_premiumsOf w24 p0) - (fX4_paidToAll w24 (w24 14 (p1 + x4).toNatClampNeg))))) 0 15 x4) 0 16) + (fX4_paidToAll w24 (w24 14 (p1 + x4).toNatClampNeg)))) 0 17)) (x4 + 1) (k24 + 1) (by rw [hr24, fX4_goYears_c24, if_neg c1, if_neg c2, if_neg c4, if_pos c6]) (by rw [e24]; exact nI_1 _) hlt24 (by omega) hp24 H locs hP hS ls (lv_sub hl [0, 2, 3, 4, 5] rfl)
            · refine lv_iload hx hb dX4_goYears_110 (lv_at hl 0 rfl) ?_
              refine lv_goto (tgt := 119) hx hb dX4_goYears_112 (by decide) ?_
              refine zp_X4_mostPaid hx hb hts hin_X4 hown hK hP hI hS (hts (Cond.fieldLink RX4 167 "ProphetCoverModel" "mostPaid" "I") (List.mem_of_getElem? (i := 4) rfl)) dX4_goYears_119 (fun H locs hP hS => ?_)
              refine lv_iinc (v := (x4 + 1)) (lv' := [(4, .int (x4 + 1)), (5, .int (fX4_paidToAll w24 (w24 14 (p1 + x4).toNatClampNeg))), (0, .ref (bd 0)), (1, .int p0), (2, .int p1), (3, .int p2)]) hx hb dX4_goYears_122 hl (k := 1) rfl rfl (by decide) rfl (fun ls hl => ?_)
              refine lv_goto (tgt := 24) hx hb dX4_goYears_125 (by decide) ?_
              exact ih24 (mset (mset (mset (mset w24 0 14 ((w24 0 14) + ((fX4_premiumsOf w24 p0) - (fX4_paidToAll w24 (w24 14 (p1 + x4).toNatClampNeg))))) 0 15 x4) 0 16 (((mset (mset w24 0 14 ((w24 0 14) + ((fX4_premiumsOf w24 p0) - (fX4_paidToAll w24 (w24 14 (p1 + x4).toNatClampNeg))))) 0 15 x4) 0 16) + (fX4_paidToAll w24 (w24 14 (p1 + x4).toNatClampNeg)))) 0 17 (fX4_paidToAll w24 (w24 14 (p1 + x4).toNatClampNeg))) (x4 + 1) (k24 + 1) (by rw [hr24, fX4_goYears_c24, if_neg c1, if_neg c2, if_neg c4, if_neg c6]) (by rw [e24]; exact nI_1 _) hlt24 (by omega) hp24 H locs hP hS ls (lv_sub hl [0, 2, 3, 4, 5] rfl)
  exact lp24 (61) (mset (mset (mset (mset v 0 14 0) 0 15 (-9)) 0 16 0) 0 17 0) 0 (0) (by rw [fX4_goYears]) nI_0.symm (by omega) (by omega) hpc H locs hP hS ls (lv_sub hl [0, 1, 2, 3, 4] rfl)
def gyT (w : Mem) (p1 x4 : Int32) : Int32 := fX4_paidToAll w (w 14 (p1 + x4).toNatClampNeg)
def gyB (w : Mem) (p0 p1 x4 : Int32) : Int32 := w 0 14 + (fX4_premiumsOf w p0 - gyT w p1 x4)
def gyR (w : Mem) (p0 p1 x4 : Int32) : Int32 := if 0 ≤ w 0 15 then w 0 15 else if 0 ≤ gyB w p0 p1 x4 then w 0 15 else x4
def gyM (w : Mem) (p1 x4 : Int32) : Int32 := if gyT w p1 x4 ≤ w 0 17 then w 0 17 else gyT w p1 x4
def gyW (w : Mem) (p0 p1 x4 : Int32) : Mem := mset (mset (mset (mset w 0 14 (gyB w p0 p1 x4)) 0 15 (gyR w p0 p1 x4)) 0 16 (w 0 16 + gyT w p1 x4)) 0 17 (gyM w p1 x4)
theorem gy_step (v w : Mem) (p0 p1 p2 x4 : Int32) (n : Nat) : fX4_goYears_c24 v p0 p1 p2 (n + 1) w x4 = if p2 ≤ x4 then w else fX4_goYears_c24 v p0 p1 p2 n (gyW w p0 p1 x4) (x4 + 1) := by
  rw [fX4_goYears_c24]
  simp only [mset_at, mset_nei (show (15 : Nat) ≠ 14 by decide), mset_nei (show (16 : Nat) ≠ 15 by decide), mset_nei (show (16 : Nat) ≠ 14 by decide), mset_nei (show (17 : Nat) ≠ 16 by decide), mset_nei (show (17 : Nat) ≠ 15 by decide), mset_nei (show (17 : Nat) ≠ 14 by decide)]
  unfold gyW gyM gyR gyB
  rw [show fX4_paidToAll w (w 14 (p1 + x4).toNatClampNeg) = gyT w p1 x4 from rfl]
  by_cases c0 : p2 ≤ x4
  · rw [if_pos c0, if_pos c0]
  · rw [if_neg c0, if_neg c0]
    by_cases c1 : 0 ≤ w 0 15
    · rw [if_pos c1, if_pos c1]
      by_cases c3 : gyT w p1 x4 ≤ w 0 17
      · rw [if_pos c3, if_pos c3]
      · rw [if_neg c3, if_neg c3]
    · rw [if_neg c1, if_neg c1]
      by_cases c2 : 0 ≤ w 0 14 + (fX4_premiumsOf w p0 - gyT w p1 x4)
      · rw [if_pos c2, if_pos c2]
        by_cases c3 : gyT w p1 x4 ≤ w 0 17
        · rw [if_pos c3, if_pos c3]
        · rw [if_neg c3, if_neg c3]
      · rw [if_neg c2, if_neg c2]
        by_cases c3 : gyT w p1 x4 ≤ w 0 17
        · rw [if_pos c3, if_pos c3]
        · rw [if_neg c3, if_neg c3]
theorem gyW_o {w : Mem} {p0 p1 x4 : Int32} {a b : Nat} (h : ¬ (a = 0 ∧ 14 ≤ b ∧ b ≤ 17)) : gyW w p0 p1 x4 a b = w a b := by
  unfold gyW
  rw [mset_oo (by omega), mset_oo (by omega), mset_oo (by omega), mset_oo (by omega)]
theorem gyW_14 {w : Mem} {p0 p1 x4 : Int32} : gyW w p0 p1 x4 0 14 = gyB w p0 p1 x4 := by
  unfold gyW
  rw [mset_oo (by omega), mset_oo (by omega), mset_oo (by omega), mset_at]
theorem gyW_15 {w : Mem} {p0 p1 x4 : Int32} : gyW w p0 p1 x4 0 15 = gyR w p0 p1 x4 := by
  unfold gyW
  rw [mset_oo (by omega), mset_oo (by omega), mset_at]
theorem gyW_16 {w : Mem} {p0 p1 x4 : Int32} : gyW w p0 p1 x4 0 16 = w 0 16 + gyT w p1 x4 := by
  unfold gyW
  rw [mset_oo (by omega), mset_at]
theorem gyW_17 {w : Mem} {p0 p1 x4 : Int32} : gyW w p0 p1 x4 0 17 = gyM w p1 x4 := by
  unfold gyW
  rw [mset_at]
theorem gyc_o {v : Mem} {p0 p1 p2 : Int32} {a b : Nat} (h : ¬ (a = 0 ∧ 14 ≤ b ∧ b ≤ 17)) : ∀ (n : Nat) (w : Mem) (x4 : Int32), fX4_goYears_c24 v p0 p1 p2 n w x4 a b = w a b := by
  intro n
  induction n with
  | zero => intro w x4; rfl
  | succ n ih =>
    intro w x4
    rw [gy_step]
    split
    · rfl
    · rw [ih, gyW_o h]
theorem gy_o {v : Mem} {p0 p1 p2 : Int32} {a b : Nat} (h : ¬ (a = 0 ∧ 14 ≤ b ∧ b ≤ 17)) : fX4_goYears v p0 p1 p2 a b = v a b := by
  rw [fX4_goYears, gyc_o h, mset_oo (by omega), mset_oo (by omega), mset_oo (by omega), mset_oo (by omega)]
theorem gy_pc {v : Mem} {a b c : Int32} (h : PcOkM v) : PcOkM (fX4_goYears v a b c) := by
  obtain ⟨n, h1, h2⟩ := h
  exact ⟨n, h1, by rw [gy_o (by omega)]; exact h2⟩
def fX4_paidBy_c6 (v : Mem) (p0 : Int32) (p1 : Int32) (p2 : Int32)  : Nat → Int32 → Int32 → Int32
  | 0, x5, x4 => 0
  | n6 + 1, x5, x4 => (if p2 ≤ x5 then x4 else (fX4_paidBy_c6 v p0 p1 p2 n6 (x5 + 1) (x4 + (fX4_paidTo v p0 (v 14 (p1 + x5).toNatClampNeg)))))
def fX4_paidBy (v : Mem) (p0 : Int32) (p1 : Int32) (p2 : Int32) : Int32 :=
  (fX4_paidBy_c6 v p0 p1 p2 (61) 0 0)
set_option maxRecDepth 100000 in
set_option maxHeartbeats 4000000 in
theorem kX4_paidBy (l : Launch) (D : va_G) (cz : ClassId) (bd : Nat → Nat) (v : Mem) (p0 : Int32) (p1 : Int32) (p2 : Int32) (hp : vp_in p0 4) (hgr : GrOk p1 p2) : Met l yX4_paidBy wsX4_paidBy ({ frames := 3, cells := 0, slots := 0, locals := 63 } : Room) (va_Pc [.ref (bd 0), .int p0, .int p1, .int p2] (MB D cz bd v)) (qR (some (.int (fX4_paidBy v p0 p1 p2)))) 0 0 noF := by
  refine m_start (cc := cX4_paidBy) (maxL := 6) (ret := (some .int)) (by decide) rfl (Nat.le_of_ble_eq_true rfl) (fun p e s m below meth c hx hb hr hts hown hml hlk _ hB ls hl => ?_)
  obtain ⟨hP, hK⟩ := hB
  have hown : s.vm.findClass RX4 = some m.cls := hown
  have hl : lv_has ls 6 [(0, .ref (bd 0)), (1, .int p0), (2, .int p1), (3, .int p2)] := hl
  have hin_X4 : ∀ w ∈ wsX40, w ∈ wsX4_paidBy := fun _ h => List.mem_cons_of_mem _ (List.mem_append_right _ (h))
  obtain ⟨a, b, ea, eb, hb60, hab⟩ := id hgr
  refine lv_iconst (v := 0) hx hb dX4_paidBy_0 (by decide) ?_
  refine lv_istore (lv' := [(4, .int 0), (0, .ref (bd 0)), (1, .int p0), (2, .int p1), (3, .int p2)]) hx hb dX4_paidBy_1 hl (by decide) rfl (fun ls hl => ?_)
  refine lv_iconst (v := 0) hx hb dX4_paidBy_3 (by decide) ?_
  refine lv_istore (lv' := [(5, .int 0), (4, .int 0), (0, .ref (bd 0)), (1, .int p0), (2, .int p1), (3, .int p2)]) hx hb dX4_paidBy_4 hl (by decide) rfl (fun ls hl => ?_)
  have lp6 : ∀ (n6 : Nat) (x5 : Int32) (x4 : Int32) (k6 : Nat), (fX4_paidBy v p0 p1 p2) = (fX4_paidBy_c6 v p0 p1 p2 n6 x5 x4) → (x5 = nI k6) → (k6 ≤ b) → (b < k6 + n6) → ∀ ls : Array Slot, lv_has ls 6 [(5, .int x5), (4, .int x4), (0, .ref (bd 0)), (1, .int p0), (2, .int p1), (3, .int p2)] → W p l e ({ frames := 3, cells := 0, slots := 0, locals := 63 } : Room) s m ([.ref (bd 0), .int p0, .int p1, .int p2] : List Value).toArray below meth c s.heap [] 0 0 (MQ below (qR (some (.int (fX4_paidBy v p0 p1 p2)))) ([.ref (bd 0), .int p0, .int p1, .int p2] : List Value).toArray s 0 0 noF) (F0 m 6 ls []) := by
    intro n6
    induction n6 with
    | zero =>
      intro x5 x4 k6 _ e6 hk6 hm6 ls hl
      exfalso; omega
    | succ n6 ih6 =>
      intro x5 x4 k6 hr6 e6 hk6 hm6 ls hl
      refine lv_iload hx hb dX4_paidBy_6 (lv_at hl 0 rfl) ?_
      refine lv_iload_n hx hb dX4_paidBy_8 rfl (lv_at hl 5 rfl) ?_
      refine lv_icmp_ge (tgt := 37) hx hb dX4_paidBy_9 (by decide) (fun c1 => ?_) (fun c1 => ?_)
      · refine lv_iload hx hb dX4_paidBy_37 (lv_at hl 1 rfl) ?_
        exact rI hx hb hr hlk dX4_paidBy_39 (by rw [hr6, fX4_paidBy_c6, if_pos c1])
      · have hlt6 : k6 < b := cnt_lt eb e6 (by omega) (by omega) c1
        have hv6 : vp_in (p1 + x5) 240 := cnt_in (by rw [ea, e6]; exact nI_add a k6) (by omega) (by decide)
        refine lv_iload hx hb dX4_paidBy_12 (lv_at hl 1 rfl) ?_
        refine lv_aload_n hx hb dX4_paidBy_14 rfl (lv_at hl 2 rfl) ?_
        refine lv_iload_n hx hb dX4_paidBy_15 rfl (lv_at hl 3 rfl) ?_
        refine lv_aload_n hx hb dX4_paidBy_16 rfl (lv_at hl 2 rfl) ?_
        refine zg_X4_sheet hx hb hts hin_X4 hown hK hP (hts (Cond.fieldLink RX4 49 "ProphetCoverModel" "sheet" "[I") (List.mem_of_getElem? (i := 1) rfl)) dX4_paidBy_17 ?_
        refine lv_iload_n hx hb dX4_paidBy_20 rfl (lv_at hl 4 rfl) ?_
        refine lv_iload hx hb dX4_paidBy_21 (lv_at hl 0 rfl) ?_
        refine lv_iadd hx hb dX4_paidBy_23 ?_
        refine zl_M (by decide) (by decide) rfl hx hb hK hP (by assumption) dX4_paidBy_24 ?_
        refine kV (n := 2) (As := [.int p0, .int (v 14 (p1 + x5).toNatClampNeg)]) (rest := [.int x4]) ⟨hx, hb, hml, hown, hts⟩ (kX4_paidTo l D cz bd v p0 (v 14 (p1 + x5).toNatClampNeg) (by assumption)) gX4_paidBy_X4_paidTo rfl rfl rfl (by decide +kernel) ⟨Nat.le_of_ble_eq_true rfl, Nat.le_of_ble_eq_true rfl⟩ (recvM hP hK) (MB_of hP hK) MB_bl rfl hl.1 rfl (Nat.le_of_ble_eq_true rfl) dX4_paidBy_25 ⟨Nat.le_refl _, Nat.le_refl _⟩ ?_
        refine lv_iadd hx hb dX4_paidBy_28 ?_
        refine lv_istore (lv' := [(4, .int (x4 + (fX4_paidTo v p0 (v 14 (p1 + x5).toNatClampNeg)))), (5, .int x5), (0, .ref (bd 0)), (1, .int p0), (2, .int p1), (3, .int p2)]) hx hb dX4_paidBy_29 hl (by decide) rfl (fun ls hl => ?_)
        refine lv_iinc (v := (x5 + 1)) (lv' := [(5, .int (x5 + 1)), (4, .int (x4 + (fX4_paidTo v p0 (v 14 (p1 + x5).toNatClampNeg)))), (0, .ref (bd 0)), (1, .int p0), (2, .int p1), (3, .int p2)]) hx hb dX4_paidBy_31 hl (k := 1) rfl rfl (by decide) rfl (fun ls hl => ?_)
        refine lv_goto (tgt := 6) hx hb dX4_paidBy_34 (by decide) ?_
        exact ih6 (x5 + 1) (x4 + (fX4_paidTo v p0 (v 14 (p1 + x5).toNatClampNeg))) (k6 + 1) (by rw [hr6, fX4_paidBy_c6, if_neg c1]) (by rw [e6]; exact nI_1 _) hlt6 (by omega) ls (lv_sub hl [0, 1, 2, 3, 4, 5] rfl)
  exact lp6 (61) 0 0 (0) (by rw [fX4_paidBy]) nI_0.symm (by omega) (by omega) ls (lv_sub hl [0, 1, 2, 3, 4, 5] rfl)
def fX4_years_c135 (v : Mem) (p0 : Int32) (p1 : Int32) (p2 : Int32) (p3 : Int32) (p4 : Int32) (p5 : Int32)  : Nat → Int32 → Int32 × Mem
  | 0, x9 => (0, v)
  | n135 + 1, x9 => (if p4 ≤ x9 then (if p5 ≤ 9 then (if p5 = 0 then ((fX4_refused (fX4_goYears v p0 ((60 * p1) + p3) p4) ((fX4_goYears v p0 ((60 * p1) + p3) p4) 0 14)).1, (fX4_refused (fX4_goYears v p0 ((60 * p1) + p3) p4) ((fX4_goYears v p0 ((60 * p1) + p3) p4) 0 14)).2) else (if p5 = 1 then ((fX4_refused (fX4_goYears v p0 ((60 * p1) + p3) p4) ((fX4_goYears v p0 ((60 * p1) + p3) p4) 0 15)).1, (fX4_refused (fX4_goYears v p0 ((60 * p1) + p3) p4) ((fX4_goYears v p0 ((60 * p1) + p3) p4) 0 15)).2) else (if p5 = 2 then ((fX4_refused (fX4_goYears v p0 ((60 * p1) + p3) p4) ((fX4_goYears v p0 ((60 * p1) + p3) p4) 0 16)).1, (fX4_refused (fX4_goYears v p0 ((60 * p1) + p3) p4) ((fX4_goYears v p0 ((60 * p1) + p3) p4) 0 16)).2) else ((fX4_refused (fX4_goYears v p0 ((60 * p1) + p3) p4) ((fX4_goYears v p0 ((60 * p1) + p3) p4) 0 17)).1, (fX4_refused (fX4_goYears v p0 ((60 * p1) + p3) p4) ((fX4_goYears v p0 ((60 * p1) + p3) p4) 0 17)).2)))) else (if (fX4_noProphet (fX4_goYears v p0 ((60 * p1) + p3) p4) (p5 - 10)) = 0 then ((fX4_refused (fX4_goYears v p0 ((60 * p1) + p3) p4) (fX4_paidBy (fX4_goYears v p0 ((60 * p1) + p3) p4) (p5 - 10) ((60 * p1) + p3) p4)).1, (fX4_refused (fX4_goYears v p0 ((60 * p1) + p3) p4) (fX4_paidBy (fX4_goYears v p0 ((60 * p1) + p3) p4) (p5 - 10) ((60 * p1) + p3) p4)).2) else ((fX4_refused (fX4_goYears v p0 ((60 * p1) + p3) p4) (-9)).1, (fX4_refused (fX4_goYears v p0 ((60 * p1) + p3) p4) (-9)).2))) else (if (fX4_noSet v (v 14 (((60 * p1) + p3) + x9).toNatClampNeg)) = 0 then (fX4_years_c135 v p0 p1 p2 p3 p4 p5 n135 (x9 + 1)) else ((fX4_refused v (-2)).1, (fX4_refused v (-2)).2)))
def fX4_years_c46 (v : Mem) (p0 : Int32) (p1 : Int32) (p2 : Int32) (p3 : Int32) (p4 : Int32) (p5 : Int32)  (z0 : Int32) : Int32 × Mem :=
  (if (fX4_in ((p0).toInt64) 0 9) = 0 then ((fX4_refused v (-2)).1, (fX4_refused v (-2)).2) else (if (fX4_in ((p2).toInt64) 0 2) = 0 then ((fX4_refused v (-2)).1, (fX4_refused v (-2)).2) else (if (fX4_in ((p4).toInt64) 0 40) = 0 then ((fX4_refused v (-2)).1, (fX4_refused v (-2)).2) else (if z0 = 0 then ((fX4_refused v (-2)).1, (fX4_refused v (-2)).2) else (if (v 0 3) = 0 then ((fX4_refused v (-3)).1, (fX4_refused v (-3)).2) else (if 0 ≤ (fX4_cellsBarred v p1 p2 p3 ((p4).toInt64)).1 then (fX4_years_c135 v p0 p1 p2 p3 p4 p5 (61) 0) else ((fX4_cellsBarred v p1 p2 p3 ((p4).toInt64)).1, (fX4_cellsBarred v p1 p2 p3 ((p4).toInt64)).2)))))))
def fX4_years (v : Mem) (p0 : Int32) (p1 : Int32) (p2 : Int32) (p3 : Int32) (p4 : Int32) (p5 : Int32) : Int32 × Mem :=
  (if (fX4_noSheet p1) = 0 then (if (fX4_in ((p5).toInt64) 0 3) = 0 then (if (fX4_in ((p5).toInt64) 10 13) = 0 then (fX4_years_c46 v p0 p1 p2 p3 p4 p5 0) else (fX4_years_c46 v p0 p1 p2 p3 p4 p5 1)) else (fX4_years_c46 v p0 p1 p2 p3 p4 p5 1)) else ((fX4_refused v (-1)).1, (fX4_refused v (-1)).2))
set_option maxRecDepth 100000 in
set_option maxHeartbeats 4000000 in
theorem kX4_years (l : Launch) (D : va_G) (cz : ClassId) (bd : Nat → Nat) (hI : MI bd) (v : Mem) (p0 : Int32) (p1 : Int32) (p2 : Int32) (p3 : Int32) (p4 : Int32) (p5 : Int32) (hpc : PcOkM v) (hec : EcOkM v) (hsz : SzOkM v) : Met l yX4_years wsX4_years ({ frames := 5, cells := 0, slots := 0, locals := 111 } : Room) (va_Pc [.ref (bd 0), .int p0, .int p1, .int p2, .int p3, .int p4, .int p5] (MB D cz bd v)) (qW (MB D cz bd (fX4_years v p0 p1 p2 p3 p4 p5).2) (AM bd) (some (.int (fX4_years v p0 p1 p2 p3 p4 p5).1))) 0 0 (AM bd) := by
  refine m_start (cc := cX4_years) (maxL := 10) (ret := (some .int)) (by decide) rfl (Nat.le_of_ble_eq_true rfl) (fun p e s m below meth c hx hb hr hts hown hml hlk _ hB ls hl => ?_)
  obtain ⟨hP, hK⟩ := hB
  have hown : s.vm.findClass RX4 = some m.cls := hown
  have hl : lv_has ls 10 [(0, .ref (bd 0)), (1, .int p0), (2, .int p1), (3, .int p2), (4, .int p3), (5, .int p4), (6, .int p5)] := hl
  have hin_X4 : ∀ w ∈ wsX40, w ∈ wsX4_years := fun _ h => List.mem_cons_of_mem _ (List.mem_append_right _ (h))
  obtain ⟨H, hH⟩ : ∃ H, H = s.heap := ⟨_, rfl⟩
  obtain ⟨locs, hlo⟩ : ∃ z : List Loc, z = [] := ⟨_, rfl⟩
  have hS : va_S (AM bd) s.heap H locs := by rw [hH, hlo]; exact va_S.rf
  have hP : va_P D vwCl (wM cz bd v) H := by rw [hH]; exact hP
  suffices hgoal : W p l e ({ frames := 5, cells := 0, slots := 0, locals := 111 } : Room) s m ([.ref (bd 0), .int p0, .int p1, .int p2, .int p3, .int p4, .int p5] : List Value).toArray below meth c H locs 0 0 (MQ below (qW (MB D cz bd (fX4_years v p0 p1 p2 p3 p4 p5).2) (AM bd) (some (.int (fX4_years v p0 p1 p2 p3 p4 p5).1))) ([.ref (bd 0), .int p0, .int p1, .int p2, .int p3, .int p4, .int p5] : List Value).toArray s 0 0 (AM bd)) (F0 m 0 ls []) by rw [hH, hlo] at hgoal; exact hgoal
  clear hH hlo
  have sg46 : ∀ (z0 : Int32), (fX4_years v p0 p1 p2 p3 p4 p5) = (fX4_years_c46 v p0 p1 p2 p3 p4 p5 z0) → (vp_in p1 4) → ∀ ls : Array Slot, lv_has ls 10 [(0, .ref (bd 0)), (1, .int p0), (2, .int p1), (3, .int p2), (4, .int p3), (5, .int p4), (6, .int p5)] → W p l e ({ frames := 5, cells := 0, slots := 0, locals := 111 } : Room) s m ([.ref (bd 0), .int p0, .int p1, .int p2, .int p3, .int p4, .int p5] : List Value).toArray below meth c H locs 0 0 (MQ below (qW (MB D cz bd (fX4_years v p0 p1 p2 p3 p4 p5).2) (AM bd) (some (.int (fX4_years v p0 p1 p2 p3 p4 p5).1))) ([.ref (bd 0), .int p0, .int p1, .int p2, .int p3, .int p4, .int p5] : List Value).toArray s 0 0 (AM bd)) (F0 m 46 ls [.int z0]) := by
    intro z0 hr46 hvs ls hl
    refine lv_istore (lv' := [(7, .int z0), (0, .ref (bd 0)), (1, .int p0), (2, .int p1), (3, .int p2), (4, .int p3), (5, .int p4), (6, .int p5)]) hx hb dX4_years_46 hl (by decide) rfl (fun ls hl => ?_)
    refine lv_iload_n hx hb dX4_years_48 rfl (lv_at hl 2 rfl) ?_
    refine lv_i2l hx hb dX4_years_49 rfl ?_
    refine lv_lconst (v := 0) hx hb dX4_years_50 (by decide) ?_
    refine lv_ldc2 hx hb hown (hts (Cond.constantLong RX4 133 (9)) (List.mem_of_getElem? (i := 4) rfl)) dX4_years_51 ?_
    refine kS (n := 3) (As := [.long (p0).toInt64, .long 0, .long 9]) (rest := []) ⟨hx, hb, hml, hown, hts⟩ (kX4_in l ((p0).toInt64) 0 9) gX4_years_X4_in rfl rfl rfl (by decide +kernel) ⟨Nat.le_of_ble_eq_true rfl, Nat.le_of_ble_eq_true rfl⟩ (fun _ _ _ => trivial) (fun _ _ _ _ _ => trivial) rfl hl.1 rfl (Nat.le_of_ble_eq_true rfl) dX4_years_54 ⟨Nat.le_refl _, Nat.le_refl _⟩ ?_
    refine lv_if_eq (tgt := 90) hx hb dX4_years_57 (by decide) (fun c1 => ?_) (fun c1 => ?_)
    · refine lv_aload_n hx hb dX4_years_90 rfl (lv_at hl 1 rfl) ?_
      refine lv_bipush (v := (-2)) hx hb dX4_years_91 (by decide) ?_
      refine kWM (n := 1) (As := [.int (-2)]) (rest := []) ⟨hx, hb, hml, hown, hts⟩ (kX4_refused l D cz bd hI v (-2)) gX4_years_X4_refused rfl rfl rfl (by decide +kernel) ⟨Nat.le_of_ble_eq_true rfl, Nat.le_of_ble_eq_true rfl⟩ (recvM hP hK) hP hK hS rfl hl.1 rfl (Nat.le_of_ble_eq_true rfl) dX4_years_93 ⟨Nat.le_refl _, Nat.le_refl _⟩ (fun H locs hP hS => ?_)
      exact rMI hx hb hr hlk hK hP hS dX4_years_96 (by rw [hr46, fX4_years_c46, if_pos c1])
    · refine lv_iload_n hx hb dX4_years_60 rfl (lv_at hl 4 rfl) ?_
      refine lv_i2l hx hb dX4_years_61 rfl ?_
      refine lv_lconst (v := 0) hx hb dX4_years_62 (by decide) ?_
      refine lv_ldc2 hx hb hown (hts (Cond.constantLong RX4 118 (2)) (List.mem_of_getElem? (i := 5) rfl)) dX4_years_63 ?_
      refine kS (n := 3) (As := [.long (p2).toInt64, .long 0, .long 2]) (rest := []) ⟨hx, hb, hml, hown, hts⟩ (kX4_in l ((p2).toInt64) 0 2) gX4_years_X4_in rfl rfl rfl (by decide +kernel) ⟨Nat.le_of_ble_eq_true rfl, Nat.le_of_ble_eq_true rfl⟩ (fun _ _ _ => trivial) (fun _ _ _ _ _ => trivial) rfl hl.1 rfl (Nat.le_of_ble_eq_true rfl) dX4_years_66 ⟨Nat.le_refl _, Nat.le_refl _⟩ ?_
      refine lv_if_eq (tgt := 90) hx hb dX4_years_69 (by decide) (fun c2 => ?_) (fun c2 => ?_)
      · refine lv_aload_n hx hb dX4_years_90 rfl (lv_at hl 1 rfl) ?_
        refine lv_bipush (v := (-2)) hx hb dX4_years_91 (by decide) ?_
        refine kWM (n := 1) (As := [.int (-2)]) (rest := []) ⟨hx, hb, hml, hown, hts⟩ (kX4_refused l D cz bd hI v (-2)) gX4_years_X4_refused rfl rfl rfl (by decide +kernel) ⟨Nat.le_of_ble_eq_true rfl, Nat.le_of_ble_eq_true rfl⟩ (recvM hP hK) hP hK hS rfl hl.1 rfl (Nat.le_of_ble_eq_true rfl) dX4_years_93 ⟨Nat.le_refl _, Nat.le_refl _⟩ (fun H locs hP hS => ?_)
        exact rMI hx hb hr hlk hK hP hS dX4_years_96 (by rw [hr46, fX4_years_c46, if_neg c1, if_pos c2])
      · refine lv_iload hx hb dX4_years_72 (lv_at hl 6 rfl) ?_
        refine lv_i2l hx hb dX4_years_74 rfl ?_
        refine lv_lconst (v := 0) hx hb dX4_years_75 (by decide) ?_
        refine lv_ldc2 hx hb hown (hts (Cond.constantLong RX4 179 (40)) (List.mem_of_getElem? (i := 6) rfl)) dX4_years_76 ?_
        refine kS (n := 3) (As := [.long (p4).toInt64, .long 0, .long 40]) (rest := []) ⟨hx, hb, hml, hown, hts⟩ (kX4_in l ((p4).toInt64) 0 40) gX4_years_X4_in rfl rfl rfl (by decide +kernel) ⟨Nat.le_of_ble_eq_true rfl, Nat.le_of_ble_eq_true rfl⟩ (fun _ _ _ => trivial) (fun _ _ _ _ _ => trivial) rfl hl.1 rfl (Nat.le_of_ble_eq_true rfl) dX4_years_79 ⟨Nat.le_refl _, Nat.le_refl _⟩ ?_
        refine lv_if_eq (tgt := 90) hx hb dX4_years_82 (by decide) (fun c3 => ?_) (fun c3 => ?_)
        · refine lv_aload_n hx hb dX4_years_90 rfl (lv_at hl 1 rfl) ?_
          refine lv_bipush (v := (-2)) hx hb dX4_years_91 (by decide) ?_
          refine kWM (n := 1) (As := [.int (-2)]) (rest := []) ⟨hx, hb, hml, hown, hts⟩ (kX4_refused l D cz bd hI v (-2)) gX4_years_X4_refused rfl rfl rfl (by decide +kernel) ⟨Nat.le_of_ble_eq_true rfl, Nat.le_of_ble_eq_true rfl⟩ (recvM hP hK) hP hK hS rfl hl.1 rfl (Nat.le_of_ble_eq_true rfl) dX4_years_93 ⟨Nat.le_refl _, Nat.le_refl _⟩ (fun H locs hP hS => ?_)
          exact rMI hx hb hr hlk hK hP hS dX4_years_96 (by rw [hr46, fX4_years_c46, if_neg c1, if_neg c2, if_pos c3])
        · refine lv_iload hx hb dX4_years_85 (lv_at hl 0 rfl) ?_
          refine lv_if_ne (tgt := 97) hx hb dX4_years_87 (by decide) (fun c4 => ?_) (fun c4 => ?_)
          · refine lv_aload_n hx hb dX4_years_97 rfl (lv_at hl 1 rfl) ?_
            refine zg_X4_prophets hx hb hts hin_X4 hown hK hP (hts (Cond.fieldLink RX4 72 "ProphetCoverModel" "prophets" "I") (List.mem_of_getElem? (i := 7) rfl)) dX4_years_98 ?_
            refine lv_if_ne (tgt := 111) hx hb dX4_years_101 (by decide) (fun c5 => ?_) (fun c5 => ?_)
            · refine lv_aload_n hx hb dX4_years_111 rfl (lv_at hl 1 rfl) ?_
              refine lv_iload_n hx hb dX4_years_112 rfl (lv_at hl 3 rfl) ?_
              refine lv_iload_n hx hb dX4_years_113 rfl (lv_at hl 4 rfl) ?_
              refine lv_iload hx hb dX4_years_114 (lv_at hl 5 rfl) ?_
              refine lv_iload hx hb dX4_years_116 (lv_at hl 6 rfl) ?_
              refine lv_i2l hx hb dX4_years_118 rfl ?_
              refine kWM (n := 4) (As := [.int p1, .int p2, .int p3, .long (p4).toInt64]) (rest := []) ⟨hx, hb, hml, hown, hts⟩ (kX4_cellsBarred l D cz bd hI v p1 p2 p3 ((p4).toInt64) (by assumption)) gX4_years_X4_cellsBarred rfl rfl rfl (by decide +kernel) ⟨Nat.le_of_ble_eq_true rfl, Nat.le_of_ble_eq_true rfl⟩ (recvM hP hK) hP hK hS rfl hl.1 rfl (Nat.le_of_ble_eq_true rfl) dX4_years_119 ⟨Nat.le_refl _, Nat.le_refl _⟩ (fun H locs hP hS => ?_)
              refine lv_istore (lv' := [(8, .int (fX4_cellsBarred v p1 p2 p3 ((p4).toInt64)).1), (7, .int z0), (0, .ref (bd 0)), (1, .int p0), (2, .int p1), (3, .int p2), (4, .int p3), (5, .int p4), (6, .int p5)]) hx hb dX4_years_122 hl (by decide) rfl (fun ls hl => ?_)
              refine lv_iload hx hb dX4_years_124 (lv_at hl 0 rfl) ?_
              refine lv_if_ge (tgt := 132) hx hb dX4_years_126 (by decide) (fun c6 => ?_) (fun c6 => ?_)
              · have hmem : (fX4_cellsBarred v p1 p2 p3 ((p4).toInt64)).2 = v := (cb_mem c6)
                have hP : va_P D vwCl (wM cz bd v) H := hmem ▸ hP
                have hgr : GrOk (60 * p1 + p3) p4 := cb_gr hsz (by assumption) (by assumption)
                obtain ⟨gg, nn, eg, enn, hnn, hgn⟩ := id hgr
                refine lv_iconst (v := 0) hx hb dX4_years_132 (by decide) ?_
                refine lv_istore (lv' := [(9, .int 0), (8, .int (fX4_cellsBarred v p1 p2 p3 ((p4).toInt64)).1), (7, .int z0), (0, .ref (bd 0)), (1, .int p0), (2, .int p1), (3, .int p2), (4, .int p3), (5, .int p4), (6, .int p5)]) hx hb dX4_years_133 hl (by decide) rfl (fun ls hl => ?_)
                have lp135 : ∀ (n135 : Nat) (x9 : Int32) (k135 : Nat), (fX4_years v p0 p1 p2 p3 p4 p5) = (fX4_years_c135 v p0 p1 p2 p3 p4 p5 n135 x9) → (x9 = nI k135) → (k135 ≤ nn) → (nn < k135 + n135) → ∀ ls : Array Slot, lv_has ls 10 [(9, .int x9), (0, .ref (bd 0)), (1, .int p0), (2, .int p1), (4, .int p3), (5, .int p4), (6, .int p5)] → W p l e ({ frames := 5, cells := 0, slots := 0, locals := 111 } : Room) s m ([.ref (bd 0), .int p0, .int p1, .int p2, .int p3, .int p4, .int p5] : List Value).toArray below meth c H locs 0 0 (MQ below (qW (MB D cz bd (fX4_years v p0 p1 p2 p3 p4 p5).2) (AM bd) (some (.int (fX4_years v p0 p1 p2 p3 p4 p5).1))) ([.ref (bd 0), .int p0, .int p1, .int p2, .int p3, .int p4, .int p5] : List Value).toArray s 0 0 (AM bd)) (F0 m 135 ls []) := by
                  intro n135
                  induction n135 with
                  | zero =>
                    intro x9 k135 _ e135 hk135 hm135 ls hl
                    exfalso; omega
                  | succ n135 ih135 =>
                    intro x9 k135 hr135 e135 hk135 hm135 ls hl
                    refine lv_iload hx hb dX4_years_135 (lv_at hl 0 rfl) ?_
                    refine lv_iload hx hb dX4_years_137 (lv_at hl 5 rfl) ?_
                    refine lv_icmp_ge (tgt := 177) hx hb dX4_years_139 (by decide) (fun c7 => ?_) (fun c7 => ?_)
                    · refine lv_aload_n hx hb dX4_years_177 rfl (lv_at hl 1 rfl) ?_
                      refine lv_iload_n hx hb dX4_years_178 rfl (lv_at hl 2 rfl) ?_
                      refine lv_bipush (v := 60) hx hb dX4_years_179 (by decide) ?_
                      refine lv_iload_n hx hb dX4_years_181 rfl (lv_at hl 3 rfl) ?_
                      refine lv_imul hx hb dX4_years_182 ?_
                      refine lv_iload hx hb dX4_years_183 (lv_at hl 4 rfl) ?_
                      refine lv_iadd hx hb dX4_years_185 ?_
                      refine lv_iload hx hb dX4_years_186 (lv_at hl 5 rfl) ?_
                      refine kWMv (n := 3) (As := [.int p0, .int ((60 * p1) + p3), .int p4]) (rest := []) ⟨hx, hb, hml, hown, hts⟩ (kX4_goYears l D cz bd hI v p0 ((60 * p1) + p3) p4 (by first | exact hpc | assumption) (by assumption)) gX4_years_X4_goYears rfl rfl rfl (by decide +kernel) ⟨Nat.le_of_ble_eq_true rfl, Nat.le_of_ble_eq_true rfl⟩ (recvM hP hK) hP hK hS rfl hl.1 rfl (Nat.le_of_ble_eq_true rfl) dX4_years_188 ⟨Nat.le_refl _, Nat.le_refl _⟩ (fun H locs hP hS => ?_)
                      refine lv_iload hx hb dX4_years_191 (lv_at hl 6 rfl) ?_
                      refine lv_bipush (v := 9) hx hb dX4_years_193 (by decide) ?_
                      refine lv_icmp_le (tgt := 238) hx hb dX4_years_195 (by decide) (fun c8 => ?_) (fun c8 => ?_)
                      · refine lv_aload_n hx hb dX4_years_238 rfl (lv_at hl 1 rfl) ?_
                        refine lv_iload hx hb dX4_years_239 (lv_at hl 6 rfl) ?_
                        refine lv_if_ne (tgt := 251) hx hb dX4_years_241 (by decide) (fun c9 => ?_) (fun c9 => ?_)
                        · refine lv_iload hx hb dX4_years_251 (lv_at hl 6 rfl) ?_
                          refine lv_iconst (v := 1) hx hb dX4_years_253 (by decide) ?_
                          refine lv_icmp_ne (tgt := 264) hx hb dX4_years_254 (by decide) (fun c10 => ?_) (fun c10 => ?_)
                          · refine lv_iload hx hb dX4_years_264 (lv_at hl 6 rfl) ?_
                            refine lv_iconst (v := 2) hx hb dX4_years_266 (by decide) ?_
                            refine lv_icmp_ne (tgt := 277) hx hb dX4_years_267 (by decide) (fun c11 => ?_) (fun c11 => ?_)
                            · refine lv_aload_n hx hb dX4_years_277 rfl (lv_at hl 1 rfl) ?_
                              refine zg_X4_mostPaid hx hb hts hin_X4 hown hK hP (hts (Cond.fieldLink RX4 167 "ProphetCoverModel" "mostPaid" "I") (List.mem_of_getElem? (i := 12) rfl)) dX4_years_278 ?_
                              refine kWM (n := 1) (As := [.int ((fX4_goYears v p0 ((60 * p1) + p3) p4) 0 17)]) (rest := []) ⟨hx, hb, hml, hown, hts⟩ (kX4_refused l D cz bd hI (fX4_goYears v p0 ((60 * p1) + p3) p4) ((fX4_goYears v p0 ((60 * p1) + p3) p4) 0 17)) gX4_years_X4_refused rfl rfl rfl (by decide +kernel) ⟨Nat.le_of_ble_eq_true rfl, Nat.le_of_ble_eq_true rfl⟩ (recvM hP hK) hP hK hS rfl hl.1 rfl (Nat.le_of_ble_eq_true rfl) dX4_years_281 ⟨Nat.le_refl _, Nat.le_refl _⟩ (fun H locs hP hS => ?_)
                              exact rMI hx hb hr hlk hK hP hS dX4_years_284 (by rw [hr135, fX4_years_c135, if_pos c7, if_pos c8, if_neg c9, if_neg c10, if_neg c11])
                            · refine lv_aload_n hx hb dX4_years_270 rfl (lv_at hl 1 rfl) ?_
                              refine zg_X4_paidNow hx hb hts hin_X4 hown hK hP (hts (Cond.fieldLink RX4 164 "ProphetCoverModel" "paidNow" "I") (List.mem_of_getElem? (i := 11) rfl)) dX4_years_271 ?_
                              refine lv_goto (tgt := 281) hx hb dX4_years_274 (by decide) ?_
                              refine kWM (n := 1) (As := [.int ((fX4_goYears v p0 ((60 * p1) + p3) p4) 0 16)]) (rest := []) ⟨hx, hb, hml, hown, hts⟩ (kX4_refused l D cz bd hI (fX4_goYears v p0 ((60 * p1) + p3) p4) ((fX4_goYears v p0 ((60 * p1) + p3) p4) 0 16)) gX4_years_X4_refused rfl rfl rfl (by decide +kernel) ⟨Nat.le_of_ble_eq_true rfl, Nat.le_of_ble_eq_true rfl⟩ (recvM hP hK) hP hK hS rfl hl.1 rfl (Nat.le_of_ble_eq_true rfl) dX4_years_281 ⟨Nat.le_refl _, Nat.le_refl _⟩ (fun H locs hP hS => ?_)
                              exact rMI hx hb hr hlk hK hP hS dX4_years_284 (by rw [hr135, fX4_years_c135, if_pos c7, if_pos c8, if_neg c9, if_neg c10, if_pos c11])
                          · refine lv_aload_n hx hb dX4_years_257 rfl (lv_at hl 1 rfl) ?_
                            refine zg_X4_brokenAt hx hb hts hin_X4 hown hK hP (hts (Cond.fieldLink RX4 161 "ProphetCoverModel" "brokenAt" "I") (List.mem_of_getElem? (i := 10) rfl)) dX4_years_258 ?_
                            refine lv_goto (tgt := 281) hx hb dX4_years_261 (by decide) ?_
                            refine kWM (n := 1) (As := [.int ((fX4_goYears v p0 ((60 * p1) + p3) p4) 0 15)]) (rest := []) ⟨hx, hb, hml, hown, hts⟩ (kX4_refused l D cz bd hI (fX4_goYears v p0 ((60 * p1) + p3) p4) ((fX4_goYears v p0 ((60 * p1) + p3) p4) 0 15)) gX4_years_X4_refused rfl rfl rfl (by decide +kernel) ⟨Nat.le_of_ble_eq_true rfl, Nat.le_of_ble_eq_true rfl⟩ (recvM hP hK) hP hK hS rfl hl.1 rfl (Nat.le_of_ble_eq_true rfl) dX4_years_281 ⟨Nat.le_refl _, Nat.le_refl _⟩ (fun H locs hP hS => ?_)
                            exact rMI hx hb hr hlk hK hP hS dX4_years_284 (by rw [hr135, fX4_years_c135, if_pos c7, if_pos c8, if_neg c9, if_pos c10])
                        · refine lv_aload_n hx hb dX4_years_244 rfl (lv_at hl 1 rfl) ?_
                          refine zg_X4_stands hx hb hts hin_X4 hown hK hP (hts (Cond.fieldLink RX4 158 "ProphetCoverModel" "stands" "I") (List.mem_of_getElem? (i := 9) rfl)) dX4_years_245 ?_
                          refine lv_goto (tgt := 281) hx hb dX4_years_248 (by decide) ?_
                          refine kWM (n := 1) (As := [.int ((fX4_goYears v p0 ((60 * p1) + p3) p4) 0 14)]) (rest := []) ⟨hx, hb, hml, hown, hts⟩ (kX4_refused l D cz bd hI (fX4_goYears v p0 ((60 * p1) + p3) p4) ((fX4_goYears v p0 ((60 * p1) + p3) p4) 0 14)) gX4_years_X4_refused rfl rfl rfl (by decide +kernel) ⟨Nat.le_of_ble_eq_true rfl, Nat.le_of_ble_eq_true rfl⟩ (recvM hP hK) hP hK hS rfl hl.1 rfl (Nat.le_of_ble_eq_true rfl) dX4_years_281 ⟨Nat.le_refl _, Nat.le_refl _⟩ (fun H locs hP hS => ?_)
                          exact rMI hx hb hr hlk hK hP hS dX4_years_284 (by rw [hr135, fX4_years_c135, if_pos c7, if_pos c8, if_pos c9])
                      · have hpy : PcOkM (fX4_goYears v p0 ((60 * p1) + p3) p4) := gy_pc hpc
                        refine lv_aload_n hx hb dX4_years_198 rfl (lv_at hl 1 rfl) ?_
                        refine lv_aload_n hx hb dX4_years_199 rfl (lv_at hl 1 rfl) ?_
                        refine lv_iload hx hb dX4_years_200 (lv_at hl 6 rfl) ?_
                        refine lv_bipush (v := 10) hx hb dX4_years_202 (by decide) ?_
                        refine lv_isub hx hb dX4_years_204 ?_
                        refine kV (n := 1) (As := [.int (p5 - 10)]) (rest := [.ref (bd 0)]) ⟨hx, hb, hml, hown, hts⟩ (kX4_noProphet l D cz bd (fX4_goYears v p0 ((60 * p1) + p3) p4) (p5 - 10)) gX4_years_X4_noProphet rfl rfl rfl (by decide +kernel) ⟨Nat.le_of_ble_eq_true rfl, Nat.le_of_ble_eq_true rfl⟩ (recvM hP hK) (MB_of hP hK) MB_bl rfl hl.1 rfl (Nat.le_of_ble_eq_true rfl) dX4_years_205 ⟨Nat.le_refl _, Nat.le_refl _⟩ ?_
                        refine lv_if_eq (tgt := 216) hx hb dX4_years_208 (by decide) (fun c12 => ?_) (fun c12 => ?_)
                        · have hv12 : vp_in (p5 - 10) 4 := noProphet_in (by first | with_reducible assumption | exact hpc) c12
                          refine lv_aload_n hx hb dX4_years_216 rfl (lv_at hl 1 rfl) ?_
                          refine lv_iload hx hb dX4_years_217 (lv_at hl 6 rfl) ?_
                          refine lv_bipush (v := 10) hx hb dX4_years_219 (by decide) ?_
                          refine lv_isub hx hb dX4_years_221 ?_
                          refine lv_bipush (v := 60) hx hb dX4_years_222 (by decide) ?_
                          refine lv_iload_n hx hb dX4_years_224 rfl (lv_at hl 3 rfl) ?_
                          refine lv_imul hx hb dX4_years_225 ?_
                          refine lv_iload hx hb dX4_years_226 (lv_at hl 4 rfl) ?_
                          refine lv_iadd hx hb dX4_years_228 ?_
                          refine lv_iload hx hb dX4_years_229 (lv_at hl 5 rfl) ?_
                          refine kV (n := 3) (As := [.int (p5 - 10), .int ((60 * p1) + p3), .int p4]) (rest := [.ref (bd 0)]) ⟨hx, hb, hml, hown, hts⟩ (kX4_paidBy l D cz bd (fX4_goYears v p0 ((60 * p1) + p3) p4) (p5 - 10) ((60 * p1) + p3) p4 (by assumption) (by assumption)) gX4_years_X4_paidBy rfl rfl rfl (by decide +kernel) ⟨Nat.le_of_ble_eq_true rfl, Nat.le_of_ble_eq_true rfl⟩ (recvM hP hK) (MB_of hP hK) MB_bl rfl hl.1 rfl (Nat.le_of_ble_eq_true rfl) dX4_years_231 ⟨Nat.le_refl _, Nat.le_refl _⟩ ?_
                          refine kWM (n := 1) (As := [.int (fX4_paidBy (fX4_goYears v p0 ((60 * p1) + p3) p4) (p5 - 10) ((60 * p1) + p3) p4)]) (rest := []) ⟨hx, hb, hml, hown, hts⟩ (kX4_refused l D cz bd hI (fX4_goYears v p0 ((60 * p1) + p3) p4) (fX4_paidBy (fX4_goYears v p0 ((60 * p1) + p3) p4) (p5 - 10) ((60 * p1) + p3) p4)) gX4_years_X4_refused rfl rfl rfl (by decide +kernel) ⟨Nat.le_of_ble_eq_true rfl, Nat.le_of_ble_eq_true rfl⟩ (recvM hP hK) hP hK hS rfl hl.1 rfl (Nat.le_of_ble_eq_true rfl) dX4_years_234 ⟨Nat.le_refl _, Nat.le_refl _⟩ (fun H locs hP hS => ?_)
                          exact rMI hx hb hr hlk hK hP hS dX4_years_237 (by rw [hr135, fX4_years_c135, if_pos c7, if_neg c8, if_pos c12])
                        · refine lv_bipush (v := (-9)) hx hb dX4_years_211 (by decide) ?_
                          refine lv_goto (tgt := 234) hx hb dX4_years_213 (by decide) ?_
                          refine kWM (n := 1) (As := [.int (-9)]) (rest := []) ⟨hx, hb, hml, hown, hts⟩ (kX4_refused l D cz bd hI (fX4_goYears v p0 ((60 * p1) + p3) p4) (-9)) gX4_years_X4_refused rfl rfl rfl (by decide +kernel) ⟨Nat.le_of_ble_eq_true rfl, Nat.le_of_ble_eq_true rfl⟩ (recvM hP hK) hP hK hS rfl hl.1 rfl (Nat.le_of_ble_eq_true rfl) dX4_years_234 ⟨Nat.le_refl _, Nat.le_refl _⟩ (fun H locs hP hS => ?_)
                          exact rMI hx hb hr hlk hK hP hS dX4_years_237 (by rw [hr135, fX4_years_c135, if_pos c7, if_neg c8, if_neg c12])
                    · have hlt135 : k135 < nn := cnt_lt enn e135 (by omega) (by omega) c7
                      have hv135 : vp_in (((60 * p1) + p3) + x9) 240 := cnt_in (by rw [eg, e135]; exact nI_add gg k135) (by omega) (by decide)
                      refine lv_aload_n hx hb dX4_years_142 rfl (lv_at hl 1 rfl) ?_
                      refine lv_aload_n hx hb dX4_years_143 rfl (lv_at hl 1 rfl) ?_
                      refine zg_X4_sheet hx hb hts hin_X4 hown hK hP (hts (Cond.fieldLink RX4 49 "ProphetCoverModel" "sheet" "[I") (List.mem_of_getElem? (i := 8) rfl)) dX4_years_144 ?_
                      refine lv_bipush (v := 60) hx hb dX4_years_147 (by decide) ?_
                      refine lv_iload_n hx hb dX4_years_149 rfl (lv_at hl 3 rfl) ?_
                      refine lv_imul hx hb dX4_years_150 ?_
                      refine lv_iload hx hb dX4_years_151 (lv_at hl 4 rfl) ?_
                      refine lv_iadd hx hb dX4_years_153 ?_
                      refine lv_iload hx hb dX4_years_154 (lv_at hl 0 rfl) ?_
                      refine lv_iadd hx hb dX4_years_156 ?_
                      refine zl_M (by decide) (by decide) rfl hx hb hK hP (by assumption) dX4_years_157 ?_
                      refine kV (n := 1) (As := [.int (v 14 (((60 * p1) + p3) + x9).toNatClampNeg)]) (rest := []) ⟨hx, hb, hml, hown, hts⟩ (kX4_noSet l D cz bd v (v 14 (((60 * p1) + p3) + x9).toNatClampNeg)) gX4_years_X4_noSet rfl rfl rfl (by decide +kernel) ⟨Nat.le_of_ble_eq_true rfl, Nat.le_of_ble_eq_true rfl⟩ (recvM hP hK) (MB_of hP hK) MB_bl rfl hl.1 rfl (Nat.le_of_ble_eq_true rfl) dX4_years_158 ⟨Nat.le_refl _, Nat.le_refl _⟩ ?_
                      refine lv_if_eq (tgt := 171) hx hb dX4_years_161 (by decide) (fun c13 => ?_) (fun c13 => ?_)
                      · refine lv_iinc (v := (x9 + 1)) (lv' := [(9, .int (x9 + 1)), (0, .ref (bd 0)), (1, .int p0), (2, .int p1), (4, .int p3), (5, .int p4), (6, .int p5)]) hx hb dX4_years_171 hl (k := 0) rfl rfl (by decide) rfl (fun ls hl => ?_)
                        refine lv_goto (tgt := 135) hx hb dX4_years_174 (by decide) ?_
                        exact ih135 (x9 + 1) (k135 + 1) (by rw [hr135, fX4_years_c135, if_neg c7, if_pos c13]) (by rw [e135]; exact nI_1 _) hlt135 (by omega) ls (lv_sub hl [0, 1, 2, 3, 4, 5, 6] rfl)
                      · refine lv_aload_n hx hb dX4_years_164 rfl (lv_at hl 1 rfl) ?_
                        refine lv_bipush (v := (-2)) hx hb dX4_years_165 (by decide) ?_
                        refine kWM (n := 1) (As := [.int (-2)]) (rest := []) ⟨hx, hb, hml, hown, hts⟩ (kX4_refused l D cz bd hI v (-2)) gX4_years_X4_refused rfl rfl rfl (by decide +kernel) ⟨Nat.le_of_ble_eq_true rfl, Nat.le_of_ble_eq_true rfl⟩ (recvM hP hK) hP hK hS rfl hl.1 rfl (Nat.le_of_ble_eq_true rfl) dX4_years_167 ⟨Nat.le_refl _, Nat.le_refl _⟩ (fun H locs hP hS => ?_)
                        exact rMI hx hb hr hlk hK hP hS dX4_years_170 (by rw [hr135, fX4_years_c135, if_neg c7, if_neg c13])
                exact lp135 (61) 0 (0) (by rw [hr46, fX4_years_c46, if_neg c1, if_neg c2, if_neg c3, if_neg c4, if_neg c5, if_pos c6]) nI_0.symm (by omega) (by omega) ls (lv_sub hl [0, 3, 4, 5, 7, 8, 9] rfl)
              · refine lv_iload hx hb dX4_years_129 (lv_at hl 0 rfl) ?_
                exact rMI hx hb hr hlk hK hP hS dX4_years_131 (by rw [hr46, fX4_years_c46, if_neg c1, if_neg c2, if_neg c3, if_neg c4, if_neg c5, if_neg c6])
            · refine lv_aload_n hx hb dX4_years_104 rfl (lv_at hl 1 rfl) ?_
              refine lv_bipush (v := (-3)) hx hb dX4_years_105 (by decide) ?_
              refine kWM (n := 1) (As := [.int (-3)]) (rest := []) ⟨hx, hb, hml, hown, hts⟩ (kX4_refused l D cz bd hI v (-3)) gX4_years_X4_refused rfl rfl rfl (by decide +kernel) ⟨Nat.le_of_ble_eq_true rfl, Nat.le_of_ble_eq_true rfl⟩ (recvM hP hK) hP hK hS rfl hl.1 rfl (Nat.le_of_ble_eq_true rfl) dX4_years_107 ⟨Nat.le_refl _, Nat.le_refl _⟩ (fun H locs hP hS => ?_)
              exact rMI hx hb hr hlk hK hP hS dX4_years_110 (by rw [hr46, fX4_years_c46, if_neg c1, if_neg c2, if_neg c3, if_neg c4, if_pos c5])
          · refine lv_aload_n hx hb dX4_years_90 rfl (lv_at hl 1 rfl) ?_
            refine lv_bipush (v := (-2)) hx hb dX4_years_91 (by decide) ?_
            refine kWM (n := 1) (As := [.int (-2)]) (rest := []) ⟨hx, hb, hml, hown, hts⟩ (kX4_refused l D cz bd hI v (-2)) gX4_years_X4_refused rfl rfl rfl (by decide +kernel) ⟨Nat.le_of_ble_eq_true rfl, Nat.le_of_ble_eq_true rfl⟩ (recvM hP hK) hP hK hS rfl hl.1 rfl (Nat.le_of_ble_eq_true rfl) dX4_years_93 ⟨Nat.le_refl _, Nat.le_refl _⟩ (fun H locs hP hS => ?_)
            exact rMI hx hb hr hlk hK hP hS dX4_years_96 (by rw [hr46, fX4_years_c46, if_neg c1, if_neg c2, if_neg c3, if_pos c4])
  refine lv_iload_n hx hb dX4_years_0 rfl (lv_at hl 2 rfl) ?_
  refine kS (n := 1) (As := [.int p1]) (rest := []) ⟨hx, hb, hml, hown, hts⟩ (kX4_noSheet l p1) gX4_years_X4_noSheet rfl rfl rfl (by decide +kernel) ⟨Nat.le_of_ble_eq_true rfl, Nat.le_of_ble_eq_true rfl⟩ (fun _ _ _ => trivial) (fun _ _ _ _ _ => trivial) rfl hl.1 rfl (Nat.le_of_ble_eq_true rfl) dX4_years_1 ⟨Nat.le_refl _, Nat.le_refl _⟩ ?_
  refine lv_if_eq (tgt := 13) hx hb dX4_years_4 (by decide) (fun c14 => ?_) (fun c14 => ?_)
  · have hv14 : vp_in p1 4 := noSheet_in c14
    refine lv_iload hx hb dX4_years_13 (lv_at hl 6 rfl) ?_
    refine lv_i2l hx hb dX4_years_15 rfl ?_
    refine lv_lconst (v := 0) hx hb dX4_years_16 (by decide) ?_
    refine lv_ldc2 hx hb hown (hts (Cond.constantLong RX4 173 (3)) (List.mem_of_getElem? (i := 1) rfl)) dX4_years_17 ?_
    refine kS (n := 3) (As := [.long (p5).toInt64, .long 0, .long 3]) (rest := []) ⟨hx, hb, hml, hown, hts⟩ (kX4_in l ((p5).toInt64) 0 3) gX4_years_X4_in rfl rfl rfl (by decide +kernel) ⟨Nat.le_of_ble_eq_true rfl, Nat.le_of_ble_eq_true rfl⟩ (fun _ _ _ => trivial) (fun _ _ _ _ _ => trivial) rfl hl.1 rfl (Nat.le_of_ble_eq_true rfl) dX4_years_20 ⟨Nat.le_refl _, Nat.le_refl _⟩ ?_
    refine lv_if_ne (tgt := 41) hx hb dX4_years_23 (by decide) (fun c15 => ?_) (fun c15 => ?_)
    · refine lv_iconst (v := 1) hx hb dX4_years_41 (by decide) ?_
      refine lv_goto (tgt := 46) hx hb dX4_years_42 (by decide) ?_
      exact sg46 1  (by rw [fX4_years, if_pos c14, if_neg c15]) (by assumption) ls (lv_sub hl [0, 1, 2, 3, 4, 5, 6] rfl)
    · refine lv_iload hx hb dX4_years_26 (lv_at hl 6 rfl) ?_
      refine lv_i2l hx hb dX4_years_28 rfl ?_
      refine lv_ldc2 hx hb hown (hts (Cond.constantLong RX4 175 (10)) (List.mem_of_getElem? (i := 2) rfl)) dX4_years_29 ?_
      refine lv_ldc2 hx hb hown (hts (Cond.constantLong RX4 177 (13)) (List.mem_of_getElem? (i := 3) rfl)) dX4_years_32 ?_
      refine kS (n := 3) (As := [.long (p5).toInt64, .long 10, .long 13]) (rest := []) ⟨hx, hb, hml, hown, hts⟩ (kX4_in l ((p5).toInt64) 10 13) gX4_years_X4_in rfl rfl rfl (by decide +kernel) ⟨Nat.le_of_ble_eq_true rfl, Nat.le_of_ble_eq_true rfl⟩ (fun _ _ _ => trivial) (fun _ _ _ _ _ => trivial) rfl hl.1 rfl (Nat.le_of_ble_eq_true rfl) dX4_years_35 ⟨Nat.le_refl _, Nat.le_refl _⟩ ?_
      refine lv_if_eq (tgt := 45) hx hb dX4_years_38 (by decide) (fun c16 => ?_) (fun c16 => ?_)
      · refine lv_iconst (v := 0) hx hb dX4_years_45 (by decide) ?_
        exact sg46 0  (by rw [fX4_years, if_pos c14, if_pos c15, if_pos c16]) (by assumption) ls (lv_sub hl [0, 1, 2, 3, 4, 5, 6] rfl)
      · refine lv_iconst (v := 1) hx hb dX4_years_41 (by decide) ?_
        refine lv_goto (tgt := 46) hx hb dX4_years_42 (by decide) ?_
        exact sg46 1  (by rw [fX4_years, if_pos c14, if_pos c15, if_neg c16]) (by assumption) ls (lv_sub hl [0, 1, 2, 3, 4, 5, 6] rfl)
  · refine lv_aload_n hx hb dX4_years_7 rfl (lv_at hl 0 rfl) ?_
    refine lv_iconst (v := (-1)) hx hb dX4_years_8 (by decide) ?_
    refine kWM (n := 1) (As := [.int (-1)]) (rest := []) ⟨hx, hb, hml, hown, hts⟩ (kX4_refused l D cz bd hI v (-1)) gX4_years_X4_refused rfl rfl rfl (by decide +kernel) ⟨Nat.le_of_ble_eq_true rfl, Nat.le_of_ble_eq_true rfl⟩ (recvM hP hK) hP hK hS rfl hl.1 rfl (Nat.le_of_ble_eq_true rfl) dX4_years_9 ⟨Nat.le_refl _, Nat.le_refl _⟩ (fun H locs hP hS => ?_)
    exact rMI hx hb hr hlk hK hP hS dX4_years_12 (by rw [fX4_years, if_neg c14])
