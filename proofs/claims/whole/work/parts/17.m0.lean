def fX4_in (p0 : Int64) (p1 : Int64) (p2 : Int64) : Int32 :=
  (if (lg_cmp p0 p1) < 0 then 0 else (if 0 < (lg_cmp p0 p2) then 0 else 1))
set_option maxRecDepth 100000 in
set_option maxHeartbeats 4000000 in
theorem kX4_in (l : Launch)  (p0 : Int64) (p1 : Int64) (p2 : Int64)  : Met l yX4_in wsX4_in ({ frames := 0, cells := 0, slots := 0, locals := 0 } : Room) (va_Pc [.long p0, .long p1, .long p2] (fun _ => True)) (qR (some (.int (fX4_in p0 p1 p2)))) 0 0 noF := by
  refine m_start (cc := cX4_in) (maxL := 6) (ret := (some .boolean)) (by decide) rfl (Nat.le_of_ble_eq_true rfl) (fun p e s m below meth c hx hb hr hts hown hml hlk _ hB ls hl => ?_)
  have hown : s.vm.findClass RX4 = some m.cls := hown
  have hl : lv_has ls 6 [(0, .long p0), (2, .long p1), (4, .long p2)] := hl
  refine lv_lload_n hx hb dX4_in_0 rfl (lv_at hl 0 rfl) ?_
  refine lv_lload_n hx hb dX4_in_1 rfl (lv_at hl 1 rfl) ?_
  refine W.lcmp hx hb dX4_in_2 ?_
  refine lv_if_lt (tgt := 17) hx hb dX4_in_3 (by decide) (fun c1 => ?_) (fun c1 => ?_)
  · refine lv_iconst (v := 0) hx hb dX4_in_17 (by decide) ?_
    exact rZ hx hb hr hlk (by rfl) dX4_in_18 (by rw [fX4_in, if_pos c1])
  · refine lv_lload_n hx hb dX4_in_6 rfl (lv_at hl 0 rfl) ?_
    refine lv_lload hx hb dX4_in_7 (lv_at hl 2 rfl) ?_
    refine W.lcmp hx hb dX4_in_9 ?_
    refine lv_if_gt (tgt := 17) hx hb dX4_in_10 (by decide) (fun c2 => ?_) (fun c2 => ?_)
    · refine lv_iconst (v := 0) hx hb dX4_in_17 (by decide) ?_
      exact rZ hx hb hr hlk (by rfl) dX4_in_18 (by rw [fX4_in, if_neg c1, if_pos c2])
    · refine lv_iconst (v := 1) hx hb dX4_in_13 (by decide) ?_
      refine lv_goto (tgt := 18) hx hb dX4_in_14 (by decide) ?_
      exact rZ hx hb hr hlk (by rfl) dX4_in_18 (by rw [fX4_in, if_neg c1, if_neg c2])
theorem in_spec (a l h : Int64) : (¬ fX4_in a l h = 0) ↔ (l.toInt ≤ a.toInt ∧ a.toInt ≤ h.toInt) := by
  unfold fX4_in
  by_cases c1 : lg_cmp a l < 0
  · rw [if_pos c1]
    have := lg_lt.mp c1
    exact ⟨fun q => absurd rfl q, fun q => by omega⟩
  rw [if_neg c1]
  have h1 : ¬ a.toInt < l.toInt := fun q => c1 (lg_lt.mpr q)
  by_cases c2 : 0 < lg_cmp a h
  · rw [if_pos c2]
    have := lg_gt.mp c2
    exact ⟨fun q => absurd rfl q, fun q => by omega⟩
  rw [if_neg c2]
  have h2 : ¬ h.toInt < a.toInt := fun q => c2 (lg_gt.mpr q)
  exact ⟨fun _ => ⟨by omega, by omega⟩, fun _ => by decide⟩
def fX4_lost : Int64 :=
  (-9223372036854775808)
set_option maxRecDepth 100000 in
set_option maxHeartbeats 4000000 in
theorem kX4_lost (l : Launch)    : Met l yX4_lost wsX4_lost ({ frames := 0, cells := 0, slots := 0, locals := 0 } : Room) (va_Pc [] (fun _ => True)) (qR (some (.long fX4_lost))) 0 0 noF := by
  refine m_start (cc := cX4_lost) (maxL := 0) (ret := (some .long)) (by decide) rfl (Nat.le_of_ble_eq_true rfl) (fun p e s m below meth c hx hb hr hts hown hml hlk _ hB ls hl => ?_)
  have hown : s.vm.findClass RX4 = some m.cls := hown
  have hl : lv_has ls 0 [] := hl
  refine lv_ldc2 hx hb hown (hts (Cond.constantLong RX4 55 (-9223372036854775808)) (List.mem_of_getElem? (i := 1) rfl)) dX4_lost_0 ?_
  exact rL hx hb hr hlk dX4_lost_3 (by rw [fX4_lost])
def fX4_isIn (p0 : Int32) (p1 : Int32) : Int32 :=
  (if ((p0 >>> (p1 &&& 31)) &&& 1) = 1 then 1 else 0)
set_option maxRecDepth 100000 in
set_option maxHeartbeats 4000000 in
theorem kX4_isIn (l : Launch)  (p0 : Int32) (p1 : Int32)  : Met l yX4_isIn wsX4_isIn ({ frames := 0, cells := 0, slots := 0, locals := 0 } : Room) (va_Pc [.int p0, .int p1] (fun _ => True)) (qR (some (.int (fX4_isIn p0 p1)))) 0 0 noF := by
  refine m_start (cc := cX4_isIn) (maxL := 2) (ret := (some .boolean)) (by decide) rfl (Nat.le_of_ble_eq_true rfl) (fun p e s m below meth c hx hb hr hts hown hml hlk _ hB ls hl => ?_)
  have hown : s.vm.findClass RX4 = some m.cls := hown
  have hl : lv_has ls 2 [(0, .int p0), (1, .int p1)] := hl
  refine lv_iload_n hx hb dX4_isIn_0 rfl (lv_at hl 0 rfl) ?_
  refine lv_iload_n hx hb dX4_isIn_1 rfl (lv_at hl 1 rfl) ?_
  refine lv_ishr hx hb dX4_isIn_2 ?_
  refine lv_iconst (v := 1) hx hb dX4_isIn_3 (by decide) ?_
  refine lv_iand hx hb dX4_isIn_4 ?_
  refine lv_iconst (v := 1) hx hb dX4_isIn_5 (by decide) ?_
  refine lv_icmp_ne (tgt := 13) hx hb dX4_isIn_6 (by decide) (fun c1 => ?_) (fun c1 => ?_)
  · refine lv_iconst (v := 0) hx hb dX4_isIn_13 (by decide) ?_
    exact rZ hx hb hr hlk (by rfl) dX4_isIn_14 (by rw [fX4_isIn, if_neg c1])
  · refine lv_iconst (v := 1) hx hb dX4_isIn_9 (by decide) ?_
    refine lv_goto (tgt := 14) hx hb dX4_isIn_10 (by decide) ?_
    exact rZ hx hb hr hlk (by rfl) dX4_isIn_14 (by rw [fX4_isIn, if_pos c1])
def fX4_bits_c4 (p0 : Int32)  : Nat → Int32 → Int32 → Int32
  | 0, x2, x1 => 0
  | n4 + 1, x2, x1 => (if x2 ≤ 0 then x1 else (fX4_bits_c4 p0 n4 (x2 >>> ((1 : Int32) &&& 31)) (x1 + (x2 &&& 1))))
def fX4_bits (p0 : Int32) : Int32 :=
  (fX4_bits_c4 p0 (32) p0 0)
set_option maxRecDepth 100000 in
set_option maxHeartbeats 4000000 in
theorem kX4_bits (l : Launch)  (p0 : Int32)  : Met l yX4_bits wsX4_bits ({ frames := 0, cells := 0, slots := 0, locals := 0 } : Room) (va_Pc [.int p0] (fun _ => True)) (qR (some (.int (fX4_bits p0)))) 0 0 noF := by
  refine m_start (cc := cX4_bits) (maxL := 3) (ret := (some .int)) (by decide) rfl (Nat.le_of_ble_eq_true rfl) (fun p e s m below meth c hx hb hr hts hown hml hlk _ hB ls hl => ?_)
  have hown : s.vm.findClass RX4 = some m.cls := hown
  have hl : lv_has ls 3 [(0, .int p0)] := hl
  refine lv_iconst (v := 0) hx hb dX4_bits_0 (by decide) ?_
  refine lv_istore_n (lv' := [(1, .int 0), (0, .int p0)]) hx hb dX4_bits_1 rfl hl (by decide) rfl (fun ls hl => ?_)
  refine lv_iload_n hx hb dX4_bits_2 rfl (lv_at hl 1 rfl) ?_
  refine lv_istore_n (lv' := [(2, .int p0), (1, .int 0), (0, .int p0)]) hx hb dX4_bits_3 rfl hl (by decide) rfl (fun ls hl => ?_)
  have lp4 : ∀ (n4 : Nat) (x2 : Int32) (x1 : Int32), (fX4_bits p0) = (fX4_bits_c4 p0 n4 x2 x1) → (1 ≤ n4) → (x2.toInt < 2 ^ (n4 - 1)) → ∀ ls : Array Slot, lv_has ls 3 [(2, .int x2), (1, .int x1)] → W p l e ({ frames := 0, cells := 0, slots := 0, locals := 0 } : Room) s m ([.int p0] : List Value).toArray below meth c s.heap [] 0 0 (MQ below (qR (some (.int (fX4_bits p0)))) ([.int p0] : List Value).toArray s 0 0 noF) (F0 m 4 ls []) := by
    intro n4
    induction n4 with
    | zero =>
      intro x2 x1 _ hb1 hb2 ls hl
      exfalso; omega
    | succ n4 ih4 =>
      intro x2 x1 hr4 hb1 hb2 ls hl
      refine lv_iload_n hx hb dX4_bits_4 rfl (lv_at hl 0 rfl) ?_
      refine lv_if_le (tgt := 21) hx hb dX4_bits_5 (by decide) (fun c1 => ?_) (fun c1 => ?_)
      · refine lv_iload_n hx hb dX4_bits_21 rfl (lv_at hl 1 rfl) ?_
        exact rI hx hb hr hlk dX4_bits_22 (by rw [hr4, fX4_bits_c4, if_pos c1])
      · obtain ⟨hb3, hb4⟩ := bits_next c1 hb2
        refine lv_iload_n hx hb dX4_bits_8 rfl (lv_at hl 1 rfl) ?_
        refine lv_iload_n hx hb dX4_bits_9 rfl (lv_at hl 0 rfl) ?_
        refine lv_iconst (v := 1) hx hb dX4_bits_10 (by decide) ?_
        refine lv_iand hx hb dX4_bits_11 ?_
        refine lv_iadd hx hb dX4_bits_12 ?_
        refine lv_istore_n (lv' := [(1, .int (x1 + (x2 &&& 1))), (2, .int x2)]) hx hb dX4_bits_13 rfl hl (by decide) rfl (fun ls hl => ?_)
        refine lv_iload_n hx hb dX4_bits_14 rfl (lv_at hl 1 rfl) ?_
        refine lv_iconst (v := 1) hx hb dX4_bits_15 (by decide) ?_
        refine lv_ishr hx hb dX4_bits_16 ?_
        refine lv_istore_n (lv' := [(2, .int (x2 >>> ((1 : Int32) &&& 31))), (1, .int (x1 + (x2 &&& 1)))]) hx hb dX4_bits_17 rfl hl (by decide) rfl (fun ls hl => ?_)
        refine lv_goto (tgt := 4) hx hb dX4_bits_18 (by decide) ?_
        exact ih4 (x2 >>> ((1 : Int32) &&& 31)) (x1 + (x2 &&& 1))  (by rw [hr4, fX4_bits_c4, if_neg c1]) hb3 hb4 ls (lv_sub hl [0, 1] rfl)
  exact lp4 (32) p0 0  (by rw [fX4_bits]) (by omega) (Int32.toInt_lt p0) ls (lv_sub hl [0, 1] rfl)
def fX4_share_c6 (p0 : Int64) (p1 : Int64) (p2 : Int32)  : Nat → Int64 → Int64 → Int64
  | 0, x7, x5 => 0
  | n6 + 1, x7, x5 => (if (lg_cmp x7 0) = 0 then (if p2 = 0 then (p0 / x5) else (p1 / x5)) else (fX4_share_c6 p0 p1 p2 n6 (x5 - x5 / x7 * x7) x7))
def fX4_share (p0 : Int64) (p1 : Int64) (p2 : Int32) : Int64 :=
  (fX4_share_c6 p0 p1 p2 (p1.toInt.natAbs + 1) p1 p0)
set_option maxRecDepth 100000 in
set_option maxHeartbeats 4000000 in
theorem kX4_share (l : Launch)  (p0 : Int64) (p1 : Int64) (p2 : Int32) (hne : ¬ p1 = 0) : Met l yX4_share wsX4_share ({ frames := 0, cells := 0, slots := 0, locals := 0 } : Room) (va_Pc [.long p0, .long p1, .int p2] (fun _ => True)) (qR (some (.long (fX4_share p0 p1 p2)))) 0 0 noF := by
  refine m_start (cc := cX4_share) (maxL := 11) (ret := (some .long)) (by decide) rfl (Nat.le_of_ble_eq_true rfl) (fun p e s m below meth c hx hb hr hts hown hml hlk _ hB ls hl => ?_)
  have hown : s.vm.findClass RX4 = some m.cls := hown
  have hl : lv_has ls 11 [(0, .long p0), (2, .long p1), (4, .int p2)] := hl
  refine lv_lload_n hx hb dX4_share_0 rfl (lv_at hl 0 rfl) ?_
  refine lv_lstore (lv' := [(5, .long p0), (0, .long p0), (2, .long p1), (4, .int p2)]) hx hb dX4_share_1 hl (by decide) rfl (fun ls hl => ?_)
  refine lv_lload_n hx hb dX4_share_3 rfl (lv_at hl 2 rfl) ?_
  refine lv_lstore (lv' := [(7, .long p1), (5, .long p0), (0, .long p0), (2, .long p1), (4, .int p2)]) hx hb dX4_share_4 hl (by decide) rfl (fun ls hl => ?_)
  have lp6 : ∀ (n6 : Nat) (x7 : Int64) (x5 : Int64), (fX4_share p0 p1 p2) = (fX4_share_c6 p0 p1 p2 n6 x7 x5) → (x7.toInt.natAbs < n6) → (¬ x5 = 0 ∨ ¬ x7 = 0) → ∀ ls : Array Slot, lv_has ls 11 [(7, .long x7), (5, .long x5), (0, .long p0), (2, .long p1), (4, .int p2)] → W p l e ({ frames := 0, cells := 0, slots := 0, locals := 0 } : Room) s m ([.long p0, .long p1, .int p2] : List Value).toArray below meth c s.heap [] 0 0 (MQ below (qR (some (.long (fX4_share p0 p1 p2)))) ([.long p0, .long p1, .int p2] : List Value).toArray s 0 0 noF) (F0 m 6 ls []) := by
    intro n6
    induction n6 with
    | zero =>
      intro x7 x5 _ hs1 hs2 ls hl
      exfalso; omega
    | succ n6 ih6 =>
      intro x7 x5 hr6 hs1 hs2 ls hl
      refine lv_lload hx hb dX4_share_6 (lv_at hl 0 rfl) ?_
      refine lv_lconst (v := 0) hx hb dX4_share_8 (by decide) ?_
      refine W.lcmp hx hb dX4_share_9 ?_
      refine lv_if_eq (tgt := 31) hx hb dX4_share_10 (by decide) (fun c1 => ?_) (fun c1 => ?_)
      · have hx5 : ¬ x5 = 0 := hs2.elim (fun q => q) (fun q => absurd (Int64.toInt_inj.mp (lg_eq.mp c1)) q)
        refine lv_iload hx hb dX4_share_31 (lv_at hl 4 rfl) ?_
        refine lv_if_ne (tgt := 40) hx hb dX4_share_33 (by decide) (fun c2 => ?_) (fun c2 => ?_)
        · refine lv_lload_n hx hb dX4_share_40 rfl (lv_at hl 3 rfl) ?_
          refine lv_lload hx hb dX4_share_41 (lv_at hl 1 rfl) ?_
          refine lv_ldiv hx hb dX4_share_43 (by assumption) ?_
          exact rL hx hb hr hlk dX4_share_44 (by rw [hr6, fX4_share_c6, if_pos c1, if_neg c2])
        · refine lv_lload_n hx hb dX4_share_36 rfl (lv_at hl 2 rfl) ?_
          refine lv_goto (tgt := 41) hx hb dX4_share_37 (by decide) ?_
          refine lv_lload hx hb dX4_share_41 (lv_at hl 1 rfl) ?_
          refine lv_ldiv hx hb dX4_share_43 (by assumption) ?_
          exact rL hx hb hr hlk dX4_share_44 (by rw [hr6, fX4_share_c6, if_pos c1, if_pos c2])
      · have hy7 : ¬ x7 = 0 := fun q => c1 (by rw [q]; rfl)
        refine lv_lload hx hb dX4_share_13 (lv_at hl 1 rfl) ?_
        refine lv_lload hx hb dX4_share_15 (lv_at hl 0 rfl) ?_
        refine lv_lrem hx hb dX4_share_17 (by assumption) ?_
        refine lv_lstore (lv' := [(9, .long (x5 - x5 / x7 * x7)), (7, .long x7), (5, .long x5), (0, .long p0), (2, .long p1), (4, .int p2)]) hx hb dX4_share_18 hl (by decide) rfl (fun ls hl => ?_)
        refine lv_lload hx hb dX4_share_20 (lv_at hl 1 rfl) ?_
        refine lv_lstore (lv' := [(5, .long x7), (9, .long (x5 - x5 / x7 * x7)), (7, .long x7), (0, .long p0), (2, .long p1), (4, .int p2)]) hx hb dX4_share_22 hl (by decide) rfl (fun ls hl => ?_)
        refine lv_lload hx hb dX4_share_24 (lv_at hl 1 rfl) ?_
        refine lv_lstore (lv' := [(7, .long (x5 - x5 / x7 * x7)), (5, .long x7), (9, .long (x5 - x5 / x7 * x7)), (0, .long p0), (2, .long p1), (4, .int p2)]) hx hb dX4_share_26 hl (by decide) rfl (fun ls hl => ?_)
        refine lv_goto (tgt := 6) hx hb dX4_share_28 (by decide) ?_
        exact ih6 (x5 - x5 / x7 * x7) x7  (by rw [hr6, fX4_share_c6, if_neg c1]) (by have := lrem_lt (x := x5) hy7; omega) (Or.inl hy7) ls (lv_sub hl [0, 1, 3, 4, 5] rfl)
  exact lp6 (p1.toInt.natAbs + 1) p1 p0  (by rw [fX4_share]) (by omega) (Or.inr hne) ls (lv_sub hl [0, 1, 2, 3, 4] rfl)
def fX4_refused (v : Mem) (p0 : Int32) : Int32 × Mem :=
  (p0, (mset v 0 0 0))
set_option maxRecDepth 100000 in
set_option maxHeartbeats 4000000 in
theorem kX4_refused (l : Launch) (D : va_G) (cz : ClassId) (bd : Nat → Nat) (hI : MI bd) (v : Mem) (p0 : Int32)  : Met l yX4_refused wsX4_refused ({ frames := 0, cells := 0, slots := 0, locals := 0 } : Room) (va_Pc [.ref (bd 0), .int p0] (MB D cz bd v)) (qW (MB D cz bd (fX4_refused v p0).2) (AM bd) (some (.int (fX4_refused v p0).1))) 0 0 (AM bd) := by
  refine m_start (cc := cX4_refused) (maxL := 2) (ret := (some .int)) (by decide) rfl (Nat.le_of_ble_eq_true rfl) (fun p e s m below meth c hx hb hr hts hown hml hlk _ hB ls hl => ?_)
  obtain ⟨hP, hK⟩ := hB
  have hown : s.vm.findClass RX4 = some m.cls := hown
  have hl : lv_has ls 2 [(0, .ref (bd 0)), (1, .int p0)] := hl
  have hin_X4 : ∀ w ∈ wsX40, w ∈ wsX4_refused := fun _ h => List.mem_cons_of_mem _ (List.mem_append_right _ (h))
  obtain ⟨H, hH⟩ : ∃ H, H = s.heap := ⟨_, rfl⟩
  obtain ⟨locs, hlo⟩ : ∃ z : List Loc, z = [] := ⟨_, rfl⟩
  have hS : va_S (AM bd) s.heap H locs := by rw [hH, hlo]; exact va_S.rf
  have hP : va_P D vwCl (wM cz bd v) H := by rw [hH]; exact hP
  suffices hgoal : W p l e ({ frames := 0, cells := 0, slots := 0, locals := 0 } : Room) s m ([.ref (bd 0), .int p0] : List Value).toArray below meth c H locs 0 0 (MQ below (qW (MB D cz bd (fX4_refused v p0).2) (AM bd) (some (.int (fX4_refused v p0).1))) ([.ref (bd 0), .int p0] : List Value).toArray s 0 0 (AM bd)) (F0 m 0 ls []) by rw [hH, hlo] at hgoal; exact hgoal
  clear hH hlo
  refine lv_aload_n hx hb dX4_refused_0 rfl (lv_at hl 0 rfl) ?_
  refine lv_iconst (v := 0) hx hb dX4_refused_1 (by decide) ?_
  refine zp_X4_fault hx hb hts hin_X4 hown hK hP hI hS (hts (Cond.fieldLink RX4 57 "ProphetCoverModel" "fault" "I") (List.mem_of_getElem? (i := 1) rfl)) dX4_refused_2 (fun H locs hP hS => ?_)
  refine lv_iload_n hx hb dX4_refused_5 rfl (lv_at hl 1 rfl) ?_
  exact rMI hx hb hr hlk hK hP hS dX4_refused_6 (by rw [fX4_refused])
def fX4_failed (v : Mem) (p0 : Int32) : Int32 × Mem :=
  (((-10) - p0), (mset v 0 0 p0))
set_option maxRecDepth 100000 in
set_option maxHeartbeats 4000000 in
theorem kX4_failed (l : Launch) (D : va_G) (cz : ClassId) (bd : Nat → Nat) (hI : MI bd) (v : Mem) (p0 : Int32)  : Met l yX4_failed wsX4_failed ({ frames := 0, cells := 0, slots := 0, locals := 0 } : Room) (va_Pc [.ref (bd 0), .int p0] (MB D cz bd v)) (qW (MB D cz bd (fX4_failed v p0).2) (AM bd) (some (.int (fX4_failed v p0).1))) 0 0 (AM bd) := by
  refine m_start (cc := cX4_failed) (maxL := 2) (ret := (some .int)) (by decide) rfl (Nat.le_of_ble_eq_true rfl) (fun p e s m below meth c hx hb hr hts hown hml hlk _ hB ls hl => ?_)
  obtain ⟨hP, hK⟩ := hB
  have hown : s.vm.findClass RX4 = some m.cls := hown
  have hl : lv_has ls 2 [(0, .ref (bd 0)), (1, .int p0)] := hl
  have hin_X4 : ∀ w ∈ wsX40, w ∈ wsX4_failed := fun _ h => List.mem_cons_of_mem _ (List.mem_append_right _ (h))
  obtain ⟨H, hH⟩ : ∃ H, H = s.heap := ⟨_, rfl⟩
  obtain ⟨locs, hlo⟩ : ∃ z : List Loc, z = [] := ⟨_, rfl⟩
  have hS : va_S (AM bd) s.heap H locs := by rw [hH, hlo]; exact va_S.rf
  have hP : va_P D vwCl (wM cz bd v) H := by rw [hH]; exact hP
  suffices hgoal : W p l e ({ frames := 0, cells := 0, slots := 0, locals := 0 } : Room) s m ([.ref (bd 0), .int p0] : List Value).toArray below meth c H locs 0 0 (MQ below (qW (MB D cz bd (fX4_failed v p0).2) (AM bd) (some (.int (fX4_failed v p0).1))) ([.ref (bd 0), .int p0] : List Value).toArray s 0 0 (AM bd)) (F0 m 0 ls []) by rw [hH, hlo] at hgoal; exact hgoal
  clear hH hlo
  refine lv_aload_n hx hb dX4_failed_0 rfl (lv_at hl 0 rfl) ?_
  refine lv_iload_n hx hb dX4_failed_1 rfl (lv_at hl 1 rfl) ?_
  refine zp_X4_fault hx hb hts hin_X4 hown hK hP hI hS (hts (Cond.fieldLink RX4 57 "ProphetCoverModel" "fault" "I") (List.mem_of_getElem? (i := 1) rfl)) dX4_failed_2 (fun H locs hP hS => ?_)
  refine lv_bipush (v := (-10)) hx hb dX4_failed_5 (by decide) ?_
  refine lv_iload_n hx hb dX4_failed_7 rfl (lv_at hl 1 rfl) ?_
  refine lv_isub hx hb dX4_failed_8 ?_
  exact rMI hx hb hr hlk hK hP hS dX4_failed_9 (by rw [fX4_failed])
def fX4_failedLong (v : Mem) (p0 : Int32) : Int64 × Mem :=
  (fX4_lost, (mset v 0 0 p0))
set_option maxRecDepth 100000 in
set_option maxHeartbeats 4000000 in
theorem kX4_failedLong (l : Launch) (D : va_G) (cz : ClassId) (bd : Nat → Nat) (hI : MI bd) (v : Mem) (p0 : Int32)  : Met l yX4_failedLong wsX4_failedLong ({ frames := 1, cells := 0, slots := 0, locals := 19 } : Room) (va_Pc [.ref (bd 0), .int p0] (MB D cz bd v)) (qW (MB D cz bd (fX4_failedLong v p0).2) (AM bd) (some (.long (fX4_failedLong v p0).1))) 0 0 (AM bd) := by
  refine m_start (cc := cX4_failedLong) (maxL := 2) (ret := (some .long)) (by decide) rfl (Nat.le_of_ble_eq_true rfl) (fun p e s m below meth c hx hb hr hts hown hml hlk _ hB ls hl => ?_)
  obtain ⟨hP, hK⟩ := hB
  have hown : s.vm.findClass RX4 = some m.cls := hown
  have hl : lv_has ls 2 [(0, .ref (bd 0)), (1, .int p0)] := hl
  have hin_X4 : ∀ w ∈ wsX40, w ∈ wsX4_failedLong := fun _ h => List.mem_cons_of_mem _ (List.mem_append_right _ (h))
  obtain ⟨H, hH⟩ : ∃ H, H = s.heap := ⟨_, rfl⟩
  obtain ⟨locs, hlo⟩ : ∃ z : List Loc, z = [] := ⟨_, rfl⟩
  have hS : va_S (AM bd) s.heap H locs := by rw [hH, hlo]; exact va_S.rf
  have hP : va_P D vwCl (wM cz bd v) H := by rw [hH]; exact hP
  suffices hgoal : W p l e ({ frames := 1, cells := 0, slots := 0, locals := 19 } : Room) s m ([.ref (bd 0), .int p0] : List Value).toArray below meth c H locs 0 0 (MQ below (qW (MB D cz bd (fX4_failedLong v p0).2) (AM bd) (some (.long (fX4_failedLong v p0).1))) ([.ref (bd 0), .int p0] : List Value).toArray s 0 0 (AM bd)) (F0 m 0 ls []) by rw [hH, hlo] at hgoal; exact hgoal
  clear hH hlo
  refine lv_aload_n hx hb dX4_failedLong_0 rfl (lv_at hl 0 rfl) ?_
  refine lv_iload_n hx hb dX4_failedLong_1 rfl (lv_at hl 1 rfl) ?_
  refine zp_X4_fault hx hb hts hin_X4 hown hK hP hI hS (hts (Cond.fieldLink RX4 57 "ProphetCoverModel" "fault" "I") (List.mem_of_getElem? (i := 1) rfl)) dX4_failedLong_2 (fun H locs hP hS => ?_)
  refine kS (n := 0) (As := []) (rest := []) ⟨hx, hb, hml, hown, hts⟩ (kX4_lost l) gX4_failedLong_X4_lost rfl rfl rfl (by decide +kernel) ⟨Nat.le_of_ble_eq_true rfl, Nat.le_of_ble_eq_true rfl⟩ (fun _ _ _ => trivial) (fun _ _ _ _ _ => trivial) rfl hl.1 rfl (Nat.le_of_ble_eq_true rfl) dX4_failedLong_5 ⟨Nat.le_refl _, Nat.le_refl _⟩ ?_
  exact rML hx hb hr hlk hK hP hS dX4_failedLong_8 (by rw [fX4_failedLong])
def fX4_noEvent (v : Mem) (p0 : Int32) : Int32 :=
  (if (fX4_in ((p0).toInt64) 0 (((v 0 1)).toInt64 - 1)) = 0 then 1 else 0)
set_option maxRecDepth 100000 in
set_option maxHeartbeats 4000000 in
theorem kX4_noEvent (l : Launch) (D : va_G) (cz : ClassId) (bd : Nat → Nat) (v : Mem) (p0 : Int32)  : Met l yX4_noEvent wsX4_noEvent ({ frames := 1, cells := 0, slots := 0, locals := 25 } : Room) (va_Pc [.ref (bd 0), .int p0] (MB D cz bd v)) (qR (some (.int (fX4_noEvent v p0)))) 0 0 noF := by
  refine m_start (cc := cX4_noEvent) (maxL := 2) (ret := (some .boolean)) (by decide) rfl (Nat.le_of_ble_eq_true rfl) (fun p e s m below meth c hx hb hr hts hown hml hlk _ hB ls hl => ?_)
  obtain ⟨hP, hK⟩ := hB
  have hown : s.vm.findClass RX4 = some m.cls := hown
  have hl : lv_has ls 2 [(0, .ref (bd 0)), (1, .int p0)] := hl
  have hin_X4 : ∀ w ∈ wsX40, w ∈ wsX4_noEvent := fun _ h => List.mem_cons_of_mem _ (List.mem_append_right _ (h))
  refine lv_iload_n hx hb dX4_noEvent_0 rfl (lv_at hl 1 rfl) ?_
  refine lv_i2l hx hb dX4_noEvent_1 rfl ?_
  refine lv_lconst (v := 0) hx hb dX4_noEvent_2 (by decide) ?_
  refine lv_aload_n hx hb dX4_noEvent_3 rfl (lv_at hl 0 rfl) ?_
  refine zg_X4_events hx hb hts hin_X4 hown hK hP (hts (Cond.fieldLink RX4 65 "ProphetCoverModel" "events" "I") (List.mem_of_getElem? (i := 1) rfl)) dX4_noEvent_4 ?_
  refine lv_i2l hx hb dX4_noEvent_7 rfl ?_
  refine lv_lconst (v := 1) hx hb dX4_noEvent_8 (by decide) ?_
  refine lv_lsub hx hb dX4_noEvent_9 ?_
  refine kS (n := 3) (As := [.long (p0).toInt64, .long 0, .long (((v 0 1)).toInt64 - 1)]) (rest := []) ⟨hx, hb, hml, hown, hts⟩ (kX4_in l ((p0).toInt64) 0 (((v 0 1)).toInt64 - 1)) gX4_noEvent_X4_in rfl rfl rfl (by decide +kernel) ⟨Nat.le_of_ble_eq_true rfl, Nat.le_of_ble_eq_true rfl⟩ (fun _ _ _ => trivial) (fun _ _ _ _ _ => trivial) rfl hl.1 rfl (Nat.le_of_ble_eq_true rfl) dX4_noEvent_10 ⟨Nat.le_refl _, Nat.le_refl _⟩ ?_
  refine lv_if_ne (tgt := 20) hx hb dX4_noEvent_13 (by decide) (fun c1 => ?_) (fun c1 => ?_)
  · refine lv_iconst (v := 0) hx hb dX4_noEvent_20 (by decide) ?_
    exact rZ hx hb hr hlk (by rfl) dX4_noEvent_21 (by rw [fX4_noEvent, if_neg c1])
  · refine lv_iconst (v := 1) hx hb dX4_noEvent_16 (by decide) ?_
    refine lv_goto (tgt := 21) hx hb dX4_noEvent_17 (by decide) ?_
    exact rZ hx hb hr hlk (by rfl) dX4_noEvent_21 (by rw [fX4_noEvent, if_pos c1])
theorem noEvent_in {v : Mem} {p : Int32} (h : EcOkM v) (c : fX4_noEvent v p = 0) : vp_in p 5 := by
  unfold fX4_noEvent at c
  by_cases c1 : fX4_in p.toInt64 0 ((v 0 1).toInt64 - 1) = 0
  · rw [if_pos c1] at c; exact absurd c (by decide)
  obtain ⟨n, hn, en⟩ := h
  have h2 := (in_spec _ _ _).mp c1
  rw [en, sub1_64 (by omega), i64_32, show (0 : Int64).toInt = 0 from rfl] at h2
  exact in_of h2.1 (by omega)
def fX4_noProphet (v : Mem) (p0 : Int32) : Int32 :=
  (if (fX4_in ((p0).toInt64) 0 (((v 0 3)).toInt64 - 1)) = 0 then 1 else 0)
set_option maxRecDepth 100000 in
set_option maxHeartbeats 4000000 in
theorem kX4_noProphet (l : Launch) (D : va_G) (cz : ClassId) (bd : Nat → Nat) (v : Mem) (p0 : Int32)  : Met l yX4_noProphet wsX4_noProphet ({ frames := 1, cells := 0, slots := 0, locals := 25 } : Room) (va_Pc [.ref (bd 0), .int p0] (MB D cz bd v)) (qR (some (.int (fX4_noProphet v p0)))) 0 0 noF := by
  refine m_start (cc := cX4_noProphet) (maxL := 2) (ret := (some .boolean)) (by decide) rfl (Nat.le_of_ble_eq_true rfl) (fun p e s m below meth c hx hb hr hts hown hml hlk _ hB ls hl => ?_)
  obtain ⟨hP, hK⟩ := hB
  have hown : s.vm.findClass RX4 = some m.cls := hown
  have hl : lv_has ls 2 [(0, .ref (bd 0)), (1, .int p0)] := hl
  have hin_X4 : ∀ w ∈ wsX40, w ∈ wsX4_noProphet := fun _ h => List.mem_cons_of_mem _ (List.mem_append_right _ (h))
  refine lv_iload_n hx hb dX4_noProphet_0 rfl (lv_at hl 1 rfl) ?_
  refine lv_i2l hx hb dX4_noProphet_1 rfl ?_
  refine lv_lconst (v := 0) hx hb dX4_noProphet_2 (by decide) ?_
  refine lv_aload_n hx hb dX4_noProphet_3 rfl (lv_at hl 0 rfl) ?_
  refine zg_X4_prophets hx hb hts hin_X4 hown hK hP (hts (Cond.fieldLink RX4 72 "ProphetCoverModel" "prophets" "I") (List.mem_of_getElem? (i := 1) rfl)) dX4_noProphet_4 ?_
  refine lv_i2l hx hb dX4_noProphet_7 rfl ?_
  refine lv_lconst (v := 1) hx hb dX4_noProphet_8 (by decide) ?_
  refine lv_lsub hx hb dX4_noProphet_9 ?_
  refine kS (n := 3) (As := [.long (p0).toInt64, .long 0, .long (((v 0 3)).toInt64 - 1)]) (rest := []) ⟨hx, hb, hml, hown, hts⟩ (kX4_in l ((p0).toInt64) 0 (((v 0 3)).toInt64 - 1)) gX4_noProphet_X4_in rfl rfl rfl (by decide +kernel) ⟨Nat.le_of_ble_eq_true rfl, Nat.le_of_ble_eq_true rfl⟩ (fun _ _ _ => trivial) (fun _ _ _ _ _ => trivial) rfl hl.1 rfl (Nat.le_of_ble_eq_true rfl) dX4_noProphet_10 ⟨Nat.le_refl _, Nat.le_refl _⟩ ?_
  refine lv_if_ne (tgt := 20) hx hb dX4_noProphet_13 (by decide) (fun c1 => ?_) (fun c1 => ?_)
  · refine lv_iconst (v := 0) hx hb dX4_noProphet_20 (by decide) ?_
    exact rZ hx hb hr hlk (by rfl) dX4_noProphet_21 (by rw [fX4_noProphet, if_neg c1])
  · refine lv_iconst (v := 1) hx hb dX4_noProphet_16 (by decide) ?_
    refine lv_goto (tgt := 21) hx hb dX4_noProphet_17 (by decide) ?_
    exact rZ hx hb hr hlk (by rfl) dX4_noProphet_21 (by rw [fX4_noProphet, if_pos c1])
theorem noProphet_in {v : Mem} {p : Int32} (h : PcOkM v) (c : fX4_noProphet v p = 0) : vp_in p 4 := by
  unfold fX4_noProphet at c
  by_cases c1 : fX4_in p.toInt64 0 ((v 0 3).toInt64 - 1) = 0
  · rw [if_pos c1] at c; exact absurd c (by decide)
  obtain ⟨n, hn, en⟩ := h
  have h2 := (in_spec _ _ _).mp c1
  rw [en, sub1_64 (by omega), i64_32, show (0 : Int64).toInt = 0 from rfl] at h2
  exact in_of h2.1 (by omega)
def fX4_allEvents (v : Mem) : Int32 :=
  (((1 : Int32) <<< ((v 0 1) &&& 31)) - 1)
set_option maxRecDepth 100000 in
set_option maxHeartbeats 4000000 in
theorem kX4_allEvents (l : Launch) (D : va_G) (cz : ClassId) (bd : Nat → Nat) (v : Mem)  : Met l yX4_allEvents wsX4_allEvents ({ frames := 0, cells := 0, slots := 0, locals := 0 } : Room) (va_Pc [.ref (bd 0)] (MB D cz bd v)) (qR (some (.int (fX4_allEvents v)))) 0 0 noF := by
  refine m_start (cc := cX4_allEvents) (maxL := 1) (ret := (some .int)) (by decide) rfl (Nat.le_of_ble_eq_true rfl) (fun p e s m below meth c hx hb hr hts hown hml hlk _ hB ls hl => ?_)
  obtain ⟨hP, hK⟩ := hB
  have hown : s.vm.findClass RX4 = some m.cls := hown
  have hl : lv_has ls 1 [(0, .ref (bd 0))] := hl
  have hin_X4 : ∀ w ∈ wsX40, w ∈ wsX4_allEvents := fun _ h => List.mem_cons_of_mem _ (List.mem_append_right _ (h))
  refine lv_iconst (v := 1) hx hb dX4_allEvents_0 (by decide) ?_
  refine lv_aload_n hx hb dX4_allEvents_1 rfl (lv_at hl 0 rfl) ?_
  refine zg_X4_events hx hb hts hin_X4 hown hK hP (hts (Cond.fieldLink RX4 65 "ProphetCoverModel" "events" "I") (List.mem_of_getElem? (i := 1) rfl)) dX4_allEvents_2 ?_
  refine lv_ishl hx hb dX4_allEvents_5 ?_
  refine lv_iconst (v := 1) hx hb dX4_allEvents_6 (by decide) ?_
  refine lv_isub hx hb dX4_allEvents_7 ?_
  exact rI hx hb hr hlk dX4_allEvents_8 (by rw [fX4_allEvents])
theorem allEv_M {v : Mem} (h : EcOkM v) : ∃ al : Nat, al ≤ 31 ∧ fX4_allEvents v = nI al := by
  obtain ⟨n, hn, en⟩ := h
  refine ⟨2 ^ n - 1, ?_, ?_⟩
  · rcases (show n = 0 ∨ n = 1 ∨ n = 2 ∨ n = 3 ∨ n = 4 ∨ n = 5 by omega) with rfl | rfl | rfl | rfl | rfl | rfl <;> decide
  · unfold fX4_allEvents
    rw [en, shl_pow n hn]
    rcases (show n = 0 ∨ n = 1 ∨ n = 2 ∨ n = 3 ∨ n = 4 ∨ n = 5 by omega) with rfl | rfl | rfl | rfl | rfl | rfl <;> decide
def fX4_noSet (v : Mem) (p0 : Int32) : Int32 :=
  (if (fX4_in ((p0).toInt64) 0 (((fX4_allEvents v)).toInt64)) = 0 then 1 else 0)
set_option maxRecDepth 100000 in
set_option maxHeartbeats 4000000 in
theorem kX4_noSet (l : Launch) (D : va_G) (cz : ClassId) (bd : Nat → Nat) (v : Mem) (p0 : Int32)  : Met l yX4_noSet wsX4_noSet ({ frames := 1, cells := 0, slots := 0, locals := 25 } : Room) (va_Pc [.ref (bd 0), .int p0] (MB D cz bd v)) (qR (some (.int (fX4_noSet v p0)))) 0 0 noF := by
  refine m_start (cc := cX4_noSet) (maxL := 2) (ret := (some .boolean)) (by decide) rfl (Nat.le_of_ble_eq_true rfl) (fun p e s m below meth c hx hb hr hts hown hml hlk _ hB ls hl => ?_)
  obtain ⟨hP, hK⟩ := hB
  have hown : s.vm.findClass RX4 = some m.cls := hown
  have hl : lv_has ls 2 [(0, .ref (bd 0)), (1, .int p0)] := hl
  have hin_X4 : ∀ w ∈ wsX40, w ∈ wsX4_noSet := fun _ h => List.mem_cons_of_mem _ (List.mem_append_right _ (h))
  refine lv_iload_n hx hb dX4_noSet_0 rfl (lv_at hl 1 rfl) ?_
  refine lv_i2l hx hb dX4_noSet_1 rfl ?_
  refine lv_lconst (v := 0) hx hb dX4_noSet_2 (by decide) ?_
  refine lv_aload_n hx hb dX4_noSet_3 rfl (lv_at hl 0 rfl) ?_
  refine kV (n := 0) (As := []) (rest := [.long 0, .long (p0).toInt64]) ⟨hx, hb, hml, hown, hts⟩ (kX4_allEvents l D cz bd v) gX4_noSet_X4_allEvents rfl rfl rfl (by decide +kernel) ⟨Nat.le_of_ble_eq_true rfl, Nat.le_of_ble_eq_true rfl⟩ (recvM hP hK) (MB_of hP hK) MB_bl rfl hl.1 rfl (Nat.le_of_ble_eq_true rfl) dX4_noSet_4 ⟨Nat.le_refl _, Nat.le_refl _⟩ ?_
  refine lv_i2l hx hb dX4_noSet_7 rfl ?_
  refine kS (n := 3) (As := [.long (p0).toInt64, .long 0, .long ((fX4_allEvents v)).toInt64]) (rest := []) ⟨hx, hb, hml, hown, hts⟩ (kX4_in l ((p0).toInt64) 0 (((fX4_allEvents v)).toInt64)) gX4_noSet_X4_in rfl rfl rfl (by decide +kernel) ⟨Nat.le_of_ble_eq_true rfl, Nat.le_of_ble_eq_true rfl⟩ (fun _ _ _ => trivial) (fun _ _ _ _ _ => trivial) rfl hl.1 rfl (Nat.le_of_ble_eq_true rfl) dX4_noSet_8 ⟨Nat.le_refl _, Nat.le_refl _⟩ ?_
  refine lv_if_ne (tgt := 18) hx hb dX4_noSet_11 (by decide) (fun c1 => ?_) (fun c1 => ?_)
  · refine lv_iconst (v := 0) hx hb dX4_noSet_18 (by decide) ?_
    exact rZ hx hb hr hlk (by rfl) dX4_noSet_19 (by rw [fX4_noSet, if_neg c1])
  · refine lv_iconst (v := 1) hx hb dX4_noSet_14 (by decide) ?_
    refine lv_goto (tgt := 19) hx hb dX4_noSet_15 (by decide) ?_
    exact rZ hx hb hr hlk (by rfl) dX4_noSet_19 (by rw [fX4_noSet, if_pos c1])
def fX4_codeAt (v : Mem) (p0 : Int32) (p1 : Int32) : Int32 :=
  (if p1 ≤ (v 0 7) then (-9) else (v 14 (p0 + (v 0 7)).toNatClampNeg))
set_option maxRecDepth 100000 in
set_option maxHeartbeats 4000000 in
theorem kX4_codeAt (l : Launch) (D : va_G) (cz : ClassId) (bd : Nat → Nat) (v : Mem) (p0 : Int32) (p1 : Int32) (hca : CaOk v p0 p1) : Met l yX4_codeAt wsX4_codeAt ({ frames := 0, cells := 0, slots := 0, locals := 0 } : Room) (va_Pc [.ref (bd 0), .int p0, .int p1] (MB D cz bd v)) (qR (some (.int (fX4_codeAt v p0 p1)))) 0 0 noF := by
  refine m_start (cc := cX4_codeAt) (maxL := 3) (ret := (some .int)) (by decide) rfl (Nat.le_of_ble_eq_true rfl) (fun p e s m below meth c hx hb hr hts hown hml hlk _ hB ls hl => ?_)
  obtain ⟨hP, hK⟩ := hB
  have hown : s.vm.findClass RX4 = some m.cls := hown
  have hl : lv_has ls 3 [(0, .ref (bd 0)), (1, .int p0), (2, .int p1)] := hl
  have hin_X4 : ∀ w ∈ wsX40, w ∈ wsX4_codeAt := fun _ h => List.mem_cons_of_mem _ (List.mem_append_right _ (h))
  refine lv_aload_n hx hb dX4_codeAt_0 rfl (lv_at hl 0 rfl) ?_
  refine zg_X4_readAt hx hb hts hin_X4 hown hK hP (hts (Cond.fieldLink RX4 79 "ProphetCoverModel" "readAt" "I") (List.mem_of_getElem? (i := 1) rfl)) dX4_codeAt_1 ?_
  refine lv_iload_n hx hb dX4_codeAt_4 rfl (lv_at hl 2 rfl) ?_
  refine lv_icmp_ge (tgt := 22) hx hb dX4_codeAt_5 (by decide) (fun c1 => ?_) (fun c1 => ?_)
  · refine lv_bipush (v := (-9)) hx hb dX4_codeAt_22 (by decide) ?_
    exact rI hx hb hr hlk dX4_codeAt_24 (by rw [fX4_codeAt, if_pos c1])
  · have hvc := CaOk_in hca c1
    refine lv_aload_n hx hb dX4_codeAt_8 rfl (lv_at hl 0 rfl) ?_
    refine zg_X4_sheet hx hb hts hin_X4 hown hK hP (hts (Cond.fieldLink RX4 49 "ProphetCoverModel" "sheet" "[I") (List.mem_of_getElem? (i := 2) rfl)) dX4_codeAt_9 ?_
    refine lv_iload_n hx hb dX4_codeAt_12 rfl (lv_at hl 1 rfl) ?_
    refine lv_aload_n hx hb dX4_codeAt_13 rfl (lv_at hl 0 rfl) ?_
    refine zg_X4_readAt hx hb hts hin_X4 hown hK hP (hts (Cond.fieldLink RX4 79 "ProphetCoverModel" "readAt" "I") (List.mem_of_getElem? (i := 1) rfl)) dX4_codeAt_14 ?_
    refine lv_iadd hx hb dX4_codeAt_17 ?_
    refine zl_M (by decide) (by decide) rfl hx hb hK hP (by assumption) dX4_codeAt_18 ?_
    refine lv_goto (tgt := 24) hx hb dX4_codeAt_19 (by decide) ?_
    exact rI hx hb hr hlk dX4_codeAt_24 (by rw [fX4_codeAt, if_neg c1])
theorem CaOk_inc {v : Mem} {f n ch : Int32} (h : CaOk v f n) (c : fX4_codeAt v f n = ch) (hne : ¬ ch = -9) : CaOk (mset v 0 7 (v 0 7 + 1)) f n := by
  obtain ⟨r, a, b, e1, e2, e3, h1, h2, h3⟩ := h
  have hlt : r < b := by
    rcases Nat.lt_or_ge r b with q | q
    · exact q
    · exfalso
      apply hne
      rw [← c, fX4_codeAt, if_pos (by rw [e1, e3]; exact nI_le q (by omega))]
  exact ⟨r + 1, a, b, by rw [mset_at, e1]; exact nI_1 r, e2, e3, by omega, h2, h3⟩
def fX4_figure (v : Mem) (p0 : Int32) (p1 : Int32) (p2 : Int32) : Int32 × Mem :=
  (if (fX4_in ((((fX4_codeAt v p0 p1) - 48)).toInt64) 0 ((p2).toInt64)) = 0 then (if (fX4_in ((((fX4_codeAt v p0 p1) - 48)).toInt64) 0 ((p2).toInt64)) = 0 then ((-9), (mset v 0 7 ((v 0 7) + 0))) else (((fX4_codeAt v p0 p1) - 48), (mset v 0 7 ((v 0 7) + 0)))) else (if (fX4_in ((((fX4_codeAt v p0 p1) - 48)).toInt64) 0 ((p2).toInt64)) = 0 then ((-9), (mset v 0 7 ((v 0 7) + 1))) else (((fX4_codeAt v p0 p1) - 48), (mset v 0 7 ((v 0 7) + 1)))))
set_option maxRecDepth 100000 in
set_option maxHeartbeats 4000000 in
theorem kX4_figure (l : Launch) (D : va_G) (cz : ClassId) (bd : Nat → Nat) (hI : MI bd) (v : Mem) (p0 : Int32) (p1 : Int32) (p2 : Int32) (hca : CaOk v p0 p1) : Met l yX4_figure wsX4_figure ({ frames := 1, cells := 0, slots := 0, locals := 25 } : Room) (va_Pc [.ref (bd 0), .int p0, .int p1, .int p2] (MB D cz bd v)) (qW (MB D cz bd (fX4_figure v p0 p1 p2).2) (AM bd) (some (.int (fX4_figure v p0 p1 p2).1))) 0 0 (AM bd) := by
  refine m_start (cc := cX4_figure) (maxL := 6) (ret := (some .int)) (by decide) rfl (Nat.le_of_ble_eq_true rfl) (fun p e s m below meth c hx hb hr hts hown hml hlk _ hB ls hl => ?_)
  obtain ⟨hP, hK⟩ := hB
  have hown : s.vm.findClass RX4 = some m.cls := hown
  have hl : lv_has ls 6 [(0, .ref (bd 0)), (1, .int p0), (2, .int p1), (3, .int p2)] := hl
  have hin_X4 : ∀ w ∈ wsX40, w ∈ wsX4_figure := fun _ h => List.mem_cons_of_mem _ (List.mem_append_right _ (h))
  obtain ⟨H, hH⟩ : ∃ H, H = s.heap := ⟨_, rfl⟩
  obtain ⟨locs, hlo⟩ : ∃ z : List Loc, z = [] := ⟨_, rfl⟩
  have hS : va_S (AM bd) s.heap H locs := by rw [hH, hlo]; exact va_S.rf
  have hP : va_P D vwCl (wM cz bd v) H := by rw [hH]; exact hP
  suffices hgoal : W p l e ({ frames := 1, cells := 0, slots := 0, locals := 25 } : Room) s m ([.ref (bd 0), .int p0, .int p1, .int p2] : List Value).toArray below meth c H locs 0 0 (MQ below (qW (MB D cz bd (fX4_figure v p0 p1 p2).2) (AM bd) (some (.int (fX4_figure v p0 p1 p2).1))) ([.ref (bd 0), .int p0, .int p1, .int p2] : List Value).toArray s 0 0 (AM bd)) (F0 m 0 ls []) by rw [hH, hlo] at hgoal; exact hgoal
  clear hH hlo
  refine lv_aload_n hx hb dX4_figure_0 rfl (lv_at hl 0 rfl) ?_
  refine lv_iload_n hx hb dX4_figure_1 rfl (lv_at hl 1 rfl) ?_
  refine lv_iload_n hx hb dX4_figure_2 rfl (lv_at hl 2 rfl) ?_
  refine kV (n := 2) (As := [.int p0, .int p1]) (rest := []) ⟨hx, hb, hml, hown, hts⟩ (kX4_codeAt l D cz bd v p0 p1 (by assumption)) gX4_figure_X4_codeAt rfl rfl rfl (by decide +kernel) ⟨Nat.le_of_ble_eq_true rfl, Nat.le_of_ble_eq_true rfl⟩ (recvM hP hK) (MB_of hP hK) MB_bl rfl hl.1 rfl (Nat.le_of_ble_eq_true rfl) dX4_figure_3 ⟨Nat.le_refl _, Nat.le_refl _⟩ ?_
  refine lv_bipush (v := 48) hx hb dX4_figure_6 (by decide) ?_
  refine lv_isub hx hb dX4_figure_8 ?_
  refine lv_istore (lv' := [(4, .int ((fX4_codeAt v p0 p1) - 48)), (0, .ref (bd 0)), (1, .int p0), (2, .int p1), (3, .int p2)]) hx hb dX4_figure_9 hl (by decide) rfl (fun ls hl => ?_)
  refine lv_iload hx hb dX4_figure_11 (lv_at hl 0 rfl) ?_
  refine lv_i2l hx hb dX4_figure_13 rfl ?_
  refine lv_lconst (v := 0) hx hb dX4_figure_14 (by decide) ?_
  refine lv_iload_n hx hb dX4_figure_15 rfl (lv_at hl 4 rfl) ?_
  refine lv_i2l hx hb dX4_figure_16 rfl ?_
  refine kS (n := 3) (As := [.long (((fX4_codeAt v p0 p1) - 48)).toInt64, .long 0, .long (p2).toInt64]) (rest := []) ⟨hx, hb, hml, hown, hts⟩ (kX4_in l ((((fX4_codeAt v p0 p1) - 48)).toInt64) 0 ((p2).toInt64)) gX4_figure_X4_in rfl rfl rfl (by decide +kernel) ⟨Nat.le_of_ble_eq_true rfl, Nat.le_of_ble_eq_true rfl⟩ (fun _ _ _ => trivial) (fun _ _ _ _ _ => trivial) rfl hl.1 rfl (Nat.le_of_ble_eq_true rfl) dX4_figure_17 ⟨Nat.le_refl _, Nat.le_refl _⟩ ?_
  refine lv_istore (lv' := [(5, .int (fX4_in ((((fX4_codeAt v p0 p1) - 48)).toInt64) 0 ((p2).toInt64))), (4, .int ((fX4_codeAt v p0 p1) - 48)), (0, .ref (bd 0)), (1, .int p0), (2, .int p1), (3, .int p2)]) hx hb dX4_figure_20 hl (by decide) rfl (fun ls hl => ?_)
  refine lv_aload_n hx hb dX4_figure_22 rfl (lv_at hl 2 rfl) ?_
  refine lv_dup hx hb dX4_figure_23 rfl ?_
  refine zg_X4_readAt hx hb hts hin_X4 hown hK hP (hts (Cond.fieldLink RX4 79 "ProphetCoverModel" "readAt" "I") (List.mem_of_getElem? (i := 1) rfl)) dX4_figure_24 ?_
  refine lv_iload hx hb dX4_figure_27 (lv_at hl 0 rfl) ?_
  refine lv_if_eq (tgt := 36) hx hb dX4_figure_29 (by decide) (fun c1 => ?_) (fun c1 => ?_)
  · refine lv_iconst (v := 0) hx hb dX4_figure_36 (by decide) ?_
    refine lv_iadd hx hb dX4_figure_37 ?_
    refine zp_X4_readAt hx hb hts hin_X4 hown hK hP hI hS (hts (Cond.fieldLink RX4 79 "ProphetCoverModel" "readAt" "I") (List.mem_of_getElem? (i := 1) rfl)) dX4_figure_38 (fun H locs hP hS => ?_)
    refine lv_iload hx hb dX4_figure_41 (lv_at hl 0 rfl) ?_
    refine lv_if_eq (tgt := 51) hx hb dX4_figure_43 (by decide) (fun c2 => ?_) (fun c2 => ?_)
    · refine lv_bipush (v := (-9)) hx hb dX4_figure_51 (by decide) ?_
      exact rMI hx hb hr hlk hK hP hS dX4_figure_53 (by rw [fX4_figure, if_pos c1, if_pos c2])
    · refine lv_iload hx hb dX4_figure_46 (lv_at hl 1 rfl) ?_
      refine lv_goto (tgt := 53) hx hb dX4_figure_48 (by decide) ?_
      exact rMI hx hb hr hlk hK hP hS dX4_figure_53 (by rw [fX4_figure, if_pos c1, if_neg c2])
  · refine lv_iconst (v := 1) hx hb dX4_figure_32 (by decide) ?_
    refine lv_goto (tgt := 37) hx hb dX4_figure_33 (by decide) ?_
    refine lv_iadd hx hb dX4_figure_37 ?_
    refine zp_X4_readAt hx hb hts hin_X4 hown hK hP hI hS (hts (Cond.fieldLink RX4 79 "ProphetCoverModel" "readAt" "I") (List.mem_of_getElem? (i := 1) rfl)) dX4_figure_38 (fun H locs hP hS => ?_)
    refine lv_iload hx hb dX4_figure_41 (lv_at hl 0 rfl) ?_
    refine lv_if_eq (tgt := 51) hx hb dX4_figure_43 (by decide) (fun c3 => ?_) (fun c3 => ?_)
    · refine lv_bipush (v := (-9)) hx hb dX4_figure_51 (by decide) ?_
      exact rMI hx hb hr hlk hK hP hS dX4_figure_53 (by rw [fX4_figure, if_neg c1, if_pos c3])
    · refine lv_iload hx hb dX4_figure_46 (lv_at hl 1 rfl) ?_
      refine lv_goto (tgt := 53) hx hb dX4_figure_48 (by decide) ?_
      exact rMI hx hb hr hlk hK hP hS dX4_figure_53 (by rw [fX4_figure, if_neg c1, if_neg c3])
theorem fig_mem (v : Mem) (f n m : Int32) : ((fX4_figure v f n m).1 = -9 ∧ (fX4_figure v f n m).2 = mset v 0 7 (v 0 7 + 0) ∧ fX4_in ((fX4_codeAt v f n - 48).toInt64) 0 (m.toInt64) = 0) ∨ ((fX4_figure v f n m).1 = fX4_codeAt v f n - 48 ∧ (fX4_figure v f n m).2 = mset v 0 7 (v 0 7 + 1) ∧ ¬ fX4_in ((fX4_codeAt v f n - 48).toInt64) 0 (m.toInt64) = 0) := by
  unfold fX4_figure
  by_cases c : fX4_in ((fX4_codeAt v f n - 48).toInt64) 0 (m.toInt64) = 0
  · rw [if_pos c, if_pos c]
    exact Or.inl ⟨rfl, rfl, c⟩
  · rw [if_neg c, if_neg c]
    exact Or.inr ⟨rfl, rfl, c⟩
theorem fig_keep {v : Mem} {f n m : Int32} {b : Nat} (hb : b ≠ 7) : (fX4_figure v f n m).2 0 b = v 0 b := by
  rcases fig_mem v f n m with ⟨-, e, -⟩ | ⟨-, e, -⟩ <;> rw [e, mset_nei hb]
theorem fig_row {v : Mem} {f n m : Int32} {a : Nat} (ha : a ≠ 0) : (fX4_figure v f n m).2 a = v a := by
  rcases fig_mem v f n m with ⟨-, e, -⟩ | ⟨-, e, -⟩ <;> rw [e, mset_ne ha]
theorem CaOk_fig {v : Mem} {f n m : Int32} (h : CaOk v f n) : CaOk (fX4_figure v f n m).2 f n := by
  rcases fig_mem v f n m with ⟨-, e, -⟩ | ⟨-, e, c⟩
  · obtain ⟨r, a, b, e1, h2⟩ := h
    exact ⟨r, a, b, by rw [e, mset_at, e1]; exact Int32.add_zero _, h2⟩
  · rw [e]
    refine CaOk_inc h rfl (fun q => c ?_)
    rw [q]
    by_cases z : fX4_in (((-9 : Int32) - 48).toInt64) 0 (m.toInt64) = 0
    · exact z
    · have := (in_spec _ _ _).mp z
      rw [i64_32, show ((-9 : Int32) - 48).toInt = -57 from by decide, show (0 : Int64).toInt = 0 from rfl] at this
      omega
theorem ne_in5 {v w : Mem} (h : ∃ e : Nat, e ≤ 5 ∧ v 0 8 = nI e) (hw : w 0 8 = v 0 8) (hn : ¬ v 0 8 = 5) : vp_in (w 0 8) 5 := by
  obtain ⟨e, he, ee⟩ := h
  rw [hw, ee]
  rcases Nat.lt_or_ge e 5 with q | q
  · exact vp_in_nI q (by decide)
  · exact absurd (by rw [ee, show e = 5 by omega]; rfl) hn
theorem ne_in4 {v w : Mem} (h : ∃ e : Nat, e ≤ 4 ∧ v 0 9 = nI e) (hw : w 0 9 = v 0 9) (hn : ¬ v 0 9 = 4) : vp_in (w 0 9) 4 := by
  obtain ⟨e, he, ee⟩ := h
  rw [hw, ee]
  rcases Nat.lt_or_ge e 4 with q | q
  · exact vp_in_nI q (by decide)
  · exact absurd (by rw [ee, show e = 4 by omega]; rfl) hn
theorem ne_in8 {v : Mem} (h : RcOkM v) (hn : ¬ v 0 18 = 8) : vp_in (v 0 18) 8 := by
  obtain ⟨e, he, ee⟩ := h
  rw [ee]
  rcases Nat.lt_or_ge e 8 with q | q
  · exact vp_in_nI q (by decide)
  · exact absurd (by rw [ee, show e = 8 by omega]; rfl) hn
theorem ro_ca {v : Mem} {f n : Int32} (h : GrOk f n) : CaOk (mset (mset (mset v 0 7 0) 0 8 0) 0 9 0) f n := by
  obtain ⟨a, b, e1, e2, h1, h2⟩ := h
  exact ⟨0, a, b, rfl, e1, e2, by omega, h1, h2⟩
theorem ro_ca0 {v : Mem} {f n : Int32} (h : GrOk f n) : CaOk (mset (mset (mset (mset v 0 7 0) 0 8 0) 0 9 0) 0 7 ((mset (mset (mset v 0 7 0) 0 8 0) 0 9 0) 0 7 + 0)) f n := by
  obtain ⟨a, b, e1, e2, h1, h2⟩ := h
  exact ⟨0, a, b, by rw [mset_at]; exact Int32.add_zero _, e1, e2, by omega, h1, h2⟩
theorem ro_ca1 {v : Mem} {f n : Int32} (h : GrOk f n) (c : fX4_codeAt (mset (mset (mset v 0 7 0) 0 8 0) 0 9 0) f n = 119) : CaOk (mset (mset (mset (mset v 0 7 0) 0 8 0) 0 9 0) 0 7 ((mset (mset (mset v 0 7 0) 0 8 0) 0 9 0) 0 7 + 1)) f n := CaOk_inc (ro_ca h) c (by decide)
theorem dig_in (c : Int32) {M : Int32} {m : Nat} (hM : M.toInt = (m : Int)) (hm : m ≤ 9) : fX4_in (c - 48).toInt64 0 M.toInt64 = fX3_isDigit c M := by
  have h1 := Int32.toInt_lt c
  have h2 := Int32.le_toInt c
  have e : (c - 48).toInt = (c.toInt - 48).bmod (2 ^ 32) := Int32.toInt_sub c 48
  have hb : (c.toInt - 48).bmod (2 ^ 32) = c.toInt - 48 ∨ ((c.toInt - 48).bmod (2 ^ 32) = c.toInt - 48 + 2 ^ 32 ∧ c.toInt < -1000) := by
    unfold Int.bmod
    dsimp only
    split <;> omega
  have e48 : (48 : Int32).toInt = 48 := by decide
  have es : (48 + M).toInt = 48 + (m : Int) := by
    rw [Int32.toInt_add, e48, hM]
    exact Int.bmod_eq_of_le (by omega) (by omega)
  have hX : fX3_isDigit c M = if 48 ≤ c.toInt ∧ c.toInt ≤ 48 + (m : Int) then 1 else 0 := by
    rw [fX3_isDigit]
    by_cases q1 : c < 48
    · have := Int32.lt_iff_toInt_lt.mp q1
      rw [e48] at this
      rw [if_pos q1, if_neg (by omega)]
    · have q1' : ¬ c.toInt < 48 := fun z => q1 (Int32.lt_iff_toInt_lt.mpr (by rw [e48]; exact z))
      rw [if_neg q1]
      by_cases q2 : 48 + M < c
      · have := Int32.lt_iff_toInt_lt.mp q2
        rw [es] at this
        rw [if_pos q2, if_neg (by omega)]
      · have q2' : ¬ 48 + (m : Int) < c.toInt := fun z => q2 (Int32.lt_iff_toInt_lt.mpr (by rw [es]; exact z))
        rw [if_neg q2, if_pos (by omega)]
  have hMM : (¬ fX4_in (c - 48).toInt64 0 M.toInt64 = 0) ↔ (0 ≤ (c - 48).toInt ∧ (c - 48).toInt ≤ (m : Int)) := by
    have := in_spec (c - 48).toInt64 0 M.toInt64
    rw [Int32.toInt_toInt64, Int32.toInt_toInt64, hM] at this
    exact this
  have hor : fX4_in (c - 48).toInt64 0 M.toInt64 = 0 ∨ fX4_in (c - 48).toInt64 0 M.toInt64 = 1 := by
    unfold fX4_in
    split
    · exact Or.inl rfl
    · split
      · exact Or.inl rfl
      · exact Or.inr rfl
  rw [hX]
  by_cases q : 48 ≤ c.toInt ∧ c.toInt ≤ 48 + (m : Int)
  · rw [if_pos q]
    rcases hor with h | h
    · exfalso
      refine hMM.mpr ?_ h
      rw [e]
      rcases hb with hb | ⟨hb, hn⟩
      · rw [hb]; omega
      · omega
    · exact h
  · rw [if_neg q]
    rcases hor with h | h
    · exact h
    · exfalso
      have h3 := hMM.mp (by rw [h]; decide)
      rw [e] at h3
      rcases hb with hb | ⟨hb, hn⟩
      · rw [hb] at h3; omega
      · rw [hb] at h3; omega
theorem dig_01 (c M : Int32) : fX3_isDigit c M = 0 ∨ fX3_isDigit c M = 1 := by
  rw [fX3_isDigit]
  split
  · exact Or.inl rfl
  · split
    · exact Or.inl rfl
    · exact Or.inr rfl
theorem dig_ex {c M : Int32} {m : Nat} (hM : M.toInt = (m : Int)) (hm : m ≤ 9) (h : fX3_isDigit c M = 1) : ∃ d : Nat, d ≤ m ∧ c = nI (48 + d) ∧ c - 48 = nI d := by
  have e48 : (48 : Int32).toInt = 48 := by decide
  have es : (48 + M).toInt = 48 + (m : Int) := by
    rw [Int32.toInt_add, e48, hM]
    exact Int.bmod_eq_of_le (by omega) (by omega)
  rw [fX3_isDigit] at h
  by_cases q1 : c < 48
  · rw [if_pos q1] at h; exact absurd h (by decide)
  · have q1' : ¬ c.toInt < 48 := fun z => q1 (Int32.lt_iff_toInt_lt.mpr (by rw [e48]; exact z))
    rw [if_neg q1] at h
    by_cases q2 : 48 + M < c
    · rw [if_pos q2] at h; exact absurd h (by decide)
    · have q2' : ¬ 48 + (m : Int) < c.toInt := fun z => q2 (Int32.lt_iff_toInt_lt.mpr (by rw [es]; exact z))
      obtain ⟨j, e1, e2, -⟩ := int_ex (show 0 ≤ c.toInt by omega)
      refine ⟨j - 48, by omega, by rw [e1]; congr 1; omega, ?_⟩
      rw [e1]
      exact pk_sub (b := 48) (by omega)
theorem mset_self {u : Mem} {j i : Nat} : mset u j i (u j i) = u := by
  funext a b
  by_cases h : a = j ∧ b = i
  · obtain ⟨rfl, rfl⟩ := h
    rw [mset_at]
  · simp [mset, h]
theorem mset_oo {u : Mem} {j i : Nat} {x : Int32} {a b : Nat} (h : ¬ (a = j ∧ b = i)) : mset u j i x a b = u a b := by simp [mset, h]
def PosOk (w : Mem) (a b r : Nat) : Prop := w 0 7 = nI r ∧ r ≤ b ∧ b ≤ 60 ∧ a + b ≤ 240
theorem code_at {w : Mem} {a b r : Nat} (h : PosOk w a b r) : fX4_codeAt w (nI a) (nI b) = if b ≤ r then -9 else w 14 (a + r) := by
  obtain ⟨h1, h2, h3, h4⟩ := h
  rw [fX4_codeAt, h1]
  by_cases q : b ≤ r
  · rw [if_pos (nI_le q (by omega)), if_pos q]
  · rw [if_neg (nI_ge (by omega) (by omega)), if_neg q, nI_add, nI_clamp (by omega)]
theorem fig_step {w : Mem} {a b r m : Nat} {M : Int32} (h : PosOk w a b r) (hM : M.toInt = (m : Int)) (hm : m ≤ 9) :
    (r < b ∧ fX3_isDigit (w 14 (a + r)) M = 1 ∧ fX4_figure w (nI a) (nI b) M = (w 14 (a + r) - 48, mset w 0 7 (nI (r + 1)))) ∨ (¬ (r < b ∧ fX3_isDigit (w 14 (a + r)) M = 1) ∧ fX4_figure w (nI a) (nI b) M = (-9, w)) := by
  have hc := code_at h
  obtain ⟨h1, h2, h3, h4⟩ := h
  rw [fX4_figure, hc, h1]
  have e0 : mset w 0 7 (nI r + 0) = w := by
    rw [Int32.add_zero, ← h1]
    exact mset_self
  by_cases q : b ≤ r
  · rw [if_pos q, dig_in (-9) hM hm]
    have : fX3_isDigit (-9) M = 0 := by
      rw [fX3_isDigit, if_pos (by decide)]
    rw [this, if_pos rfl, if_pos rfl, e0]
    exact Or.inr ⟨fun z => by omega, rfl⟩
  · rw [if_neg q, dig_in _ hM hm]
    rcases dig_01 (w 14 (a + r)) M with z | z
    · rw [z, if_pos rfl, if_pos rfl, e0]
      exact Or.inr ⟨fun y => absurd y.2 (by decide), rfl⟩
    · rw [z, if_neg (by decide), if_neg (by decide), nI_1]
      exact Or.inl ⟨by omega, z ▸ rfl, rfl⟩
