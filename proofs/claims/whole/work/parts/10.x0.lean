def fX2_isEmpty (u : Mem) (k : Nat) : Int32 :=
  (if (u 9 k) = (-1) then 1 else 0)
set_option maxRecDepth 100000 in
set_option maxHeartbeats 4000000 in
theorem kX2_isEmpty (l : Launch) (D : va_G) (cy : Nat → ClassId) (ad : Nat → Nat) (u : Mem) (k : Nat) (hk : k < 4) : Met l yX2_isEmpty wsX2_isEmpty ({ frames := 0, cells := 0, slots := 0, locals := 0 } : Room) (va_Pc [.ref (ad (5 + k))] (XB D cy ad u)) (qR (some (.int (fX2_isEmpty u k)))) 0 0 noF := by
  refine m_start (cc := cX2_isEmpty) (maxL := 1) (ret := (some .boolean)) (by decide) rfl (Nat.le_of_ble_eq_true rfl) (fun p e s m below meth c hx hb hr hts hown hml hlk _ hB ls hl => ?_)
  obtain ⟨hP, hK⟩ := hB
  have hown : s.vm.findClass RX2 = some m.cls := hown
  have hl : lv_has ls 1 [(0, .ref (ad (5 + k)))] := hl
  have hin_X2 : ∀ w ∈ wsX20, w ∈ wsX2_isEmpty := fun _ h => List.mem_cons_of_mem _ (List.mem_append_right _ (h))
  refine lv_aload_n hx hb dX2_isEmpty_0 rfl (lv_at hl 0 rfl) ?_
  refine zg_X2_size hk hx hb hts hin_X2 hown hK hP (hts (Cond.fieldLink RX2 19 "ProphetCover$Sheet" "size" "I") (List.mem_of_getElem? (i := 1) rfl)) dX2_isEmpty_1 ?_
  refine lv_iconst (v := (-1)) hx hb dX2_isEmpty_4 (by decide) ?_
  refine lv_icmp_ne (tgt := 12) hx hb dX2_isEmpty_5 (by decide) (fun c1 => ?_) (fun c1 => ?_)
  · refine lv_iconst (v := 0) hx hb dX2_isEmpty_12 (by decide) ?_
    exact rZ hx hb hr hlk (by rfl) dX2_isEmpty_13 (by rw [fX2_isEmpty, if_neg c1])
  · refine lv_iconst (v := 1) hx hb dX2_isEmpty_8 (by decide) ?_
    refine lv_goto (tgt := 13) hx hb dX2_isEmpty_9 (by decide) ?_
    exact rZ hx hb hr hlk (by rfl) dX2_isEmpty_13 (by rw [fX2_isEmpty, if_pos c1])
def fX2_makeRow_c2 (u : Mem) (k : Nat) (p0 : Int32) (p1 : Int32)  : Nat → Mem → Int32 → Mem
  | 0, w2, x3 => w2
  | n2 + 1, w2, x3 => (if 60 ≤ x3 then (mset (mset w2 8 k p0) 9 k p1) else (fX2_makeRow_c2 u k p0 p1 n2 (mset w2 (10 + k) x3.toNatClampNeg 0) (x3 + 1)))
def fX2_makeRow (u : Mem) (k : Nat) (p0 : Int32) (p1 : Int32) : Mem :=
  (fX2_makeRow_c2 u k p0 p1 (61) u 0)
set_option maxRecDepth 100000 in
set_option maxHeartbeats 4000000 in
theorem kX2_makeRow (l : Launch) (D : va_G) (cy : Nat → ClassId) (ad : Nat → Nat) (hI : XI ad) (u : Mem) (k : Nat) (p0 : Int32) (p1 : Int32) (hk : k < 4) : Met l yX2_makeRow wsX2_makeRow ({ frames := 0, cells := 0, slots := 0, locals := 0 } : Room) (va_Pc [.ref (ad (5 + k)), .int p0, .int p1] (XB D cy ad u)) (qW (XB D cy ad (fX2_makeRow u k p0 p1)) (AX ad) none) 0 0 (AX ad) := by
  refine m_start (cc := cX2_makeRow) (maxL := 4) (ret := none) (by decide) rfl (Nat.le_of_ble_eq_true rfl) (fun p e s m below meth c hx hb hr hts hown hml hlk _ hB ls hl => ?_)
  obtain ⟨hP, hK⟩ := hB
  have hown : s.vm.findClass RX2 = some m.cls := hown
  have hl : lv_has ls 4 [(0, .ref (ad (5 + k))), (1, .int p0), (2, .int p1)] := hl
  have hin_X2 : ∀ w ∈ wsX20, w ∈ wsX2_makeRow := fun _ h => List.mem_cons_of_mem _ (List.mem_append_right _ (h))
  obtain ⟨H, hH⟩ : ∃ H, H = s.heap := ⟨_, rfl⟩
  obtain ⟨locs, hlo⟩ : ∃ z : List Loc, z = [] := ⟨_, rfl⟩
  have hS : va_S (AX ad) s.heap H locs := by rw [hH, hlo]; exact va_S.rf
  have hP : va_P D vwCl (wX cy ad u) H := by rw [hH]; exact hP
  suffices hgoal : W p l e ({ frames := 0, cells := 0, slots := 0, locals := 0 } : Room) s m ([.ref (ad (5 + k)), .int p0, .int p1] : List Value).toArray below meth c H locs 0 0 (MQ below (qW (XB D cy ad (fX2_makeRow u k p0 p1)) (AX ad) none) ([.ref (ad (5 + k)), .int p0, .int p1] : List Value).toArray s 0 0 (AX ad)) (F0 m 0 ls []) by rw [hH, hlo] at hgoal; exact hgoal
  clear hH hlo
  refine lv_iconst (v := 0) hx hb dX2_makeRow_0 (by decide) ?_
  refine lv_istore_n (lv' := [(3, .int 0), (0, .ref (ad (5 + k))), (1, .int p0), (2, .int p1)]) hx hb dX2_makeRow_1 rfl hl (by decide) rfl (fun ls hl => ?_)
  have lp2 : ∀ (n2 : Nat) (w2 : Mem) (x3 : Int32) (k2 : Nat), (fX2_makeRow u k p0 p1) = (fX2_makeRow_c2 u k p0 p1 n2 w2 x3) → (x3 = nI k2) → (k2 ≤ 60) → (60 < k2 + n2) → ∀ (H : Heap) (locs : List Loc), va_P D vwCl (wX cy ad w2) H → va_S (AX ad) s.heap H locs → ∀ ls : Array Slot, lv_has ls 4 [(3, .int x3), (0, .ref (ad (5 + k))), (1, .int p0), (2, .int p1)] → W p l e ({ frames := 0, cells := 0, slots := 0, locals := 0 } : Room) s m ([.ref (ad (5 + k)), .int p0, .int p1] : List Value).toArray below meth c H locs 0 0 (MQ below (qW (XB D cy ad (fX2_makeRow u k p0 p1)) (AX ad) none) ([.ref (ad (5 + k)), .int p0, .int p1] : List Value).toArray s 0 0 (AX ad)) (F0 m 2 ls []) := by
    intro n2
    induction n2 with
    | zero =>
      intro w2 x3 k2 _ e2 hk2 hm2 H locs hP hS ls hl
      exfalso; omega
    | succ n2 ih2 =>
      intro w2 x3 k2 hr2 e2 hk2 hm2 H locs hP hS ls hl
      refine lv_iload_n hx hb dX2_makeRow_2 rfl (lv_at hl 0 rfl) ?_
      refine lv_bipush (v := 60) hx hb dX2_makeRow_3 (by decide) ?_
      refine lv_icmp_ge (tgt := 21) hx hb dX2_makeRow_5 (by decide) (fun c1 => ?_) (fun c1 => ?_)
      · refine lv_aload_n hx hb dX2_makeRow_21 rfl (lv_at hl 1 rfl) ?_
        refine lv_iload_n hx hb dX2_makeRow_22 rfl (lv_at hl 2 rfl) ?_
        refine zp_X2_lane hk hx hb hts hin_X2 hown hK hP hI hS (hts (Cond.fieldLink RX2 15 "ProphetCover$Sheet" "lane" "I") (List.mem_of_getElem? (i := 2) rfl)) dX2_makeRow_23 (fun H locs hP hS => ?_)
        refine lv_aload_n hx hb dX2_makeRow_26 rfl (lv_at hl 1 rfl) ?_
        refine lv_iload_n hx hb dX2_makeRow_27 rfl (lv_at hl 3 rfl) ?_
        refine zp_X2_size hk hx hb hts hin_X2 hown hK hP hI hS (hts (Cond.fieldLink RX2 19 "ProphetCover$Sheet" "size" "I") (List.mem_of_getElem? (i := 3) rfl)) dX2_makeRow_28 (fun H locs hP hS => ?_)
        exact rXV hx hb hr hlk hK hP hS dX2_makeRow_31 (by rw [hr2, fX2_makeRow_c2, if_pos c1])
      · have hlt2 : k2 < 60 := cnt_lt (show (60 : Int32) = nI 60 from rfl) e2 (by omega) (by omega) c1
        have hv2 : vp_in x3 60 := cnt_in e2 (by omega) (by decide)
        refine lv_aload_n hx hb dX2_makeRow_8 rfl (lv_at hl 1 rfl) ?_
        refine zg_X2_cells hk hx hb hts hin_X2 hown hK hP (hts (Cond.fieldLink RX2 9 "ProphetCover$Sheet" "cells" "[I") (List.mem_of_getElem? (i := 1) rfl)) dX2_makeRow_9 ?_
        refine lv_iload_n hx hb dX2_makeRow_12 rfl (lv_at hl 0 rfl) ?_
        refine lv_iconst (v := 0) hx hb dX2_makeRow_13 (by decide) ?_
        refine zs_ce hk hx hb hK hP hI hS (by assumption) dX2_makeRow_14 (fun H locs hP hS => ?_)
        refine lv_iinc (v := (x3 + 1)) (lv' := [(3, .int (x3 + 1)), (0, .ref (ad (5 + k))), (1, .int p0), (2, .int p1)]) hx hb dX2_makeRow_15 hl (k := 0) rfl rfl (by decide) rfl (fun ls hl => ?_)
        refine lv_goto (tgt := 2) hx hb dX2_makeRow_18 (by decide) ?_
        exact ih2 (mset w2 (10 + k) x3.toNatClampNeg 0) (x3 + 1) (k2 + 1) (by rw [hr2, fX2_makeRow_c2, if_neg c1]) (by rw [e2]; exact nI_1 _) hlt2 (by omega) H locs hP hS ls (lv_sub hl [0, 1, 2, 3] rfl)
  exact lp2 (61) u 0 (0) (by rw [fX2_makeRow]) nI_0.symm (by omega) (by omega) H locs hP hS ls (lv_sub hl [0, 1, 2, 3] rfl)
def fX2_reaches (u : Mem) (k : Nat) (p0 : Int32) (p1 : Int32) : Int32 :=
  (if p1 < 0 then 0 else (if p0 < 0 then 0 else (if ((u 9 k) - p1) < p0 then 0 else 1)))
set_option maxRecDepth 100000 in
set_option maxHeartbeats 4000000 in
theorem kX2_reaches (l : Launch) (D : va_G) (cy : Nat → ClassId) (ad : Nat → Nat) (u : Mem) (k : Nat) (p0 : Int32) (p1 : Int32) (hk : k < 4) : Met l yX2_reaches wsX2_reaches ({ frames := 0, cells := 0, slots := 0, locals := 0 } : Room) (va_Pc [.ref (ad (5 + k)), .int p0, .int p1] (XB D cy ad u)) (qR (some (.int (fX2_reaches u k p0 p1)))) 0 0 noF := by
  refine m_start (cc := cX2_reaches) (maxL := 3) (ret := (some .boolean)) (by decide) rfl (Nat.le_of_ble_eq_true rfl) (fun p e s m below meth c hx hb hr hts hown hml hlk _ hB ls hl => ?_)
  obtain ⟨hP, hK⟩ := hB
  have hown : s.vm.findClass RX2 = some m.cls := hown
  have hl : lv_has ls 3 [(0, .ref (ad (5 + k))), (1, .int p0), (2, .int p1)] := hl
  have hin_X2 : ∀ w ∈ wsX20, w ∈ wsX2_reaches := fun _ h => List.mem_cons_of_mem _ (List.mem_append_right _ (h))
  refine lv_iload_n hx hb dX2_reaches_0 rfl (lv_at hl 2 rfl) ?_
  refine lv_if_lt (tgt := 22) hx hb dX2_reaches_1 (by decide) (fun c1 => ?_) (fun c1 => ?_)
  · refine lv_iconst (v := 0) hx hb dX2_reaches_22 (by decide) ?_
    exact rZ hx hb hr hlk (by rfl) dX2_reaches_23 (by rw [fX2_reaches, if_pos c1])
  · refine lv_iload_n hx hb dX2_reaches_4 rfl (lv_at hl 1 rfl) ?_
    refine lv_if_lt (tgt := 22) hx hb dX2_reaches_5 (by decide) (fun c2 => ?_) (fun c2 => ?_)
    · refine lv_iconst (v := 0) hx hb dX2_reaches_22 (by decide) ?_
      exact rZ hx hb hr hlk (by rfl) dX2_reaches_23 (by rw [fX2_reaches, if_neg c1, if_pos c2])
    · refine lv_iload_n hx hb dX2_reaches_8 rfl (lv_at hl 1 rfl) ?_
      refine lv_aload_n hx hb dX2_reaches_9 rfl (lv_at hl 0 rfl) ?_
      refine zg_X2_size hk hx hb hts hin_X2 hown hK hP (hts (Cond.fieldLink RX2 19 "ProphetCover$Sheet" "size" "I") (List.mem_of_getElem? (i := 1) rfl)) dX2_reaches_10 ?_
      refine lv_iload_n hx hb dX2_reaches_13 rfl (lv_at hl 2 rfl) ?_
      refine lv_isub hx hb dX2_reaches_14 ?_
      refine lv_icmp_gt (tgt := 22) hx hb dX2_reaches_15 (by decide) (fun c3 => ?_) (fun c3 => ?_)
      · refine lv_iconst (v := 0) hx hb dX2_reaches_22 (by decide) ?_
        exact rZ hx hb hr hlk (by rfl) dX2_reaches_23 (by rw [fX2_reaches, if_neg c1, if_neg c2, if_pos c3])
      · refine lv_iconst (v := 1) hx hb dX2_reaches_18 (by decide) ?_
        refine lv_goto (tgt := 23) hx hb dX2_reaches_19 (by decide) ?_
        exact rZ hx hb hr hlk (by rfl) dX2_reaches_23 (by rw [fX2_reaches, if_neg c1, if_neg c2, if_neg c3])
theorem reaches_cpy {u : Mem} {k : Nat} {a n : Int32} (h : SzOk u) (hk : k < 4) (c : ¬ fX2_reaches u k a n = 0) : 0 ≤ a.toInt ∧ 0 ≤ n.toInt ∧ a.toInt + n.toInt ≤ 60 := by
  unfold fX2_reaches at c
  by_cases c1 : n < 0
  · rw [if_pos c1] at c; exact absurd rfl c
  rw [if_neg c1] at c
  by_cases c2 : a < 0
  · rw [if_pos c2] at c; exact absurd rfl c
  rw [if_neg c2] at c
  by_cases c3 : (u 9 k) - n < a
  · rw [if_pos c3] at c; exact absurd rfl c
  have hn := ge_of c1
  have ha := ge_of c2
  refine ⟨ha, hn, ?_⟩
  have h3 : ¬ ((u 9 k) - n).toInt < a.toInt := fun q => c3 (Int32.lt_iff_toInt_lt.mpr q)
  rw [Int32.toInt_sub] at h3
  have hnr : n.toInt < 2147483648 := Int32.toInt_lt n
  rcases h k hk with e | ⟨q, hq, e⟩
  · rw [e, show (-1 : Int32).toInt = -1 from rfl, Int.bmod_eq_of_le (by omega) (by omega)] at h3
    omega
  · rw [e, nI_int (by omega), Int.bmod_eq_of_le (by omega) (by omega)] at h3
    omega
theorem reaches_in {u : Mem} {k : Nat} {a : Int32} (h : SzOk u) (hk : k < 4) (c : ¬ fX2_reaches u k a 1 = 0) : vp_in a 60 := by
  obtain ⟨h1, h2, h3⟩ := reaches_cpy h hk c
  rw [show (1 : Int32).toInt = 1 from rfl] at h3
  exact in_of h1 (by omega)
theorem int_ex {x : Int32} (h0 : 0 ≤ x.toInt) : ∃ n : Nat, x = nI n ∧ x.toInt = (n : Int) ∧ n < 2147483648 := by
  have hlt : x.toInt < 2147483648 := Int32.toInt_lt x
  refine ⟨x.toInt.toNat, nI_of_int (by omega) (by omega), by omega, by omega⟩
theorem reach_cpy {u : Mem} {k : Nat} {a n : Int32} (h : SzOk u) (hk : k < 4) (c : ¬ fX2_reaches u k a n = 0) : ¬ a < 0 ∧ ¬ n < 0 ∧ a.toNatClampNeg + n.toNatClampNeg ≤ 60 := by
  obtain ⟨h1, h2, h3⟩ := reaches_cpy h hk c
  refine ⟨fun q => ?_, fun q => ?_, ?_⟩
  · have := Int32.lt_iff_toInt_lt.mp q
    rw [show (0 : Int32).toInt = 0 from rfl] at this
    omega
  · have := Int32.lt_iff_toInt_lt.mp q
    rw [show (0 : Int32).toInt = 0 from rfl] at this
    omega
  · show a.toInt.toNat + n.toInt.toNat ≤ 60
    omega
theorem rng_in {a : Int32} (h : Rng a (a + 1)) : vp_in a 60 := by
  obtain ⟨i, j, hij, hj, rfl, e⟩ := h
  rw [nI_1] at e
  have := (nI_eq (by omega) (by omega)).mp e
  exact vp_in_nI (by omega) (by decide)
def fX2_flaw (u : Mem) (k : Nat) (p0 : Int32) (p1 : Int32) (p2 : Int32) : Int32 :=
  (if (fX2_isEmpty u k) = 0 then (if p0 = (u 8 k) then (if 0 ≤ p2 then (if (fX2_reaches u k p1 p2) = 0 then 3 else 0) else 4) else 2) else 1)
set_option maxRecDepth 100000 in
set_option maxHeartbeats 4000000 in
theorem kX2_flaw (l : Launch) (D : va_G) (cy : Nat → ClassId) (ad : Nat → Nat) (u : Mem) (k : Nat) (p0 : Int32) (p1 : Int32) (p2 : Int32) (hk : k < 4) : Met l yX2_flaw wsX2_flaw ({ frames := 1, cells := 0, slots := 0, locals := 22 } : Room) (va_Pc [.ref (ad (5 + k)), .int p0, .int p1, .int p2] (XB D cy ad u)) (qR (some (.int (fX2_flaw u k p0 p1 p2)))) 0 0 noF := by
  refine m_start (cc := cX2_flaw) (maxL := 4) (ret := (some .int)) (by decide) rfl (Nat.le_of_ble_eq_true rfl) (fun p e s m below meth c hx hb hr hts hown hml hlk _ hB ls hl => ?_)
  obtain ⟨hP, hK⟩ := hB
  have hown : s.vm.findClass RX2 = some m.cls := hown
  have hl : lv_has ls 4 [(0, .ref (ad (5 + k))), (1, .int p0), (2, .int p1), (3, .int p2)] := hl
  have hin_X2 : ∀ w ∈ wsX20, w ∈ wsX2_flaw := fun _ h => List.mem_cons_of_mem _ (List.mem_append_right _ (h))
  refine lv_aload_n hx hb dX2_flaw_0 rfl (lv_at hl 0 rfl) ?_
  refine kV (n := 0) (As := []) (rest := []) ⟨hx, hb, hml, hown, hts⟩ (kX2_isEmpty l D cy ad u k hk) gX2_flaw_X2_isEmpty rfl rfl rfl (by decide +kernel) ⟨Nat.le_of_ble_eq_true rfl, Nat.le_of_ble_eq_true rfl⟩ (recvXs hP hK hk) (XB_of hP hK) XB_bl rfl hl.1 rfl (Nat.le_of_ble_eq_true rfl) dX2_flaw_1 ⟨Nat.le_refl _, Nat.le_refl _⟩ ?_
  refine lv_if_eq (tgt := 9) hx hb dX2_flaw_4 (by decide) (fun c1 => ?_) (fun c1 => ?_)
  · refine lv_iload_n hx hb dX2_flaw_9 rfl (lv_at hl 1 rfl) ?_
    refine lv_aload_n hx hb dX2_flaw_10 rfl (lv_at hl 0 rfl) ?_
    refine zg_X2_lane hk hx hb hts hin_X2 hown hK hP (hts (Cond.fieldLink RX2 15 "ProphetCover$Sheet" "lane" "I") (List.mem_of_getElem? (i := 1) rfl)) dX2_flaw_11 ?_
    refine lv_icmp_eq (tgt := 19) hx hb dX2_flaw_14 (by decide) (fun c2 => ?_) (fun c2 => ?_)
    · refine lv_iload_n hx hb dX2_flaw_19 rfl (lv_at hl 3 rfl) ?_
      refine lv_if_ge (tgt := 25) hx hb dX2_flaw_20 (by decide) (fun c3 => ?_) (fun c3 => ?_)
      · refine lv_aload_n hx hb dX2_flaw_25 rfl (lv_at hl 0 rfl) ?_
        refine lv_iload_n hx hb dX2_flaw_26 rfl (lv_at hl 2 rfl) ?_
        refine lv_iload_n hx hb dX2_flaw_27 rfl (lv_at hl 3 rfl) ?_
        refine kV (n := 2) (As := [.int p1, .int p2]) (rest := []) ⟨hx, hb, hml, hown, hts⟩ (kX2_reaches l D cy ad u k p1 p2 hk) gX2_flaw_X2_reaches rfl rfl rfl (by decide +kernel) ⟨Nat.le_of_ble_eq_true rfl, Nat.le_of_ble_eq_true rfl⟩ (recvXs hP hK hk) (XB_of hP hK) XB_bl rfl hl.1 rfl (Nat.le_of_ble_eq_true rfl) dX2_flaw_28 ⟨Nat.le_refl _, Nat.le_refl _⟩ ?_
        refine lv_if_eq (tgt := 38) hx hb dX2_flaw_31 (by decide) (fun c4 => ?_) (fun c4 => ?_)
        · refine lv_iconst (v := 3) hx hb dX2_flaw_38 (by decide) ?_
          exact rI hx hb hr hlk dX2_flaw_39 (by rw [fX2_flaw, if_pos c1, if_pos c2, if_pos c3, if_pos c4])
        · refine lv_iconst (v := 0) hx hb dX2_flaw_34 (by decide) ?_
          refine lv_goto (tgt := 39) hx hb dX2_flaw_35 (by decide) ?_
          exact rI hx hb hr hlk dX2_flaw_39 (by rw [fX2_flaw, if_pos c1, if_pos c2, if_pos c3, if_neg c4])
      · refine lv_iconst (v := 4) hx hb dX2_flaw_23 (by decide) ?_
        exact rI hx hb hr hlk dX2_flaw_24 (by rw [fX2_flaw, if_pos c1, if_pos c2, if_neg c3])
    · refine lv_iconst (v := 2) hx hb dX2_flaw_17 (by decide) ?_
      exact rI hx hb hr hlk dX2_flaw_18 (by rw [fX2_flaw, if_pos c1, if_neg c2])
  · refine lv_iconst (v := 1) hx hb dX2_flaw_7 (by decide) ?_
    exact rI hx hb hr hlk dX2_flaw_8 (by rw [fX2_flaw, if_neg c1])
theorem flaw_rng {u : Mem} {k : Nat} {a b n : Int32} (h : SzOk u) (hk : k < 4) (c : fX2_flaw u k a b n = 0) : Rng b (b + n) := by
  unfold fX2_flaw at c
  by_cases c1 : fX2_isEmpty u k = 0
  · rw [if_pos c1] at c
    by_cases c2 : a = u 8 k
    · rw [if_pos c2] at c
      by_cases c3 : 0 ≤ n
      · rw [if_pos c3] at c
        by_cases c4 : fX2_reaches u k b n = 0
        · rw [if_pos c4] at c
          exact absurd c (by decide)
        · obtain ⟨h1, h2, h3⟩ := reaches_cpy h hk c4
          obtain ⟨i, ei, hi, _⟩ := int_ex h1
          obtain ⟨j, ej, hj, _⟩ := int_ex h2
          exact ⟨i, i + j, by omega, by omega, ei, by rw [ei, ej]; exact nI_add i j⟩
      · rw [if_neg c3] at c; exact absurd c (by decide)
    · rw [if_neg c2] at c; exact absurd c (by decide)
  · rw [if_neg c1] at c; exact absurd c (by decide)
def fX2_cut (u : Mem) (k : Nat) (p0 : Int32) : Int32 :=
  (if (u 8 k) = 0 then (p0).toInt8.toInt32 else (if (u 8 k) = 1 then (p0).toInt16.toInt32 else p0))
set_option maxRecDepth 100000 in
set_option maxHeartbeats 4000000 in
theorem kX2_cut (l : Launch) (D : va_G) (cy : Nat → ClassId) (ad : Nat → Nat) (u : Mem) (k : Nat) (p0 : Int32) (hk : k < 4) : Met l yX2_cut wsX2_cut ({ frames := 0, cells := 0, slots := 0, locals := 0 } : Room) (va_Pc [.ref (ad (5 + k)), .int p0] (XB D cy ad u)) (qR (some (.int (fX2_cut u k p0)))) 0 0 noF := by
  refine m_start (cc := cX2_cut) (maxL := 2) (ret := (some .int)) (by decide) rfl (Nat.le_of_ble_eq_true rfl) (fun p e s m below meth c hx hb hr hts hown hml hlk _ hB ls hl => ?_)
  obtain ⟨hP, hK⟩ := hB
  have hown : s.vm.findClass RX2 = some m.cls := hown
  have hl : lv_has ls 2 [(0, .ref (ad (5 + k))), (1, .int p0)] := hl
  have hin_X2 : ∀ w ∈ wsX20, w ∈ wsX2_cut := fun _ h => List.mem_cons_of_mem _ (List.mem_append_right _ (h))
  refine lv_aload_n hx hb dX2_cut_0 rfl (lv_at hl 0 rfl) ?_
  refine zg_X2_lane hk hx hb hts hin_X2 hown hK hP (hts (Cond.fieldLink RX2 15 "ProphetCover$Sheet" "lane" "I") (List.mem_of_getElem? (i := 1) rfl)) dX2_cut_1 ?_
  refine lv_if_ne (tgt := 10) hx hb dX2_cut_4 (by decide) (fun c1 => ?_) (fun c1 => ?_)
  · refine lv_aload_n hx hb dX2_cut_10 rfl (lv_at hl 0 rfl) ?_
    refine zg_X2_lane hk hx hb hts hin_X2 hown hK hP (hts (Cond.fieldLink RX2 15 "ProphetCover$Sheet" "lane" "I") (List.mem_of_getElem? (i := 1) rfl)) dX2_cut_11 ?_
    refine lv_iconst (v := 1) hx hb dX2_cut_14 (by decide) ?_
    refine lv_icmp_ne (tgt := 23) hx hb dX2_cut_15 (by decide) (fun c2 => ?_) (fun c2 => ?_)
    · refine lv_iload_n hx hb dX2_cut_23 rfl (lv_at hl 1 rfl) ?_
      exact rI hx hb hr hlk dX2_cut_24 (by rw [fX2_cut, if_neg c1, if_neg c2])
    · refine lv_iload_n hx hb dX2_cut_18 rfl (lv_at hl 1 rfl) ?_
      refine lv_i2s hx hb dX2_cut_19 rfl ?_
      refine lv_goto (tgt := 24) hx hb dX2_cut_20 (by decide) ?_
      exact rI hx hb hr hlk dX2_cut_24 (by rw [fX2_cut, if_neg c1, if_pos c2])
  · refine lv_iload_n hx hb dX2_cut_7 rfl (lv_at hl 1 rfl) ?_
    refine lv_i2b hx hb dX2_cut_8 rfl ?_
    exact rI hx hb hr hlk dX2_cut_9 (by rw [fX2_cut, if_pos c1])
def fX2_store (u : Mem) (k : Nat) (p0 : Int32) (p1 : Int32) : Mem :=
  (if (fX2_reaches u k p0 1) = 0 then u else (mset u (10 + k) p0.toNatClampNeg (fX2_cut u k p1)))
set_option maxRecDepth 100000 in
set_option maxHeartbeats 4000000 in
theorem kX2_store (l : Launch) (D : va_G) (cy : Nat → ClassId) (ad : Nat → Nat) (hI : XI ad) (u : Mem) (k : Nat) (p0 : Int32) (p1 : Int32) (hk : k < 4) (hsz : SzOk u) : Met l yX2_store wsX2_store ({ frames := 1, cells := 0, slots := 0, locals := 22 } : Room) (va_Pc [.ref (ad (5 + k)), .int p0, .int p1] (XB D cy ad u)) (qW (XB D cy ad (fX2_store u k p0 p1)) (AX ad) none) 0 0 (AX ad) := by
  refine m_start (cc := cX2_store) (maxL := 3) (ret := none) (by decide) rfl (Nat.le_of_ble_eq_true rfl) (fun p e s m below meth c hx hb hr hts hown hml hlk _ hB ls hl => ?_)
  obtain ⟨hP, hK⟩ := hB
  have hown : s.vm.findClass RX2 = some m.cls := hown
  have hl : lv_has ls 3 [(0, .ref (ad (5 + k))), (1, .int p0), (2, .int p1)] := hl
  have hin_X2 : ∀ w ∈ wsX20, w ∈ wsX2_store := fun _ h => List.mem_cons_of_mem _ (List.mem_append_right _ (h))
  obtain ⟨H, hH⟩ : ∃ H, H = s.heap := ⟨_, rfl⟩
  obtain ⟨locs, hlo⟩ : ∃ z : List Loc, z = [] := ⟨_, rfl⟩
  have hS : va_S (AX ad) s.heap H locs := by rw [hH, hlo]; exact va_S.rf
  have hP : va_P D vwCl (wX cy ad u) H := by rw [hH]; exact hP
  suffices hgoal : W p l e ({ frames := 1, cells := 0, slots := 0, locals := 22 } : Room) s m ([.ref (ad (5 + k)), .int p0, .int p1] : List Value).toArray below meth c H locs 0 0 (MQ below (qW (XB D cy ad (fX2_store u k p0 p1)) (AX ad) none) ([.ref (ad (5 + k)), .int p0, .int p1] : List Value).toArray s 0 0 (AX ad)) (F0 m 0 ls []) by rw [hH, hlo] at hgoal; exact hgoal
  clear hH hlo
  refine lv_aload_n hx hb dX2_store_0 rfl (lv_at hl 0 rfl) ?_
  refine lv_iload_n hx hb dX2_store_1 rfl (lv_at hl 1 rfl) ?_
  refine lv_iconst (v := 1) hx hb dX2_store_2 (by decide) ?_
  refine kV (n := 2) (As := [.int p0, .int 1]) (rest := []) ⟨hx, hb, hml, hown, hts⟩ (kX2_reaches l D cy ad u k p0 1 hk) gX2_store_X2_reaches rfl rfl rfl (by decide +kernel) ⟨Nat.le_of_ble_eq_true rfl, Nat.le_of_ble_eq_true rfl⟩ (recvXs hP hK hk) (XB_of hP hK) XB_bl rfl hl.1 rfl (Nat.le_of_ble_eq_true rfl) dX2_store_3 ⟨Nat.le_refl _, Nat.le_refl _⟩ ?_
  refine lv_if_eq (tgt := 20) hx hb dX2_store_6 (by decide) (fun c1 => ?_) (fun c1 => ?_)
  · exact rXV hx hb hr hlk hK hP hS dX2_store_20 (by rw [fX2_store, if_pos c1])
  · have hvs : vp_in p0 60 := reaches_in hsz hk c1
    refine lv_aload_n hx hb dX2_store_9 rfl (lv_at hl 0 rfl) ?_
    refine zg_X2_cells hk hx hb hts hin_X2 hown hK hP (hts (Cond.fieldLink RX2 9 "ProphetCover$Sheet" "cells" "[I") (List.mem_of_getElem? (i := 1) rfl)) dX2_store_10 ?_
    refine lv_iload_n hx hb dX2_store_13 rfl (lv_at hl 1 rfl) ?_
    refine lv_aload_n hx hb dX2_store_14 rfl (lv_at hl 0 rfl) ?_
    refine lv_iload_n hx hb dX2_store_15 rfl (lv_at hl 2 rfl) ?_
    refine kV (n := 1) (As := [.int p1]) (rest := [.int p0, .ref (ad (9 + k))]) ⟨hx, hb, hml, hown, hts⟩ (kX2_cut l D cy ad u k p1 hk) gX2_store_X2_cut rfl rfl rfl (by decide +kernel) ⟨Nat.le_of_ble_eq_true rfl, Nat.le_of_ble_eq_true rfl⟩ (recvXs hP hK hk) (XB_of hP hK) XB_bl rfl hl.1 rfl (Nat.le_of_ble_eq_true rfl) dX2_store_16 ⟨Nat.le_refl _, Nat.le_refl _⟩ ?_
    refine zs_ce hk hx hb hK hP hI hS (by assumption) dX2_store_19 (fun H locs hP hS => ?_)
    exact rXV hx hb hr hlk hK hP hS dX2_store_20 (by rw [fX2_store, if_neg c1])
def fX3_isSheet (p0 : Int32) : Int32 :=
  (if p0 < 0 then 0 else (if 4 ≤ p0 then 0 else 1))
set_option maxRecDepth 100000 in
set_option maxHeartbeats 4000000 in
theorem kX3_isSheet (l : Launch)  (p0 : Int32)  : Met l yX3_isSheet wsX3_isSheet ({ frames := 0, cells := 0, slots := 0, locals := 0 } : Room) (va_Pc [.int p0] (fun _ => True)) (qR (some (.int (fX3_isSheet p0)))) 0 0 noF := by
  refine m_start (cc := cX3_isSheet) (maxL := 1) (ret := (some .boolean)) (by decide) rfl (Nat.le_of_ble_eq_true rfl) (fun p e s m below meth c hx hb hr hts hown hml hlk _ hB ls hl => ?_)
  have hown : s.vm.findClass RX3 = some m.cls := hown
  have hl : lv_has ls 1 [(0, .int p0)] := hl
  refine lv_iload_n hx hb dX3_isSheet_0 rfl (lv_at hl 0 rfl) ?_
  refine lv_if_lt (tgt := 13) hx hb dX3_isSheet_1 (by decide) (fun c1 => ?_) (fun c1 => ?_)
  · refine lv_iconst (v := 0) hx hb dX3_isSheet_13 (by decide) ?_
    exact rZ hx hb hr hlk (by rfl) dX3_isSheet_14 (by rw [fX3_isSheet, if_pos c1])
  · refine lv_iload_n hx hb dX3_isSheet_4 rfl (lv_at hl 0 rfl) ?_
    refine lv_iconst (v := 4) hx hb dX3_isSheet_5 (by decide) ?_
    refine lv_icmp_ge (tgt := 13) hx hb dX3_isSheet_6 (by decide) (fun c2 => ?_) (fun c2 => ?_)
    · refine lv_iconst (v := 0) hx hb dX3_isSheet_13 (by decide) ?_
      exact rZ hx hb hr hlk (by rfl) dX3_isSheet_14 (by rw [fX3_isSheet, if_neg c1, if_pos c2])
    · refine lv_iconst (v := 1) hx hb dX3_isSheet_9 (by decide) ?_
      refine lv_goto (tgt := 14) hx hb dX3_isSheet_10 (by decide) ?_
      exact rZ hx hb hr hlk (by rfl) dX3_isSheet_14 (by rw [fX3_isSheet, if_neg c1, if_neg c2])
theorem isSheet_in {k : Int32} (c : ¬ fX3_isSheet k = 0) : vp_in k 4 := by
  unfold fX3_isSheet at c
  by_cases c1 : k < 0
  · rw [if_pos c1] at c; exact absurd rfl c
  rw [if_neg c1] at c
  by_cases c2 : 4 ≤ k
  · rw [if_pos c2] at c; exact absurd rfl c
  have h0 := ge_of c1
  obtain ⟨i, ei, hi, hlt⟩ := int_ex h0
  exact cnt_in ei (cnt_lt (show (4 : Int32) = nI 4 from rfl) ei (by omega) (by omega) c2) (by decide)
def fX3_isLane (p0 : Int32) : Int32 :=
  (if p0 < 0 then 0 else (if 3 ≤ p0 then 0 else 1))
set_option maxRecDepth 100000 in
set_option maxHeartbeats 4000000 in
theorem kX3_isLane (l : Launch)  (p0 : Int32)  : Met l yX3_isLane wsX3_isLane ({ frames := 0, cells := 0, slots := 0, locals := 0 } : Room) (va_Pc [.int p0] (fun _ => True)) (qR (some (.int (fX3_isLane p0)))) 0 0 noF := by
  refine m_start (cc := cX3_isLane) (maxL := 1) (ret := (some .boolean)) (by decide) rfl (Nat.le_of_ble_eq_true rfl) (fun p e s m below meth c hx hb hr hts hown hml hlk _ hB ls hl => ?_)
  have hown : s.vm.findClass RX3 = some m.cls := hown
  have hl : lv_has ls 1 [(0, .int p0)] := hl
  refine lv_iload_n hx hb dX3_isLane_0 rfl (lv_at hl 0 rfl) ?_
  refine lv_if_lt (tgt := 13) hx hb dX3_isLane_1 (by decide) (fun c1 => ?_) (fun c1 => ?_)
  · refine lv_iconst (v := 0) hx hb dX3_isLane_13 (by decide) ?_
    exact rZ hx hb hr hlk (by rfl) dX3_isLane_14 (by rw [fX3_isLane, if_pos c1])
  · refine lv_iload_n hx hb dX3_isLane_4 rfl (lv_at hl 0 rfl) ?_
    refine lv_iconst (v := 3) hx hb dX3_isLane_5 (by decide) ?_
    refine lv_icmp_ge (tgt := 13) hx hb dX3_isLane_6 (by decide) (fun c2 => ?_) (fun c2 => ?_)
    · refine lv_iconst (v := 0) hx hb dX3_isLane_13 (by decide) ?_
      exact rZ hx hb hr hlk (by rfl) dX3_isLane_14 (by rw [fX3_isLane, if_neg c1, if_pos c2])
    · refine lv_iconst (v := 1) hx hb dX3_isLane_9 (by decide) ?_
      refine lv_goto (tgt := 14) hx hb dX3_isLane_10 (by decide) ?_
      exact rZ hx hb hr hlk (by rfl) dX3_isLane_14 (by rw [fX3_isLane, if_neg c1, if_neg c2])
def fX3_faulty (u : Mem) (p0 : Int32) : Int32 × Mem :=
  (((-10) - p0), (mset u 0 8 p0))
set_option maxRecDepth 100000 in
set_option maxHeartbeats 4000000 in
theorem kX3_faulty (l : Launch) (D : va_G) (cy : Nat → ClassId) (ad : Nat → Nat) (hI : XI ad) (u : Mem) (p0 : Int32)  : Met l yX3_faulty wsX3_faulty ({ frames := 0, cells := 0, slots := 0, locals := 0 } : Room) (va_Pc [.ref (ad 0), .int p0] (XB D cy ad u)) (qW (XB D cy ad (fX3_faulty u p0).2) (AX ad) (some (.int (fX3_faulty u p0).1))) 0 0 (AX ad) := by
  refine m_start (cc := cX3_faulty) (maxL := 2) (ret := (some .int)) (by decide) rfl (Nat.le_of_ble_eq_true rfl) (fun p e s m below meth c hx hb hr hts hown hml hlk _ hB ls hl => ?_)
  obtain ⟨hP, hK⟩ := hB
  have hown : s.vm.findClass RX3 = some m.cls := hown
  have hl : lv_has ls 2 [(0, .ref (ad 0)), (1, .int p0)] := hl
  have hin_X3 : ∀ w ∈ wsX30, w ∈ wsX3_faulty := fun _ h => List.mem_cons_of_mem _ (List.mem_append_right _ (h))
  obtain ⟨H, hH⟩ : ∃ H, H = s.heap := ⟨_, rfl⟩
  obtain ⟨locs, hlo⟩ : ∃ z : List Loc, z = [] := ⟨_, rfl⟩
  have hS : va_S (AX ad) s.heap H locs := by rw [hH, hlo]; exact va_S.rf
  have hP : va_P D vwCl (wX cy ad u) H := by rw [hH]; exact hP
  suffices hgoal : W p l e ({ frames := 0, cells := 0, slots := 0, locals := 0 } : Room) s m ([.ref (ad 0), .int p0] : List Value).toArray below meth c H locs 0 0 (MQ below (qW (XB D cy ad (fX3_faulty u p0).2) (AX ad) (some (.int (fX3_faulty u p0).1))) ([.ref (ad 0), .int p0] : List Value).toArray s 0 0 (AX ad)) (F0 m 0 ls []) by rw [hH, hlo] at hgoal; exact hgoal
  clear hH hlo
  refine lv_aload_n hx hb dX3_faulty_0 rfl (lv_at hl 0 rfl) ?_
  refine lv_iload_n hx hb dX3_faulty_1 rfl (lv_at hl 1 rfl) ?_
  refine zp_X3_latestFault hx hb hts hin_X3 hown hK hP hI hS (hts (Cond.fieldLink RX3 46 "ProphetCover" "latestFault" "I") (List.mem_of_getElem? (i := 1) rfl)) dX3_faulty_2 (fun H locs hP hS => ?_)
  refine lv_bipush (v := (-10)) hx hb dX3_faulty_5 (by decide) ?_
  refine lv_iload_n hx hb dX3_faulty_7 rfl (lv_at hl 1 rfl) ?_
  refine lv_isub hx hb dX3_faulty_8 ?_
  exact rXI hx hb hr hlk hK hP hS dX3_faulty_9 (by rw [fX3_faulty])
def fX3_isDigit (p0 : Int32) (p1 : Int32) : Int32 :=
  (if p0 < 48 then 0 else (if (48 + p1) < p0 then 0 else 1))
set_option maxRecDepth 100000 in
set_option maxHeartbeats 4000000 in
theorem kX3_isDigit (l : Launch)  (p0 : Int32) (p1 : Int32)  : Met l yX3_isDigit wsX3_isDigit ({ frames := 0, cells := 0, slots := 0, locals := 0 } : Room) (va_Pc [.int p0, .int p1] (fun _ => True)) (qR (some (.int (fX3_isDigit p0 p1)))) 0 0 noF := by
  refine m_start (cc := cX3_isDigit) (maxL := 2) (ret := (some .boolean)) (by decide) rfl (Nat.le_of_ble_eq_true rfl) (fun p e s m below meth c hx hb hr hts hown hml hlk _ hB ls hl => ?_)
  have hown : s.vm.findClass RX3 = some m.cls := hown
  have hl : lv_has ls 2 [(0, .int p0), (1, .int p1)] := hl
  refine lv_iload_n hx hb dX3_isDigit_0 rfl (lv_at hl 0 rfl) ?_
  refine lv_bipush (v := 48) hx hb dX3_isDigit_1 (by decide) ?_
  refine lv_icmp_lt (tgt := 18) hx hb dX3_isDigit_3 (by decide) (fun c1 => ?_) (fun c1 => ?_)
  · refine lv_iconst (v := 0) hx hb dX3_isDigit_18 (by decide) ?_
    exact rZ hx hb hr hlk (by rfl) dX3_isDigit_19 (by rw [fX3_isDigit, if_pos c1])
  · refine lv_iload_n hx hb dX3_isDigit_6 rfl (lv_at hl 0 rfl) ?_
    refine lv_bipush (v := 48) hx hb dX3_isDigit_7 (by decide) ?_
    refine lv_iload_n hx hb dX3_isDigit_9 rfl (lv_at hl 1 rfl) ?_
    refine lv_iadd hx hb dX3_isDigit_10 ?_
    refine lv_icmp_gt (tgt := 18) hx hb dX3_isDigit_11 (by decide) (fun c2 => ?_) (fun c2 => ?_)
    · refine lv_iconst (v := 0) hx hb dX3_isDigit_18 (by decide) ?_
      exact rZ hx hb hr hlk (by rfl) dX3_isDigit_19 (by rw [fX3_isDigit, if_neg c1, if_pos c2])
    · refine lv_iconst (v := 1) hx hb dX3_isDigit_14 (by decide) ?_
      refine lv_goto (tgt := 19) hx hb dX3_isDigit_15 (by decide) ?_
      exact rZ hx hb hr hlk (by rfl) dX3_isDigit_19 (by rw [fX3_isDigit, if_neg c1, if_neg c2])
theorem nb_isDigit (a b : Int32) : narrow .boolean (.int (fX3_isDigit a b)) = .int (fX3_isDigit a b) := by
  unfold fX3_isDigit
  split
  · rfl
  · split <;> rfl
def fX3_kindOf (p0 : Int32) : Int32 :=
  (if p0 = 108 then 2 else (if p0 = 109 then 0 else (if p0 = 115 then 1 else (-9))))
set_option maxRecDepth 100000 in
set_option maxHeartbeats 4000000 in
theorem kX3_kindOf (l : Launch)  (p0 : Int32)  : Met l yX3_kindOf wsX3_kindOf ({ frames := 0, cells := 0, slots := 0, locals := 0 } : Room) (va_Pc [.int p0] (fun _ => True)) (qR (some (.int (fX3_kindOf p0)))) 0 0 noF := by
  refine m_start (cc := cX3_kindOf) (maxL := 1) (ret := (some .int)) (by decide) rfl (Nat.le_of_ble_eq_true rfl) (fun p e s m below meth c hx hb hr hts hown hml hlk _ hB ls hl => ?_)
  have hown : s.vm.findClass RX3 = some m.cls := hown
  have hl : lv_has ls 1 [(0, .int p0)] := hl
  refine lv_iload_n hx hb dX3_kindOf_0 rfl (lv_at hl 0 rfl) ?_
  by_cases c1 : p0 = 108
  · refine lv_lookup (off := 39) (tgt := 40) hx hb dX3_kindOf_1 (by decide) (by rw [c1]; decide) (by decide) ?_
    refine lv_iconst (v := 2) hx hb dX3_kindOf_40 (by decide) ?_
    exact rI hx hb hr hlk dX3_kindOf_41 (by rw [fX3_kindOf, if_pos c1])
  by_cases c2 : p0 = 109
  · refine lv_lookup (off := 35) (tgt := 36) hx hb dX3_kindOf_1 (by decide) (by rw [c2]; decide) (by decide) ?_
    refine lv_iconst (v := 0) hx hb dX3_kindOf_36 (by decide) ?_
    exact rI hx hb hr hlk dX3_kindOf_37 (by rw [fX3_kindOf, if_neg c1, if_pos c2])
  by_cases c3 : p0 = 115
  · refine lv_lookup (off := 37) (tgt := 38) hx hb dX3_kindOf_1 (by decide) (by rw [c3]; decide) (by decide) ?_
    refine lv_iconst (v := 1) hx hb dX3_kindOf_38 (by decide) ?_
    exact rI hx hb hr hlk dX3_kindOf_39 (by rw [fX3_kindOf, if_neg c1, if_neg c2, if_pos c3])
  refine lv_lookup (off := 41) (tgt := 42) hx hb dX3_kindOf_1 (by decide) (look_out3 c1 c2 c3) (by decide) ?_
  refine lv_bipush (v := (-9)) hx hb dX3_kindOf_42 (by decide) ?_
  exact rI hx hb hr hlk dX3_kindOf_44 (by rw [fX3_kindOf, if_neg c1, if_neg c2, if_neg c3])
def fX3_fitsProphet (u : Mem) (k : Nat) (p0 : Int32) (p1 : Int32) : Int32 :=
  (if p1 = 0 then (if (u (10 + k) (p0 + p1).toNatClampNeg) = 59 then 1 else 0) else (if p1 = 1 then (if (fX3_kindOf (u (10 + k) (p0 + p1).toNatClampNeg)) = (-9) then 0 else 1) else (if p1 = 2 then (fX3_isDigit (u (10 + k) (p0 + p1).toNatClampNeg) 9) else (if p1 = 3 then (fX3_isDigit (u (10 + k) (p0 + p1).toNatClampNeg) 3) else (if (u (10 + k) (p0 + 3).toNatClampNeg) = 51 then (fX3_isDigit (u (10 + k) (p0 + p1).toNatClampNeg) 1) else (fX3_isDigit (u (10 + k) (p0 + p1).toNatClampNeg) 9))))))
set_option maxRecDepth 100000 in
set_option maxHeartbeats 4000000 in
theorem kX3_fitsProphet (l : Launch) (D : va_G) (cy : Nat → ClassId) (ad : Nat → Nat) (u : Mem) (k : Nat) (p0 : Int32) (p1 : Int32) (hk : k < 4) (h1 : vp_in (p0 + p1) 60) (h2 : ¬ p1 = 0 → ¬ p1 = 1 → ¬ p1 = 2 → ¬ p1 = 3 → vp_in (p0 + 3) 60) : Met l yX3_fitsProphet wsX3_fitsProphet ({ frames := 1, cells := 0, slots := 0, locals := 21 } : Room) (va_Pc [.ref (ad (9 + k)), .int p0, .int p1] (XB D cy ad u)) (qR (some (.int (fX3_fitsProphet u k p0 p1)))) 0 0 noF := by
  refine m_start (cc := cX3_fitsProphet) (maxL := 4) (ret := (some .boolean)) (by decide) rfl (Nat.le_of_ble_eq_true rfl) (fun p e s m below meth c hx hb hr hts hown hml hlk _ hB ls hl => ?_)
  obtain ⟨hP, hK⟩ := hB
  have hown : s.vm.findClass RX3 = some m.cls := hown
  have hl : lv_has ls 4 [(0, .ref (ad (9 + k))), (1, .int p0), (2, .int p1)] := hl
  refine lv_aload_n hx hb dX3_fitsProphet_0 rfl (lv_at hl 0 rfl) ?_
  refine lv_iload_n hx hb dX3_fitsProphet_1 rfl (lv_at hl 1 rfl) ?_
  refine lv_iload_n hx hb dX3_fitsProphet_2 rfl (lv_at hl 2 rfl) ?_
  refine lv_iadd hx hb dX3_fitsProphet_3 ?_
  refine zl_ce hk hx hb hK hP (by assumption) dX3_fitsProphet_4 ?_
  refine lv_istore_n (lv' := [(3, .int (u (10 + k) (p0 + p1).toNatClampNeg)), (0, .ref (ad (9 + k))), (1, .int p0), (2, .int p1)]) hx hb dX3_fitsProphet_5 rfl hl (by decide) rfl (fun ls hl => ?_)
  refine lv_iload_n hx hb dX3_fitsProphet_6 rfl (lv_at hl 3 rfl) ?_
  by_cases c1 : p1 = 0
  · refine lv_tableIn (off := 29) (tgt := 36) hx hb dX3_fitsProphet_7 (by rw [c1]; decide) (by rw [c1]; decide) (by rw [c1]; rfl) (by decide) ?_
    refine lv_iload_n hx hb dX3_fitsProphet_36 rfl (lv_at hl 0 rfl) ?_
    refine lv_bipush (v := 59) hx hb dX3_fitsProphet_37 (by decide) ?_
    refine lv_icmp_ne (tgt := 46) hx hb dX3_fitsProphet_39 (by decide) (fun c2 => ?_) (fun c2 => ?_)
    · refine lv_iconst (v := 0) hx hb dX3_fitsProphet_46 (by decide) ?_
      exact rZ hx hb hr hlk (by rfl) dX3_fitsProphet_47 (by rw [fX3_fitsProphet, if_pos c1, if_neg c2])
    · refine lv_iconst (v := 1) hx hb dX3_fitsProphet_42 (by decide) ?_
      refine lv_goto (tgt := 47) hx hb dX3_fitsProphet_43 (by decide) ?_
      exact rZ hx hb hr hlk (by rfl) dX3_fitsProphet_47 (by rw [fX3_fitsProphet, if_pos c1, if_pos c2])
  by_cases c3 : p1 = 1
  · refine lv_tableIn (off := 41) (tgt := 48) hx hb dX3_fitsProphet_7 (by rw [c3]; decide) (by rw [c3]; decide) (by rw [c3]; rfl) (by decide) ?_
    refine lv_iload_n hx hb dX3_fitsProphet_48 rfl (lv_at hl 0 rfl) ?_
    refine kS (n := 1) (As := [.int (u (10 + k) (p0 + p1).toNatClampNeg)]) (rest := []) ⟨hx, hb, hml, hown, hts⟩ (kX3_kindOf l (u (10 + k) (p0 + p1).toNatClampNeg)) gX3_fitsProphet_X3_kindOf rfl rfl rfl (by decide +kernel) ⟨Nat.le_of_ble_eq_true rfl, Nat.le_of_ble_eq_true rfl⟩ (fun _ _ _ => trivial) (fun _ _ _ _ _ => trivial) rfl hl.1 rfl (Nat.le_of_ble_eq_true rfl) dX3_fitsProphet_49 ⟨Nat.le_refl _, Nat.le_refl _⟩ ?_
    refine lv_bipush (v := (-9)) hx hb dX3_fitsProphet_52 (by decide) ?_
    refine lv_icmp_eq (tgt := 61) hx hb dX3_fitsProphet_54 (by decide) (fun c4 => ?_) (fun c4 => ?_)
    · refine lv_iconst (v := 0) hx hb dX3_fitsProphet_61 (by decide) ?_
      exact rZ hx hb hr hlk (by rfl) dX3_fitsProphet_62 (by rw [fX3_fitsProphet, if_neg c1, if_pos c3, if_pos c4])
    · refine lv_iconst (v := 1) hx hb dX3_fitsProphet_57 (by decide) ?_
      refine lv_goto (tgt := 62) hx hb dX3_fitsProphet_58 (by decide) ?_
      exact rZ hx hb hr hlk (by rfl) dX3_fitsProphet_62 (by rw [fX3_fitsProphet, if_neg c1, if_pos c3, if_neg c4])
  by_cases c5 : p1 = 2
  · refine lv_tableIn (off := 56) (tgt := 63) hx hb dX3_fitsProphet_7 (by rw [c5]; decide) (by rw [c5]; decide) (by rw [c5]; rfl) (by decide) ?_
    refine lv_iload_n hx hb dX3_fitsProphet_63 rfl (lv_at hl 0 rfl) ?_
    refine lv_bipush (v := 9) hx hb dX3_fitsProphet_64 (by decide) ?_
    refine kS (n := 2) (As := [.int (u (10 + k) (p0 + p1).toNatClampNeg), .int 9]) (rest := []) ⟨hx, hb, hml, hown, hts⟩ (kX3_isDigit l (u (10 + k) (p0 + p1).toNatClampNeg) 9) gX3_fitsProphet_X3_isDigit rfl rfl rfl (by decide +kernel) ⟨Nat.le_of_ble_eq_true rfl, Nat.le_of_ble_eq_true rfl⟩ (fun _ _ _ => trivial) (fun _ _ _ _ _ => trivial) rfl hl.1 rfl (Nat.le_of_ble_eq_true rfl) dX3_fitsProphet_66 ⟨Nat.le_refl _, Nat.le_refl _⟩ ?_
    exact rZ hx hb hr hlk (by first | assumption | exact nb_isDigit _ _ | exact nb_isWithin _ _ | exact nb01 (by assumption)) dX3_fitsProphet_69 (by rw [fX3_fitsProphet, if_neg c1, if_neg c3, if_pos c5])
  by_cases c6 : p1 = 3
  · refine lv_tableIn (off := 63) (tgt := 70) hx hb dX3_fitsProphet_7 (by rw [c6]; decide) (by rw [c6]; decide) (by rw [c6]; rfl) (by decide) ?_
    refine lv_iload_n hx hb dX3_fitsProphet_70 rfl (lv_at hl 0 rfl) ?_
    refine lv_iconst (v := 3) hx hb dX3_fitsProphet_71 (by decide) ?_
    refine kS (n := 2) (As := [.int (u (10 + k) (p0 + p1).toNatClampNeg), .int 3]) (rest := []) ⟨hx, hb, hml, hown, hts⟩ (kX3_isDigit l (u (10 + k) (p0 + p1).toNatClampNeg) 3) gX3_fitsProphet_X3_isDigit rfl rfl rfl (by decide +kernel) ⟨Nat.le_of_ble_eq_true rfl, Nat.le_of_ble_eq_true rfl⟩ (fun _ _ _ => trivial) (fun _ _ _ _ _ => trivial) rfl hl.1 rfl (Nat.le_of_ble_eq_true rfl) dX3_fitsProphet_72 ⟨Nat.le_refl _, Nat.le_refl _⟩ ?_
    exact rZ hx hb hr hlk (by first | assumption | exact nb_isDigit _ _ | exact nb_isWithin _ _ | exact nb01 (by assumption)) dX3_fitsProphet_75 (by rw [fX3_fitsProphet, if_neg c1, if_neg c3, if_neg c5, if_pos c6])
  refine lv_tableOut (tgt := 76) hx hb dX3_fitsProphet_7 (tab_out4 c1 c3 c5 c6) (by decide) ?_
  have hv3 := h2 c1 c3 c5 c6
  refine lv_iload_n hx hb dX3_fitsProphet_76 rfl (lv_at hl 0 rfl) ?_
  refine lv_aload_n hx hb dX3_fitsProphet_77 rfl (lv_at hl 1 rfl) ?_
  refine lv_iload_n hx hb dX3_fitsProphet_78 rfl (lv_at hl 2 rfl) ?_
  refine lv_iconst (v := 3) hx hb dX3_fitsProphet_79 (by decide) ?_
  refine lv_iadd hx hb dX3_fitsProphet_80 ?_
  refine zl_ce hk hx hb hK hP (by assumption) dX3_fitsProphet_81 ?_
  refine lv_bipush (v := 51) hx hb dX3_fitsProphet_82 (by decide) ?_
  refine lv_icmp_ne (tgt := 91) hx hb dX3_fitsProphet_84 (by decide) (fun c7 => ?_) (fun c7 => ?_)
  · refine lv_bipush (v := 9) hx hb dX3_fitsProphet_91 (by decide) ?_
    refine kS (n := 2) (As := [.int (u (10 + k) (p0 + p1).toNatClampNeg), .int 9]) (rest := []) ⟨hx, hb, hml, hown, hts⟩ (kX3_isDigit l (u (10 + k) (p0 + p1).toNatClampNeg) 9) gX3_fitsProphet_X3_isDigit rfl rfl rfl (by decide +kernel) ⟨Nat.le_of_ble_eq_true rfl, Nat.le_of_ble_eq_true rfl⟩ (fun _ _ _ => trivial) (fun _ _ _ _ _ => trivial) rfl hl.1 rfl (Nat.le_of_ble_eq_true rfl) dX3_fitsProphet_93 ⟨Nat.le_refl _, Nat.le_refl _⟩ ?_
    exact rZ hx hb hr hlk (by first | assumption | exact nb_isDigit _ _ | exact nb_isWithin _ _ | exact nb01 (by assumption)) dX3_fitsProphet_96 (by rw [fX3_fitsProphet, if_neg c1, if_neg c3, if_neg c5, if_neg c6, if_neg c7])
  · refine lv_iconst (v := 1) hx hb dX3_fitsProphet_87 (by decide) ?_
    refine lv_goto (tgt := 93) hx hb dX3_fitsProphet_88 (by decide) ?_
    refine kS (n := 2) (As := [.int (u (10 + k) (p0 + p1).toNatClampNeg), .int 1]) (rest := []) ⟨hx, hb, hml, hown, hts⟩ (kX3_isDigit l (u (10 + k) (p0 + p1).toNatClampNeg) 1) gX3_fitsProphet_X3_isDigit rfl rfl rfl (by decide +kernel) ⟨Nat.le_of_ble_eq_true rfl, Nat.le_of_ble_eq_true rfl⟩ (fun _ _ _ => trivial) (fun _ _ _ _ _ => trivial) rfl hl.1 rfl (Nat.le_of_ble_eq_true rfl) dX3_fitsProphet_93 ⟨Nat.le_refl _, Nat.le_refl _⟩ ?_
    exact rZ hx hb hr hlk (by first | assumption | exact nb_isDigit _ _ | exact nb_isWithin _ _ | exact nb01 (by assumption)) dX3_fitsProphet_96 (by rw [fX3_fitsProphet, if_neg c1, if_neg c3, if_neg c5, if_neg c6, if_pos c7])
def fX3_firstFaultPlace_c91 (u : Mem) (k : Nat) (p0 : Int32) (p1 : Int32)  : Nat → Int32 → Int32 → Int32 → Int32
  | 0, x5, x4, x3 => 0
  | n91 + 1, x5, x4, x3 => (if 4 ≤ x5 then (if x3 = p1 then (if x3 ≤ x4 then x3 else (-9)) else x3) else (if p1 ≤ x3 then (if x3 = p1 then (if x3 ≤ x4 then x3 else (-9)) else x3) else (if p1 ≤ (x3 + 0) then (x3 + 0) else (if (fX3_fitsProphet u k x3 0) = 0 then (x3 + 0) else (if p1 ≤ (x3 + 1) then (x3 + 1) else (if (fX3_fitsProphet u k x3 1) = 0 then (x3 + 1) else (if p1 ≤ (x3 + 2) then (x3 + 2) else (if (fX3_fitsProphet u k x3 2) = 0 then (x3 + 2) else (if p1 ≤ (x3 + 3) then (x3 + 3) else (if (fX3_fitsProphet u k x3 3) = 0 then (x3 + 3) else (if p1 ≤ (x3 + 4) then (x3 + 4) else (if (fX3_fitsProphet u k x3 4) = 0 then (x3 + 4) else (fX3_firstFaultPlace_c91 u k p0 p1 n91 (x5 + 1) x4 (x3 + 5))))))))))))))
def fX3_firstFaultPlace_c74 (u : Mem) (k : Nat) (p0 : Int32) (p1 : Int32)  (x3 : Int32) : Int32 :=
  (if x3 = (p0 + 1) then x3 else (fX3_firstFaultPlace_c91 u k p0 p1 (5) 0 x3 x3))
def fX3_firstFaultPlace_c22 (u : Mem) (k : Nat) (p0 : Int32) (p1 : Int32)  : Nat → Int32 → Int32 → Int32
  | 0, x4, x3 => 0
  | n22 + 1, x4, x3 => (if 5 ≤ x4 then (fX3_firstFaultPlace_c74 u k p0 p1 x3) else (if p1 ≤ x3 then (fX3_firstFaultPlace_c74 u k p0 p1 x3) else (if (u (10 + k) x3.toNatClampNeg) = 47 then (if p1 ≤ (x3 + 1) then (x3 + 1) else (if (fX3_isDigit (u (10 + k) (x3 + 1).toNatClampNeg) 9) = 0 then (x3 + 1) else (fX3_firstFaultPlace_c22 u k p0 p1 n22 (x4 + 1) (x3 + 2)))) else (fX3_firstFaultPlace_c74 u k p0 p1 x3))))
def fX3_firstFaultPlace (u : Mem) (k : Nat) (p0 : Int32) (p1 : Int32) : Int32 :=
  (if p1 ≤ p0 then p0 else (if (u (10 + k) p0.toNatClampNeg) = 119 then (fX3_firstFaultPlace_c22 u k p0 p1 (6) 0 (p0 + 1)) else p0))
set_option maxRecDepth 100000 in
set_option maxHeartbeats 4000000 in
theorem kX3_firstFaultPlace (l : Launch) (D : va_G) (cy : Nat → ClassId) (ad : Nat → Nat) (u : Mem) (k : Nat) (p0 : Int32) (p1 : Int32) (hk : k < 4) (hrg : Rng p0 p1) : Met l yX3_firstFaultPlace wsX3_firstFaultPlace ({ frames := 2, cells := 0, slots := 0, locals := 44 } : Room) (va_Pc [.ref (ad (9 + k)), .int p0, .int p1] (XB D cy ad u)) (qR (some (.int (fX3_firstFaultPlace u k p0 p1)))) 0 0 noF := by
  refine m_start (cc := cX3_firstFaultPlace) (maxL := 7) (ret := (some .int)) (by decide) rfl (Nat.le_of_ble_eq_true rfl) (fun p e s m below meth c hx hb hr hts hown hml hlk _ hB ls hl => ?_)
  obtain ⟨hP, hK⟩ := hB
  have hown : s.vm.findClass RX3 = some m.cls := hown
  have hl : lv_has ls 7 [(0, .ref (ad (9 + k))), (1, .int p0), (2, .int p1)] := hl
  obtain ⟨a, b, hab, hb60, ea, eb⟩ := id hrg
  refine lv_iload_n hx hb dX3_firstFaultPlace_0 rfl (lv_at hl 1 rfl) ?_
  refine lv_iload_n hx hb dX3_firstFaultPlace_1 rfl (lv_at hl 2 rfl) ?_
  refine lv_icmp_ge (tgt := 13) hx hb dX3_firstFaultPlace_2 (by decide) (fun c1 => ?_) (fun c1 => ?_)
  · refine lv_iload_n hx hb dX3_firstFaultPlace_13 rfl (lv_at hl 1 rfl) ?_
    exact rI hx hb hr hlk dX3_firstFaultPlace_14 (by rw [fX3_firstFaultPlace, if_pos c1])
  · have hlt0 : a < b := cnt_lt eb ea (by omega) (by omega) c1
    have hv0 : vp_in p0 60 := cnt_in ea (by omega) (by decide)
    refine lv_aload_n hx hb dX3_firstFaultPlace_5 rfl (lv_at hl 0 rfl) ?_
    refine lv_iload_n hx hb dX3_firstFaultPlace_6 rfl (lv_at hl 1 rfl) ?_
    refine zl_ce hk hx hb hK hP (by assumption) dX3_firstFaultPlace_7 ?_
    refine lv_bipush (v := 119) hx hb dX3_firstFaultPlace_8 (by decide) ?_
    refine lv_icmp_eq (tgt := 15) hx hb dX3_firstFaultPlace_10 (by decide) (fun c2 => ?_) (fun c2 => ?_)
    · have sg74 : ∀ (x3 : Int32) (q74 : Nat), (fX3_firstFaultPlace u k p0 p1) = (fX3_firstFaultPlace_c74 u k p0 p1 x3) → (x3 = nI q74) → (q74 ≤ 72) → ∀ ls : Array Slot, lv_has ls 7 [(0, .ref (ad (9 + k))), (1, .int p0), (2, .int p1), (3, .int x3)] → W p l e ({ frames := 2, cells := 0, slots := 0, locals := 44 } : Room) s m ([.ref (ad (9 + k)), .int p0, .int p1] : List Value).toArray below meth c s.heap [] 0 0 (MQ below (qR (some (.int (fX3_firstFaultPlace u k p0 p1)))) ([.ref (ad (9 + k)), .int p0, .int p1] : List Value).toArray s 0 0 noF) (F0 m 74 ls []) := by
        intro x3 q74 hr74 t74 hq74 ls hl
        refine lv_iload_n hx hb dX3_firstFaultPlace_74 rfl (lv_at hl 3 rfl) ?_
        refine lv_istore (lv' := [(4, .int x3), (0, .ref (ad (9 + k))), (1, .int p0), (2, .int p1), (3, .int x3)]) hx hb dX3_firstFaultPlace_75 hl (by decide) rfl (fun ls hl => ?_)
        refine lv_iload hx hb dX3_firstFaultPlace_77 (lv_at hl 0 rfl) ?_
        refine lv_iload_n hx hb dX3_firstFaultPlace_79 rfl (lv_at hl 2 rfl) ?_
        refine lv_iconst (v := 1) hx hb dX3_firstFaultPlace_80 (by decide) ?_
        refine lv_iadd hx hb dX3_firstFaultPlace_81 ?_
        refine lv_icmp_ne (tgt := 88) hx hb dX3_firstFaultPlace_82 (by decide) (fun c3 => ?_) (fun c3 => ?_)
        · refine lv_iconst (v := 0) hx hb dX3_firstFaultPlace_88 (by decide) ?_
          refine lv_istore (lv' := [(5, .int 0), (4, .int x3), (0, .ref (ad (9 + k))), (1, .int p0), (2, .int p1), (3, .int x3)]) hx hb dX3_firstFaultPlace_89 hl (by decide) rfl (fun ls hl => ?_)
          have lp91 : ∀ (n91 : Nat) (x5 : Int32) (x4 : Int32) (x3 : Int32) (k91 : Nat) (q91 : Nat), (fX3_firstFaultPlace u k p0 p1) = (fX3_firstFaultPlace_c91 u k p0 p1 n91 x5 x4 x3) → (x5 = nI k91) → (x3 = nI q91) → (q91 ≤ 100 + 5 * k91) → (k91 ≤ 4) → (4 < k91 + n91) → ∀ ls : Array Slot, lv_has ls 7 [(5, .int x5), (4, .int x4), (0, .ref (ad (9 + k))), (2, .int p1), (3, .int x3)] → W p l e ({ frames := 2, cells := 0, slots := 0, locals := 44 } : Room) s m ([.ref (ad (9 + k)), .int p0, .int p1] : List Value).toArray below meth c s.heap [] 0 0 (MQ below (qR (some (.int (fX3_firstFaultPlace u k p0 p1)))) ([.ref (ad (9 + k)), .int p0, .int p1] : List Value).toArray s 0 0 noF) (F0 m 91 ls []) := by
            intro n91
            induction n91 with
            | zero =>
              intro x5 x4 x3 k91 q91 _ e91 t91 hq91 hk91 hm91 ls hl
              exfalso; omega
            | succ n91 ih91 =>
              intro x5 x4 x3 k91 q91 hr91 e91 t91 hq91 hk91 hm91 ls hl
              refine lv_iload hx hb dX3_firstFaultPlace_91 (lv_at hl 0 rfl) ?_
              refine lv_iconst (v := 4) hx hb dX3_firstFaultPlace_93 (by decide) ?_
              refine lv_icmp_ge (tgt := 149) hx hb dX3_firstFaultPlace_94 (by decide) (fun c4 => ?_) (fun c4 => ?_)
              · refine lv_iload_n hx hb dX3_firstFaultPlace_149 rfl (lv_at hl 4 rfl) ?_
                refine lv_iload_n hx hb dX3_firstFaultPlace_150 rfl (lv_at hl 3 rfl) ?_
                refine lv_icmp_ne (tgt := 165) hx hb dX3_firstFaultPlace_151 (by decide) (fun c5 => ?_) (fun c5 => ?_)
                · refine lv_iload_n hx hb dX3_firstFaultPlace_165 rfl (lv_at hl 4 rfl) ?_
                  exact rI hx hb hr hlk dX3_firstFaultPlace_166 (by rw [hr91, fX3_firstFaultPlace_c91, if_pos c4, if_neg c5])
                · refine lv_iload_n hx hb dX3_firstFaultPlace_154 rfl (lv_at hl 4 rfl) ?_
                  refine lv_iload hx hb dX3_firstFaultPlace_155 (lv_at hl 1 rfl) ?_
                  refine lv_icmp_le (tgt := 165) hx hb dX3_firstFaultPlace_157 (by decide) (fun c6 => ?_) (fun c6 => ?_)
                  · refine lv_iload_n hx hb dX3_firstFaultPlace_165 rfl (lv_at hl 4 rfl) ?_
                    exact rI hx hb hr hlk dX3_firstFaultPlace_166 (by rw [hr91, fX3_firstFaultPlace_c91, if_pos c4, if_pos c5, if_pos c6])
                  · refine lv_bipush (v := (-9)) hx hb dX3_firstFaultPlace_160 (by decide) ?_
                    refine lv_goto (tgt := 166) hx hb dX3_firstFaultPlace_162 (by decide) ?_
                    exact rI hx hb hr hlk dX3_firstFaultPlace_166 (by rw [hr91, fX3_firstFaultPlace_c91, if_pos c4, if_pos c5, if_neg c6])
              · have hlt91 : k91 < 4 := cnt_lt (show (4 : Int32) = nI 4 from rfl) e91 (by omega) (by omega) c4
                refine lv_iload_n hx hb dX3_firstFaultPlace_97 rfl (lv_at hl 4 rfl) ?_
                refine lv_iload_n hx hb dX3_firstFaultPlace_98 rfl (lv_at hl 3 rfl) ?_
                refine lv_icmp_ge (tgt := 149) hx hb dX3_firstFaultPlace_99 (by decide) (fun c7 => ?_) (fun c7 => ?_)
                · refine lv_iload_n hx hb dX3_firstFaultPlace_149 rfl (lv_at hl 4 rfl) ?_
                  refine lv_iload_n hx hb dX3_firstFaultPlace_150 rfl (lv_at hl 3 rfl) ?_
                  refine lv_icmp_ne (tgt := 165) hx hb dX3_firstFaultPlace_151 (by decide) (fun c8 => ?_) (fun c8 => ?_)
                  · refine lv_iload_n hx hb dX3_firstFaultPlace_165 rfl (lv_at hl 4 rfl) ?_
                    exact rI hx hb hr hlk dX3_firstFaultPlace_166 (by rw [hr91, fX3_firstFaultPlace_c91, if_neg c4, if_pos c7, if_neg c8])
                  · refine lv_iload_n hx hb dX3_firstFaultPlace_154 rfl (lv_at hl 4 rfl) ?_
                    refine lv_iload hx hb dX3_firstFaultPlace_155 (lv_at hl 1 rfl) ?_
                    refine lv_icmp_le (tgt := 165) hx hb dX3_firstFaultPlace_157 (by decide) (fun c9 => ?_) (fun c9 => ?_)
                    · refine lv_iload_n hx hb dX3_firstFaultPlace_165 rfl (lv_at hl 4 rfl) ?_
                      exact rI hx hb hr hlk dX3_firstFaultPlace_166 (by rw [hr91, fX3_firstFaultPlace_c91, if_neg c4, if_pos c7, if_pos c8, if_pos c9])
                    · refine lv_bipush (v := (-9)) hx hb dX3_firstFaultPlace_160 (by decide) ?_
                      refine lv_goto (tgt := 166) hx hb dX3_firstFaultPlace_162 (by decide) ?_
                      exact rI hx hb hr hlk dX3_firstFaultPlace_166 (by rw [hr91, fX3_firstFaultPlace_c91, if_neg c4, if_pos c7, if_pos c8, if_neg c9])
                · refine lv_iconst (v := 0) hx hb dX3_firstFaultPlace_102 (by decide) ?_
                  refine lv_istore (lv' := [(6, .int 0), (5, .int x5), (4, .int x4), (0, .ref (ad (9 + k))), (2, .int p1), (3, .int x3)]) hx hb dX3_firstFaultPlace_103 hl (by decide) rfl (fun ls hl => ?_)
                  refine lv_iload hx hb dX3_firstFaultPlace_105 (lv_at hl 0 rfl) ?_
                  refine lv_iconst (v := 5) hx hb dX3_firstFaultPlace_107 (by decide) ?_
                  refine lv_icmp_ge (tgt := 140) hx hb dX3_firstFaultPlace_108 (by decide) (fun c => absurd c (by decide)) (fun _ => ?_)
                  refine lv_iload_n hx hb dX3_firstFaultPlace_111 rfl (lv_at hl 5 rfl) ?_
                  refine lv_iload hx hb dX3_firstFaultPlace_112 (lv_at hl 0 rfl) ?_
                  refine lv_iadd hx hb dX3_firstFaultPlace_114 ?_
                  refine lv_iload_n hx hb dX3_firstFaultPlace_115 rfl (lv_at hl 4 rfl) ?_
                  refine lv_icmp_ge (tgt := 129) hx hb dX3_firstFaultPlace_116 (by decide) (fun c10 => ?_) (fun c10 => ?_)
                  · refine lv_iload_n hx hb dX3_firstFaultPlace_129 rfl (lv_at hl 5 rfl) ?_
                    refine lv_iload hx hb dX3_firstFaultPlace_130 (lv_at hl 0 rfl) ?_
                    refine lv_iadd hx hb dX3_firstFaultPlace_132 ?_
                    exact rI hx hb hr hlk dX3_firstFaultPlace_133 (by rw [hr91, fX3_firstFaultPlace_c91, if_neg c4, if_neg c7, if_pos c10])
                  · have tk : x3 + 0 = nI (q91 + 0) := by rw [t91]; exact nI_add q91 0
                    have hlq : q91 + 0 < b := cnt_lt eb tk (by omega) (by omega) c10
                    have hvk : vp_in (x3 + 0) 60 := cnt_in tk (by omega) (by decide)
                    have hf2 : ¬ (0 : Int32) = 0 → ¬ (0 : Int32) = 1 → ¬ (0 : Int32) = 2 → ¬ (0 : Int32) = 3 → vp_in (x3 + 3) 60 := by intro h0 h1 h2 h3; first | exact absurd rfl h0 | exact absurd rfl h1 | exact absurd rfl h2 | exact absurd rfl h3 | assumption
                    refine lv_aload_n hx hb dX3_firstFaultPlace_119 rfl (lv_at hl 3 rfl) ?_
                    refine lv_iload_n hx hb dX3_firstFaultPlace_120 rfl (lv_at hl 5 rfl) ?_
                    refine lv_iload hx hb dX3_firstFaultPlace_121 (lv_at hl 0 rfl) ?_
                    refine kS (n := 3) (As := [.ref (ad (9 + k)), .int x3, .int 0]) (rest := []) ⟨hx, hb, hml, hown, hts⟩ (kX3_fitsProphet l D cy ad u k x3 0 hk (by assumption) (by assumption)) gX3_firstFaultPlace_X3_fitsProphet rfl rfl rfl (by decide +kernel) ⟨Nat.le_of_ble_eq_true rfl, Nat.le_of_ble_eq_true rfl⟩ (XB_of hP hK) XB_bl rfl hl.1 rfl (Nat.le_of_ble_eq_true rfl) dX3_firstFaultPlace_123 ⟨Nat.le_refl _, Nat.le_refl _⟩ ?_
                    refine lv_if_ne (tgt := 134) hx hb dX3_firstFaultPlace_126 (by decide) (fun c11 => ?_) (fun c11 => ?_)
                    · refine lv_iinc (v := 1) (lv' := [(6, .int 1), (5, .int x5), (4, .int x4), (0, .ref (ad (9 + k))), (2, .int p1), (3, .int x3)]) hx hb dX3_firstFaultPlace_134 hl (k := 0) rfl rfl (by decide) rfl (fun ls hl => ?_)
                      refine lv_goto (tgt := 105) hx hb dX3_firstFaultPlace_137 (by decide) ?_
                      refine lv_iload hx hb dX3_firstFaultPlace_105 (lv_at hl 0 rfl) ?_
                      refine lv_iconst (v := 5) hx hb dX3_firstFaultPlace_107 (by decide) ?_
                      refine lv_icmp_ge (tgt := 140) hx hb dX3_firstFaultPlace_108 (by decide) (fun c => absurd c (by decide)) (fun _ => ?_)
                      refine lv_iload_n hx hb dX3_firstFaultPlace_111 rfl (lv_at hl 5 rfl) ?_
                      refine lv_iload hx hb dX3_firstFaultPlace_112 (lv_at hl 0 rfl) ?_
                      refine lv_iadd hx hb dX3_firstFaultPlace_114 ?_
                      refine lv_iload_n hx hb dX3_firstFaultPlace_115 rfl (lv_at hl 4 rfl) ?_
                      refine lv_icmp_ge (tgt := 129) hx hb dX3_firstFaultPlace_116 (by decide) (fun c12 => ?_) (fun c12 => ?_)
                      · refine lv_iload_n hx hb dX3_firstFaultPlace_129 rfl (lv_at hl 5 rfl) ?_
                        refine lv_iload hx hb dX3_firstFaultPlace_130 (lv_at hl 0 rfl) ?_
                        refine lv_iadd hx hb dX3_firstFaultPlace_132 ?_
                        exact rI hx hb hr hlk dX3_firstFaultPlace_133 (by rw [hr91, fX3_firstFaultPlace_c91, if_neg c4, if_neg c7, if_neg c10, if_neg c11, if_pos c12])
                      · have tk : x3 + 1 = nI (q91 + 1) := by rw [t91]; exact nI_add q91 1
                        have hlq : q91 + 1 < b := cnt_lt eb tk (by omega) (by omega) c12
                        have hvk : vp_in (x3 + 1) 60 := cnt_in tk (by omega) (by decide)
                        have hf2 : ¬ (1 : Int32) = 0 → ¬ (1 : Int32) = 1 → ¬ (1 : Int32) = 2 → ¬ (1 : Int32) = 3 → vp_in (x3 + 3) 60 := by intro h0 h1 h2 h3; first | exact absurd rfl h0 | exact absurd rfl h1 | exact absurd rfl h2 | exact absurd rfl h3 | assumption
                        refine lv_aload_n hx hb dX3_firstFaultPlace_119 rfl (lv_at hl 3 rfl) ?_
                        refine lv_iload_n hx hb dX3_firstFaultPlace_120 rfl (lv_at hl 5 rfl) ?_
                        refine lv_iload hx hb dX3_firstFaultPlace_121 (lv_at hl 0 rfl) ?_
                        refine kS (n := 3) (As := [.ref (ad (9 + k)), .int x3, .int 1]) (rest := []) ⟨hx, hb, hml, hown, hts⟩ (kX3_fitsProphet l D cy ad u k x3 1 hk (by assumption) (by assumption)) gX3_firstFaultPlace_X3_fitsProphet rfl rfl rfl (by decide +kernel) ⟨Nat.le_of_ble_eq_true rfl, Nat.le_of_ble_eq_true rfl⟩ (XB_of hP hK) XB_bl rfl hl.1 rfl (Nat.le_of_ble_eq_true rfl) dX3_firstFaultPlace_123 ⟨Nat.le_refl _, Nat.le_refl _⟩ ?_
                        refine lv_if_ne (tgt := 134) hx hb dX3_firstFaultPlace_126 (by decide) (fun c13 => ?_) (fun c13 => ?_)
                        · refine lv_iinc (v := 2) (lv' := [(6, .int 2), (5, .int x5), (4, .int x4), (0, .ref (ad (9 + k))), (2, .int p1), (3, .int x3)]) hx hb dX3_firstFaultPlace_134 hl (k := 0) rfl rfl (by decide) rfl (fun ls hl => ?_)
                          refine lv_goto (tgt := 105) hx hb dX3_firstFaultPlace_137 (by decide) ?_
                          refine lv_iload hx hb dX3_firstFaultPlace_105 (lv_at hl 0 rfl) ?_
                          refine lv_iconst (v := 5) hx hb dX3_firstFaultPlace_107 (by decide) ?_
                          refine lv_icmp_ge (tgt := 140) hx hb dX3_firstFaultPlace_108 (by decide) (fun c => absurd c (by decide)) (fun _ => ?_)
                          refine lv_iload_n hx hb dX3_firstFaultPlace_111 rfl (lv_at hl 5 rfl) ?_
                          refine lv_iload hx hb dX3_firstFaultPlace_112 (lv_at hl 0 rfl) ?_
                          refine lv_iadd hx hb dX3_firstFaultPlace_114 ?_
                          refine lv_iload_n hx hb dX3_firstFaultPlace_115 rfl (lv_at hl 4 rfl) ?_
                          refine lv_icmp_ge (tgt := 129) hx hb dX3_firstFaultPlace_116 (by decide) (fun c14 => ?_) (fun c14 => ?_)
                          · refine lv_iload_n hx hb dX3_firstFaultPlace_129 rfl (lv_at hl 5 rfl) ?_
                            refine lv_iload hx hb dX3_firstFaultPlace_130 (lv_at hl 0 rfl) ?_
                            refine lv_iadd hx hb dX3_firstFaultPlace_132 ?_
                            exact rI hx hb hr hlk dX3_firstFaultPlace_133 (by rw [hr91, fX3_firstFaultPlace_c91, if_neg c4, if_neg c7, if_neg c10, if_neg c11, if_neg c12, if_neg c13, if_pos c14])
                          · have tk : x3 + 2 = nI (q91 + 2) := by rw [t91]; exact nI_add q91 2
                            have hlq : q91 + 2 < b := cnt_lt eb tk (by omega) (by omega) c14
                            have hvk : vp_in (x3 + 2) 60 := cnt_in tk (by omega) (by decide)
                            have hf2 : ¬ (2 : Int32) = 0 → ¬ (2 : Int32) = 1 → ¬ (2 : Int32) = 2 → ¬ (2 : Int32) = 3 → vp_in (x3 + 3) 60 := by intro h0 h1 h2 h3; first | exact absurd rfl h0 | exact absurd rfl h1 | exact absurd rfl h2 | exact absurd rfl h3 | assumption
                            refine lv_aload_n hx hb dX3_firstFaultPlace_119 rfl (lv_at hl 3 rfl) ?_
                            refine lv_iload_n hx hb dX3_firstFaultPlace_120 rfl (lv_at hl 5 rfl) ?_
                            refine lv_iload hx hb dX3_firstFaultPlace_121 (lv_at hl 0 rfl) ?_
                            refine kS (n := 3) (As := [.ref (ad (9 + k)), .int x3, .int 2]) (rest := []) ⟨hx, hb, hml, hown, hts⟩ (kX3_fitsProphet l D cy ad u k x3 2 hk (by assumption) (by assumption)) gX3_firstFaultPlace_X3_fitsProphet rfl rfl rfl (by decide +kernel) ⟨Nat.le_of_ble_eq_true rfl, Nat.le_of_ble_eq_true rfl⟩ (XB_of hP hK) XB_bl rfl hl.1 rfl (Nat.le_of_ble_eq_true rfl) dX3_firstFaultPlace_123 ⟨Nat.le_refl _, Nat.le_refl _⟩ ?_
                            refine lv_if_ne (tgt := 134) hx hb dX3_firstFaultPlace_126 (by decide) (fun c15 => ?_) (fun c15 => ?_)
                            · refine lv_iinc (v := 3) (lv' := [(6, .int 3), (5, .int x5), (4, .int x4), (0, .ref (ad (9 + k))), (2, .int p1), (3, .int x3)]) hx hb dX3_firstFaultPlace_134 hl (k := 0) rfl rfl (by decide) rfl (fun ls hl => ?_)
                              refine lv_goto (tgt := 105) hx hb dX3_firstFaultPlace_137 (by decide) ?_
                              refine lv_iload hx hb dX3_firstFaultPlace_105 (lv_at hl 0 rfl) ?_
                              refine lv_iconst (v := 5) hx hb dX3_firstFaultPlace_107 (by decide) ?_
                              refine lv_icmp_ge (tgt := 140) hx hb dX3_firstFaultPlace_108 (by decide) (fun c => absurd c (by decide)) (fun _ => ?_)
                              refine lv_iload_n hx hb dX3_firstFaultPlace_111 rfl (lv_at hl 5 rfl) ?_
                              refine lv_iload hx hb dX3_firstFaultPlace_112 (lv_at hl 0 rfl) ?_
                              refine lv_iadd hx hb dX3_firstFaultPlace_114 ?_
                              refine lv_iload_n hx hb dX3_firstFaultPlace_115 rfl (lv_at hl 4 rfl) ?_
                              refine lv_icmp_ge (tgt := 129) hx hb dX3_firstFaultPlace_116 (by decide) (fun c16 => ?_) (fun c16 => ?_)
                              · refine lv_iload_n hx hb dX3_firstFaultPlace_129 rfl (lv_at hl 5 rfl) ?_
                                refine lv_iload hx hb dX3_firstFaultPlace_130 (lv_at hl 0 rfl) ?_
                                refine lv_iadd hx hb dX3_firstFaultPlace_132 ?_
                                exact rI hx hb hr hlk dX3_firstFaultPlace_133 (by rw [hr91, fX3_firstFaultPlace_c91, if_neg c4, if_neg c7, if_neg c10, if_neg c11, if_neg c12, if_neg c13, if_neg c14, if_neg c15, if_pos c16])
                              · have tk : x3 + 3 = nI (q91 + 3) := by rw [t91]; exact nI_add q91 3
                                have hlq : q91 + 3 < b := cnt_lt eb tk (by omega) (by omega) c16
                                have hvk : vp_in (x3 + 3) 60 := cnt_in tk (by omega) (by decide)
                                have hf2 : ¬ (3 : Int32) = 0 → ¬ (3 : Int32) = 1 → ¬ (3 : Int32) = 2 → ¬ (3 : Int32) = 3 → vp_in (x3 + 3) 60 := by intro h0 h1 h2 h3; first | exact absurd rfl h0 | exact absurd rfl h1 | exact absurd rfl h2 | exact absurd rfl h3 | assumption
                                refine lv_aload_n hx hb dX3_firstFaultPlace_119 rfl (lv_at hl 3 rfl) ?_
                                refine lv_iload_n hx hb dX3_firstFaultPlace_120 rfl (lv_at hl 5 rfl) ?_
                                refine lv_iload hx hb dX3_firstFaultPlace_121 (lv_at hl 0 rfl) ?_
                                refine kS (n := 3) (As := [.ref (ad (9 + k)), .int x3, .int 3]) (rest := []) ⟨hx, hb, hml, hown, hts⟩ (kX3_fitsProphet l D cy ad u k x3 3 hk (by assumption) (by assumption)) gX3_firstFaultPlace_X3_fitsProphet rfl rfl rfl (by decide +kernel) ⟨Nat.le_of_ble_eq_true rfl, Nat.le_of_ble_eq_true rfl⟩ (XB_of hP hK) XB_bl rfl hl.1 rfl (Nat.le_of_ble_eq_true rfl) dX3_firstFaultPlace_123 ⟨Nat.le_refl _, Nat.le_refl _⟩ ?_
                                refine lv_if_ne (tgt := 134) hx hb dX3_firstFaultPlace_126 (by decide) (fun c17 => ?_) (fun c17 => ?_)
                                · refine lv_iinc (v := 4) (lv' := [(6, .int 4), (5, .int x5), (4, .int x4), (0, .ref (ad (9 + k))), (2, .int p1), (3, .int x3)]) hx hb dX3_firstFaultPlace_134 hl (k := 0) rfl rfl (by decide) rfl (fun ls hl => ?_)
                                  refine lv_goto (tgt := 105) hx hb dX3_firstFaultPlace_137 (by decide) ?_
                                  refine lv_iload hx hb dX3_firstFaultPlace_105 (lv_at hl 0 rfl) ?_
                                  refine lv_iconst (v := 5) hx hb dX3_firstFaultPlace_107 (by decide) ?_
                                  refine lv_icmp_ge (tgt := 140) hx hb dX3_firstFaultPlace_108 (by decide) (fun c => absurd c (by decide)) (fun _ => ?_)
                                  refine lv_iload_n hx hb dX3_firstFaultPlace_111 rfl (lv_at hl 5 rfl) ?_
                                  refine lv_iload hx hb dX3_firstFaultPlace_112 (lv_at hl 0 rfl) ?_
                                  refine lv_iadd hx hb dX3_firstFaultPlace_114 ?_
                                  refine lv_iload_n hx hb dX3_firstFaultPlace_115 rfl (lv_at hl 4 rfl) ?_
                                  refine lv_icmp_ge (tgt := 129) hx hb dX3_firstFaultPlace_116 (by decide) (fun c18 => ?_) (fun c18 => ?_)
                                  · refine lv_iload_n hx hb dX3_firstFaultPlace_129 rfl (lv_at hl 5 rfl) ?_
                                    refine lv_iload hx hb dX3_firstFaultPlace_130 (lv_at hl 0 rfl) ?_
                                    refine lv_iadd hx hb dX3_firstFaultPlace_132 ?_
                                    exact rI hx hb hr hlk dX3_firstFaultPlace_133 (by rw [hr91, fX3_firstFaultPlace_c91, if_neg c4, if_neg c7, if_neg c10, if_neg c11, if_neg c12, if_neg c13, if_neg c14, if_neg c15, if_neg c16, if_neg c17, if_pos c18])
                                  · have tk : x3 + 4 = nI (q91 + 4) := by rw [t91]; exact nI_add q91 4
                                    have hlq : q91 + 4 < b := cnt_lt eb tk (by omega) (by omega) c18
                                    have hvk : vp_in (x3 + 4) 60 := cnt_in tk (by omega) (by decide)
                                    have hf2 : ¬ (4 : Int32) = 0 → ¬ (4 : Int32) = 1 → ¬ (4 : Int32) = 2 → ¬ (4 : Int32) = 3 → vp_in (x3 + 3) 60 := by intro h0 h1 h2 h3; first | exact absurd rfl h0 | exact absurd rfl h1 | exact absurd rfl h2 | exact absurd rfl h3 | assumption
                                    refine lv_aload_n hx hb dX3_firstFaultPlace_119 rfl (lv_at hl 3 rfl) ?_
                                    refine lv_iload_n hx hb dX3_firstFaultPlace_120 rfl (lv_at hl 5 rfl) ?_
                                    refine lv_iload hx hb dX3_firstFaultPlace_121 (lv_at hl 0 rfl) ?_
                                    refine kS (n := 3) (As := [.ref (ad (9 + k)), .int x3, .int 4]) (rest := []) ⟨hx, hb, hml, hown, hts⟩ (kX3_fitsProphet l D cy ad u k x3 4 hk (by assumption) (by assumption)) gX3_firstFaultPlace_X3_fitsProphet rfl rfl rfl (by decide +kernel) ⟨Nat.le_of_ble_eq_true rfl, Nat.le_of_ble_eq_true rfl⟩ (XB_of hP hK) XB_bl rfl hl.1 rfl (Nat.le_of_ble_eq_true rfl) dX3_firstFaultPlace_123 ⟨Nat.le_refl _, Nat.le_refl _⟩ ?_
                                    refine lv_if_ne (tgt := 134) hx hb dX3_firstFaultPlace_126 (by decide) (fun c19 => ?_) (fun c19 => ?_)
                                    · refine lv_iinc (v := 5) (lv' := [(6, .int 5), (5, .int x5), (4, .int x4), (0, .ref (ad (9 + k))), (2, .int p1), (3, .int x3)]) hx hb dX3_firstFaultPlace_134 hl (k := 0) rfl rfl (by decide) rfl (fun ls hl => ?_)
                                      refine lv_goto (tgt := 105) hx hb dX3_firstFaultPlace_137 (by decide) ?_
                                      refine lv_iload hx hb dX3_firstFaultPlace_105 (lv_at hl 0 rfl) ?_
                                      refine lv_iconst (v := 5) hx hb dX3_firstFaultPlace_107 (by decide) ?_
                                      refine lv_icmp_ge (tgt := 140) hx hb dX3_firstFaultPlace_108 (by decide) (fun _ => ?_) (fun c => absurd (by decide) c)
                                      refine lv_iinc (v := (x3 + 5)) (lv' := [(3, .int (x3 + 5)), (6, .int 5), (5, .int x5), (4, .int x4), (0, .ref (ad (9 + k))), (2, .int p1)]) hx hb dX3_firstFaultPlace_140 hl (k := 5) rfl rfl (by decide) rfl (fun ls hl => ?_)
                                      refine lv_iinc (v := (x5 + 1)) (lv' := [(5, .int (x5 + 1)), (3, .int (x3 + 5)), (6, .int 5), (4, .int x4), (0, .ref (ad (9 + k))), (2, .int p1)]) hx hb dX3_firstFaultPlace_143 hl (k := 2) rfl rfl (by decide) rfl (fun ls hl => ?_)
                                      refine lv_goto (tgt := 91) hx hb dX3_firstFaultPlace_146 (by decide) ?_
                                      exact ih91 (x5 + 1) x4 (x3 + 5) (k91 + 1) (q91 + 5) (by rw [hr91, fX3_firstFaultPlace_c91, if_neg c4, if_neg c7, if_neg c10, if_neg c11, if_neg c12, if_neg c13, if_neg c14, if_neg c15, if_neg c16, if_neg c17, if_neg c18, if_neg c19]) (by rw [e91]; exact nI_1 _) (by rw [t91]; exact nI_add q91 5) (by omega) hlt91 (by omega) ls (lv_sub hl [0, 3, 4, 5, 1] rfl)
                                    · refine lv_iload_n hx hb dX3_firstFaultPlace_129 rfl (lv_at hl 5 rfl) ?_
                                      refine lv_iload hx hb dX3_firstFaultPlace_130 (lv_at hl 0 rfl) ?_
                                      refine lv_iadd hx hb dX3_firstFaultPlace_132 ?_
                                      exact rI hx hb hr hlk dX3_firstFaultPlace_133 (by rw [hr91, fX3_firstFaultPlace_c91, if_neg c4, if_neg c7, if_neg c10, if_neg c11, if_neg c12, if_neg c13, if_neg c14, if_neg c15, if_neg c16, if_neg c17, if_neg c18, if_pos c19])
                                · refine lv_iload_n hx hb dX3_firstFaultPlace_129 rfl (lv_at hl 5 rfl) ?_
                                  refine lv_iload hx hb dX3_firstFaultPlace_130 (lv_at hl 0 rfl) ?_
                                  refine lv_iadd hx hb dX3_firstFaultPlace_132 ?_
                                  exact rI hx hb hr hlk dX3_firstFaultPlace_133 (by rw [hr91, fX3_firstFaultPlace_c91, if_neg c4, if_neg c7, if_neg c10, if_neg c11, if_neg c12, if_neg c13, if_neg c14, if_neg c15, if_neg c16, if_pos c17])
                            · refine lv_iload_n hx hb dX3_firstFaultPlace_129 rfl (lv_at hl 5 rfl) ?_
                              refine lv_iload hx hb dX3_firstFaultPlace_130 (lv_at hl 0 rfl) ?_
                              refine lv_iadd hx hb dX3_firstFaultPlace_132 ?_
                              exact rI hx hb hr hlk dX3_firstFaultPlace_133 (by rw [hr91, fX3_firstFaultPlace_c91, if_neg c4, if_neg c7, if_neg c10, if_neg c11, if_neg c12, if_neg c13, if_neg c14, if_pos c15])
                        · refine lv_iload_n hx hb dX3_firstFaultPlace_129 rfl (lv_at hl 5 rfl) ?_
                          refine lv_iload hx hb dX3_firstFaultPlace_130 (lv_at hl 0 rfl) ?_
                          refine lv_iadd hx hb dX3_firstFaultPlace_132 ?_
                          exact rI hx hb hr hlk dX3_firstFaultPlace_133 (by rw [hr91, fX3_firstFaultPlace_c91, if_neg c4, if_neg c7, if_neg c10, if_neg c11, if_neg c12, if_pos c13])
                    · refine lv_iload_n hx hb dX3_firstFaultPlace_129 rfl (lv_at hl 5 rfl) ?_
                      refine lv_iload hx hb dX3_firstFaultPlace_130 (lv_at hl 0 rfl) ?_
                      refine lv_iadd hx hb dX3_firstFaultPlace_132 ?_
                      exact rI hx hb hr hlk dX3_firstFaultPlace_133 (by rw [hr91, fX3_firstFaultPlace_c91, if_neg c4, if_neg c7, if_neg c10, if_pos c11])
          exact lp91 (5) 0 x3 x3 (0) (q74) (by rw [hr74, fX3_firstFaultPlace_c74, if_neg c3]) nI_0.symm t74 (by omega) (by omega) (by omega) ls (lv_sub hl [0, 1, 2, 4, 5] rfl)
        · refine lv_iload hx hb dX3_firstFaultPlace_85 (lv_at hl 0 rfl) ?_
          exact rI hx hb hr hlk dX3_firstFaultPlace_87 (by rw [hr74, fX3_firstFaultPlace_c74, if_pos c3])
      refine lv_iload_n hx hb dX3_firstFaultPlace_15 rfl (lv_at hl 1 rfl) ?_
      refine lv_iconst (v := 1) hx hb dX3_firstFaultPlace_16 (by decide) ?_
      refine lv_iadd hx hb dX3_firstFaultPlace_17 ?_
      refine lv_istore_n (lv' := [(3, .int (p0 + 1)), (0, .ref (ad (9 + k))), (1, .int p0), (2, .int p1)]) hx hb dX3_firstFaultPlace_18 rfl hl (by decide) rfl (fun ls hl => ?_)
      refine lv_iconst (v := 0) hx hb dX3_firstFaultPlace_19 (by decide) ?_
      refine lv_istore (lv' := [(4, .int 0), (3, .int (p0 + 1)), (0, .ref (ad (9 + k))), (1, .int p0), (2, .int p1)]) hx hb dX3_firstFaultPlace_20 hl (by decide) rfl (fun ls hl => ?_)
      have lp22 : ∀ (n22 : Nat) (x4 : Int32) (x3 : Int32) (k22 : Nat), (fX3_firstFaultPlace u k p0 p1) = (fX3_firstFaultPlace_c22 u k p0 p1 n22 x4 x3) → (x4 = nI k22) → (x3 = nI (a + 1 + 2 * k22)) → (k22 ≤ 5) → (5 < k22 + n22) → ∀ ls : Array Slot, lv_has ls 7 [(4, .int x4), (3, .int x3), (0, .ref (ad (9 + k))), (1, .int p0), (2, .int p1)] → W p l e ({ frames := 2, cells := 0, slots := 0, locals := 44 } : Room) s m ([.ref (ad (9 + k)), .int p0, .int p1] : List Value).toArray below meth c s.heap [] 0 0 (MQ below (qR (some (.int (fX3_firstFaultPlace u k p0 p1)))) ([.ref (ad (9 + k)), .int p0, .int p1] : List Value).toArray s 0 0 noF) (F0 m 22 ls []) := by
        intro n22
        induction n22 with
        | zero =>
          intro x4 x3 k22 _ e22 t22 hk22 hm22 ls hl
          exfalso; omega
        | succ n22 ih22 =>
          intro x4 x3 k22 hr22 e22 t22 hk22 hm22 ls hl
          refine lv_iload hx hb dX3_firstFaultPlace_22 (lv_at hl 0 rfl) ?_
          refine lv_iconst (v := 5) hx hb dX3_firstFaultPlace_24 (by decide) ?_
          refine lv_icmp_ge (tgt := 74) hx hb dX3_firstFaultPlace_25 (by decide) (fun c20 => ?_) (fun c20 => ?_)
          · exact sg74 x3 (a + 1 + 2 * k22) (by rw [hr22, fX3_firstFaultPlace_c22, if_pos c20]) t22 (by omega) ls (lv_sub hl [2, 3, 4, 1] rfl)
          · have hlt22 : k22 < 5 := cnt_lt (show (5 : Int32) = nI 5 from rfl) e22 (by omega) (by omega) c20
            refine lv_iload_n hx hb dX3_firstFaultPlace_28 rfl (lv_at hl 1 rfl) ?_
            refine lv_iload_n hx hb dX3_firstFaultPlace_29 rfl (lv_at hl 4 rfl) ?_
            refine lv_icmp_ge (tgt := 74) hx hb dX3_firstFaultPlace_30 (by decide) (fun c21 => ?_) (fun c21 => ?_)
            · exact sg74 x3 (a + 1 + 2 * k22) (by rw [hr22, fX3_firstFaultPlace_c22, if_neg c20, if_pos c21]) t22 (by omega) ls (lv_sub hl [2, 3, 4, 1] rfl)
            · have hl22 : a + 1 + 2 * k22 < b := cnt_lt eb t22 (by omega) (by omega) c21
              have hv22 : vp_in x3 60 := cnt_in t22 (by omega) (by decide)
              refine lv_aload_n hx hb dX3_firstFaultPlace_33 rfl (lv_at hl 2 rfl) ?_
              refine lv_iload_n hx hb dX3_firstFaultPlace_34 rfl (lv_at hl 1 rfl) ?_
              refine zl_ce hk hx hb hK hP (by assumption) dX3_firstFaultPlace_35 ?_
              refine lv_bipush (v := 47) hx hb dX3_firstFaultPlace_36 (by decide) ?_
              refine lv_icmp_ne (tgt := 74) hx hb dX3_firstFaultPlace_38 (by decide) (fun c22 => ?_) (fun c22 => ?_)
              · exact sg74 x3 (a + 1 + 2 * k22) (by rw [hr22, fX3_firstFaultPlace_c22, if_neg c20, if_neg c21, if_neg c22]) t22 (by omega) ls (lv_sub hl [2, 3, 4, 1] rfl)
              · refine lv_iload_n hx hb dX3_firstFaultPlace_41 rfl (lv_at hl 1 rfl) ?_
                refine lv_iconst (v := 1) hx hb dX3_firstFaultPlace_42 (by decide) ?_
                refine lv_iadd hx hb dX3_firstFaultPlace_43 ?_
                refine lv_iload_n hx hb dX3_firstFaultPlace_44 rfl (lv_at hl 4 rfl) ?_
                refine lv_icmp_ge (tgt := 61) hx hb dX3_firstFaultPlace_45 (by decide) (fun c23 => ?_) (fun c23 => ?_)
                · refine lv_iload_n hx hb dX3_firstFaultPlace_61 rfl (lv_at hl 1 rfl) ?_
                  refine lv_iconst (v := 1) hx hb dX3_firstFaultPlace_62 (by decide) ?_
                  refine lv_iadd hx hb dX3_firstFaultPlace_63 ?_
                  exact rI hx hb hr hlk dX3_firstFaultPlace_64 (by rw [hr22, fX3_firstFaultPlace_c22, if_neg c20, if_neg c21, if_pos c22, if_pos c23])
                · have t22b : x3 + 1 = nI (a + 1 + 2 * k22 + 1) := by rw [t22]; exact nI_1 _
                  have hl22b : a + 1 + 2 * k22 + 1 < b := cnt_lt eb t22b (by omega) (by omega) c23
                  have hv22b : vp_in (x3 + 1) 60 := cnt_in t22b (by omega) (by decide)
                  refine lv_aload_n hx hb dX3_firstFaultPlace_48 rfl (lv_at hl 2 rfl) ?_
                  refine lv_iload_n hx hb dX3_firstFaultPlace_49 rfl (lv_at hl 1 rfl) ?_
                  refine lv_iconst (v := 1) hx hb dX3_firstFaultPlace_50 (by decide) ?_
                  refine lv_iadd hx hb dX3_firstFaultPlace_51 ?_
                  refine zl_ce hk hx hb hK hP (by assumption) dX3_firstFaultPlace_52 ?_
                  refine lv_bipush (v := 9) hx hb dX3_firstFaultPlace_53 (by decide) ?_
                  refine kS (n := 2) (As := [.int (u (10 + k) (x3 + 1).toNatClampNeg), .int 9]) (rest := []) ⟨hx, hb, hml, hown, hts⟩ (kX3_isDigit l (u (10 + k) (x3 + 1).toNatClampNeg) 9) gX3_firstFaultPlace_X3_isDigit rfl rfl rfl (by decide +kernel) ⟨Nat.le_of_ble_eq_true rfl, Nat.le_of_ble_eq_true rfl⟩ (fun _ _ _ => trivial) (fun _ _ _ _ _ => trivial) rfl hl.1 rfl (Nat.le_of_ble_eq_true rfl) dX3_firstFaultPlace_55 ⟨Nat.le_refl _, Nat.le_refl _⟩ ?_
                  refine lv_if_ne (tgt := 65) hx hb dX3_firstFaultPlace_58 (by decide) (fun c24 => ?_) (fun c24 => ?_)
                  · refine lv_iinc (v := (x3 + 2)) (lv' := [(3, .int (x3 + 2)), (4, .int x4), (0, .ref (ad (9 + k))), (1, .int p0), (2, .int p1)]) hx hb dX3_firstFaultPlace_65 hl (k := 1) rfl rfl (by decide) rfl (fun ls hl => ?_)
                    refine lv_iinc (v := (x4 + 1)) (lv' := [(4, .int (x4 + 1)), (3, .int (x3 + 2)), (0, .ref (ad (9 + k))), (1, .int p0), (2, .int p1)]) hx hb dX3_firstFaultPlace_68 hl (k := 1) rfl rfl (by decide) rfl (fun ls hl => ?_)
                    refine lv_goto (tgt := 22) hx hb dX3_firstFaultPlace_71 (by decide) ?_
                    exact ih22 (x4 + 1) (x3 + 2) (k22 + 1) (by rw [hr22, fX3_firstFaultPlace_c22, if_neg c20, if_neg c21, if_pos c22, if_neg c23, if_neg c24]) (by rw [e22]; exact nI_1 _) (by rw [t22, show (2 : Int32) = nI 2 from rfl, nI_add]; rfl) hlt22 (by omega) ls (lv_sub hl [0, 1, 2, 3, 4] rfl)
                  · refine lv_iload_n hx hb dX3_firstFaultPlace_61 rfl (lv_at hl 1 rfl) ?_
                    refine lv_iconst (v := 1) hx hb dX3_firstFaultPlace_62 (by decide) ?_
                    refine lv_iadd hx hb dX3_firstFaultPlace_63 ?_
                    exact rI hx hb hr hlk dX3_firstFaultPlace_64 (by rw [hr22, fX3_firstFaultPlace_c22, if_neg c20, if_neg c21, if_pos c22, if_neg c23, if_pos c24])
      exact lp22 (6) 0 (p0 + 1) (0) (by rw [fX3_firstFaultPlace, if_neg c1, if_pos c2]) nI_0.symm (by rw [ea]; exact nI_1 _) (by omega) (by omega) ls (lv_sub hl [0, 1, 2, 3, 4] rfl)
    · refine lv_iload_n hx hb dX3_firstFaultPlace_13 rfl (lv_at hl 1 rfl) ?_
      exact rI hx hb hr hlk dX3_firstFaultPlace_14 (by rw [fX3_firstFaultPlace, if_neg c1, if_neg c2])
def fX3_behindEvents_c7 (u : Mem) (k : Nat) (p0 : Int32) (p1 : Int32)  : Nat → Int32 → Int32 → Int32
  | 0, x4, x3 => 0
  | n7 + 1, x4, x3 => (if 5 ≤ x4 then x3 else (if p1 ≤ x3 then x3 else (if (u (10 + k) x3.toNatClampNeg) = 47 then (fX3_behindEvents_c7 u k p0 p1 n7 (x4 + 1) (x3 + 2)) else x3)))
def fX3_behindEvents (u : Mem) (k : Nat) (p0 : Int32) (p1 : Int32) : Int32 :=
  (fX3_behindEvents_c7 u k p0 p1 (6) 0 (p0 + 1))
set_option maxRecDepth 100000 in
set_option maxHeartbeats 4000000 in
theorem kX3_behindEvents (l : Launch) (D : va_G) (cy : Nat → ClassId) (ad : Nat → Nat) (u : Mem) (k : Nat) (p0 : Int32) (p1 : Int32) (hk : k < 4) (hrg : Rng p0 p1) : Met l yX3_behindEvents wsX3_behindEvents ({ frames := 0, cells := 0, slots := 0, locals := 0 } : Room) (va_Pc [.ref (ad (9 + k)), .int p0, .int p1] (XB D cy ad u)) (qR (some (.int (fX3_behindEvents u k p0 p1)))) 0 0 noF := by
  refine m_start (cc := cX3_behindEvents) (maxL := 5) (ret := (some .int)) (by decide) rfl (Nat.le_of_ble_eq_true rfl) (fun p e s m below meth c hx hb hr hts hown hml hlk _ hB ls hl => ?_)
  obtain ⟨hP, hK⟩ := hB
  have hown : s.vm.findClass RX3 = some m.cls := hown
  have hl : lv_has ls 5 [(0, .ref (ad (9 + k))), (1, .int p0), (2, .int p1)] := hl
  obtain ⟨a, b, hab, hb60, ea, eb⟩ := id hrg
  refine lv_iload_n hx hb dX3_behindEvents_0 rfl (lv_at hl 1 rfl) ?_
  refine lv_iconst (v := 1) hx hb dX3_behindEvents_1 (by decide) ?_
  refine lv_iadd hx hb dX3_behindEvents_2 ?_
  refine lv_istore_n (lv' := [(3, .int (p0 + 1)), (0, .ref (ad (9 + k))), (1, .int p0), (2, .int p1)]) hx hb dX3_behindEvents_3 rfl hl (by decide) rfl (fun ls hl => ?_)
  refine lv_iconst (v := 0) hx hb dX3_behindEvents_4 (by decide) ?_
  refine lv_istore (lv' := [(4, .int 0), (3, .int (p0 + 1)), (0, .ref (ad (9 + k))), (1, .int p0), (2, .int p1)]) hx hb dX3_behindEvents_5 hl (by decide) rfl (fun ls hl => ?_)
  have lp7 : ∀ (n7 : Nat) (x4 : Int32) (x3 : Int32) (k7 : Nat), (fX3_behindEvents u k p0 p1) = (fX3_behindEvents_c7 u k p0 p1 n7 x4 x3) → (x4 = nI k7) → (x3 = nI (a + 1 + 2 * k7)) → (k7 ≤ 5) → (5 < k7 + n7) → ∀ ls : Array Slot, lv_has ls 5 [(4, .int x4), (3, .int x3), (0, .ref (ad (9 + k))), (2, .int p1)] → W p l e ({ frames := 0, cells := 0, slots := 0, locals := 0 } : Room) s m ([.ref (ad (9 + k)), .int p0, .int p1] : List Value).toArray below meth c s.heap [] 0 0 (MQ below (qR (some (.int (fX3_behindEvents u k p0 p1)))) ([.ref (ad (9 + k)), .int p0, .int p1] : List Value).toArray s 0 0 noF) (F0 m 7 ls []) := by
    intro n7
    induction n7 with
    | zero =>
      intro x4 x3 k7 _ e7 t7 hk7 hm7 ls hl
      exfalso; omega
    | succ n7 ih7 =>
      intro x4 x3 k7 hr7 e7 t7 hk7 hm7 ls hl
      refine lv_iload hx hb dX3_behindEvents_7 (lv_at hl 0 rfl) ?_
      refine lv_iconst (v := 5) hx hb dX3_behindEvents_9 (by decide) ?_
      refine lv_icmp_ge (tgt := 35) hx hb dX3_behindEvents_10 (by decide) (fun c1 => ?_) (fun c1 => ?_)
      · refine lv_iload_n hx hb dX3_behindEvents_35 rfl (lv_at hl 1 rfl) ?_
        exact rI hx hb hr hlk dX3_behindEvents_36 (by rw [hr7, fX3_behindEvents_c7, if_pos c1])
      · have hlt7 : k7 < 5 := cnt_lt (show (5 : Int32) = nI 5 from rfl) e7 (by omega) (by omega) c1
        refine lv_iload_n hx hb dX3_behindEvents_13 rfl (lv_at hl 1 rfl) ?_
        refine lv_iload_n hx hb dX3_behindEvents_14 rfl (lv_at hl 3 rfl) ?_
        refine lv_icmp_ge (tgt := 35) hx hb dX3_behindEvents_15 (by decide) (fun c2 => ?_) (fun c2 => ?_)
        · refine lv_iload_n hx hb dX3_behindEvents_35 rfl (lv_at hl 1 rfl) ?_
          exact rI hx hb hr hlk dX3_behindEvents_36 (by rw [hr7, fX3_behindEvents_c7, if_neg c1, if_pos c2])
        · have hl7 : a + 1 + 2 * k7 < b := cnt_lt eb t7 (by omega) (by omega) c2
          have hv7 : vp_in x3 60 := cnt_in t7 (by omega) (by decide)
          refine lv_aload_n hx hb dX3_behindEvents_18 rfl (lv_at hl 2 rfl) ?_
          refine lv_iload_n hx hb dX3_behindEvents_19 rfl (lv_at hl 1 rfl) ?_
          refine zl_ce hk hx hb hK hP (by assumption) dX3_behindEvents_20 ?_
          refine lv_bipush (v := 47) hx hb dX3_behindEvents_21 (by decide) ?_
          refine lv_icmp_ne (tgt := 35) hx hb dX3_behindEvents_23 (by decide) (fun c3 => ?_) (fun c3 => ?_)
          · refine lv_iload_n hx hb dX3_behindEvents_35 rfl (lv_at hl 1 rfl) ?_
            exact rI hx hb hr hlk dX3_behindEvents_36 (by rw [hr7, fX3_behindEvents_c7, if_neg c1, if_neg c2, if_neg c3])
          · refine lv_iinc (v := (x3 + 2)) (lv' := [(3, .int (x3 + 2)), (4, .int x4), (0, .ref (ad (9 + k))), (2, .int p1)]) hx hb dX3_behindEvents_26 hl (k := 1) rfl rfl (by decide) rfl (fun ls hl => ?_)
            refine lv_iinc (v := (x4 + 1)) (lv' := [(4, .int (x4 + 1)), (3, .int (x3 + 2)), (0, .ref (ad (9 + k))), (2, .int p1)]) hx hb dX3_behindEvents_29 hl (k := 1) rfl rfl (by decide) rfl (fun ls hl => ?_)
            refine lv_goto (tgt := 7) hx hb dX3_behindEvents_32 (by decide) ?_
            exact ih7 (x4 + 1) (x3 + 2) (k7 + 1) (by rw [hr7, fX3_behindEvents_c7, if_neg c1, if_neg c2, if_pos c3]) (by rw [e7]; exact nI_1 _) (by rw [t7, show (2 : Int32) = nI 2 from rfl, nI_add]; rfl) hlt7 (by omega) ls (lv_sub hl [0, 1, 2, 3] rfl)
  exact lp7 (6) 0 (p0 + 1) (0) (by rw [fX3_behindEvents]) nI_0.symm (by rw [ea]; exact nI_1 _) (by omega) (by omega) ls (lv_sub hl [0, 1, 2, 4] rfl)
theorem ffp_beh {u : Mem} {k : Nat} {a b : Int32} (h : Rng a b) (c : fX3_firstFaultPlace u k a b = (-9)) : ∃ t : Nat, t ≤ 60 ∧ fX3_behindEvents u k a b = nI t := by
  obtain ⟨i, j, hij, hj, rfl, rfl⟩ := h
  have key : ∀ (n e p : Nat), p ≤ j → fX3_firstFaultPlace_c22 u k (nI i) (nI j) n (nI e) (nI p) = -9 → ∃ t : Nat, t ≤ 60 ∧ fX3_behindEvents_c7 u k (nI i) (nI j) n (nI e) (nI p) = nI t := by
    intro n
    induction n with
    | zero =>
      intro e p hp hc
      rw [fX3_firstFaultPlace_c22] at hc
      exact absurd hc (by decide)
    | succ n ih =>
      intro e p hp hc
      rw [fX3_firstFaultPlace_c22] at hc
      rw [fX3_behindEvents_c7]
      by_cases c1 : 5 ≤ nI e
      · rw [if_pos c1]
        exact ⟨p, by omega, rfl⟩
      rw [if_neg c1] at hc ⊢
      by_cases c2 : nI j ≤ nI p
      · rw [if_pos c2]
        exact ⟨p, by omega, rfl⟩
      rw [if_neg c2] at hc ⊢
      by_cases c3 : u (10 + k) (nI p).toNatClampNeg = 47
      · rw [if_pos c3] at hc ⊢
        by_cases c4 : nI j ≤ nI p + 1
        · rw [if_pos c4, nI_1] at hc
          exact absurd (by rw [hc]; decide : nI (p + 1) < 0) (nI_pos (by omega))
        · rw [if_neg c4] at hc
          by_cases c5 : fX3_isDigit (u (10 + k) (nI p + 1).toNatClampNeg) 9 = 0
          · rw [if_pos c5, nI_1] at hc
            exact absurd (by rw [hc]; decide : nI (p + 1) < 0) (nI_pos (by omega))
          · rw [if_neg c5, nI_1, show (2 : Int32) = nI 2 from rfl, nI_add] at hc
            rw [nI_1, show (2 : Int32) = nI 2 from rfl, nI_add]
            rw [nI_1] at c4
            refine ih (e + 1) (p + 2) ?_ hc
            rcases Nat.lt_or_ge j (p + 2) with z | z
            · exact absurd (nI_le (show j ≤ p + 1 by omega) (by omega)) c4
            · exact z
      · rw [if_neg c3]
        exact ⟨p, by omega, rfl⟩
  rw [fX3_firstFaultPlace] at c
  rw [fX3_behindEvents]
  have hb9 : ∀ x : Nat, x ≤ 60 → ¬ nI x = -9 := fun x hx z => nI_pos (n := x) (by omega) (by rw [z]; decide)
  by_cases c1 : nI j ≤ nI i
  · rw [if_pos c1] at c
    exact absurd c (hb9 i (by omega))
  rw [if_neg c1] at c
  by_cases c2 : u (10 + k) (nI i).toNatClampNeg = 119
  · rw [if_pos c2, nI_1] at c
    rw [nI_1]
    refine key 6 0 (i + 1) ?_ c
    rcases Nat.lt_or_ge i j with z | z
    · omega
    · exact absurd (nI_le z (by omega)) c1
  · rw [if_neg c2] at c
    exact absurd c (hb9 i (by omega))
def fX3_takeOffice_c79 (u : Mem) (k : Nat) (p0 : Int32) (p1 : Int32)  : Nat → Mem → Int32 → Mem
  | 0, w79, x5 => w79
  | n79 + 1, w79, x5 => (if p1 < (x5 + 5) then w79 else (if 4 ≤ (w79 0 5) then w79 else (fX3_takeOffice_c79 u k p0 p1 n79 (mset (mset (mset (mset w79 2 (w79 0 5).toNatClampNeg (fX3_kindOf (w79 (10 + k) (x5 + 1).toNatClampNeg))) 3 (w79 0 5).toNatClampNeg (((mset w79 2 (w79 0 5).toNatClampNeg (fX3_kindOf (w79 (10 + k) (x5 + 1).toNatClampNeg))) (10 + k) (x5 + 2).toNatClampNeg) - 48)) 4 (w79 0 5).toNatClampNeg (((10 * (((mset (mset w79 2 (w79 0 5).toNatClampNeg (fX3_kindOf (w79 (10 + k) (x5 + 1).toNatClampNeg))) 3 (w79 0 5).toNatClampNeg (((mset w79 2 (w79 0 5).toNatClampNeg (fX3_kindOf (w79 (10 + k) (x5 + 1).toNatClampNeg))) (10 + k) (x5 + 2).toNatClampNeg) - 48)) (10 + k) (x5 + 3).toNatClampNeg) - 48)) + ((mset (mset w79 2 (w79 0 5).toNatClampNeg (fX3_kindOf (w79 (10 + k) (x5 + 1).toNatClampNeg))) 3 (w79 0 5).toNatClampNeg (((mset w79 2 (w79 0 5).toNatClampNeg (fX3_kindOf (w79 (10 + k) (x5 + 1).toNatClampNeg))) (10 + k) (x5 + 2).toNatClampNeg) - 48)) (10 + k) (x5 + 4).toNatClampNeg)) - 48)) 0 5 (((mset (mset (mset w79 2 (w79 0 5).toNatClampNeg (fX3_kindOf (w79 (10 + k) (x5 + 1).toNatClampNeg))) 3 (w79 0 5).toNatClampNeg (((mset w79 2 (w79 0 5).toNatClampNeg (fX3_kindOf (w79 (10 + k) (x5 + 1).toNatClampNeg))) (10 + k) (x5 + 2).toNatClampNeg) - 48)) 4 (w79 0 5).toNatClampNeg (((10 * (((mset (mset w79 2 (w79 0 5).toNatClampNeg (fX3_kindOf (w79 (10 + k) (x5 + 1).toNatClampNeg))) 3 (w79 0 5).toNatClampNeg (((mset w79 2 (w79 0 5).toNatClampNeg (fX3_kindOf (w79 (10 + k) (x5 + 1).toNatClampNeg))) (10 + k) (x5 + 2).toNatClampNeg) - 48)) (10 + k) (x5 + 3).toNatClampNeg) - 48)) + ((mset (mset w79 2 (w79 0 5).toNatClampNeg (fX3_kindOf (w79 (10 + k) (x5 + 1).toNatClampNeg))) 3 (w79 0 5).toNatClampNeg (((mset w79 2 (w79 0 5).toNatClampNeg (fX3_kindOf (w79 (10 + k) (x5 + 1).toNatClampNeg))) (10 + k) (x5 + 2).toNatClampNeg) - 48)) (10 + k) (x5 + 4).toNatClampNeg)) - 48)) 0 5) + 1)) (x5 + 5))))
def fX3_takeOffice_c75 (u : Mem) (k : Nat) (p0 : Int32) (p1 : Int32)  (w75 : Mem) (x4 : Int32) : Mem :=
  (fX3_takeOffice_c79 u k p0 p1 (5) w75 x4)
def fX3_takeOffice_c28 (u : Mem) (k : Nat) (p0 : Int32) (p1 : Int32)  : Nat → Mem → Int32 → Int32 → Mem
  | 0, w28, x5, x4 => w28
  | n28 + 1, w28, x5, x4 => (if x4 ≤ x5 then (fX3_takeOffice_c75 u k p0 p1 w28 x4) else (if 5 ≤ (w28 0 4) then (fX3_takeOffice_c75 u k p0 p1 w28 x4) else (fX3_takeOffice_c28 u k p0 p1 n28 (mset (mset w28 1 (w28 0 4).toNatClampNeg ((w28 (10 + k) x5.toNatClampNeg) - 48)) 0 4 (((mset w28 1 (w28 0 4).toNatClampNeg ((w28 (10 + k) x5.toNatClampNeg) - 48)) 0 4) + 1)) (x5 + 2) x4)))
def fX3_takeOffice (u : Mem) (k : Nat) (p0 : Int32) (p1 : Int32) : Mem :=
  (fX3_takeOffice_c28 u k p0 p1 (6) (mset (mset (mset u 0 6 0) 0 4 0) 0 5 0) (p0 + 2) (fX3_behindEvents u k p0 p1))
set_option maxRecDepth 100000 in
set_option maxHeartbeats 4000000 in
theorem kX3_takeOffice (l : Launch) (D : va_G) (cy : Nat → ClassId) (ad : Nat → Nat) (hI : XI ad) (u : Mem) (k : Nat) (p0 : Int32) (p1 : Int32) (hk : k < 4) (hrg : Rng p0 p1) (hbe : ∃ t : Nat, t ≤ 60 ∧ fX3_behindEvents u k p0 p1 = nI t) : Met l yX3_takeOffice wsX3_takeOffice ({ frames := 1, cells := 0, slots := 0, locals := 24 } : Room) (va_Pc [.ref (ad 0), .ref (ad (9 + k)), .int p0, .int p1] (XB D cy ad u)) (qW (XB D cy ad (fX3_takeOffice u k p0 p1)) (AX ad) none) 0 0 (AX ad) := by
  refine m_start (cc := cX3_takeOffice) (maxL := 7) (ret := none) (by decide) rfl (Nat.le_of_ble_eq_true rfl) (fun p e s m below meth c hx hb hr hts hown hml hlk _ hB ls hl => ?_)
  obtain ⟨hP, hK⟩ := hB
  have hown : s.vm.findClass RX3 = some m.cls := hown
  have hl : lv_has ls 7 [(0, .ref (ad 0)), (1, .ref (ad (9 + k))), (2, .int p0), (3, .int p1)] := hl
  have hin_X0 : ∀ w ∈ wsX00, w ∈ wsX3_takeOffice := fun _ h => List.mem_cons_of_mem _ (List.mem_append_right _ (h))
  have hin_X3 : ∀ w ∈ wsX30, w ∈ wsX3_takeOffice := fun _ h => List.mem_cons_of_mem _ (List.mem_append_left _ (List.mem_append_right _ (h)))
  obtain ⟨H, hH⟩ : ∃ H, H = s.heap := ⟨_, rfl⟩
  obtain ⟨locs, hlo⟩ : ∃ z : List Loc, z = [] := ⟨_, rfl⟩
  have hS : va_S (AX ad) s.heap H locs := by rw [hH, hlo]; exact va_S.rf
  have hP : va_P D vwCl (wX cy ad u) H := by rw [hH]; exact hP
  suffices hgoal : W p l e ({ frames := 1, cells := 0, slots := 0, locals := 24 } : Room) s m ([.ref (ad 0), .ref (ad (9 + k)), .int p0, .int p1] : List Value).toArray below meth c H locs 0 0 (MQ below (qW (XB D cy ad (fX3_takeOffice u k p0 p1)) (AX ad) none) ([.ref (ad 0), .ref (ad (9 + k)), .int p0, .int p1] : List Value).toArray s 0 0 (AX ad)) (F0 m 0 ls []) by rw [hH, hlo] at hgoal; exact hgoal
  clear hH hlo
  obtain ⟨a, b, hab, hb60, ea, eb⟩ := id hrg
  obtain ⟨t, ht60, hbt⟩ := id hbe
  refine lv_aload_n hx hb dX3_takeOffice_0 rfl (lv_at hl 1 rfl) ?_
  refine lv_iload_n hx hb dX3_takeOffice_1 rfl (lv_at hl 2 rfl) ?_
  refine lv_iload_n hx hb dX3_takeOffice_2 rfl (lv_at hl 3 rfl) ?_
  refine kS (n := 3) (As := [.ref (ad (9 + k)), .int p0, .int p1]) (rest := []) ⟨hx, hb, hml, hown, hts⟩ (kX3_behindEvents l D cy ad u k p0 p1 hk (by assumption)) gX3_takeOffice_X3_behindEvents rfl rfl rfl (by decide +kernel) ⟨Nat.le_of_ble_eq_true rfl, Nat.le_of_ble_eq_true rfl⟩ (XB_of hP hK) XB_bl rfl hl.1 rfl (Nat.le_of_ble_eq_true rfl) dX3_takeOffice_3 ⟨Nat.le_refl _, Nat.le_refl _⟩ ?_
  refine lv_istore (lv' := [(4, .int (fX3_behindEvents u k p0 p1)), (0, .ref (ad 0)), (1, .ref (ad (9 + k))), (2, .int p0), (3, .int p1)]) hx hb dX3_takeOffice_6 hl (by decide) rfl (fun ls hl => ?_)
  refine lv_aload_n hx hb dX3_takeOffice_8 rfl (lv_at hl 1 rfl) ?_
  refine lv_iconst (v := 0) hx hb dX3_takeOffice_9 (by decide) ?_
  refine zp_X3_readingCount hx hb hts hin_X3 hown hK hP hI hS (hts (Cond.fieldLink RX3 40 "ProphetCover" "readingCount" "I") (List.mem_of_getElem? (i := 1) rfl)) dX3_takeOffice_10 (fun H locs hP hS => ?_)
  refine lv_aload_n hx hb dX3_takeOffice_13 rfl (lv_at hl 1 rfl) ?_
  refine lv_iconst (v := 0) hx hb dX3_takeOffice_14 (by decide) ?_
  refine zp_X3_eventCount hx hb hts hin_X3 hown hK hP hI hS (hts (Cond.fieldLink RX3 33 "ProphetCover" "eventCount" "I") (List.mem_of_getElem? (i := 2) rfl)) dX3_takeOffice_15 (fun H locs hP hS => ?_)
  refine lv_aload_n hx hb dX3_takeOffice_18 rfl (lv_at hl 1 rfl) ?_
  refine lv_iconst (v := 0) hx hb dX3_takeOffice_19 (by decide) ?_
  refine zp_X3_prophetCount hx hb hts hin_X3 hown hK hP hI hS (hts (Cond.fieldLink RX3 37 "ProphetCover" "prophetCount" "I") (List.mem_of_getElem? (i := 3) rfl)) dX3_takeOffice_20 (fun H locs hP hS => ?_)
  have sg75 : ∀ (w75 : Mem) (x4 : Int32), (fX3_takeOffice u k p0 p1) = (fX3_takeOffice_c75 u k p0 p1 w75 x4) → (w75 0 5 = 0) → (x4 = nI t) → ∀ (H : Heap) (locs : List Loc), va_P D vwCl (wX cy ad w75) H → va_S (AX ad) s.heap H locs → ∀ ls : Array Slot, lv_has ls 7 [(0, .ref (ad 0)), (1, .ref (ad (9 + k))), (3, .int p1), (4, .int x4)] → W p l e ({ frames := 1, cells := 0, slots := 0, locals := 24 } : Room) s m ([.ref (ad 0), .ref (ad (9 + k)), .int p0, .int p1] : List Value).toArray below meth c H locs 0 0 (MQ below (qW (XB D cy ad (fX3_takeOffice u k p0 p1)) (AX ad) none) ([.ref (ad 0), .ref (ad (9 + k)), .int p0, .int p1] : List Value).toArray s 0 0 (AX ad)) (F0 m 75 ls []) := by
    intro w75 x4 hr75 z75 b75 H locs hP hS ls hl
    refine lv_iload hx hb dX3_takeOffice_75 (lv_at hl 3 rfl) ?_
    refine lv_istore (lv' := [(5, .int x4), (0, .ref (ad 0)), (1, .ref (ad (9 + k))), (3, .int p1), (4, .int x4)]) hx hb dX3_takeOffice_77 hl (by decide) rfl (fun ls hl => ?_)
    have lp79 : ∀ (n79 : Nat) (w79 : Mem) (x5 : Int32) (k79 : Nat) (q79 : Nat), (fX3_takeOffice u k p0 p1) = (fX3_takeOffice_c79 u k p0 p1 n79 w79 x5) → (w79 0 5 = nI k79) → (x5 = nI q79) → (q79 ≤ 60 + 5 * k79) → (k79 ≤ 4) → (4 < k79 + n79) → ∀ (H : Heap) (locs : List Loc), va_P D vwCl (wX cy ad w79) H → va_S (AX ad) s.heap H locs → ∀ ls : Array Slot, lv_has ls 7 [(5, .int x5), (0, .ref (ad 0)), (1, .ref (ad (9 + k))), (3, .int p1)] → W p l e ({ frames := 1, cells := 0, slots := 0, locals := 24 } : Room) s m ([.ref (ad 0), .ref (ad (9 + k)), .int p0, .int p1] : List Value).toArray below meth c H locs 0 0 (MQ below (qW (XB D cy ad (fX3_takeOffice u k p0 p1)) (AX ad) none) ([.ref (ad 0), .ref (ad (9 + k)), .int p0, .int p1] : List Value).toArray s 0 0 (AX ad)) (F0 m 79 ls []) := by
      intro n79
      induction n79 with
      | zero =>
        intro w79 x5 k79 q79 _ e79 t79 hq79 hk79 hm79 H locs hP hS ls hl
        exfalso; omega
      | succ n79 ih79 =>
        intro w79 x5 k79 q79 hr79 e79 t79 hq79 hk79 hm79 H locs hP hS ls hl
        refine lv_iload hx hb dX3_takeOffice_79 (lv_at hl 0 rfl) ?_
        refine lv_iconst (v := 5) hx hb dX3_takeOffice_81 (by decide) ?_
        refine lv_iadd hx hb dX3_takeOffice_82 ?_
        refine lv_iload_n hx hb dX3_takeOffice_83 rfl (lv_at hl 3 rfl) ?_
        refine lv_icmp_gt (tgt := 177) hx hb dX3_takeOffice_84 (by decide) (fun c1 => ?_) (fun c1 => ?_)
        · exact rXV hx hb hr hlk hK hP hS dX3_takeOffice_177 (by rw [hr79, fX3_takeOffice_c79, if_pos c1])
        · have t79b : x5 + 5 = nI (q79 + 5) := by rw [t79]; exact nI_add q79 5
          have hl79 : q79 + 5 ≤ b := cnt_le eb t79b (by omega) (by omega) c1
          have hv791 : vp_in (x5 + 1) 60 := cnt_in (by rw [t79]; exact nI_add q79 1) (by omega) (by decide)
          have hv792 : vp_in (x5 + 2) 60 := cnt_in (by rw [t79]; exact nI_add q79 2) (by omega) (by decide)
          have hv793 : vp_in (x5 + 3) 60 := cnt_in (by rw [t79]; exact nI_add q79 3) (by omega) (by decide)
          have hv794 : vp_in (x5 + 4) 60 := cnt_in (by rw [t79]; exact nI_add q79 4) (by omega) (by decide)
          refine lv_aload_n hx hb dX3_takeOffice_87 rfl (lv_at hl 1 rfl) ?_
          refine zg_X3_prophetCount hx hb hts hin_X3 hown hK hP (hts (Cond.fieldLink RX3 37 "ProphetCover" "prophetCount" "I") (List.mem_of_getElem? (i := 3) rfl)) dX3_takeOffice_88 ?_
          refine lv_iconst (v := 4) hx hb dX3_takeOffice_91 (by decide) ?_
          refine lv_icmp_ge (tgt := 177) hx hb dX3_takeOffice_92 (by decide) (fun c2 => ?_) (fun c2 => ?_)
          · exact rXV hx hb hr hlk hK hP hS dX3_takeOffice_177 (by rw [hr79, fX3_takeOffice_c79, if_neg c1, if_pos c2])
          · have hlt79 : k79 < 4 := cnt_lt (show (4 : Int32) = nI 4 from rfl) e79 (by omega) (by omega) c2
            have hvp : vp_in (w79 0 5) 4 := cnt_in e79 (by omega) (by decide)
            refine lv_aload_n hx hb dX3_takeOffice_95 rfl (lv_at hl 1 rfl) ?_
            refine zg_X3_prophets hx hb hts hin_X3 hown hK hP (hts (Cond.fieldLink RX3 23 "ProphetCover" "prophets" "[LProphetCover$Prophet;") (List.mem_of_getElem? (i := 5) rfl)) dX3_takeOffice_96 ?_
            refine lv_aload_n hx hb dX3_takeOffice_99 rfl (lv_at hl 1 rfl) ?_
            refine zg_X3_prophetCount hx hb hts hin_X3 hown hK hP (hts (Cond.fieldLink RX3 37 "ProphetCover" "prophetCount" "I") (List.mem_of_getElem? (i := 3) rfl)) dX3_takeOffice_100 ?_
            refine zl_prophets hx hb hK hP (by assumption) dX3_takeOffice_103 ?_
            refine lv_astore (lv' := [(6, .ref (ad (13 + (w79 0 5).toNatClampNeg))), (5, .int x5), (0, .ref (ad 0)), (1, .ref (ad (9 + k))), (3, .int p1)]) hx hb dX3_takeOffice_104 hl (by decide) rfl (fun ls hl => ?_)
            refine lv_aload hx hb dX3_takeOffice_106 (lv_at hl 0 rfl) ?_
            refine lv_aload_n hx hb dX3_takeOffice_108 rfl (lv_at hl 3 rfl) ?_
            refine lv_iload hx hb dX3_takeOffice_109 (lv_at hl 1 rfl) ?_
            refine lv_iconst (v := 1) hx hb dX3_takeOffice_111 (by decide) ?_
            refine lv_iadd hx hb dX3_takeOffice_112 ?_
            refine zl_ce hk hx hb hK hP (by assumption) dX3_takeOffice_113 ?_
            refine kS (n := 1) (As := [.int (w79 (10 + k) (x5 + 1).toNatClampNeg)]) (rest := [.ref (ad (13 + (w79 0 5).toNatClampNeg))]) ⟨hx, hb, hml, hown, hts⟩ (kX3_kindOf l (w79 (10 + k) (x5 + 1).toNatClampNeg)) gX3_takeOffice_X3_kindOf rfl rfl rfl (by decide +kernel) ⟨Nat.le_of_ble_eq_true rfl, Nat.le_of_ble_eq_true rfl⟩ (fun _ _ _ => trivial) (fun _ _ _ _ _ => trivial) rfl hl.1 rfl (Nat.le_of_ble_eq_true rfl) dX3_takeOffice_114 ⟨Nat.le_refl _, Nat.le_refl _⟩ ?_
            refine zp_X0_kind (vlt (n := 4) (i := (w79 0 5)) (by assumption)) hx hb hts hin_X0 hown hK hP hI hS (hts (Cond.fieldLink RX3 88 "ProphetCover$Prophet" "kind" "I") (List.mem_of_getElem? (i := 6) rfl)) dX3_takeOffice_117 (fun H locs hP hS => ?_)
            refine lv_aload hx hb dX3_takeOffice_120 (lv_at hl 0 rfl) ?_
            refine lv_aload_n hx hb dX3_takeOffice_122 rfl (lv_at hl 3 rfl) ?_
            refine lv_iload hx hb dX3_takeOffice_123 (lv_at hl 1 rfl) ?_
            refine lv_iconst (v := 2) hx hb dX3_takeOffice_125 (by decide) ?_
            refine lv_iadd hx hb dX3_takeOffice_126 ?_
            refine zl_ce hk hx hb hK hP (by assumption) dX3_takeOffice_127 ?_
            refine lv_bipush (v := 48) hx hb dX3_takeOffice_128 (by decide) ?_
            refine lv_isub hx hb dX3_takeOffice_130 ?_
            refine zp_X0_cover (vlt (n := 4) (i := (w79 0 5)) (by assumption)) hx hb hts hin_X0 hown hK hP hI hS (hts (Cond.fieldLink RX3 91 "ProphetCover$Prophet" "cover" "I") (List.mem_of_getElem? (i := 7) rfl)) dX3_takeOffice_131 (fun H locs hP hS => ?_)
            refine lv_aload hx hb dX3_takeOffice_134 (lv_at hl 0 rfl) ?_
            refine lv_bipush (v := 10) hx hb dX3_takeOffice_136 (by decide) ?_
            refine lv_aload_n hx hb dX3_takeOffice_138 rfl (lv_at hl 3 rfl) ?_
            refine lv_iload hx hb dX3_takeOffice_139 (lv_at hl 1 rfl) ?_
            refine lv_iconst (v := 3) hx hb dX3_takeOffice_141 (by decide) ?_
            refine lv_iadd hx hb dX3_takeOffice_142 ?_
            refine zl_ce hk hx hb hK hP (by assumption) dX3_takeOffice_143 ?_
            refine lv_bipush (v := 48) hx hb dX3_takeOffice_144 (by decide) ?_
            refine lv_isub hx hb dX3_takeOffice_146 ?_
            refine lv_imul hx hb dX3_takeOffice_147 ?_
            refine lv_aload_n hx hb dX3_takeOffice_148 rfl (lv_at hl 3 rfl) ?_
            refine lv_iload hx hb dX3_takeOffice_149 (lv_at hl 1 rfl) ?_
            refine lv_iconst (v := 4) hx hb dX3_takeOffice_151 (by decide) ?_
            refine lv_iadd hx hb dX3_takeOffice_152 ?_
            refine zl_ce hk hx hb hK hP (by assumption) dX3_takeOffice_153 ?_
            refine lv_iadd hx hb dX3_takeOffice_154 ?_
            refine lv_bipush (v := 48) hx hb dX3_takeOffice_155 (by decide) ?_
            refine lv_isub hx hb dX3_takeOffice_157 ?_
            refine zp_X0_saidSet (vlt (n := 4) (i := (w79 0 5)) (by assumption)) hx hb hts hin_X0 hown hK hP hI hS (hts (Cond.fieldLink RX3 94 "ProphetCover$Prophet" "saidSet" "I") (List.mem_of_getElem? (i := 8) rfl)) dX3_takeOffice_158 (fun H locs hP hS => ?_)
            refine lv_aload_n hx hb dX3_takeOffice_161 rfl (lv_at hl 2 rfl) ?_
            refine lv_dup hx hb dX3_takeOffice_162 rfl ?_
            refine zg_X3_prophetCount hx hb hts hin_X3 hown hK hP (hts (Cond.fieldLink RX3 37 "ProphetCover" "prophetCount" "I") (List.mem_of_getElem? (i := 3) rfl)) dX3_takeOffice_163 ?_
            refine lv_iconst (v := 1) hx hb dX3_takeOffice_166 (by decide) ?_
            refine lv_iadd hx hb dX3_takeOffice_167 ?_
            refine zp_X3_prophetCount hx hb hts hin_X3 hown hK hP hI hS (hts (Cond.fieldLink RX3 37 "ProphetCover" "prophetCount" "I") (List.mem_of_getElem? (i := 3) rfl)) dX3_takeOffice_168 (fun H locs hP hS => ?_)
            refine lv_iinc (v := (x5 + 5)) (lv' := [(5, .int (x5 + 5)), (6, .ref (ad (13 + (w79 0 5).toNatClampNeg))), (0, .ref (ad 0)), (1, .ref (ad (9 + k))), (3, .int p1)]) hx hb dX3_takeOffice_171 hl (k := 1) rfl rfl (by decide) rfl (fun ls hl => ?_)
            refine lv_goto (tgt := 79) hx hb dX3_takeOffice_174 (by decide) ?_
            exact ih79 (mset (mset (mset (mset w79 2 (w79 0 5).toNatClampNeg (fX3_kindOf (w79 (10 + k) (x5 + 1).toNatClampNeg))) 3 (w79 0 5).toNatClampNeg (((mset w79 2 (w79 0 5).toNatClampNeg (fX3_kindOf (w79 (10 + k) (x5 + 1).toNatClampNeg))) (10 + k) (x5 + 2).toNatClampNeg) - 48)) 4 (w79 0 5).toNatClampNeg (((10 * (((mset (mset w79 2 (w79 0 5).toNatClampNeg (fX3_kindOf (w79 (10 + k) (x5 + 1).toNatClampNeg))) 3 (w79 0 5).toNatClampNeg (((mset w79 2 (w79 0 5).toNatClampNeg (fX3_kindOf (w79 (10 + k) (x5 + 1).toNatClampNeg))) (10 + k) (x5 + 2).toNatClampNeg) - 48)) (10 + k) (x5 + 3).toNatClampNeg) - 48)) + ((mset (mset w79 2 (w79 0 5).toNatClampNeg (fX3_kindOf (w79 (10 + k) (x5 + 1).toNatClampNeg))) 3 (w79 0 5).toNatClampNeg (((mset w79 2 (w79 0 5).toNatClampNeg (fX3_kindOf (w79 (10 + k) (x5 + 1).toNatClampNeg))) (10 + k) (x5 + 2).toNatClampNeg) - 48)) (10 + k) (x5 + 4).toNatClampNeg)) - 48)) 0 5 (((mset (mset (mset w79 2 (w79 0 5).toNatClampNeg (fX3_kindOf (w79 (10 + k) (x5 + 1).toNatClampNeg))) 3 (w79 0 5).toNatClampNeg (((mset w79 2 (w79 0 5).toNatClampNeg (fX3_kindOf (w79 (10 + k) (x5 + 1).toNatClampNeg))) (10 + k) (x5 + 2).toNatClampNeg) - 48)) 4 (w79 0 5).toNatClampNeg (((10 * (((mset (mset w79 2 (w79 0 5).toNatClampNeg (fX3_kindOf (w79 (10 + k) (x5 + 1).toNatClampNeg))) 3 (w79 0 5).toNatClampNeg (((mset w79 2 (w79 0 5).toNatClampNeg (fX3_kindOf (w79 (10 + k) (x5 + 1).toNatClampNeg))) (10 + k) (x5 + 2).toNatClampNeg) - 48)) (10 + k) (x5 + 3).toNatClampNeg) - 48)) + ((mset (mset w79 2 (w79 0 5).toNatClampNeg (fX3_kindOf (w79 (10 + k) (x5 + 1).toNatClampNeg))) 3 (w79 0 5).toNatClampNeg (((mset w79 2 (w79 0 5).toNatClampNeg (fX3_kindOf (w79 (10 + k) (x5 + 1).toNatClampNeg))) (10 + k) (x5 + 2).toNatClampNeg) - 48)) (10 + k) (x5 + 4).toNatClampNeg)) - 48)) 0 5) + 1)) (x5 + 5) (k79 + 1) (q79 + 5) (by rw [hr79, fX3_takeOffice_c79, if_neg c1, if_neg c2]) (by rw [mset_at, mset_ne (by decide), mset_ne (by decide), mset_ne (by decide), e79]; exact nI_1 _) (by rw [t79]; exact nI_add q79 5) (by omega) hlt79 (by omega) H locs hP hS ls (lv_sub hl [0, 2, 3, 4] rfl)
    exact lp79 (5) w75 x4 (0) (t) (by rw [hr75, fX3_takeOffice_c75]) z75 b75 (by omega) (by omega) (by omega) H locs hP hS ls (lv_sub hl [0, 1, 2, 3] rfl)
  refine lv_iload_n hx hb dX3_takeOffice_23 rfl (lv_at hl 3 rfl) ?_
  refine lv_iconst (v := 2) hx hb dX3_takeOffice_24 (by decide) ?_
  refine lv_iadd hx hb dX3_takeOffice_25 ?_
  refine lv_istore (lv' := [(5, .int (p0 + 2)), (4, .int (fX3_behindEvents u k p0 p1)), (0, .ref (ad 0)), (1, .ref (ad (9 + k))), (2, .int p0), (3, .int p1)]) hx hb dX3_takeOffice_26 hl (by decide) rfl (fun ls hl => ?_)
  have lp28 : ∀ (n28 : Nat) (w28 : Mem) (x5 : Int32) (x4 : Int32) (k28 : Nat), (fX3_takeOffice u k p0 p1) = (fX3_takeOffice_c28 u k p0 p1 n28 w28 x5 x4) → (w28 0 4 = nI k28) → (w28 0 5 = 0) → (x5 = nI (a + 2 + 2 * k28)) → (x4 = nI t) → (k28 ≤ 5) → (5 < k28 + n28) → ∀ (H : Heap) (locs : List Loc), va_P D vwCl (wX cy ad w28) H → va_S (AX ad) s.heap H locs → ∀ ls : Array Slot, lv_has ls 7 [(5, .int x5), (4, .int x4), (0, .ref (ad 0)), (1, .ref (ad (9 + k))), (3, .int p1)] → W p l e ({ frames := 1, cells := 0, slots := 0, locals := 24 } : Room) s m ([.ref (ad 0), .ref (ad (9 + k)), .int p0, .int p1] : List Value).toArray below meth c H locs 0 0 (MQ below (qW (XB D cy ad (fX3_takeOffice u k p0 p1)) (AX ad) none) ([.ref (ad 0), .ref (ad (9 + k)), .int p0, .int p1] : List Value).toArray s 0 0 (AX ad)) (F0 m 28 ls []) := by
    intro n28
    induction n28 with
    | zero =>
      intro w28 x5 x4 k28 _ e28 z28 t28 b28 hk28 hm28 H locs hP hS ls hl
      exfalso; omega
    | succ n28 ih28 =>
      intro w28 x5 x4 k28 hr28 e28 z28 t28 b28 hk28 hm28 H locs hP hS ls hl
      refine lv_iload hx hb dX3_takeOffice_28 (lv_at hl 0 rfl) ?_
      refine lv_iload hx hb dX3_takeOffice_30 (lv_at hl 1 rfl) ?_
      refine lv_icmp_ge (tgt := 75) hx hb dX3_takeOffice_32 (by decide) (fun c3 => ?_) (fun c3 => ?_)
      · exact sg75 w28 x4  (by rw [hr28, fX3_takeOffice_c28, if_pos c3]) z28 b28 H locs hP hS ls (lv_sub hl [2, 3, 4, 1] rfl)
      · have hl28 : a + 2 + 2 * k28 < t := cnt_lt b28 t28 (by omega) (by omega) c3
        have hv28 : vp_in x5 60 := cnt_in t28 (by omega) (by decide)
        refine lv_aload_n hx hb dX3_takeOffice_35 rfl (lv_at hl 2 rfl) ?_
        refine zg_X3_eventCount hx hb hts hin_X3 hown hK hP (hts (Cond.fieldLink RX3 33 "ProphetCover" "eventCount" "I") (List.mem_of_getElem? (i := 2) rfl)) dX3_takeOffice_36 ?_
        refine lv_iconst (v := 5) hx hb dX3_takeOffice_39 (by decide) ?_
        refine lv_icmp_ge (tgt := 75) hx hb dX3_takeOffice_40 (by decide) (fun c4 => ?_) (fun c4 => ?_)
        · exact sg75 w28 x4  (by rw [hr28, fX3_takeOffice_c28, if_neg c3, if_pos c4]) z28 b28 H locs hP hS ls (lv_sub hl [2, 3, 4, 1] rfl)
        · have hlt28 : k28 < 5 := cnt_lt (show (5 : Int32) = nI 5 from rfl) e28 (by omega) (by omega) c4
          have hvc : vp_in (w28 0 4) 5 := cnt_in e28 (by omega) (by decide)
          refine lv_aload_n hx hb dX3_takeOffice_43 rfl (lv_at hl 2 rfl) ?_
          refine zg_X3_chances hx hb hts hin_X3 hown hK hP (hts (Cond.fieldLink RX3 17 "ProphetCover" "chances" "[I") (List.mem_of_getElem? (i := 4) rfl)) dX3_takeOffice_44 ?_
          refine lv_aload_n hx hb dX3_takeOffice_47 rfl (lv_at hl 2 rfl) ?_
          refine zg_X3_eventCount hx hb hts hin_X3 hown hK hP (hts (Cond.fieldLink RX3 33 "ProphetCover" "eventCount" "I") (List.mem_of_getElem? (i := 2) rfl)) dX3_takeOffice_48 ?_
          refine lv_aload_n hx hb dX3_takeOffice_51 rfl (lv_at hl 3 rfl) ?_
          refine lv_iload hx hb dX3_takeOffice_52 (lv_at hl 0 rfl) ?_
          refine zl_ce hk hx hb hK hP (by assumption) dX3_takeOffice_54 ?_
          refine lv_bipush (v := 48) hx hb dX3_takeOffice_55 (by decide) ?_
          refine lv_isub hx hb dX3_takeOffice_57 ?_
          refine zs_ch hx hb hK hP hI hS (by assumption) dX3_takeOffice_58 (fun H locs hP hS => ?_)
          refine lv_aload_n hx hb dX3_takeOffice_59 rfl (lv_at hl 2 rfl) ?_
          refine lv_dup hx hb dX3_takeOffice_60 rfl ?_
          refine zg_X3_eventCount hx hb hts hin_X3 hown hK hP (hts (Cond.fieldLink RX3 33 "ProphetCover" "eventCount" "I") (List.mem_of_getElem? (i := 2) rfl)) dX3_takeOffice_61 ?_
          refine lv_iconst (v := 1) hx hb dX3_takeOffice_64 (by decide) ?_
          refine lv_iadd hx hb dX3_takeOffice_65 ?_
          refine zp_X3_eventCount hx hb hts hin_X3 hown hK hP hI hS (hts (Cond.fieldLink RX3 33 "ProphetCover" "eventCount" "I") (List.mem_of_getElem? (i := 2) rfl)) dX3_takeOffice_66 (fun H locs hP hS => ?_)
          refine lv_iinc (v := (x5 + 2)) (lv' := [(5, .int (x5 + 2)), (4, .int x4), (0, .ref (ad 0)), (1, .ref (ad (9 + k))), (3, .int p1)]) hx hb dX3_takeOffice_69 hl (k := 0) rfl rfl (by decide) rfl (fun ls hl => ?_)
          refine lv_goto (tgt := 28) hx hb dX3_takeOffice_72 (by decide) ?_
          exact ih28 (mset (mset w28 1 (w28 0 4).toNatClampNeg ((w28 (10 + k) x5.toNatClampNeg) - 48)) 0 4 (((mset w28 1 (w28 0 4).toNatClampNeg ((w28 (10 + k) x5.toNatClampNeg) - 48)) 0 4) + 1)) (x5 + 2) x4 (k28 + 1) (by rw [hr28, fX3_takeOffice_c28, if_neg c3, if_neg c4]) (by rw [mset_at, mset_ne (by decide), e28]; exact nI_1 _) (by rw [mset_nei (by decide), mset_ne (by decide)]; exact z28) (by rw [t28, show (2 : Int32) = nI 2 from rfl, nI_add]; rfl) b28 hlt28 (by omega) H locs hP hS ls (lv_sub hl [0, 1, 2, 3, 4] rfl)
  exact lp28 (6) (mset (mset (mset u 0 6 0) 0 4 0) 0 5 0) (p0 + 2) (fX3_behindEvents u k p0 p1) (0) (by rw [fX3_takeOffice]) rfl rfl (by rw [ea]; exact nI_add a 2) hbt (by omega) (by omega) H locs hP hS ls (lv_sub hl [0, 1, 2, 3, 5] rfl)
def fX3_office (u : Mem) (p0 : Int32) (p1 : Int32) (p2 : Int32) (p3 : Int32) : Int32 × Mem :=
  (if (fX3_isSheet p0) = 0 then ((-1), (mset u 0 8 0)) else (if (fX3_isLane p1) = 0 then ((-2), (mset u 0 8 0)) else (if (fX2_flaw (mset u 0 8 0) (p0.toNatClampNeg) p1 p2 p3) = 0 then (if (fX3_firstFaultPlace (mset u 0 8 0) (p0.toNatClampNeg) p2 (p2 + p3)) = (-9) then (((fX3_takeOffice (mset u 0 8 0) (p0.toNatClampNeg) p2 (p2 + p3)) 0 5), (fX3_takeOffice (mset u 0 8 0) (p0.toNatClampNeg) p2 (p2 + p3))) else (((-100) - ((fX3_firstFaultPlace (mset u 0 8 0) (p0.toNatClampNeg) p2 (p2 + p3)) - p2)), (mset u 0 8 0))) else ((fX3_faulty (mset u 0 8 0) (fX2_flaw (mset u 0 8 0) (p0.toNatClampNeg) p1 p2 p3)).1, (fX3_faulty (mset u 0 8 0) (fX2_flaw (mset u 0 8 0) (p0.toNatClampNeg) p1 p2 p3)).2))))
set_option maxRecDepth 100000 in
set_option maxHeartbeats 4000000 in
theorem kX3_office (l : Launch) (D : va_G) (cy : Nat → ClassId) (ad : Nat → Nat) (hI : XI ad) (u : Mem) (p0 : Int32) (p1 : Int32) (p2 : Int32) (p3 : Int32) (hsz : SzOk u) : Met l yX3_office wsX3_office ({ frames := 3, cells := 0, slots := 0, locals := 70 } : Room) (va_Pc [.ref (ad 0), .int p0, .int p1, .int p2, .int p3] (XB D cy ad u)) (qW (XB D cy ad (fX3_office u p0 p1 p2 p3).2) (AX ad) (some (.int (fX3_office u p0 p1 p2 p3).1))) 0 0 (AX ad) := by
  refine m_start (cc := cX3_office) (maxL := 9) (ret := (some .int)) (by decide) rfl (Nat.le_of_ble_eq_true rfl) (fun p e s m below meth c hx hb hr hts hown hml hlk _ hB ls hl => ?_)
  obtain ⟨hP, hK⟩ := hB
  have hown : s.vm.findClass RX3 = some m.cls := hown
  have hl : lv_has ls 9 [(0, .ref (ad 0)), (1, .int p0), (2, .int p1), (3, .int p2), (4, .int p3)] := hl
  have hin_X0 : ∀ w ∈ wsX00, w ∈ wsX3_office := fun _ h => List.mem_cons_of_mem _ (List.mem_append_right _ (h))
  have hin_X2 : ∀ w ∈ wsX20, w ∈ wsX3_office := fun _ h => List.mem_cons_of_mem _ (List.mem_append_left _ (List.mem_append_right _ (h)))
  have hin_X3 : ∀ w ∈ wsX30, w ∈ wsX3_office := fun _ h => List.mem_cons_of_mem _ (List.mem_append_left _ (List.mem_append_left _ (List.mem_append_right _ (h))))
  obtain ⟨H, hH⟩ : ∃ H, H = s.heap := ⟨_, rfl⟩
  obtain ⟨locs, hlo⟩ : ∃ z : List Loc, z = [] := ⟨_, rfl⟩
  have hS : va_S (AX ad) s.heap H locs := by rw [hH, hlo]; exact va_S.rf
  have hP : va_P D vwCl (wX cy ad u) H := by rw [hH]; exact hP
  suffices hgoal : W p l e ({ frames := 3, cells := 0, slots := 0, locals := 70 } : Room) s m ([.ref (ad 0), .int p0, .int p1, .int p2, .int p3] : List Value).toArray below meth c H locs 0 0 (MQ below (qW (XB D cy ad (fX3_office u p0 p1 p2 p3).2) (AX ad) (some (.int (fX3_office u p0 p1 p2 p3).1))) ([.ref (ad 0), .int p0, .int p1, .int p2, .int p3] : List Value).toArray s 0 0 (AX ad)) (F0 m 0 ls []) by rw [hH, hlo] at hgoal; exact hgoal
  clear hH hlo
  refine lv_aload_n hx hb dX3_office_0 rfl (lv_at hl 0 rfl) ?_
  refine lv_iconst (v := 0) hx hb dX3_office_1 (by decide) ?_
  refine zp_X3_latestFault hx hb hts hin_X3 hown hK hP hI hS (hts (Cond.fieldLink RX3 46 "ProphetCover" "latestFault" "I") (List.mem_of_getElem? (i := 1) rfl)) dX3_office_2 (fun H locs hP hS => ?_)
  refine lv_iload_n hx hb dX3_office_5 rfl (lv_at hl 1 rfl) ?_
  refine kS (n := 1) (As := [.int p0]) (rest := []) ⟨hx, hb, hml, hown, hts⟩ (kX3_isSheet l p0) gX3_office_X3_isSheet rfl rfl rfl (by decide +kernel) ⟨Nat.le_of_ble_eq_true rfl, Nat.le_of_ble_eq_true rfl⟩ (fun _ _ _ => trivial) (fun _ _ _ _ _ => trivial) rfl hl.1 rfl (Nat.le_of_ble_eq_true rfl) dX3_office_6 ⟨Nat.le_refl _, Nat.le_refl _⟩ ?_
  refine lv_if_ne (tgt := 14) hx hb dX3_office_9 (by decide) (fun c1 => ?_) (fun c1 => ?_)
  · have hv1 : vp_in p0 4 := isSheet_in c1
    refine lv_iload_n hx hb dX3_office_14 rfl (lv_at hl 2 rfl) ?_
    refine kS (n := 1) (As := [.int p1]) (rest := []) ⟨hx, hb, hml, hown, hts⟩ (kX3_isLane l p1) gX3_office_X3_isLane rfl rfl rfl (by decide +kernel) ⟨Nat.le_of_ble_eq_true rfl, Nat.le_of_ble_eq_true rfl⟩ (fun _ _ _ => trivial) (fun _ _ _ _ _ => trivial) rfl hl.1 rfl (Nat.le_of_ble_eq_true rfl) dX3_office_15 ⟨Nat.le_refl _, Nat.le_refl _⟩ ?_
    refine lv_if_ne (tgt := 24) hx hb dX3_office_18 (by decide) (fun c2 => ?_) (fun c2 => ?_)
    · refine lv_aload_n hx hb dX3_office_24 rfl (lv_at hl 0 rfl) ?_
      refine zg_X3_sheets hx hb hts hin_X3 hown hK hP (hts (Cond.fieldLink RX3 13 "ProphetCover" "sheets" "[LProphetCover$Sheet;") (List.mem_of_getElem? (i := 2) rfl)) dX3_office_25 ?_
      refine lv_iload_n hx hb dX3_office_28 rfl (lv_at hl 1 rfl) ?_
      refine zl_sheets hx hb hK hP (by assumption) dX3_office_29 ?_
      refine lv_iload_n hx hb dX3_office_30 rfl (lv_at hl 2 rfl) ?_
      refine lv_iload_n hx hb dX3_office_31 rfl (lv_at hl 3 rfl) ?_
      refine lv_iload hx hb dX3_office_32 (lv_at hl 4 rfl) ?_
      refine kV (n := 3) (As := [.int p1, .int p2, .int p3]) (rest := []) ⟨hx, hb, hml, hown, hts⟩ (kX2_flaw l D cy ad (mset u 0 8 0) (p0.toNatClampNeg) p1 p2 p3 (vlt (n := 4) (i := p0) (by assumption))) gX3_office_X2_flaw rfl rfl rfl (by decide +kernel) ⟨Nat.le_of_ble_eq_true rfl, Nat.le_of_ble_eq_true rfl⟩ (recvXs hP hK (vlt (n := 4) (i := p0) (by assumption))) (XB_of hP hK) XB_bl rfl hl.1 rfl (Nat.le_of_ble_eq_true rfl) dX3_office_34 ⟨Nat.le_refl _, Nat.le_refl _⟩ ?_
      refine lv_istore (lv' := [(5, .int (fX2_flaw (mset u 0 8 0) (p0.toNatClampNeg) p1 p2 p3)), (0, .ref (ad 0)), (1, .int p0), (2, .int p1), (3, .int p2), (4, .int p3)]) hx hb dX3_office_37 hl (by decide) rfl (fun ls hl => ?_)
      refine lv_iload hx hb dX3_office_39 (lv_at hl 0 rfl) ?_
      refine lv_if_eq (tgt := 51) hx hb dX3_office_41 (by decide) (fun c3 => ?_) (fun c3 => ?_)
      · have hf3 : Rng p2 (p2 + p3) := flaw_rng (u := (mset u 0 8 0)) hsz (by first | assumption | exact vlt (by assumption)) c3
        refine lv_aload_n hx hb dX3_office_51 rfl (lv_at hl 1 rfl) ?_
        refine zg_X3_sheets hx hb hts hin_X3 hown hK hP (hts (Cond.fieldLink RX3 13 "ProphetCover" "sheets" "[LProphetCover$Sheet;") (List.mem_of_getElem? (i := 2) rfl)) dX3_office_52 ?_
        refine lv_iload_n hx hb dX3_office_55 rfl (lv_at hl 2 rfl) ?_
        refine zl_sheets hx hb hK hP (by assumption) dX3_office_56 ?_
        refine zg_X2_cells (vlt (n := 4) (i := p0) (by assumption)) hx hb hts hin_X2 hown hK hP (hts (Cond.fieldLink RX3 67 "ProphetCover$Sheet" "cells" "[I") (List.mem_of_getElem? (i := 3) rfl)) dX3_office_57 ?_
        refine lv_astore (lv' := [(6, .ref (ad (9 + p0.toNatClampNeg))), (5, .int (fX2_flaw (mset u 0 8 0) (p0.toNatClampNeg) p1 p2 p3)), (0, .ref (ad 0)), (1, .int p0), (2, .int p1), (3, .int p2), (4, .int p3)]) hx hb dX3_office_60 hl (by decide) rfl (fun ls hl => ?_)
        refine lv_iload_n hx hb dX3_office_62 rfl (lv_at hl 5 rfl) ?_
        refine lv_iload hx hb dX3_office_63 (lv_at hl 6 rfl) ?_
        refine lv_iadd hx hb dX3_office_65 ?_
        refine lv_istore (lv' := [(7, .int (p2 + p3)), (6, .ref (ad (9 + p0.toNatClampNeg))), (5, .int (fX2_flaw (mset u 0 8 0) (p0.toNatClampNeg) p1 p2 p3)), (0, .ref (ad 0)), (1, .int p0), (2, .int p1), (3, .int p2), (4, .int p3)]) hx hb dX3_office_66 hl (by decide) rfl (fun ls hl => ?_)
        refine lv_aload hx hb dX3_office_68 (lv_at hl 1 rfl) ?_
        refine lv_iload_n hx hb dX3_office_70 rfl (lv_at hl 6 rfl) ?_
        refine lv_iload hx hb dX3_office_71 (lv_at hl 0 rfl) ?_
        refine kS (n := 3) (As := [.ref (ad (9 + p0.toNatClampNeg)), .int p2, .int (p2 + p3)]) (rest := []) ⟨hx, hb, hml, hown, hts⟩ (kX3_firstFaultPlace l D cy ad (mset u 0 8 0) (p0.toNatClampNeg) p2 (p2 + p3) (vlt (n := 4) (i := p0) (by assumption)) (by assumption)) gX3_office_X3_firstFaultPlace rfl rfl rfl (by decide +kernel) ⟨Nat.le_of_ble_eq_true rfl, Nat.le_of_ble_eq_true rfl⟩ (XB_of hP hK) XB_bl rfl hl.1 rfl (Nat.le_of_ble_eq_true rfl) dX3_office_73 ⟨Nat.le_refl _, Nat.le_refl _⟩ ?_
        refine lv_istore (lv' := [(8, .int (fX3_firstFaultPlace (mset u 0 8 0) (p0.toNatClampNeg) p2 (p2 + p3))), (7, .int (p2 + p3)), (6, .ref (ad (9 + p0.toNatClampNeg))), (5, .int (fX2_flaw (mset u 0 8 0) (p0.toNatClampNeg) p1 p2 p3)), (0, .ref (ad 0)), (1, .int p0), (2, .int p1), (3, .int p2), (4, .int p3)]) hx hb dX3_office_76 hl (by decide) rfl (fun ls hl => ?_)
        refine lv_iload hx hb dX3_office_78 (lv_at hl 0 rfl) ?_
        refine lv_bipush (v := (-9)) hx hb dX3_office_80 (by decide) ?_
        refine lv_icmp_eq (tgt := 93) hx hb dX3_office_82 (by decide) (fun c4 => ?_) (fun c4 => ?_)
        · have hbe := ffp_beh (by assumption) c4
          refine lv_aload_n hx hb dX3_office_93 rfl (lv_at hl 4 rfl) ?_
          refine lv_aload hx hb dX3_office_94 (lv_at hl 2 rfl) ?_
          refine lv_iload_n hx hb dX3_office_96 rfl (lv_at hl 7 rfl) ?_
          refine lv_iload hx hb dX3_office_97 (lv_at hl 1 rfl) ?_
          refine kWXv (n := 3) (As := [.ref (ad (9 + p0.toNatClampNeg)), .int p2, .int (p2 + p3)]) (rest := []) ⟨hx, hb, hml, hown, hts⟩ (kX3_takeOffice l D cy ad hI (mset u 0 8 0) (p0.toNatClampNeg) p2 (p2 + p3) (vlt (n := 4) (i := p0) (by assumption)) (by assumption) (by assumption)) gX3_office_X3_takeOffice rfl rfl rfl (by decide +kernel) ⟨Nat.le_of_ble_eq_true rfl, Nat.le_of_ble_eq_true rfl⟩ (recvX hP hK) hP hK hS rfl hl.1 rfl (Nat.le_of_ble_eq_true rfl) dX3_office_99 ⟨Nat.le_refl _, Nat.le_refl _⟩ (fun H locs hP hS => ?_)
          refine lv_aload_n hx hb dX3_office_102 rfl (lv_at hl 4 rfl) ?_
          refine zg_X3_prophetCount hx hb hts hin_X3 hown hK hP (hts (Cond.fieldLink RX3 37 "ProphetCover" "prophetCount" "I") (List.mem_of_getElem? (i := 4) rfl)) dX3_office_103 ?_
          exact rXI hx hb hr hlk hK hP hS dX3_office_106 (by rw [fX3_office, if_neg c1, if_neg c2, if_pos c3, if_pos c4])
        · refine lv_bipush (v := (-100)) hx hb dX3_office_85 (by decide) ?_
          refine lv_iload hx hb dX3_office_87 (lv_at hl 0 rfl) ?_
          refine lv_iload_n hx hb dX3_office_89 rfl (lv_at hl 7 rfl) ?_
          refine lv_isub hx hb dX3_office_90 ?_
          refine lv_isub hx hb dX3_office_91 ?_
          exact rXI hx hb hr hlk hK hP hS dX3_office_92 (by rw [fX3_office, if_neg c1, if_neg c2, if_pos c3, if_neg c4])
      · refine lv_aload_n hx hb dX3_office_44 rfl (lv_at hl 1 rfl) ?_
        refine lv_iload hx hb dX3_office_45 (lv_at hl 0 rfl) ?_
        refine kWX (n := 1) (As := [.int (fX2_flaw (mset u 0 8 0) (p0.toNatClampNeg) p1 p2 p3)]) (rest := []) ⟨hx, hb, hml, hown, hts⟩ (kX3_faulty l D cy ad hI (mset u 0 8 0) (fX2_flaw (mset u 0 8 0) (p0.toNatClampNeg) p1 p2 p3)) gX3_office_X3_faulty rfl rfl rfl (by decide +kernel) ⟨Nat.le_of_ble_eq_true rfl, Nat.le_of_ble_eq_true rfl⟩ (recvX hP hK) hP hK hS rfl hl.1 rfl (Nat.le_of_ble_eq_true rfl) dX3_office_47 ⟨Nat.le_refl _, Nat.le_refl _⟩ (fun H locs hP hS => ?_)
        exact rXI hx hb hr hlk hK hP hS dX3_office_50 (by rw [fX3_office, if_neg c1, if_neg c2, if_neg c3])
    · refine lv_bipush (v := (-2)) hx hb dX3_office_21 (by decide) ?_
      exact rXI hx hb hr hlk hK hP hS dX3_office_23 (by rw [fX3_office, if_neg c1, if_pos c2])
  · refine lv_iconst (v := (-1)) hx hb dX3_office_12 (by decide) ?_
    exact rXI hx hb hr hlk hK hP hS dX3_office_13 (by rw [fX3_office, if_pos c1])
def fX3_isEvent (u : Mem) (p0 : Int32) : Int32 :=
  (if p0 < 0 then 0 else (if (u 0 4) ≤ p0 then 0 else 1))
set_option maxRecDepth 100000 in
set_option maxHeartbeats 4000000 in
theorem kX3_isEvent (l : Launch) (D : va_G) (cy : Nat → ClassId) (ad : Nat → Nat) (u : Mem) (p0 : Int32)  : Met l yX3_isEvent wsX3_isEvent ({ frames := 0, cells := 0, slots := 0, locals := 0 } : Room) (va_Pc [.ref (ad 0), .int p0] (XB D cy ad u)) (qR (some (.int (fX3_isEvent u p0)))) 0 0 noF := by
  refine m_start (cc := cX3_isEvent) (maxL := 2) (ret := (some .boolean)) (by decide) rfl (Nat.le_of_ble_eq_true rfl) (fun p e s m below meth c hx hb hr hts hown hml hlk _ hB ls hl => ?_)
  obtain ⟨hP, hK⟩ := hB
  have hown : s.vm.findClass RX3 = some m.cls := hown
  have hl : lv_has ls 2 [(0, .ref (ad 0)), (1, .int p0)] := hl
  have hin_X3 : ∀ w ∈ wsX30, w ∈ wsX3_isEvent := fun _ h => List.mem_cons_of_mem _ (List.mem_append_right _ (h))
  refine lv_iload_n hx hb dX3_isEvent_0 rfl (lv_at hl 1 rfl) ?_
  refine lv_if_lt (tgt := 16) hx hb dX3_isEvent_1 (by decide) (fun c1 => ?_) (fun c1 => ?_)
  · refine lv_iconst (v := 0) hx hb dX3_isEvent_16 (by decide) ?_
    exact rZ hx hb hr hlk (by rfl) dX3_isEvent_17 (by rw [fX3_isEvent, if_pos c1])
  · refine lv_iload_n hx hb dX3_isEvent_4 rfl (lv_at hl 1 rfl) ?_
    refine lv_aload_n hx hb dX3_isEvent_5 rfl (lv_at hl 0 rfl) ?_
    refine zg_X3_eventCount hx hb hts hin_X3 hown hK hP (hts (Cond.fieldLink RX3 33 "ProphetCover" "eventCount" "I") (List.mem_of_getElem? (i := 1) rfl)) dX3_isEvent_6 ?_
    refine lv_icmp_ge (tgt := 16) hx hb dX3_isEvent_9 (by decide) (fun c2 => ?_) (fun c2 => ?_)
    · refine lv_iconst (v := 0) hx hb dX3_isEvent_16 (by decide) ?_
      exact rZ hx hb hr hlk (by rfl) dX3_isEvent_17 (by rw [fX3_isEvent, if_neg c1, if_pos c2])
    · refine lv_iconst (v := 1) hx hb dX3_isEvent_12 (by decide) ?_
      refine lv_goto (tgt := 17) hx hb dX3_isEvent_13 (by decide) ?_
      exact rZ hx hb hr hlk (by rfl) dX3_isEvent_17 (by rw [fX3_isEvent, if_neg c1, if_neg c2])
theorem isEvent_in {u : Mem} {p : Int32} (h : EcOk u) (c : ¬ fX3_isEvent u p = 0) : vp_in p 5 := by
  unfold fX3_isEvent at c
  by_cases c1 : p < 0
  · rw [if_pos c1] at c; exact absurd rfl c
  rw [if_neg c1] at c
  by_cases c2 : u 0 4 ≤ p
  · rw [if_pos c2] at c; exact absurd rfl c
  obtain ⟨n, hn, en⟩ := h
  obtain ⟨i, ei, hi, hlt⟩ := int_ex (ge_of c1)
  have h2 := cnt_lt en ei (by omega) (by omega) c2
  exact cnt_in ei (by omega) (by decide)
